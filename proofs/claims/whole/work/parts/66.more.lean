/-! CALLS: seasons, sheet, heard; numbers that are there -/
section MORE
variable {L N : Nat} {S T : gS} {c : Nat} {A : pA}
-- seasons
theorem A_seasons {p : Int32} (w : WA A) (q : CA S A) (m : MA S A c) (hN : 900 ≤ N) : Agr L S c (f_c10_seasons N 10 p) (f_c11_seasons N 144 p) := by
  obtain ⟨g, v, x, l, u, n, k, h⟩ := A
  have wv : WV g v := w.2.1
  have wg : WG g := w.1
  have h8 := wv.1
  obtain ⟨code, hc⟩ : ∃ code, ruleCode u.2 u.1 = .inl code := w.2.2.2.2.1.2
  rcases (show (p < 0 ∨ (¬ p < 0 ∧ ¬ p ≤ 60)) ∨ ∃ d, 0 ≤ d ∧ d ≤ 60 ∧ p = nI d from cas p 0 60 (by omega) (by omega)) with hp | ⟨d, -, hd, rfl⟩
  · refine AgrR w q m (r := -1) ?_ (fun T _ t1 => ?_)
    · rcases hp with hp | ⟨h1, hp⟩
      · simp (disch := omega) only [Option.bind_some, ↓ile_t, ↓ile_f, ↓ilt_t, ↓ilt_f, ↓ieq_t, ↓ieq_f, ↓iz_t, ↓iz_f, ↓iltz, ↓izle, ↓ilez_t, ↓ilez_f, ↓im1, ile_t, ile_f, ilt_t, ilt_f, ieq_t, ieq_f, iz_t, iz_f, iltz, izle, ilez_t, ilez_f, im1, gZ_0, gZ_1, e10, e00, ↓reduceIte, Sum.elim_inl, Sum.elim_inr, nI_1, nI_add, Int32.sub_zero, f_c10_seasons, zc10, zr10_0, zr10_1, zr10_2, zr10_3, zr10_4, zr10_5, zr10_6, zr10_7, zr10_8, zr10_9, zr10_10, zs10_11, zs10_12, if_pos hp]
      · simp (disch := omega) only [Option.bind_some, ↓ile_t, ↓ile_f, ↓ilt_t, ↓ilt_f, ↓ieq_t, ↓ieq_f, ↓iz_t, ↓iz_f, ↓iltz, ↓izle, ↓ilez_t, ↓ilez_f, ↓im1, ile_t, ile_f, ilt_t, ilt_f, ieq_t, ieq_f, iz_t, iz_f, iltz, izle, ilez_t, ilez_f, im1, gZ_0, gZ_1, e10, e00, ↓reduceIte, Sum.elim_inl, Sum.elim_inr, nI_1, nI_add, Int32.sub_zero, f_c10_seasons, zc10, zr10_0, zr10_1, zr10_2, zr10_3, zr10_4, zr10_5, zr10_6, zr10_7, zr10_8, zr10_9, zr10_10, zs10_11, zs10_12, if_neg h1, if_neg hp]
    · simp (disch := omega) only [Option.bind_some, ↓ile_t, ↓ile_f, ↓ilt_t, ↓ilt_f, ↓ieq_t, ↓ieq_f, ↓iz_t, ↓iz_f, ↓iltz, ↓izle, ↓ilez_t, ↓ilez_f, ↓im1, ile_t, ile_f, ilt_t, ilt_f, ieq_t, ieq_f, iz_t, iz_f, iltz, izle, ilez_t, ilez_f, im1, gZ_0, gZ_1, e10, e00, ↓reduceIte, Sum.elim_inl, Sum.elim_inr, nI_1, nI_add, Int32.sub_zero, f_c11_seasons, zc144, zs144_10, M_inF (N := N) hp, eq_self_iff_true]
  · have c1 : nI d ≤ 60 := nI_le (b := 60) hd (by omega)
    have ei : ∀ T : gS, f_c11_in N (nI d) 0 60 (mk L T) = some 1 := fun T => M_inT (lo := 0) (hi := 60) (by omega) hd (by omega)
    have wv' := wv.seas (code := code) d
    have hP := vSeas_P (code := code) wv d
    obtain ⟨S1, e1, q1, b1, f1⟩ := C_before (L := L) (N := N) q w hN
    obtain ⟨a, a1, a2, a3⟩ := q1.ru hc
    obtain ⟨S2, e2, f2, v2, -⟩ := C_pass (L := L) (N := N) (n := d) a2 SA_19 (by omega) q1.2.1 q1.1 wg wv a3 (w.good hc) (by omega) hN
    have q2 : CA S2 (g, vSeas code g v d, x, l, u, n, k, h) := q1.now (f2.mono (fun y hy => by have z : (19 ≤ y ∧ y ≤ 19 + 5) ∨ y = 38 ∨ y = 39 ∨ y = 139 ∨ y = 143 := hy; show _ ∨ _; unfold sC; omega)) v2
    have l2 : Fr lowC S1 S2 := f2.low (fun y hy => by have z : (19 ≤ y ∧ y ≤ 19 + 5) ∨ y = 38 ∨ y = 39 ∨ y = 139 ∨ y = 143 := hy; omega)
    have b2 : CV S2 25 v := b1.fr f2 (fun y h1 h2 => by show ¬ (_ ∨ _); omega)
    by_cases d0 : d = 0
    · subst d0
      obtain ⟨S3, e3, q3, f3⟩ := C_tell2A (L := L) (N := N) (r := nI (sumN (vT (vSeas code g v 0)) (vN (vSeas code g v 0)))) (y := (nI (sMore code g v 0)).toInt64) (z := (bitC (sDry (vSeas code g v 0) (vN (vSeas code g v 0)))).toInt64) q2
      have w3 : WA (g, vSeas code g v 0, x, [(nI (sMore code g v 0)).toInt64, (bitC (sDry (vSeas code g v 0) (vN (vSeas code g v 0)))).toInt64], u, n, k, h) := w.rw (by show 2 ≤ 8; omega)
      refine AgrI (c' := c) m (S1 := S3) (r := nI (sumN (vT (vSeas code g v 0)) (vN (vSeas code g v 0)))) ?_ (lowTr f1 (lowTr l2 f3)) q3 w3 (by omega) (fun T mt => ?_)
      · simp (disch := omega) only [Option.bind_some, ↓ile_t, ↓ile_f, ↓ilt_t, ↓ilt_f, ↓ieq_t, ↓ieq_f, ↓iz_t, ↓iz_f, ↓iltz, ↓izle, ↓ilez_t, ↓ilez_f, ↓im1, ile_t, ile_f, ilt_t, ilt_f, ieq_t, ieq_f, iz_t, iz_f, iltz, izle, ilez_t, ilez_f, im1, gZ_0, gZ_1, e10, e00, ↓reduceIte, Sum.elim_inl, Sum.elim_inr, nI_1, nI_add, Int32.sub_zero, f_c10_seasons, zc10, zr10_0, zr10_1, zr10_2, zr10_3, zr10_4, zr10_5, zr10_6, zr10_7, zr10_8, zr10_9, zr10_10, zs10_11, zs10_12, if_pos c1, e1, zr10_11 a1, e2, C_waters SA_19 v2 wv'.1 hN, f_c7_howManyDry, qc SA_19, C_dry SA_19 v2 wv' hN, bitC_e, e3]
      · have t1 := mt.thr
        obtain ⟨T2, a2', f4, m2, -⟩ := M_seasons (L := L) (N := N) (k0 := 0) MA_145 (by omega) (by omega) t1.2.1 t1.1 wg wv t1.2.2.2.2.1.1 hc (by omega) hN
        have t3 : MA T2 (g, vSeas code g v 0, x, l, u, n, k, h) c := t1.now (f4.mono (fun y hy => by have z : y = 145 ∨ y = 153 ∨ (157 ≤ y ∧ y ≤ 159) := hy; show _ ∨ _; unfold sM; omega) (fun y hy => by have z : y = 20 ∨ (11 ≤ y ∧ y ≤ 15) := hy; unfold sK; omega)) m2
        have h4 : Fr highM (stI T 144 10 0) T2 := f4.high (fun y hy => by have z : y = 145 ∨ y = 153 ∨ (157 ≤ y ∧ y ≤ 159) := hy; omega)
        obtain ⟨T3, a3', t4, g3, k3⟩ := M_t1 (L := L) (N := N) (y := (nI (sMore code g v 0)).toInt64) t3
        obtain ⟨T4, a4, t5, g4, k4⟩ := M_t2 (L := L) (N := N) (z := (bitC (sDry (vSeas code g v 0) (vN (vSeas code g v 0)))).toInt64) t4
        have z0 : nI 0 ≤ 0 := by decide
        have x42 : (stI T 144 10 0).1 145 42 = nI (vP v) := t1.2.1.2.2.1
        have y42 : (stI T2 144 9 0).1 145 42 = nI (vP (vSeas code g v 0)) := t3.clr.2.1.2.2.1
        refine ⟨T4, ?_, highTr thrH (highTr h4 (highTr g3 g4)), t5⟩
        simp (disch := omega) only [Option.bind_some, ↓ile_t, ↓ile_f, ↓ilt_t, ↓ilt_f, ↓ieq_t, ↓ieq_f, ↓iz_t, ↓iz_f, ↓iltz, ↓izle, ↓ilez_t, ↓ilez_f, ↓im1, ile_t, ile_f, ilt_t, ilt_f, ieq_t, ieq_f, iz_t, iz_f, iltz, izle, ilez_t, ilez_f, im1, gZ_0, gZ_1, e10, e00, ↓reduceIte, Sum.elim_inl, Sum.elim_inr, nI_1, nI_add, Int32.sub_zero, f_c11_seasons, zc144, zs144_10, ei, if_pos z0, zr144_0, k42, zg145, x42, a2', zs144_9, y42, nI_sub, sMore_e, a3', M_dry MA_145 t4.2.1 wv' hN, bitC_e, a4, M_waters MA_145 t5.2.1 wv'.1 hN]
    · obtain ⟨S3, e3, f3, n3⟩ := C_push (L := L) (N := N) q2.2.2.2.2.2.1 b2 h8 hN
      have q3 : CA S3 (g, vSeas code g v d, x, l, u, uPush n v, k, h) := q2.undo (f3.mono (fun y hy => by have z : y = 40 ∨ y = 41 ∨ (44 ≤ y ∧ y ≤ 115) := hy; show _ ∨ _; omega)) n3
      have l3 : Fr lowC S2 S3 := f3.low (fun y hy => by have z : y = 40 ∨ y = 41 ∨ (44 ≤ y ∧ y ≤ 115) := hy; omega)
      have v3 : CV S3 19 (vSeas code g v d) := q3.2.1
      obtain ⟨S4, e4, q4, f4⟩ := C_tell2A (L := L) (N := N) (r := nI (sumN (vT (vSeas code g v d)) (vN (vSeas code g v d)))) (y := (nI (sMore code g v d)).toInt64) (z := (bitC (sDry (vSeas code g v d) (vN (vSeas code g v d)))).toInt64) q3
      have w3 : WA (g, vSeas code g v d, x, [(nI (sMore code g v d)).toInt64, (bitC (sDry (vSeas code g v d) (vN (vSeas code g v d)))).toInt64], u, uPush n v, k, h) := (w.act wv').rw (by show 2 ≤ 8; omega)
      have n0 : ¬ nI d ≤ 0 := nI_nle (by omega) (by omega)
      refine AgrI (c' := c) m (S1 := S4) (r := nI (sumN (vT (vSeas code g v d)) (vN (vSeas code g v d)))) ?_ (lowTr f1 (lowTr l2 (lowTr l3 f4))) q4 w3 (by omega) (fun T mt => ?_)
      · simp (disch := omega) only [Option.bind_some, ↓ile_t, ↓ile_f, ↓ilt_t, ↓ilt_f, ↓ieq_t, ↓ieq_f, ↓iz_t, ↓iz_f, ↓iltz, ↓izle, ↓ilez_t, ↓ilez_f, ↓im1, ile_t, ile_f, ilt_t, ilt_f, ieq_t, ieq_f, iz_t, iz_f, iltz, izle, ilez_t, ilez_f, im1, gZ_0, gZ_1, e10, e00, ↓reduceIte, Sum.elim_inl, Sum.elim_inr, nI_1, nI_add, Int32.sub_zero, f_c10_seasons, zc10, zr10_0, zr10_1, zr10_2, zr10_3, zr10_4, zr10_5, zr10_6, zr10_7, zr10_8, zr10_9, zr10_10, zs10_11, zs10_12, if_pos c1, e1, zr10_11 a1, e2, if_neg n0, e3, C_waters SA_19 v3 wv'.1 hN, f_c7_howManyDry, qc SA_19, C_dry SA_19 v3 wv' hN, bitC_e, e4]
      · have t0 := mt.thr
        obtain ⟨T1, r1, t1, gr⟩ := M_rem (L := L) (N := N) t0 w hN
        obtain ⟨T2, a2', f4', m2, -⟩ := M_seasons (L := L) (N := N) (k0 := d) MA_145 (by omega) (by omega) t1.2.1 t1.1 wg wv t1.2.2.2.2.1.1 hc (by omega) hN
        have t3 : MA T2 (g, vSeas code g v d, x, l, u, uPush n v, k, h) c := t1.now (f4'.mono (fun y hy => by have z : y = 145 ∨ y = 153 ∨ (157 ≤ y ∧ y ≤ 159) := hy; show _ ∨ _; unfold sM; omega) (fun y hy => by have z : y = 20 ∨ (11 ≤ y ∧ y ≤ 15) := hy; unfold sK; omega)) m2
        have h4 : Fr highM T1 T2 := f4'.high (fun y hy => by have z : y = 145 ∨ y = 153 ∨ (157 ≤ y ∧ y ≤ 159) := hy; omega)
        obtain ⟨T3, a3', t4, g3, k3⟩ := M_t1 (L := L) (N := N) (y := (nI (sMore code g v d)).toInt64) t3
        obtain ⟨T4, a4, t5, g4, k4⟩ := M_t2 (L := L) (N := N) (z := (bitC (sDry (vSeas code g v d) (vN (vSeas code g v d)))).toInt64) t4
        have x42 : T1.1 145 42 = nI (vP v) := t1.2.1.2.2.1
        have y42 : (stI T2 144 9 0).1 145 42 = nI (vP (vSeas code g v d)) := t3.clr.2.1.2.2.1
        refine ⟨T4, ?_, highTr thrH (highTr gr (highTr h4 (highTr g3 g4))), t5⟩
        simp (disch := omega) only [Option.bind_some, ↓ile_t, ↓ile_f, ↓ilt_t, ↓ilt_f, ↓ieq_t, ↓ieq_f, ↓iz_t, ↓iz_f, ↓iltz, ↓izle, ↓ilez_t, ↓ilez_f, ↓im1, ile_t, ile_f, ilt_t, ilt_f, ieq_t, ieq_f, iz_t, iz_f, iltz, izle, ilez_t, ilez_f, im1, gZ_0, gZ_1, e10, e00, ↓reduceIte, Sum.elim_inl, Sum.elim_inr, nI_1, nI_add, Int32.sub_zero, f_c11_seasons, zc144, zs144_10, ei, if_neg n0, zr144_0, r1, k42, zg145, x42, a2', zs144_9, y42, nI_sub, sMore_e, a3', M_dry MA_145 t4.2.1 wv' hN, bitC_e, a4, M_waters MA_145 t5.2.1 wv'.1 hN]
-- sheet
theorem gmmK (x : Int32) (m : Nat) (hm : m < 2147483648) : ∃ d : Nat, d ≤ m ∧ gmax 0 (gmin (nI m) x) = nI d := by
  unfold gmin
  by_cases h : x < nI m
  · rw [if_pos h]
    unfold gmax
    by_cases h2 : 0 < x
    · rw [if_pos h2]
      have h0 : ¬ x < 0 := fun z => by
        rw [i32_lt, i32_0] at z h2
        omega
      obtain ⟨j, hj, rfl⟩ := nI_of h0
      refine ⟨j, ?_, rfl⟩
      rw [i32_lt, nI_toInt hj, nI_toInt hm] at h
      omega
    · rw [if_neg h2]
      exact ⟨0, by omega, rfl⟩
  · rw [if_neg h]
    refine ⟨m, Nat.le_refl _, ?_⟩
    exact gmax_0 hm
def sKind (kd e : Int32) : Int32 := if kd = 0 then e.toInt8.toInt32 else if kd = 1 then e.toInt16.toInt32 else e
def sAcc (f st : Int32) : Nat → Int32
  | 0 => f
  | i + 1 => sAcc f st i + st
noncomputable def sPut (x : Int32) : Nat := (gmmK x 99 (by omega)).choose
theorem sPut_e (x : Int32) : sPut x ≤ 99 ∧ gmax 0 (gmin 99 x) = nI (sPut x) := (gmmK x 99 (by omega)).choose_spec
/-- what a sheet lays: kd the kind, e the entries -/
noncomputable def sSheet (kd f st e : Int32) (T0 : Nat → Nat) (i : Nat) : Nat → Nat := fun j => if j < i then (if kd = 3 ∨ e ≤ nI j then 0 else sPut (sKind kd (sAcc f st j))) else T0 j
theorem sSheet_s {kd f st e : Int32} {T0 : Nat → Nat} {i : Nat} : nup (sSheet kd f st e T0 i) i (if kd = 3 ∨ e ≤ nI i then 0 else sPut (sKind kd (sAcc f st i))) = sSheet kd f st e T0 (i + 1) := by
  funext j
  unfold nup sSheet
  by_cases q : j = i
  · subst q
    rw [if_pos rfl, if_pos (show j < j + 1 by omega)]
  · rw [if_neg q]
    by_cases q2 : j < i
    · rw [if_pos q2, if_pos (show j < i + 1 by omega)]
    · rw [if_neg q2, if_neg (show ¬ j < i + 1 by omega)]
theorem sSheet_le {kd f st e : Int32} {T0 : Nat → Nat} {i n : Nat} (h : ∀ w, w < n → T0 w ≤ 99) : ∀ w, w < n → sSheet kd f st e T0 i w ≤ 99 := by
  intro w hw
  unfold sSheet
  split
  · split
    · omega
    · exact (sPut_e _).1
  · exact h w hw
theorem A_sheet {kd e f st : Int32} (w : WA A) (q : CA S A) (m : MA S A c) (hN : 900 ≤ N) : Agr L S c (f_c10_sheet N 10 kd e f st) (f_c11_sheet N 144 kd e f st) := by
  obtain ⟨g, v, x, l, u, n, k, h⟩ := A
  have wv : WV g v := w.2.1
  have h8 := wv.1
  have hT : ∀ w, w < vN v → vT v w ≤ 99 := fun w hw => (wv.2.2 w hw).2.2.2.2.2
  have wv' : WV g (vWat v (sSheet kd f st e (vT v) (vN v))) := wv.wat (sSheet_le hT)
  -- both loops
  have hC : ∃ r, lp_c10_sheet_47 N 10 kd st (if kd = 3 then 0 else e) N f (nI 0) (mk L S) = some r ∧ ∃ S', r = mk L S' ∧ Fr (fun y => 19 ≤ y ∧ y ≤ 24) S S' ∧ CV S' 19 (vWat v (sSheet kd f st e (vT v) (vN v))) := by
    refine lp_inv (Lp := fun kk (s : Int32 × gS) i => lp_c10_sheet_47 N 10 kd st (if kd = 3 then 0 else e) kk s.1 (nI i) (mk L s.2)) (n := vN v) (P := fun i s => s.1 = sAcc f st i ∧ Fr (fun y => 19 ≤ y ∧ y ≤ 24) S s.2 ∧ CV s.2 19 (vWat v (sSheet kd f st e (vT v) i))) (fun kk i s hi hs => Or.inr ?_) (fun kk s hs => ?_) (vN v) N 0 (f, S) (by omega) (by omega) ⟨rfl, Fr.refl, ?_⟩
    · obtain ⟨s0, s⟩ := s
      obtain ⟨rfl, hF, hs⟩ := hs
      dsimp only at hF hs
      have eN : s.1 19 0 = nI (vN v) := hs.1
      have nx := CV_T (w := i) (x := if kd = 3 ∨ e ≤ nI i then 0 else sPut (sKind kd (sAcc f st i))) hs
      have hX : vSetT (vWat v (sSheet kd f st e (vT v) i)) i (if kd = 3 ∨ e ≤ nI i then 0 else sPut (sKind kd (sAcc f st i))) = vWat v (sSheet kd f st e (vT v) (i + 1)) := by rw [← sSheet_s]; rfl
      rw [hX] at nx
      refine ⟨(sAcc f st (i + 1), stI s 24 i (nI (if kd = 3 ∨ e ≤ nI i then 0 else sPut (sKind kd (sAcc f st i))))), ?_, rfl, hF.trans (Fr.stI (A := fun y => 19 ≤ y ∧ y ≤ 24) (by omega)) (fun _ z => z) (fun _ z => z), nx⟩
      show lp_c10_sheet_47 N 10 kd st (if kd = 3 then 0 else e) (kk + 1) _ _ _ = _
      rw [lp_c10_sheet_47.eq_2]
      have eAs : f_c10_asKind N kd (sAcc f st i) (mk L s) = some (sKind kd (sAcc f st i)) := by
        unfold f_c10_asKind sKind
        by_cases z : kd = 0
        · rw [if_pos z, if_pos z]
        · rw [if_neg z, if_neg z]
      have eT : ((if (if kd = 3 then 0 else e) ≤ nI i then some (0 : Int32) else (f_c10_asKind N kd (sAcc f st i) (mk L s)).bind fun q17 => (f_c10_put N q17 (99 : Int32) (mk L s)).bind fun q18 => some q18)) = some (nI (if kd = 3 ∨ e ≤ nI i then 0 else sPut (sKind kd (sAcc f st i)))) := by
        by_cases z : kd = 3 ∨ e ≤ nI i
        · rw [if_pos z, if_pos (by rcases z with z | z; rw [if_pos z]; exact nI_pos' (by omega); by_cases y : kd = 3; rw [if_pos y]; exact nI_pos' (by omega); rw [if_neg y]; exact z)]
          rfl
        · rw [if_neg z, if_neg (by rw [if_neg (fun y => z (Or.inl y))]; exact fun y => z (Or.inr y)), eAs]
          show some (gmax 0 (gmin 99 (sKind kd (sAcc f st i)))) = _
          rw [(sPut_e _).2]
      simp (disch := omega) only [Option.bind_some, ↓ile_t, ↓ile_f, ↓ilt_t, ↓ilt_f, ↓ieq_t, ↓ieq_f, ↓iz_t, ↓iz_f, ↓iltz, ↓izle, ↓ilez_t, ↓ilez_f, ↓im1, ile_t, ile_f, ilt_t, ilt_f, ieq_t, ieq_f, iz_t, iz_f, iltz, izle, ilez_t, ilez_f, im1, gZ_0, gZ_1, e10, e00, ↓reduceIte, Sum.elim_inl, Sum.elim_inr, nI_1, nI_add, Int32.sub_zero, zc10, zr10_0, zr10_1, zr10_2, zr10_3, zr10_4, zr10_5, zr10_6, zr10_7, zr10_8, zr10_9, zr10_10, zs10_11, zs10_12, qc SA_19, qi0 SA_19, qs0 SA_19, qr1 SA_19, qr2 SA_19, qr3 SA_19, qr4 SA_19, qr5 SA_19, qi6 SA_19, qs6 SA_19, qi7 SA_19, qs7 SA_19, eN]
      rw [eT]
      simp (disch := omega) only [Option.bind_some, ↓ile_t, ↓ile_f, ↓ilt_t, ↓ilt_f, ↓ieq_t, ↓ieq_f, ↓iz_t, ↓iz_f, ↓iltz, ↓izle, ↓ilez_t, ↓ilez_f, ↓im1, ile_t, ile_f, ilt_t, ilt_f, ieq_t, ieq_f, iz_t, iz_f, iltz, izle, ilez_t, ilez_f, im1, gZ_0, gZ_1, e10, e00, ↓reduceIte, Sum.elim_inl, Sum.elim_inr, nI_1, nI_add, Int32.sub_zero, qp5 SA_19, sAcc]
    · obtain ⟨s0, s⟩ := s
      obtain ⟨rfl, hF, hs⟩ := hs
      have eN : s.1 19 0 = nI (vN v) := hs.1
      refine ⟨mk L s, ?_, s, rfl, hF, hs⟩
      show lp_c10_sheet_47 N 10 kd st (if kd = 3 then 0 else e) (kk + 1) _ _ _ = _
      rw [lp_c10_sheet_47.eq_2]
      simp (disch := omega) only [Option.bind_some, ↓ile_t, ↓ile_f, ↓ilt_t, ↓ilt_f, ↓ieq_t, ↓ieq_f, ↓iz_t, ↓iz_f, ↓iltz, ↓izle, ↓ilez_t, ↓ilez_f, ↓im1, ile_t, ile_f, ilt_t, ilt_f, ieq_t, ieq_f, iz_t, iz_f, iltz, izle, ilez_t, ilez_f, im1, gZ_0, gZ_1, e10, e00, ↓reduceIte, Sum.elim_inl, Sum.elim_inr, nI_1, nI_add, Int32.sub_zero, zc10, zr10_0, zr10_1, zr10_2, zr10_3, zr10_4, zr10_5, zr10_6, zr10_7, zr10_8, zr10_9, zr10_10, zs10_11, zs10_12, qc SA_19, qi0 SA_19, qs0 SA_19, qr1 SA_19, qr2 SA_19, qr3 SA_19, qr4 SA_19, qr5 SA_19, qi6 SA_19, qs6 SA_19, qi7 SA_19, qs7 SA_19, eN]
    · have e0 : sSheet kd f st e (vT v) 0 = vT v := by funext j; unfold sSheet; rw [if_neg (by omega)]
      rw [e0]
      exact q.2.1
  have hM : ∀ T1 : gS, MW T1 145 v → ∃ r, lp_c11_sheet_40 N 144 kd e st N f (nI 0) (mk L T1) = some r ∧ ∃ S', r = mk L S' ∧ FM (fun y => y = 145) (fun _ => False) T1 S' ∧ MW S' 145 (vWat v (sSheet kd f st e (vT v) (vN v))) := by
    intro T1 m1
    refine lp_inv (Lp := fun kk (s : Int32 × gS) i => lp_c11_sheet_40 N 144 kd e st kk s.1 (nI i) (mk L s.2)) (n := vN v) (P := fun i s => s.1 = sAcc f st i ∧ FM (fun y => y = 145) (fun _ => False) T1 s.2 ∧ MW s.2 145 (vWat v (sSheet kd f st e (vT v) i))) (fun kk i s hi hs => Or.inr ?_) (fun kk s hs => ?_) (vN v) N 0 (f, T1) (by omega) (by omega) ⟨rfl, FM.refl, ?_⟩
    · obtain ⟨s0, s⟩ := s
      obtain ⟨rfl, hF, hs⟩ := hs
      dsimp only at hF hs
      have eN : s.1 145 40 = nI (vN v) := hs.1
      have nx := MW_T (w := i) (x := if kd = 3 ∨ e ≤ nI i then 0 else sPut (sKind kd (sAcc f st i))) hs h8 (by omega)
      have hX : vSetT (vWat v (sSheet kd f st e (vT v) i)) i (if kd = 3 ∨ e ≤ nI i then 0 else sPut (sKind kd (sAcc f st i))) = vWat v (sSheet kd f st e (vT v) (i + 1)) := by rw [← sSheet_s]; rfl
      rw [hX] at nx
      refine ⟨(sAcc f st (i + 1), stI s 145 (32 + i) (nI (if kd = 3 ∨ e ≤ nI i then 0 else sPut (sKind kd (sAcc f st i))))), ?_, rfl, hF.tr (FM.stA rfl (by omega)), nx⟩
      show lp_c11_sheet_40 N 144 kd e st (kk + 1) _ _ _ = _
      rw [lp_c11_sheet_40.eq_2]
      have eT : (if kd = 3 then (0 : Int32) else (if nI i < e then gmax (0 : Int32) (gmin (99 : Int32) (if kd = 0 then (sAcc f st i).toInt8.toInt32 else (if kd = 1 then (sAcc f st i).toInt16.toInt32 else sAcc f st i))) else 0)) = nI (if kd = 3 ∨ e ≤ nI i then 0 else sPut (sKind kd (sAcc f st i))) := by
        by_cases z : kd = 3
        · rw [if_pos z, if_pos (Or.inl z)]; rfl
        · rw [if_neg z]
          by_cases y : nI i < e
          · have hne : ¬ (kd = 3 ∨ e ≤ nI i) := fun t => t.elim z (fun t => by rw [i32_le] at t; rw [i32_lt] at y; exact absurd (Int.lt_of_lt_of_le y t) (Int.lt_irrefl _))
            rw [if_pos y, if_neg hne]
            exact (sPut_e (sKind kd (sAcc f st i))).2
          · rw [if_neg y, if_pos (Or.inr (by rw [i32_le]; rw [i32_lt] at y; exact Int.not_lt.mp y))]
            rfl
      simp (disch := omega) only [Option.bind_some, ↓ile_t, ↓ile_f, ↓ilt_t, ↓ilt_f, ↓ieq_t, ↓ieq_f, ↓iz_t, ↓iz_f, ↓iltz, ↓izle, ↓ilez_t, ↓ilez_f, ↓im1, ile_t, ile_f, ilt_t, ilt_f, ieq_t, ieq_f, iz_t, iz_f, iltz, izle, ilez_t, ilez_f, im1, gZ_0, gZ_1, e10, e00, ↓reduceIte, Sum.elim_inl, Sum.elim_inr, nI_1, nI_add, Int32.sub_zero, zr144_0, k40, zg145, eN, k32]
      rw [eT]
      simp (disch := omega) only [Option.bind_some, ↓ile_t, ↓ile_f, ↓ilt_t, ↓ilt_f, ↓ieq_t, ↓ieq_f, ↓iz_t, ↓iz_f, ↓iltz, ↓izle, ↓ilez_t, ↓ilez_f, ↓im1, ile_t, ile_f, ilt_t, ilt_f, ieq_t, ieq_f, iz_t, iz_f, iltz, izle, ilez_t, ilez_f, im1, gZ_0, gZ_1, e10, e00, ↓reduceIte, Sum.elim_inl, Sum.elim_inr, nI_1, nI_add, Int32.sub_zero, zp145, sAcc]
    · obtain ⟨s0, s⟩ := s
      obtain ⟨rfl, hF, hs⟩ := hs
      have eN : s.1 145 40 = nI (vN v) := hs.1
      refine ⟨mk L s, ?_, s, rfl, hF, hs⟩
      show lp_c11_sheet_40 N 144 kd e st (kk + 1) _ _ _ = _
      rw [lp_c11_sheet_40.eq_2]
      simp (disch := omega) only [Option.bind_some, ↓ile_t, ↓ile_f, ↓ilt_t, ↓ilt_f, ↓ieq_t, ↓ieq_f, ↓iz_t, ↓iz_f, ↓iltz, ↓izle, ↓ilez_t, ↓ilez_f, ↓im1, ile_t, ile_f, ilt_t, ilt_f, ieq_t, ieq_f, iz_t, iz_f, iltz, izle, ilez_t, ilez_f, im1, gZ_0, gZ_1, e10, e00, ↓reduceIte, Sum.elim_inl, Sum.elim_inr, nI_1, nI_add, Int32.sub_zero, zr144_0, k40, zg145, eN]
    · have e0 : sSheet kd f st e (vT v) 0 = vT v := by funext j; unfold sSheet; rw [if_neg (by omega)]
      rw [e0]
      exact m1
  rcases (show (kd < 0 ∨ (¬ kd < 0 ∧ ¬ kd ≤ 3)) ∨ ∃ d, 0 ≤ d ∧ d ≤ 3 ∧ kd = nI d from cas kd 0 3 (by omega) (by omega)) with hk | ⟨d, -, hd, hkd⟩
  · refine AgrR w q m (r := -1) ?_ (fun T _ t1 => ?_)
    · rcases hk with hp | ⟨h1, hp⟩
      · simp (disch := omega) only [Option.bind_some, ↓ile_t, ↓ile_f, ↓ilt_t, ↓ilt_f, ↓ieq_t, ↓ieq_f, ↓iz_t, ↓iz_f, ↓iltz, ↓izle, ↓ilez_t, ↓ilez_f, ↓im1, ile_t, ile_f, ilt_t, ilt_f, ieq_t, ieq_f, iz_t, iz_f, iltz, izle, ilez_t, ilez_f, im1, gZ_0, gZ_1, e10, e00, ↓reduceIte, Sum.elim_inl, Sum.elim_inr, nI_1, nI_add, Int32.sub_zero, f_c10_sheet, zc10, zr10_0, zr10_1, zr10_2, zr10_3, zr10_4, zr10_5, zr10_6, zr10_7, zr10_8, zr10_9, zr10_10, zs10_11, zs10_12, if_pos hp]
      · have h3 := i32_nle hp
        simp (disch := omega) only [Option.bind_some, ↓ile_t, ↓ile_f, ↓ilt_t, ↓ilt_f, ↓ieq_t, ↓ieq_f, ↓iz_t, ↓iz_f, ↓iltz, ↓izle, ↓ilez_t, ↓ilez_f, ↓im1, ile_t, ile_f, ilt_t, ilt_f, ieq_t, ieq_f, iz_t, iz_f, iltz, izle, ilez_t, ilez_f, im1, gZ_0, gZ_1, e10, e00, ↓reduceIte, Sum.elim_inl, Sum.elim_inr, nI_1, nI_add, Int32.sub_zero, f_c10_sheet, zc10, zr10_0, zr10_1, zr10_2, zr10_3, zr10_4, zr10_5, zr10_6, zr10_7, zr10_8, zr10_9, zr10_10, zs10_11, zs10_12, if_neg h1, if_pos h3]
    · simp (disch := omega) only [Option.bind_some, ↓ile_t, ↓ile_f, ↓ilt_t, ↓ilt_f, ↓ieq_t, ↓ieq_f, ↓iz_t, ↓iz_f, ↓iltz, ↓izle, ↓ilez_t, ↓ilez_f, ↓im1, ile_t, ile_f, ilt_t, ilt_f, ieq_t, ieq_f, iz_t, iz_f, iltz, izle, ilez_t, ilez_f, im1, gZ_0, gZ_1, e10, e00, ↓reduceIte, Sum.elim_inl, Sum.elim_inr, nI_1, nI_add, Int32.sub_zero, f_c11_sheet, zc144, zs144_10, M_inF (N := N) hk, eq_self_iff_true]
  · have k0' : ¬ kd < 0 := by rw [hkd]; exact nI_pos (by omega)
    have k3' : ¬ (3 : Int32) < kd := by rw [hkd]; exact nI_nlt (a := 3) hd (by omega)
    have ei : ∀ T : gS, f_c11_in N kd 0 3 (mk L T) = some 1 := fun T => by rw [hkd]; exact M_inT (lo := 0) (hi := 3) (by omega) hd (by omega)
    by_cases e8 : e ≤ 8
    · obtain ⟨r, er, S1, er2, f1, v1⟩ := hC
      rw [er2, nI_0] at er
      have q1 : CA S1 (g, vWat v (sSheet kd f st e (vT v) (vN v)), x, l, u, n, k, h) := q.now (f1.mono (fun y hy => by show _ ∨ _; omega)) v1
      have l1 : Fr lowC S S1 := f1.low (fun y hy => by omega)
      have w1 : WA (g, vWat v (sSheet kd f st e (vT v) (vN v)), x, l, u, n, k, h) := ⟨w.1, wv', w.2.2⟩
      have go : ∀ T, MA T (g, v, x, l, u, n, k, h) c → ∃ T', lp_c11_sheet_40 N 144 kd e st N f 0 (mk L (stI T 144 10 0)) = some (mk L T') ∧ Fr highM T T' ∧ MA T' (g, vWat v (sSheet kd f st e (vT v) (vN v)), x, l, u, n, k, h) c := by
        intro T mt
        have t1 := mt.thr
        obtain ⟨r', er', T1, er2', f2, m2⟩ := hM _ t1.2.1
        rw [er2', nI_0] at er'
        exact ⟨T1, er', highTr thrH (f2.high (fun y hy => by omega)), t1.now (f2.mono (fun y hy => Or.inr hy) (fun _ z => z.elim)) m2⟩
      by_cases k3 : kd = 3
      · have k3le : (3 : Int32) ≤ kd := by rw [k3]; decide
        refine AgrI (c' := c) m (S1 := S1) (r := -3) ?_ l1 q1 w1 (by omega) (fun T mt => ?_)
        · rw [f_c10_sheet, zc10, Option.bind_some, if_neg k0', if_neg k3', if_pos e8, if_pos k3le, er, Option.bind_some, if_pos k3]
          rfl
        · obtain ⟨T', a1, a2, a3⟩ := go T mt
          refine ⟨T', ?_, a2, a3⟩
          simp (disch := omega) only [Option.bind_some, ↓ile_t, ↓ile_f, ↓ilt_t, ↓ilt_f, ↓ieq_t, ↓ieq_f, ↓iz_t, ↓iz_f, ↓iltz, ↓izle, ↓ilez_t, ↓ilez_f, ↓im1, ile_t, ile_f, ilt_t, ilt_f, ieq_t, ieq_f, iz_t, iz_f, iltz, izle, ilez_t, ilez_f, im1, gZ_0, gZ_1, e10, e00, ↓reduceIte, Sum.elim_inl, Sum.elim_inr, nI_1, nI_add, Int32.sub_zero, f_c11_sheet, zc144, zs144_10, ei, if_pos e8, if_pos k3le, a1, if_pos k3]
      · have k3le : ¬ (3 : Int32) ≤ kd := fun z => k3 (by
          rw [hkd] at z ⊢
          have : 3 ≤ d := Nat.le_of_not_lt (fun y => nI_ge (b := 3) y (by omega) z)
          obtain rfl : d = 3 := by omega
          rfl)
        by_cases e0 : 0 ≤ e
        · refine AgrI (c' := c) m (S1 := S1) (r := nI (sumN (sSheet kd f st e (vT v) (vN v)) (vN v))) ?_ l1 q1 w1 (by omega) (fun T mt => ?_)
          · have ew : f_c7_waterOfAll N 19 (mk L S1) = some (nI (sumN (sSheet kd f st e (vT v) (vN v)) (vN v))) := C_waters (L := L) (N := N) SA_19 v1 h8 hN
            rw [f_c10_sheet, zc10, Option.bind_some, if_neg k0', if_neg k3', if_pos e8, if_neg k3le, if_pos e0, er, Option.bind_some, if_neg k3]
            simp (disch := omega) only [Option.bind_some, ↓ile_t, ↓ile_f, ↓ilt_t, ↓ilt_f, ↓ieq_t, ↓ieq_f, ↓iz_t, ↓iz_f, ↓iltz, ↓izle, ↓ilez_t, ↓ilez_f, ↓im1, ile_t, ile_f, ilt_t, ilt_f, ieq_t, ieq_f, iz_t, iz_f, iltz, izle, ilez_t, ilez_f, im1, gZ_0, gZ_1, e10, e00, ↓reduceIte, Sum.elim_inl, Sum.elim_inr, nI_1, nI_add, Int32.sub_zero, zc10, zr10_0, zr10_1, zr10_2, zr10_3, zr10_4, zr10_5, zr10_6, zr10_7, zr10_8, zr10_9, zr10_10, zs10_11, zs10_12, ew]
          · obtain ⟨T', a1, a2, a3⟩ := go T mt
            have ew : f_c11_waters N 145 (mk L T') = some (nI (sumN (sSheet kd f st e (vT v) (vN v)) (vN v))) := M_waters (L := L) (N := N) MA_145 a3.2.1 h8 hN
            refine ⟨T', ?_, a2, a3⟩
            simp (disch := omega) only [Option.bind_some, ↓ile_t, ↓ile_f, ↓ilt_t, ↓ilt_f, ↓ieq_t, ↓ieq_f, ↓iz_t, ↓iz_f, ↓iltz, ↓izle, ↓ilez_t, ↓ilez_f, ↓im1, ile_t, ile_f, ilt_t, ilt_f, ieq_t, ieq_f, iz_t, iz_f, iltz, izle, ilez_t, ilez_f, im1, gZ_0, gZ_1, e10, e00, ↓reduceIte, Sum.elim_inl, Sum.elim_inr, nI_1, nI_add, Int32.sub_zero, f_c11_sheet, zc144, zs144_10, ei, if_pos e8, if_neg k3le, if_pos e0, a1, if_neg k3, zr144_0, ew]
        · refine AgrR w q m (r := -2) ?_ (fun T _ t1 => ?_)
          · simp (disch := omega) only [Option.bind_some, ↓ile_t, ↓ile_f, ↓ilt_t, ↓ilt_f, ↓ieq_t, ↓ieq_f, ↓iz_t, ↓iz_f, ↓iltz, ↓izle, ↓ilez_t, ↓ilez_f, ↓im1, ile_t, ile_f, ilt_t, ilt_f, ieq_t, ieq_f, iz_t, iz_f, iltz, izle, ilez_t, ilez_f, im1, gZ_0, gZ_1, e10, e00, ↓reduceIte, Sum.elim_inl, Sum.elim_inr, nI_1, nI_add, Int32.sub_zero, f_c10_sheet, zc10, zr10_0, zr10_1, zr10_2, zr10_3, zr10_4, zr10_5, zr10_6, zr10_7, zr10_8, zr10_9, zr10_10, zs10_11, zs10_12, if_neg k0', if_neg k3', if_pos e8, if_neg k3le, if_neg e0]
          · simp (disch := omega) only [Option.bind_some, ↓ile_t, ↓ile_f, ↓ilt_t, ↓ilt_f, ↓ieq_t, ↓ieq_f, ↓iz_t, ↓iz_f, ↓iltz, ↓izle, ↓ilez_t, ↓ilez_f, ↓im1, ile_t, ile_f, ilt_t, ilt_f, ieq_t, ieq_f, iz_t, iz_f, iltz, izle, ilez_t, ilez_f, im1, gZ_0, gZ_1, e10, e00, ↓reduceIte, Sum.elim_inl, Sum.elim_inr, nI_1, nI_add, Int32.sub_zero, f_c11_sheet, zc144, zs144_10, ei, if_pos e8, if_neg k3le, if_neg e0]
    · refine AgrR w q m (r := -1) ?_ (fun T _ t1 => ?_)
      · simp (disch := omega) only [Option.bind_some, ↓ile_t, ↓ile_f, ↓ilt_t, ↓ilt_f, ↓ieq_t, ↓ieq_f, ↓iz_t, ↓iz_f, ↓iltz, ↓izle, ↓ilez_t, ↓ilez_f, ↓im1, ile_t, ile_f, ilt_t, ilt_f, ieq_t, ieq_f, iz_t, iz_f, iltz, izle, ilez_t, ilez_f, im1, gZ_0, gZ_1, e10, e00, ↓reduceIte, Sum.elim_inl, Sum.elim_inr, nI_1, nI_add, Int32.sub_zero, f_c10_sheet, zc10, zr10_0, zr10_1, zr10_2, zr10_3, zr10_4, zr10_5, zr10_6, zr10_7, zr10_8, zr10_9, zr10_10, zs10_11, zs10_12, if_neg k0', if_neg k3', if_neg e8]
      · simp (disch := omega) only [Option.bind_some, ↓ile_t, ↓ile_f, ↓ilt_t, ↓ilt_f, ↓ieq_t, ↓ieq_f, ↓iz_t, ↓iz_f, ↓iltz, ↓izle, ↓ilez_t, ↓ilez_f, ↓im1, ile_t, ile_f, ilt_t, ilt_f, ieq_t, ieq_f, iz_t, iz_f, iltz, izle, ilez_t, ilez_f, im1, gZ_0, gZ_1, e10, e00, ↓reduceIte, Sum.elim_inl, Sum.elim_inr, nI_1, nI_add, Int32.sub_zero, f_c11_sheet, zc144, zs144_10, ei, if_neg e8]
end MORE
