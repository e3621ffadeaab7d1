/-! CALLS: wells, the end -/
section WELLSA
variable {L N : Nat} {S T X : gS} {c : Nat} {g : pG} {v v0 v' : pV} {x : pX} {l : List Int64} {u : pX} {n : pN} {k : Nat → Option pV} {h : pH} {A : pA}
def vTr (v : pV) (k : Nat) : pV := (k, vF v, vW v, vM v, vA v, vT v, vS v, vP v)
theorem MW.ext {r : Nat} (h : MW S r v) (e1 : vN v' = vN v) (e2 : vS v' = vS v) (e3 : vP v' = vP v) (e4 : ∀ j, j < vN v → vF v' j = vF v j ∧ vW v' j = vW v j ∧ vM v' j = vM v j ∧ vA v' j = vA v j ∧ vT v' j = vT v j) : MW S r v' := by
  refine ⟨by rw [e1]; exact h.1, by rw [e2]; exact h.2.1, by rw [e3]; exact h.2.2.1, fun w hw => ?_⟩
  rw [e1] at hw
  obtain ⟨a1, a2, a3, a4, a5⟩ := e4 w hw
  rw [a1, a2, a3, a4, a5]
  exact h.2.2.2 w hw
theorem M_wl94 {m : Nat} (mv : MW X 145 v0) (hE : vEx v0 v' m) (hC : cmC X v0 v' m) (h8 : vN v' ≤ 8) (hN : 900 ≤ N) : ∃ T', lp_c11_wells_94 N 144 (nI m) N 0 (mk L X) = some (mk L T') ∧ FM (fun y => y = 145) (fun _ => False) X T' ∧ MW T' 145 v' := by
  obtain ⟨h1, h2, h3, h4, h5⟩ := hE
  have e : ∃ z, lp_c11_wells_94 N 144 (nI m) N (nI 0) (mk L X) = some z ∧ ∃ T', z = mk L T' ∧ FM (fun y => y = 145) (fun _ => False) X T' ∧ MW T' 145 v' := by
    refine lp_inv (Lp := fun kk (s : gS) i => lp_c11_wells_94 N 144 (nI m) kk (nI i) (mk L s)) (n := m) (P := fun i s => FM (fun y => y = 145) (fun _ => False) X s ∧ MW s 145 (vTr v' (vN v0 + i))) (fun kk i s hi hs => Or.inr ?_) (fun kk s hs => ?_) m N 0 X (by omega) (by omega) ⟨FM.refl, mv.ext rfl h2 h3 (fun j hj => h4 j hj)⟩
    · obtain ⟨f, ms⟩ := hs
      obtain ⟨c1, c2, c3⟩ := hC i hi
      have d1 : s.1 150 (3 * i) = nI (vF v' (vN v0 + i)) := (f.i (by omega) (by omega) _).trans c1
      have d2 : s.1 150 (3 * i + 1) = nI (vW v' (vN v0 + i)) := (f.i (by omega) (by omega) _).trans c2
      have d3 : s.1 150 (3 * i + 2) = nI (vM v' (vN v0 + i)) := (f.i (by omega) (by omega) _).trans c3
      obtain ⟨s2, e2, f2, m2⟩ := M_add (L := L) (N := N) (f := vF v' (vN v0 + i)) (w := vW v' (vN v0 + i)) (m := vM v' (vN v0 + i)) MA_145 (by omega) ms (show vN v0 + i < 8 by omega)
      refine ⟨s2, ?_, f.tr f2, m2.ext rfl rfl rfl (fun j hj => ?_)⟩
      · show lp_c11_wells_94 N 144 (nI m) (kk + 1) (nI i) (mk L s) = lp_c11_wells_94 N 144 (nI m) kk (nI (i + 1)) (mk L s2)
        rw [lp_c11_wells_94.eq_2, ile_f hi (by omega), zr144_0, Option.bind_some, zr144_16, Option.bind_some, k3, nI_mul, zg150 (by omega), Option.bind_some, Option.bind_some, nI_1, zg150 (by omega), Option.bind_some, Option.bind_some, k2, nI_add, zg150 (by omega), Option.bind_some, d1, d2, d3, e2, Option.bind_some, nI_1]
      · have hj2 : j < vN v0 + i + 1 := hj
        show vF v' j = nup (vF v') (vN v0 + i) (vF v' (vN v0 + i)) j ∧ vW v' j = nup (vW v') (vN v0 + i) (vW v' (vN v0 + i)) j ∧ vM v' j = nup (vM v') (vN v0 + i) (vM v' (vN v0 + i)) j ∧ vA v' j = nup (vA v') (vN v0 + i) 0 j ∧ vT v' j = nup (vT v') (vN v0 + i) 0 j
        by_cases y : j = vN v0 + i
        · rw [y, nup_eq, nup_eq, nup_eq, nup_eq, nup_eq]
          exact ⟨rfl, rfl, rfl, h5 i hi⟩
        · rw [nup_ne y, nup_ne y, nup_ne y, nup_ne y, nup_ne y]
          exact ⟨rfl, rfl, rfl, rfl, rfl⟩
    · refine ⟨mk L s, ?_, s, rfl, hs.1, hs.2.ext h1 rfl rfl (fun j _ => ⟨rfl, rfl, rfl, rfl, rfl⟩)⟩
      show lp_c11_wells_94 N 144 (nI m) (kk + 1) (nI m) (mk L s) = _
      rw [lp_c11_wells_94.eq_2, ile_t (Nat.le_refl _) (by omega)]
  obtain ⟨z, e, T', er, e2⟩ := e
  rw [er] at e
  exact ⟨T', e, e2⟩
theorem RC39 (q : MT T x.1 x.2) (hx : x.1 ≤ 80) : RC (stI (mBeg T 148 x.1 39) 144 7 0) 148 x.1 39 x.2 := mBeg_RC (y := 0) hx (by omega) (by omega) (fun L S j hj => zg148 (by omega)) q.2
/-- the reference at the beginning of a text of wells -/
theorem M_wlBeg (m : MA T (g, v, x, l, u, n, k, h) c) (w : WA (g, v, x, l, u, n, k, h)) : ∃ X, f_c11_beginText N 144 39 (mk L (stI T 144 10 0)) = some (mk L (ms X 0 (-1))) ∧ FM (fun _ => False) (fun k => k = 7 ∨ (10 ≤ k ∧ k ≤ 15)) T (ms X 0 (-1)) ∧ RC X 148 x.1 39 x.2 ∧ MG X g ∧ MW X 145 v ∧ X.1 144 7 = 0 := by
  have t1 := m.thr
  have hx : x.1 ≤ 80 := w.2.2.1.1
  have fB : FM (fun _ => False) (fun k => k = 7 ∨ (11 ≤ k ∧ k ≤ 15)) (stI T 144 10 0) (ms (stI (mBeg (stI T 144 10 0) 148 x.1 39) 144 7 0) 0 (-1)) := mBeg_FM
  have fX : FM (fun _ => False) (fun k => k = 7 ∨ (11 ≤ k ∧ k ≤ 15)) (stI T 144 10 0) (stI (mBeg (stI T 144 10 0) 148 x.1 39) 144 7 0) := fB.tr (ms_out.mono (fun _ z => z) (fun k hk => by omega))
  exact ⟨_, M_beginText (L := L) (N := N) (top := 39) t1.2.2.1, ((FM.stK (A := fun _ => False) (K := fun k => k = 10) rfl).mono (fun _ z => z.elim) (fun k hk => by omega)).tr (fB.mono (fun _ z => z.elim) (fun k hk => by omega)), RC39 t1.2.2.1 hx, t1.1.fm fX ⟨by omega, by omega, by omega⟩ ⟨fun z => z, fun z => z⟩, t1.2.1.fm fX (by omega) (fun z => z), rdI_eq⟩
theorem M_wells_f {q d : Nat} (m : MA T (g, v, x, l, u, n, k, h) c) (w : WA (g, v, x, l, u, n, k, h)) (hx0 : 0 < x.1) (hd : d ≤ 8) (hq : wlB g x d 0 v q) (hN : 900 ≤ N) : ∃ T', f_c11_wells N 144 (mk L T) = some (-1 - nI q, mk L T') ∧ Fr highM T T' ∧ MA T' (g, v, (0, x.2), l, u, n, k, h) c := by
  obtain ⟨X, eB, fB, hR, mg, mv, x7⟩ := M_wlBeg (L := L) (N := N) m w
  have hb : ∀ j, j < x.1 → x.2 j < 256 := w.2.2.1.2
  have hx80 : x.1 ≤ 80 := w.2.2.1.1
  obtain ⟨X', y, w', z, e1, e2, f1⟩ := M_wlB (L := L) (N := N) (v0 := v) d 0 0 v X q (N - d - 2) hR mg mv w.1 w.2.1 w.2.1 ⟨rfl, rfl, rfl, fun _ _ => ⟨rfl, rfl, rfl, rfl, rfl⟩, fun k hk => by omega⟩ (fun k hk => by omega) hb rfl hq hN
  rw [show N - d - 2 + d + 2 = N by omega] at e1
  have e1 : lp_c11_wells_24 N 144 N 0 1 (mk L (ms X 0 (-1))) = some (z, mk L (ms X' y w')) := e1
  have e12 : (ms X 0 (-1)).1 144 12 = nI x.1 := (ms_o (by omega)).trans hR.2.1
  have fm : FM (fun y => y = 150) (fun k => k = 7 ∨ (10 ≤ k ∧ k ≤ 15)) T (ms X' y (nI q)) := (fB.mono (fun _ z => z.elim) (fun _ z => z)).tr ((ms_out.mono (fun _ z => z.elim) (fun k hk => by omega)).tr ((f1.mono (fun _ z => z) (fun _ z => z.elim)).tr (ms_in.mono (fun _ z => z.elim) (fun k hk => by omega))))
  refine ⟨_, ?_, fm.high (fun y hy => by omega), m.text (fm.mono (fun y hy => by show _ ∨ _; unfold sM; omega) (fun y hy => by show _ ∨ _; unfold sK; omega)) ⟨(ms_o (by omega)).trans ((f1.k (fun z => z)).trans x7), fun j hj => by cases (show j < 0 from hj)⟩⟩
  unfold f_c11_wells
  rw [zc144, Option.bind_some, zs144_10, Option.bind_some, eB, Option.bind_some, zi144_12, Option.bind_some, e12, iz_f hx0 (by omega), e1, Option.bind_some]
  dsimp only
  rw [e2, Option.bind_some]
  dsimp only
  rw [i00, zi144_15, Option.bind_some, ms_w]
theorem M_wells_t {d : Nat} (m : MA T (g, v, x, l, u, n, k, h) c) (w : WA (g, v, x, l, u, n, k, h)) (hx0 : 0 < x.1) (hd : d ≤ 8) (hq : wlG g x d 0 v v') (h8 : vN v' ≤ 8) (hN : 900 ≤ N) : ∃ T', f_c11_wells N 144 (mk L T) = some (nI (vN v' - vN v), mk L T') ∧ Fr highM T T' ∧ MA T' (g, v', (0, x.2), l, u, (0, n.2), kNo, h) (c + 1) := by
  obtain ⟨X, eB, fB, hR, mg, mv, x7⟩ := M_wlBeg (L := L) (N := N) m w
  have hb : ∀ j, j < x.1 → x.2 j < 256 := w.2.2.1.2
  have hx80 : x.1 ≤ 80 := w.2.2.1.1
  obtain ⟨X', y, mm, e1, e2, f1, hE, hC⟩ := M_wlG (L := L) (N := N) (v0 := v) d 0 0 v X v' (N - d - 2) hR mg mv w.1 w.2.1 w.2.1 ⟨rfl, rfl, rfl, fun _ _ => ⟨rfl, rfl, rfl, rfl, rfl⟩, fun k hk => by omega⟩ (fun k hk => by omega) hb rfl hq hN
  rw [show N - d - 2 + d + 2 = N by omega] at e1
  have e1 : lp_c11_wells_24 N 144 N 0 1 (mk L (ms X 0 (-1))) = some (nI mm, mk L (ms X' y (-1))) := e1
  have e12 : (ms X 0 (-1)).1 144 12 = nI x.1 := (ms_o (by omega)).trans hR.2.1
  have fm : FM (fun y => y = 150) (fun k => k = 7 ∨ (10 ≤ k ∧ k ≤ 15)) T (ms X' y (-1)) := (fB.mono (fun _ z => z.elim) (fun _ z => z)).tr ((ms_out.mono (fun _ z => z.elim) (fun k hk => by omega)).tr ((f1.mono (fun _ z => z) (fun _ z => z.elim)).tr (ms_in.mono (fun _ z => z.elim) (fun k hk => by omega))))
  have mv1 : MW (ms X' y (-1)) 145 v := m.2.1.fm fm (by omega) (by omega)
  have hC1 : cmC (ms X' y (-1)) v v' mm := fun k hk => by
    obtain ⟨a1, a2, a3⟩ := hC k hk
    exact ⟨(ms_o (by omega)).trans a1, (ms_o (by omega)).trans a2, (ms_o (by omega)).trans a3⟩
  have y7 : (ms X' y (-1)).1 144 7 = 0 := (ms_o (by omega)).trans ((f1.k (fun z => z)).trans x7)
  have m38 : (ms X' y (-1)).1 144 38 = nI c := (fm.k (by omega)).trans m.2.2.2.2.2.2.1.1
  generalize ms X' y (-1) = Y at *
  obtain ⟨Z, e3, f3, mv3⟩ := M_wl94 (L := L) (N := N) mv1 hE hC1 h8 hN
  have f5 : FM (fun _ => False) (fun k => k = 23 ∨ k = 38) Z (stI (stI Z 144 23 0) 144 38 (nI (c + 1))) := (FM.stK (by omega)).tr (FM.stK (by omega))
  have fA : FM (fun y => y = 150 ∨ y = 145) pmK T (stI (stI Z 144 23 0) 144 38 (nI (c + 1))) := (fm.mono (fun y hy => Or.inl hy) (fun y hy => by unfold pmK sK; omega)).tr ((f3.mono (fun y hy => Or.inr hy) (fun _ z => z.elim)).tr (f5.mono (fun _ z => z.elim) (fun y hy => by unfold pmK sK; omega)))
  have e38 : (stI Z 144 23 0).1 144 38 = nI c := (rdI_ne (by omega)).trans ((f3.k (fun z => z)).trans m38)
  have hmm : vN v' - vN v = mm := by have := hE.1; omega
  have fG : FM (fun y => y = 150 ∨ y = 145) (fun k => k = 7 ∨ (10 ≤ k ∧ k ≤ 15) ∨ k = 23 ∨ k = 38) T (stI (stI Z 144 23 0) 144 38 (nI (c + 1))) := (fm.mono (fun y hy => Or.inl hy) (fun y hy => by omega)).tr ((f3.mono (fun y hy => Or.inr hy) (fun _ z => z.elim)).tr (f5.mono (fun _ z => z.elim) (fun y hy => by omega)))
  refine ⟨_, ?_, fA.high (fun y hy => by omega), M_newMA m (fA.mono (fun y hy => by unfold pmA sM; omega) (fun _ z => z)) (m.1.fm fG ⟨by omega, by omega, by omega⟩ ⟨by omega, by omega⟩) (mv3.fm f5 (by omega) (fun z => z)) ?_ ?_ rdI_eq⟩
  · unfold f_c11_wells f_c11_told
    rw [zc144, Option.bind_some, zs144_10, Option.bind_some, eB, Option.bind_some, zi144_12, Option.bind_some, e12, iz_f hx0 (by omega), e1, Option.bind_some]
    dsimp only
    rw [e2, Option.bind_some]
    dsimp only
    rw [i10, e3, Option.bind_some, zc144, Option.bind_some, zs144_23, Option.bind_some, zi144_38, Option.bind_some, e38, nI_1, zs144_38, Option.bind_some, Option.bind_some, hmm]
  · exact (f5.k (by omega)).trans ((f3.k (fun z => z)).trans y7)
  · rw [rdI_ne (by omega), rdI_eq]
theorem M_wells_0 (m : MA T (g, v, x, l, u, n, k, h) c) (w : WA (g, v, x, l, u, n, k, h)) (hx0 : x.1 = 0) : ∃ T', f_c11_wells N 144 (mk L T) = some (0, mk L T') ∧ Fr highM T T' ∧ MA T' (g, v, (0, x.2), l, u, n, k, h) c := by
  obtain ⟨X, eB, fB, hR, mg, mv, x7⟩ := M_wlBeg (L := L) (N := N) m w
  have e12 : (ms X 0 (-1)).1 144 12 = nI x.1 := (ms_o (by omega)).trans hR.2.1
  refine ⟨_, ?_, fB.high (fun y hy => hy.elim), m.text (fB.mono (fun y hy => hy.elim) (fun y hy => by show _ ∨ _; unfold sK; omega)) ⟨(ms_o (by omega)).trans x7, fun j hj => by cases (show j < 0 from hj)⟩⟩
  unfold f_c11_wells
  rw [zc144, Option.bind_some, zs144_10, Option.bind_some, eB, Option.bind_some, zi144_12, Option.bind_some, e12, iz_t hx0]
theorem A_wells (w : WA A) (q : CA S A) (m : MA S A c) (hN : 900 ≤ N) : Agr L S c (f_c10_wells N 10) (f_c11_wells N 144) := by
  obtain ⟨g, v, x, l, u, n, k, h⟩ := A
  have wg : WG g := w.1
  have wv : WV g v := w.2.1
  have h8 := wv.1
  have hx : XOk x 80 := w.2.2.1
  have hx80 := hx.1
  have ct : CT S x := q.2.2.1
  have wt : WA (g, v, (0, x.2), l, u, n, k, h) := ⟨w.1, w.2.1, ⟨by show 0 ≤ 80; omega, fun j hj => by cases (show j < 0 from hj)⟩, w.2.2.2⟩
  rcases Nat.eq_zero_or_pos x.1 with hx0 | hx0
  · have ex : x = (0, x.2) := Prod.ext hx0 rfl
    have q' : CA S (g, v, (0, x.2), l, u, n, k, h) := by rw [← ex]; exact q
    refine AgrI (c' := c) m (r := 0) (S1 := S) ?_ Fr.refl q' wt (by omega) (fun T mt => M_wells_0 mt w hx0)
    unfold f_c10_wells
    rw [zc10, Option.bind_some, zr10_0, Option.bind_some, zi11_1, Option.bind_some, ct.1, iz_t hx0]
  · obtain ⟨S1, e1, q1, v1, f1⟩ := C_before (L := L) (N := N) q w hN
    rcases wl_or (g := g) (x := x) (8 - vN v) 0 v (by omega) with ⟨d, p, hd, hp⟩ | ⟨d, v', hd, hp⟩
    · obtain ⟨S2, f2, p100, e2⟩ := C_wlB (L := L) (N := N) d 0 0 v S1 p (N - d - 1) q1.1 q1.2.2.1 hx v1 wg wv (by omega) rfl hp hN
      rw [show N - d - 1 + d + 1 = N by omega] at e2
      have q2 : CA S2 (g, v, x, l, u, n, k, h) := q1.fr f2 (fun y hy => by unfold sC; omega)
      obtain ⟨e3, q3⟩ := C_cut (L := L) (N := N) (d := 0) q2 hx80 (by omega)
      refine AgrI (c' := c) m (r := -1 - nI p) (S1 := stI S2 11 1 (nI 0)) ?_ (lowTr f1 (lowTr (f2.low (fun y hy => by omega)) (Fr.stI (by unfold lowC; omega)))) q3 wt (by omega) (fun T mt => M_wells_f mt w hx0 (by omega) hp hN)
      have er : f_c10_readLines N 10 25 (mk L S1) = some (nI p, mk L S2) := by
        unfold f_c10_readLines
        rcases e2 with e2 | e2
        · rw [zc10, Option.bind_some, show lp_c10_readLines_4 N 10 25 N 0 0 (mk L S1) = _ from e2, Option.bind_some, Sum.elim_inl]
        · rw [zc10, Option.bind_some, show lp_c10_readLines_4 N 10 25 N 0 0 (mk L S1) = _ from e2, Option.bind_some, Sum.elim_inr]
      unfold f_c10_wells
      rw [zc10, Option.bind_some, zr10_0, Option.bind_some, zi11_1, Option.bind_some, ct.1, iz_f hx0 (by omega), zr10_4, Option.bind_some, zr10_3, Option.bind_some, e1, Option.bind_some, zr10_4, Option.bind_some, er, Option.bind_some]
      dsimp only
      rw [zr10_0, Option.bind_some, show f_c8_cutTo N 11 0 (mk L S2) = _ from e3, Option.bind_some]
      dsimp only
      rw [iltz (by omega)]
    · obtain ⟨S2, f2, v2, w2, n2, e2⟩ := C_wlG (L := L) (N := N) d 0 0 v S1 v' (N - d - 1) q1.1 q1.2.2.1 hx v1 wg wv (by omega) rfl hp hN
      rw [show N - d - 1 + d + 1 = N by omega] at e2
      have q2 : CA S2 (g, v, x, l, u, n, k, h) := q1.fr f2 (fun y hy => by unfold sC; omega)
      obtain ⟨e3, q3⟩ := C_cut (L := L) (N := N) (d := 0) q2 hx80 (by omega)
      have v3 : CV (stI S2 11 1 (nI 0)) 25 v' := v2.fr (Fr.stI (A := fun y => y = 11) rfl) (fun y a b => by omega)
      have cv3 : CV (stI S2 11 1 (nI 0)) 19 v := q3.2.1
      have h8' := w2.1
      obtain ⟨S3, e4, f4, v4⟩ := C_take (L := L) (N := N) SA_19 SA_25 (by omega) v3 h8' hN
      have e5 := C_forgetAll (L := L) (N := N) (S := S3) hN
      have fL : Fr (fun y => y = 40 ∨ y = 43) S3 (stI (stI (stI S3 40 3 0) 43 0 0) 43 1 0) := ((Fr.stI (A := fun y => y = 40 ∨ y = 43) (by omega)).trans (Fr.stI (A := fun y => y = 40 ∨ y = 43) (by omega)) (fun _ z => z) (fun _ z => z)).trans (Fr.stI (A := fun y => y = 40 ∨ y = 43) (by omega)) (fun _ z => z) (fun _ z => z)
      have fP : Fr plH (stI S2 11 1 (nI 0)) (stI (stI (stI S3 40 3 0) 43 0 0) 43 1 0) := f4.trans fL (fun y hy => by unfold plH; omega) (fun y hy => by unfold plH; omega)
      have q4 : CA (stI (stI (stI S3 40 3 0) 43 0 0) 43 1 0) (g, v', (0, x.2), l, u, (0, n.2), kNo, h) := by
        refine C_newCA (x := (0, x.2)) q3 fP ((q3.1.fr f4 (fun y a b => by omega)).fr fL (fun y a b => by omega)) (v4.fr fL (fun y a b => by omega)) ?_ ?_ ⟨?_, ?_⟩
        · rw [fL.i (by omega), f4.i (by omega), rdI_eq]
          rfl
        · rw [rdI_ne (by omega), rdI_ne (by omega), rdI_eq]
        · rw [rdI_ne (by omega), rdI_eq]
        · rw [rdI_eq]
      refine AgrI (c' := c + 1) m (r := nI (vN v' - vN v)) (S1 := stI (stI (stI S3 40 3 0) 43 0 0) 43 1 0) ?_ (lowTr f1 (lowTr (f2.low (fun y hy => by omega)) (lowTr (Fr.stI (by unfold lowC; omega)) (lowTr (f4.low (fun y hy => by omega)) (fL.low (fun y hy => by omega)))))) q4 (w.plain wg w2) (by omega) (fun T mt => M_wells_t mt w hx0 (by omega) hp h8' hN)
      have er : f_c10_readLines N 10 25 (mk L S1) = some (-1, mk L S2) := by
        unfold f_c10_readLines
        rw [zc10, Option.bind_some, show lp_c10_readLines_4 N 10 25 N 0 0 (mk L S1) = _ from e2]
        rfl
      have n25 : (stI S2 11 1 (nI 0)).1 25 0 = nI (vN v') := v3.1
      have n19 : (stI S2 11 1 (nI 0)).1 19 0 = nI (vN v) := cv3.1
      unfold f_c10_wells
      rw [zc10, Option.bind_some, zr10_0, Option.bind_some, zi11_1, Option.bind_some, ct.1, iz_f hx0 (by omega), zr10_4, Option.bind_some, zr10_3, Option.bind_some, e1, Option.bind_some, zr10_4, Option.bind_some, er, Option.bind_some]
      dsimp only
      rw [zr10_0, Option.bind_some, show f_c8_cutTo N 11 0 (mk L S2) = _ from e3, Option.bind_some]
      dsimp only
      rw [if_pos (show (-1 : Int32) < 0 by decide), zr10_4, Option.bind_some, qi0 SA_25, Option.bind_some, zr10_3, Option.bind_some, qi0 SA_19, Option.bind_some, Option.bind_some, Option.bind_some, e4, Option.bind_some, zr10_7, Option.bind_some, e5, Option.bind_some, n25, n19, nI_sub n2]
end WELLSA
