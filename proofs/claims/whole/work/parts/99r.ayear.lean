/-! CALLS: year -/
section YEARR
variable {L N : Nat} {S T X : gS} {c : Nat} {g : pG} {v v0 v' : pV} {x x' : pX} {l : List Int64} {u : pX} {n : pN} {k : Nat → Option pV} {h : pH} {A : pA} {code : List Int32}
def fl64 (D m : Nat) : Int64 := if D = m then 0 else 1
theorem fl64_c {D m : Nat} : (if flC D m = 0 then (0 : Int64) else 1) = fl64 D m := by
  unfold flC fl64
  by_cases z : D = m
  · rw [if_pos z, if_pos z, if_pos rfl]
  · rw [if_neg z, if_neg z, if_neg (by decide)]
theorem fl64_m {D m : Nat} (h : D ≤ m) (hm : m ≤ 30) : (if nI m ≤ nI D then (0 : Int64) else 1) = fl64 D m := by
  unfold fl64
  by_cases z : D = m
  · rw [if_pos z, ile_t (by omega) (by omega)]
  · rw [if_neg z, ile_f (by omega) (by omega)]
theorem RC60 (q : MT T x.1 x.2) (hx : x.1 ≤ 80) : RC (stI (mBeg T 148 x.1 60) 144 7 0) 148 x.1 60 x.2 := mBeg_RC (y := 0) hx (by omega) (by omega) (fun L S j hj => zg148 (by omega)) q.2
theorem M_yBeg (m : MA T (g, v, x, l, u, n, k, h) c) (w : WA (g, v, x, l, u, n, k, h)) : ∃ X, f_c11_beginText N 144 60 (mk L (stI T 144 10 0)) = some (mk L (ms X 0 (-1))) ∧ FM (fun _ => False) (fun k => k = 7 ∨ (10 ≤ k ∧ k ≤ 15)) T (ms X 0 (-1)) ∧ RC X 148 x.1 60 x.2 ∧ MG X g ∧ MW X 145 v ∧ X.1 144 7 = 0 := by
  have t1 := m.thr
  have hx : x.1 ≤ 80 := w.2.2.1.1
  have fB : FM (fun _ => False) (fun k => k = 7 ∨ (11 ≤ k ∧ k ≤ 15)) (stI T 144 10 0) (ms (stI (mBeg (stI T 144 10 0) 148 x.1 60) 144 7 0) 0 (-1)) := mBeg_FM
  have fX : FM (fun _ => False) (fun k => k = 7 ∨ (11 ≤ k ∧ k ≤ 15)) (stI T 144 10 0) (stI (mBeg (stI T 144 10 0) 148 x.1 60) 144 7 0) := fB.tr (ms_out.mono (fun _ z => z) (fun k hk => by omega))
  exact ⟨_, M_beginText (L := L) (N := N) (top := 60) t1.2.2.1, ((FM.stK (A := fun _ => False) (K := fun k => k = 10) rfl).mono (fun _ z => z.elim) (fun k hk => by omega)).tr (fB.mono (fun _ z => z.elim) (fun k hk => by omega)), RC60 t1.2.2.1 hx, t1.1.fm fX ⟨by omega, by omega, by omega⟩ ⟨fun z => z, fun z => z⟩, t1.2.1.fm fX (by omega) (fun z => z), rdI_eq⟩
theorem M_year_f {q d : Nat} (m : MA T (g, v, x, l, u, n, k, h) c) (w : WA (g, v, x, l, u, n, k, h)) (hd : d ≤ 30) (hq1 : q < 100) (hq : yB x d q) (hN : 900 ≤ N) : ∃ T', f_c11_year N 144 (mk L T) = some (-1 - nI q, mk L T') ∧ Fr highM T T' ∧ MA T' (g, v, (0, x.2), l, u, n, k, h) c := by
  obtain ⟨X, eB, fB, hR, mg, mv, x7⟩ := M_yBeg (L := L) (N := N) m w
  obtain ⟨X', y, z, e1, e2, f1⟩ := M_yB (L := L) (N := N) hR mg w.1 w.2.2.1.2 hd hq1 hq hN
  have fm : FM (fun y => y = 160) (fun k => k = 7 ∨ (10 ≤ k ∧ k ≤ 15)) T (ms X' y (nI q)) := (fB.mono (fun _ z => z.elim) (fun _ z => z)).tr ((ms_out.mono (fun _ z => z.elim) (fun k hk => by omega)).tr ((f1.mono (fun _ z => z) (fun _ z => z.elim)).tr (ms_in.mono (fun _ z => z.elim) (fun k hk => by omega))))
  refine ⟨_, ?_, fm.high (fun y hy => by omega), m.text (fm.mono (fun y hy => by show _ ∨ _; unfold sM; omega) (fun y hy => by show _ ∨ _; unfold sK; omega)) ⟨(ms_o (by omega)).trans ((f1.k (fun z => z)).trans x7), fun j hj => by cases (show j < 0 from hj)⟩⟩
  unfold f_c11_year
  rw [zc144, Option.bind_some, zs144_10, Option.bind_some, eB, Option.bind_some, e1, Option.bind_some]
  dsimp only
  rw [e2, Option.bind_some]
  dsimp only
  rw [i00, zi144_15, Option.bind_some, ms_w]
theorem M_year_t {m D : Nat} (mt : MA T (g, v, x, l, u, n, k, h) c) (w : WA (g, v, x, l, u, n, k, h)) (wv' : WV g v') (hc : ruleCode u.2 u.1 = .inl code) (hm : m ≤ 30) (hg : yG x m) (hD : D ≤ m) (hy : yVs code g x v D = some v') (hs : ∀ i, i < D → ∃ w, yVs code g x v (i + 1) = some w) (he : D = m ∨ (D < m ∧ yVs code g x v (D + 1) = none)) (hN : 900 ≤ N) : ∃ T', f_c11_year N 144 (mk L T) = some (nI D, mk L T') ∧ Fr highM T T' ∧ MA T' (g, v', (0, x.2), [fl64 D m, (nI (sumN (vT v') (vN v'))).toInt64], u, (if D = 0 then n else uPush n v), k, h) c := by
  have hx : XOk x 80 := w.2.2.1
  have wv : WV g v := w.2.1
  have h8 := wv.1
  obtain ⟨X, eB, fB, hR, mg, mv, x7⟩ := M_yBeg (L := L) (N := N) mt w
  obtain ⟨X', e1, e2, f1, hC⟩ := M_yG (L := L) (N := N) hR mg w.1 w.2.2.1.2 hm hg hN
  have fm : FM (fun y => y = 160) (fun k => k = 7 ∨ (10 ≤ k ∧ k ≤ 15)) T (ms X' (nI x.1) (-1)) := (fB.mono (fun _ z => z.elim) (fun _ z => z)).tr ((ms_out.mono (fun _ z => z.elim) (fun k hk => by omega)).tr ((f1.mono (fun _ z => z) (fun _ z => z.elim)).tr (ms_in.mono (fun _ z => z.elim) (fun k hk => by omega))))
  have hC1 : ∀ i, i < m → acC g x (ms X' (nI x.1) (-1)) i (yA x i) := fun i hi => (hC i hi).keep (show i < i + 1 by omega) (fun j _ => ms_o (by omega))
  have m1 : MA (ms X' (nI x.1) (-1)) (g, v, (0, x.2), l, u, n, k, h) c := mt.text (fm.mono (fun y hy => by show _ ∨ _; unfold sM; omega) (fun y hy => by show _ ∨ _; unfold sK; omega)) ⟨(ms_o (by omega)).trans ((f1.k (fun z => z)).trans x7), fun j hj => by cases (show j < 0 from hj)⟩
  have h1 : Fr highM T (ms X' (nI x.1) (-1)) := fm.high (fun y hy => by omega)
  generalize ms X' (nI x.1) (-1) = Y at *
  obtain ⟨Y1, e3, f3, w3⟩ := M_aside (L := L) (N := N) (d := 155) MA_145 (by omega) (by omega) m1.2.1 h8 hN
  have m2 : MA Y1 (g, v, (0, x.2), l, u, n, k, h) c := m1.fm f3 (fun y hy => by unfold sM; omega) (fun _ z => z.elim)
  have hC2 : ∀ i, i < m → acC g x Y1 i (yA x i) := fun i hi => (hC1 i hi).keep (show i < i + 1 by omega) (fun j _ => f3.i (by omega) (by omega) j)
  obtain ⟨Y2, e4, f4, m3⟩ := M_yLoop (L := L) (N := N) m2 w.1 wv hc hx hm hg hC2 hD hy hs he hN
  have w4 : MW Y2 155 v := w3.fm f4 (by omega) (by unfold qY; omega)
  have h4 : Fr highM Y1 Y2 := f4.high (fun y hy => by unfold qY at hy; omega)
  have rem : ∃ Y3, (if nI D ≤ 0 then some (mk L Y2) else (gfR (mk L Y2) 144 11 24).bind fun v30 => (f_c11_remember N 144 v30 (mk L Y2)).bind fun q31 => some q31) = some (mk L Y3) ∧ MA Y3 (g, v', (0, x.2), l, u, (if D = 0 then n else uPush n v), k, h) c ∧ Fr highM Y2 Y3 := by
    by_cases d0 : D = 0
    · refine ⟨Y2, ?_, ?_, Fr.refl⟩
      · rw [if_pos (show nI D ≤ 0 by rw [d0]; decide)]
      · rw [if_pos d0]
        exact m3
    · obtain ⟨Y3, r1, r2, r3⟩ := M_remember (L := L) (N := N) MA_155 (by omega) m3.2.2.2.2.2.1 w.2.2.2.2.2.1.1 (fun i hi => (w.2.2.2.2.2.1.2 i hi).1) w4 h8 hN
      refine ⟨Y3, ?_, ?_, r2.high (fun y hy => by omega)⟩
      · rw [if_neg (nI_nle (by omega) (by omega) : ¬ nI D ≤ 0), zr144_24, Option.bind_some, r1, Option.bind_some]
      · rw [if_neg d0]
        exact m3.undo (r2.mono (fun y hy => by show _ ∨ _; omega) (fun y hy => by show _ ∨ _; omega)) r3
  obtain ⟨Y3, e5, m4, h5⟩ := rem
  obtain ⟨Y4, e6, m5, h6, -⟩ := M_t1 (L := L) (N := N) (y := fl64 D m) m4
  obtain ⟨Y5, e7, m6, h7, -⟩ := M_t2 (L := L) (N := N) (z := (nI (sumN (vT v') (vN v'))).toInt64) m5
  have eW : f_c11_waters N 145 (mk L Y4) = some (nI (sumN (vT v') (vN v'))) := M_waters MA_145 m5.2.1 wv'.1 hN
  refine ⟨Y5, ?_, highTr h1 (highTr (f3.high (fun y hy => by omega)) (highTr h4 (highTr h5 (highTr h6 h7)))), m6⟩
  unfold f_c11_year
  rw [zc144, Option.bind_some, zs144_10, Option.bind_some, eB, Option.bind_some, e1, Option.bind_some]
  dsimp only
  rw [e2, Option.bind_some]
  dsimp only
  rw [i10, zr144_0, Option.bind_some, zr144_24, Option.bind_some, e3, Option.bind_some, e4, Option.bind_some]
  dsimp only
  rw [e5, Option.bind_some, zs144_9, Option.bind_some, fl64_m hD hm, e6, Option.bind_some, zr144_0, Option.bind_some, eW, Option.bind_some, e7, Option.bind_some]
theorem A_year (w : WA A) (q : CA S A) (m : MA S A c) (hN : 900 ≤ N) : Agr L S c (f_c10_year N 10) (f_c11_year N 144) := by
  obtain ⟨g, v, x, l, u, n, k, h⟩ := A
  have wg : WG g := w.1
  have wv : WV g v := w.2.1
  have h8 := wv.1
  have hx : XOk x 80 := w.2.2.1
  have hx80 := hx.1
  have ct : CT S x := q.2.2.1
  have cs : CStr S := q.2.2.2.2.1.2.2.2.2.2.2
  have wt : WA (g, v, (0, x.2), l, u, n, k, h) := ⟨w.1, w.2.1, ⟨by show 0 ≤ 80; omega, fun j hj => by cases (show j < 0 from hj)⟩, w.2.2.2⟩
  obtain ⟨code, hc⟩ : ∃ code, ruleCode u.2 u.1 = .inl code := w.2.2.2.2.1.2
  obtain ⟨eF, eT⟩ := C_faultY (L := L) (N := N) ct hx cs hN
  rcases y_or x with ⟨d, p, hd, hp1, hp⟩ | ⟨d, hd, hp⟩
  · obtain ⟨e3, q3⟩ := C_cut (L := L) (N := N) (d := 0) q hx80 (by omega)
    refine AgrI (c' := c) m (r := -1 - nI p) (S1 := stI S 11 1 (nI 0)) ?_ (Fr.stI (by unfold lowC; omega)) q3 wt (by omega) (fun T mt => M_year_f mt w hd hp1 hp hN)
    unfold f_c10_year
    rw [zc10, Option.bind_some, eF d p hd hp, Option.bind_some, iltz (by omega), zr10_0, Option.bind_some, show f_c8_cutTo N 11 0 (mk L S) = _ from e3, Option.bind_some]
  · obtain ⟨D, v', hD, hy, hs, he⟩ := yOut_ex code g x v d
    obtain ⟨S1, e1, q1, b1, f1⟩ := C_before (L := L) (N := N) q w hN
    obtain ⟨wv', S2, e2, f2, q2⟩ := C_yLoop (L := L) (N := N) q1 w hc hd hp hD hy hs he hN
    have b2 : CV S2 25 v := b1.fr f2 (fun y h1 h2 => by show ¬ (_ ∨ _); omega)
    have l2 : Fr lowC S1 S2 := f2.low (fun y hy => by have z : (19 ≤ y ∧ y ≤ 19 + 5) ∨ y = 38 ∨ y = 39 ∨ y = 139 ∨ y = 143 := hy; omega)
    obtain ⟨e3, q3⟩ := C_cut (L := L) (N := N) (d := 0) q2 hx80 (by omega)
    have b3 : CV (stI S2 11 1 (nI 0)) 25 v := b2.fr (Fr.stI (A := fun y => y = 11) rfl) (fun y a b => by omega)
    have l3 : Fr lowC S2 (stI S2 11 1 (nI 0)) := Fr.stI (by unfold lowC; omega)
    have wN : WA (g, v', (0, x.2), l, u, (if D = 0 then n else uPush n v), k, h) := by
      by_cases d0 : D = 0
      · rw [if_pos d0]
        exact ⟨wt.1, wv', wt.2.2⟩
      · rw [if_neg d0]
        exact wt.act wv'
    have push : ∃ S4, (if nI D ≤ 0 then some (mk L (stI S2 11 1 (nI 0))) else (gfR (mk L (stI S2 11 1 (nI 0))) 10 10 7).bind fun v31 => (gfR (mk L (stI S2 11 1 (nI 0))) 10 10 4).bind fun v32 => (f_c5_push N v31 v32 (mk L (stI S2 11 1 (nI 0)))).bind fun q33 => some q33) = some (mk L S4) ∧ CA S4 (g, v', (0, x.2), l, u, (if D = 0 then n else uPush n v), k, h) ∧ Fr lowC (stI S2 11 1 (nI 0)) S4 := by
      by_cases d0 : D = 0
      · refine ⟨_, ?_, ?_, Fr.refl⟩
        · rw [if_pos (show nI D ≤ 0 by rw [d0]; decide)]
        · rw [if_pos d0]
          exact q3
      · obtain ⟨S4, r1, r2, r3⟩ := C_push (L := L) (N := N) q3.2.2.2.2.2.1 b3 h8 hN
        refine ⟨S4, ?_, ?_, r2.low (fun y hy => by have z : y = 40 ∨ y = 41 ∨ (44 ≤ y ∧ y ≤ 115) := hy; omega)⟩
        · rw [if_neg (nI_nle (by omega) (by omega) : ¬ nI D ≤ 0), zr10_7, Option.bind_some, zr10_4, Option.bind_some, r1, Option.bind_some]
        · rw [if_neg d0]
          exact q3.undo (r2.mono (fun y hy => by have z : y = 40 ∨ y = 41 ∨ (44 ≤ y ∧ y ≤ 115) := hy; show _ ∨ _; omega)) r3
    obtain ⟨S4, e4, q4, f4⟩ := push
    have eW : f_c7_waterOfAll N 19 (mk L S4) = some (nI (sumN (vT v') (vN v'))) := C_waters SA_19 q4.2.1 wv'.1 hN
    obtain ⟨S5, e5, q5, f5⟩ := C_tell2A (L := L) (N := N) (r := nI D) (y := fl64 D d) (z := (nI (sumN (vT v') (vN v'))).toInt64) q4
    refine AgrI (c' := c) m (r := nI D) (S1 := S5) ?_ (lowTr f1 (lowTr l2 (lowTr l3 (lowTr f4 f5)))) q5 (wN.rw (by show 2 ≤ 8; omega)) (by omega) (fun T mt => M_year_t mt w wv' hc hd hp hD hy hs he hN)
    unfold f_c10_year
    rw [zc10, Option.bind_some, eT d hd hp, Option.bind_some, if_pos n1lt0, zr10_4, Option.bind_some, zr10_3, Option.bind_some, e1, Option.bind_some, e2, Option.bind_some]
    dsimp only
    rw [zr10_0, Option.bind_some, show f_c8_cutTo N 11 0 (mk L S2) = _ from e3, Option.bind_some]
    dsimp only
    rw [e4, Option.bind_some, zr10_3, Option.bind_some, eW, Option.bind_some, fl64_c, e5, Option.bind_some]
end YEARR
