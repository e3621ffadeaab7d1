/-! CALLS: route -/
section ROUTE
variable {L N : Nat} {S T : gS} {c : Nat} {g : pG} {v : pV} {x : pX} {l : List Int64} {u : pX} {n : pN} {k : Nat → Option pV} {h : pH} {A : pA} {r t : Nat}
/-- the next one of a well from which it is one step more -/
noncomputable def nxt (g : pG) (v : pV) (r t m a : Nat) : Nat := (fstN (bDec (fun j => rL (vN v) (pD g v) r t m j ∧ pD g v a j ≤ r)) 0 (vN v)).getD 0
theorem bDec_iff {p : Nat → Prop} {i : Nat} : bDec p i = true ↔ p i := by
  rcases Classical.em (p i) with y | y
  · rw [bDec_t y]; exact ⟨fun _ => y, fun _ => rfl⟩
  · rw [bDec_f y]; exact ⟨fun z => (by cases z), fun z => absurd z y⟩
theorem nxt_ok {m a : Nat} (h : rL (vN v) (pD g v) r t (m + 1) a) : fstN (bDec (fun j => rL (vN v) (pD g v) r t m j ∧ pD g v a j ≤ r)) 0 (vN v) = some (nxt g v r t m a) ∧ nxt g v r t m a < vN v ∧ rL (vN v) (pD g v) r t m (nxt g v r t m a) ∧ pD g v a (nxt g v r t m a) ≤ r ∧ ∀ j, j < nxt g v r t m a → ¬ (rL (vN v) (pD g v) r t m j ∧ pD g v a j ≤ r) := by
  obtain ⟨j, h1, h2, h3⟩ := rL_down h
  cases hs : fstN (bDec (fun j => rL (vN v) (pD g v) r t m j ∧ pD g v a j ≤ r)) 0 (vN v) with
  | none =>
    have := fstN_none _ _ hs j (by omega) (by omega)
    rw [bDec_t (p := fun j => rL (vN v) (pD g v) r t m j ∧ pD g v a j ≤ r) ⟨h3, h2⟩] at this
    cases this
  | some w =>
    have e : nxt g v r t m a = w := by unfold nxt; rw [hs]; rfl
    obtain ⟨-, w1, w2, w3⟩ := fstN_some _ _ _ hs
    have w2 := bDec_iff.mp w2
    rw [e]
    refine ⟨rfl, by omega, w2.1, w2.2, fun j' hj' z => ?_⟩
    have := w3 j' (by omega) hj'
    rw [bDec_t (p := fun j => rL (vN v) (pD g v) r t m j ∧ pD g v a j ≤ r) z] at this
    cases this
noncomputable def pth (g : pG) (v : pV) (r t M a : Nat) : Nat → Nat
  | 0 => a
  | e + 1 => nxt g v r t (M - (e + 1)) (pth g v r t M a e)
theorem pth_ok {M a : Nat} (ha : a < vN v) (h : rL (vN v) (pD g v) r t M a) : ∀ e, e ≤ M → pth g v r t M a e < vN v ∧ rL (vN v) (pD g v) r t (M - e) (pth g v r t M a e) := by
  intro e
  induction e with
  | zero => exact fun _ => ⟨ha, h⟩
  | succ e ih =>
    intro he
    obtain ⟨-, h2⟩ := ih (by omega)
    rw [show M - e = (M - (e + 1)) + 1 by omega] at h2
    obtain ⟨-, w1, w2, -, -⟩ := nxt_ok h2
    exact ⟨w1, w2⟩
theorem scD_iff {R i : Nat} (hR : R < 1000) (hi : i < vN v) (h8 : vN v ≤ 8) (h : scD S g v r t) : S.1 132 i = nI R ↔ rL (vN v) (pD g v) r t R i := by
  constructor
  · intro e
    rcases Classical.em (∃ m, rL (vN v) (pD g v) r t m i) with ⟨m, y2⟩ | y
    · have h1 := rL_lt hi y2
      have := (h i hi).1 m y2
      rw [this] at e
      have := (nI_eq (by omega) (by omega)).mp e
      rw [← this]
      exact y2
    · have := (h i hi).2 (fun m h2 => y ⟨m, h2⟩)
      rw [this] at e
      exact absurd e.symm (nI_m1 (by omega))
  · exact fun e => (h i hi).1 R e
theorem lyD_iff {R i : Nat} (hR : R < 1000) (hi : i < vN v) (h8 : vN v ≤ 8) (h : lyD T g v r t) : T.1 162 i = nI (R + 1) ↔ rL (vN v) (pD g v) r t R i := by
  constructor
  · intro e
    rcases Classical.em (∃ m, rL (vN v) (pD g v) r t m i) with ⟨m, y2⟩ | y
    · have h1 := rL_lt hi y2
      have := (h i hi).1 m y2
      rw [this] at e
      have := (nI_eq (by omega) (by omega)).mp e
      rw [show R = m by omega]
      exact y2
    · have := (h i hi).2 (fun m h2 => y ⟨m, h2⟩)
      rw [this] at e
      have := (nI_eq (by omega) (by omega)).mp e
      omega
  · exact fun e => (h i hi).1 R e
theorem C_addB {y : Int64} (q : CA S (g, v, x, l, u, n, k, h)) (hl : l.length < 8) : ∃ S1, f_c4_add N 13 y (mk L S) = some (mk L S1) ∧ CA S1 (g, v, x, l ++ [y], u, n, k, h) ∧ Fr pRow S S1 ∧ Fr lowC S S1 := by
  obtain ⟨S1, e1, e2, e3⟩ := C_addR (L := L) (N := N) (S := S) (y := y) q.2.2.2.1 hl
  exact ⟨S1, e1, q.row (e2.mono (fun y hy => Or.inr hy)) e3, e2, e2.low (fun y hy => by have hy2 : y = 13 ∨ y = 14 := hy; omega)⟩
theorem C_ro92 {M a : Nat} (q : CA S (g, v, x, rowF (pth g v r t M a) 1, u, n, k, h)) (wg : WG g) (wv : WV g v) (hD : scD S g v r t) (hr : r < 1000) (ha : a < vN v) (hM : rL (vN v) (pD g v) r t M a) (hN : 900 ≤ N) : ∃ S1, lp_c10_route_92 N 10 (nI r) N (nI a) (nI M + -1) (mk L S) = some (mk L S1) ∧ CA S1 (g, v, x, rowF (pth g v r t M a) (M + 1), u, n, k, h) ∧ Fr lowC S S1 := by
  have h8 := wv.1
  have hM2 := rL_lt ha hM
  have e : ∃ z, lp_c10_route_92 N 10 (nI r) N (nI (pth g v r t M a 0)) (nI (M - 0) + -1) (mk L S) = some z ∧ ∃ S1, z = mk L S1 ∧ CA S1 (g, v, x, rowF (pth g v r t M a) (M + 1), u, n, k, h) ∧ Fr lowC S S1 := by
    refine lp_inv (Lp := fun kk (s : gS) e => lp_c10_route_92 N 10 (nI r) kk (nI (pth g v r t M a e)) (nI (M - e) + -1) (mk L s)) (n := M) (P := fun e s => CA s (g, v, x, rowF (pth g v r t M a) (e + 1), u, n, k, h) ∧ scD s g v r t ∧ Fr lowC S s) (fun kk e s he hs => Or.inr ?_) (fun kk s hs => ?_) M N 0 S (by omega) (by omega) ⟨q, hD, Fr.refl⟩
    · obtain ⟨qs, ds, fs⟩ := hs
      obtain ⟨o1, o2⟩ := pth_ok ha hM e (by omega)
      have cg : CG s g := qs.1
      have cv : CV s 19 v := qs.2.1
      rw [show M - e = (M - (e + 1)) + 1 by omega] at o2
      obtain ⟨n1, n2, n3, n4, n5⟩ := nxt_ok o2
      have eN := C_next (L := L) (N := N) (i := pth g v r t M a e) (r := r) (R := M - (e + 1)) cg cv wg wv o1 hr hN
      rw [fstN_ext (p' := bDec (fun j => rL (vN v) (pD g v) r t (M - (e + 1)) j ∧ pD g v (pth g v r t M a e) j ≤ r)) (vN v) 0 (fun j _ hj => by
        have e1 := scD_iff (R := M - (e + 1)) (i := j) (by omega) (by omega) h8 ds
        rcases Classical.em (rL (vN v) (pD g v) r t (M - (e + 1)) j ∧ pD g v (pth g v r t M a e) j ≤ r) with y | y
        · rw [bDec_t (p := fun j => rL (vN v) (pD g v) r t (M - (e + 1)) j ∧ pD g v (pth g v r t M a e) j ≤ r) y, decide_eq_true ⟨e1.mpr y.1, y.2⟩]
        · rw [bDec_f (p := fun j => rL (vN v) (pD g v) r t (M - (e + 1)) j ∧ pD g v (pth g v r t M a e) j ≤ r) y, decide_eq_false (fun z => y ⟨e1.mp z.1, z.2⟩)]), n1] at eN
      obtain ⟨s2, e2, q2, p2, f2⟩ := C_addB (L := L) (N := N) (y := (nI (nxt g v r t (M - (e + 1)) (pth g v r t M a e))).toInt64) qs (by rw [rowF_len]; omega)
      have ds2 : scD s2 g v r t := fun i hi => by
        have e5 : s2.1 132 i = s.1 132 i := p2.i (by show ¬ (132 = 13 ∨ 132 = 14); omega) i
        exact ⟨fun m hm => e5.trans ((ds i hi).1 m hm), fun hm => e5.trans ((ds i hi).2 hm)⟩
      refine ⟨s2, ?_, q2, ds2, lowTr fs f2⟩
      show lp_c10_route_92 N 10 (nI r) (kk + 1) (nI (pth g v r t M a e)) (nI (M - e) + -1) (mk L s) = lp_c10_route_92 N 10 (nI r) kk (nI (nxt g v r t (M - (e + 1)) (pth g v r t M a e))) (nI (M - (e + 1)) + -1) (mk L s2)
      rw [show M - e = (M - (e + 1)) + 1 by omega, nI_dec, lp_c10_route_92.eq_2, iltz (by omega), zr10_3, Option.bind_some, C_has_t SA_19 cv o1 h8, Option.bind_some, i10, zr10_9, Option.bind_some, Option.bind_some, zr10_2, Option.bind_some, eN, Option.bind_some, zr10_1, Option.bind_some, show oI (some (nxt g v r t (M - (e + 1)) (pth g v r t M a e))) = nI (nxt g v r t (M - (e + 1)) (pth g v r t M a e)) from rfl, e2, Option.bind_some]
    · obtain ⟨qs, ds, fs⟩ := hs
      refine ⟨mk L s, ?_, s, rfl, qs, fs⟩
      show lp_c10_route_92 N 10 (nI r) (kk + 1) (nI (pth g v r t M a M)) (nI (M - M) + -1) (mk L s) = _
      rw [Nat.sub_self, lp_c10_route_92.eq_2, if_pos (show nI 0 + -1 < 0 by decide)]
  obtain ⟨z, e, S1, er, e2, e3⟩ := e
  rw [er] at e
  exact ⟨S1, e, e2, e3⟩
theorem M_ro77 {w a : Nat} (cg : MG T g) (cv : MW T 145 v) (wg : WG g) (wv : WV g v) (hD : lyD T g v r t) (hr : r < 1000) (ha : a < vN v) (hM : rL (vN v) (pD g v) r t (w + 1) a) (hN : 900 ≤ N) : lp_c11_route_77 N 144 (nI r) (nI a) (mk L T) N 0 = some (nI (nxt g v r t w a)) := by
  have h8 := wv.1
  have hw := rL_lt ha hM
  obtain ⟨n1, n2, n3, n4, n5⟩ := nxt_ok hM
  have ca : T.1 162 a = nI (w + 1 + 1) := (hD a ha).1 (w + 1) hM
  generalize nxt g v r t w a = j0 at *
  have e : lp_c11_route_77 N 144 (nI r) (nI a) (mk L T) N (nI 0) = some (nI j0) := by
    refine lp_seq (Lp := fun kk (_ : Unit) j => lp_c11_route_77 N 144 (nI r) (nI a) (mk L T) kk (nI j)) (sp := fun _ => ()) (n := j0) (fun kk j hj => ?_) (fun kk => ?_) (by omega)
    · have hj2 : j < vN v := by omega
      have l1 := pD_lt wg wv ha hj2
      show lp_c11_route_77 N 144 (nI r) (nI a) (mk L T) (kk + 1) (nI j) = lp_c11_route_77 N 144 (nI r) (nI a) (mk L T) kk (nI (j + 1))
      rw [lp_c11_route_77.eq_2]
      by_cases z : j = a
      · rw [ieq_t z, nI_1]
      · rw [ieq_f z (by omega) (by omega), zr144_0, Option.bind_some, zg145 (by omega), Option.bind_some, Option.bind_some, zg145 (by omega), Option.bind_some, (cv.2.2.2 a ha).1, (cv.2.2.2 j hj2).1, M_apart cg wg wv ha hj2, Option.bind_some]
        by_cases y : r < pD g v a j
        · rw [ilt_t y (by omega), nI_1]
        · have nj : ¬ T.1 162 j = nI (w + 1) := fun e => n5 j hj ⟨(lyD_iff (by omega) hj2 h8 hD).mp e, by omega⟩
          rw [ilt_f (by omega) (by omega), zr144_31, Option.bind_some, zg162 (by omega), Option.bind_some, Option.bind_some, zg162 (by omega), Option.bind_some, ca, nI_pred, if_neg nj, nI_1]
    · have ne : j0 ≠ a := fun e => by
        rw [e] at n3
        have := rL_uni n3 hM
        omega
      have cj : T.1 162 j0 = nI (w + 1) := (hD j0 n2).1 w n3
      show lp_c11_route_77 N 144 (nI r) (nI a) (mk L T) (kk + 1) (nI j0) = some (nI j0)
      rw [lp_c11_route_77.eq_2, ieq_f ne (by omega) (by omega), zr144_0, Option.bind_some, zg145 (by omega), Option.bind_some, Option.bind_some, zg145 (by omega), Option.bind_some, (cv.2.2.2 a ha).1, (cv.2.2.2 j0 n2).1, M_apart cg wg wv ha n2, Option.bind_some, ilt_f n4 (by omega), zr144_31, Option.bind_some, zg162 (by omega), Option.bind_some, Option.bind_some, zg162 (by omega), Option.bind_some, ca, nI_pred, cj, if_pos rfl]
  exact e
theorem M_ro68 {M a : Nat} (q : MA T (g, v, x, rowF (pth g v r t M a) 1, u, n, k, h) c) (wg : WG g) (wv : WV g v) (hD : lyD T g v r t) (hr : r < 1000) (ht : t < vN v) (ha : a < vN v) (hM : rL (vN v) (pD g v) r t M a) (hN : 900 ≤ N) : ∃ T1, lp_c11_route_68 N 144 (nI t) (nI r) N (nI a) (mk L T) = some (mk L T1) ∧ MA T1 (g, v, x, rowF (pth g v r t M a) (M + 1), u, n, k, h) c ∧ lyD T1 g v r t ∧ Fr highM T T1 := by
  have h8 := wv.1
  have hM2 := rL_lt ha hM
  have e : ∃ z, lp_c11_route_68 N 144 (nI t) (nI r) N (nI (pth g v r t M a 0)) (mk L T) = some z ∧ ∃ T1, z = mk L T1 ∧ MA T1 (g, v, x, rowF (pth g v r t M a) (M + 1), u, n, k, h) c ∧ lyD T1 g v r t ∧ Fr highM T T1 := by
    refine lp_inv (Lp := fun kk (s : gS) e => lp_c11_route_68 N 144 (nI t) (nI r) kk (nI (pth g v r t M a e)) (mk L s)) (n := M) (P := fun e s => MA s (g, v, x, rowF (pth g v r t M a) (e + 1), u, n, k, h) c ∧ lyD s g v r t ∧ Fr highM T s) (fun kk e s he hs => Or.inr ?_) (fun kk s hs => ?_) M N 0 T (by omega) (by omega) ⟨q, hD, Fr.refl⟩
    · obtain ⟨qs, ds, fs⟩ := hs
      obtain ⟨o1, o2⟩ := pth_ok ha hM e (by omega)
      rw [show M - e = (M - (e + 1)) + 1 by omega] at o2
      have eN := M_ro77 (L := L) (N := N) qs.1 qs.2.1 wg wv ds hr o1 o2 hN
      obtain ⟨s2, e2, q2, m2, f2⟩ := M_tellA (L := L) (N := N) (y := (nI (nxt g v r t (M - (e + 1)) (pth g v r t M a e))).toInt64) qs (by rw [rowF_len]; omega)
      have ds2 : lyD s2 g v r t := fun i hi => by
        have e5 : s2.1 162 i = s.1 162 i := m2.i (by omega) (by show ¬ (162 = 149); omega) i
        exact ⟨fun m hm => e5.trans ((ds i hi).1 m hm), fun hm => e5.trans ((ds i hi).2 hm)⟩
      have ne : pth g v r t M a e ≠ t := fun z => by
        rw [z] at o2
        have := rL_uni o2 (show rL (vN v) (pD g v) r t 0 t from ⟨rfl, fun k hk => by omega⟩)
        omega
      refine ⟨s2, ?_, q2, ds2, highTr fs f2⟩
      show lp_c11_route_68 N 144 (nI t) (nI r) (kk + 1) (nI (pth g v r t M a e)) (mk L s) = lp_c11_route_68 N 144 (nI t) (nI r) kk (nI (nxt g v r t (M - (e + 1)) (pth g v r t M a e))) (mk L s2)
      rw [lp_c11_route_68.eq_2, ieq_f ne (by omega) (by omega), eN, Option.bind_some, e2, Option.bind_some]
    · obtain ⟨qs, ds, fs⟩ := hs
      obtain ⟨o1, o2⟩ := pth_ok ha hM M (Nat.le_refl _)
      rw [Nat.sub_self] at o2
      have e0 : pth g v r t M a M = t := o2.1
      refine ⟨mk L s, ?_, s, rfl, qs, ds, fs⟩
      show lp_c11_route_68 N 144 (nI t) (nI r) (kk + 1) (nI (pth g v r t M a M)) (mk L s) = _
      rw [lp_c11_route_68.eq_2, ieq_t e0]
  obtain ⟨z, e, S1, er, e2, e3⟩ := e
  rw [er] at e
  exact ⟨S1, e, e2, e3⟩
theorem A_route {p y z : Int32} (w : WA A) (q : CA S A) (m : MA S A c) (hN : 900 ≤ N) : Agr L S c (f_c10_route N 10 p y z) (f_c11_route N 144 p y z) := by
  obtain ⟨g, v, x, l, u, n, k, h⟩ := A
  have wv : WV g v := w.2.1
  have wg : WG g := w.1
  have h8 : vN v ≤ 8 := wv.1
  have cv : CV S 19 v := q.2.1
  have cg : CG S g := q.1
  rcases (in_or (n := vN v) p (by omega)).symm with hp | ⟨a, ha, rfl⟩
  · refine AgrR w q m (r := -1) ?_ (fun T _ t1 => ?_)
    · unfold f_c10_route
      rw [zc10, Option.bind_some, zr10_3, Option.bind_some, C_has_f SA_19 cv hp, Option.bind_some, i00]
    · unfold f_c11_route
      rw [zc144, Option.bind_some, zs144_10, Option.bind_some, M_isWell_f t1.2.1 h8 hp, Option.bind_some, i00]
  rcases (in_or (n := vN v) y (by omega)).symm with hy | ⟨b, hb, rfl⟩
  · refine AgrR w q m (r := -1) ?_ (fun T _ t1 => ?_)
    · unfold f_c10_route
      rw [zc10, Option.bind_some, zr10_3, Option.bind_some, C_has_t SA_19 cv ha h8, Option.bind_some, i10, Option.bind_some, C_has_f SA_19 cv hy, Option.bind_some, i00]
    · unfold f_c11_route
      rw [zc144, Option.bind_some, zs144_10, Option.bind_some, M_isWell_t t1.2.1 h8 ha, Option.bind_some, i10, M_isWell_f t1.2.1 h8 hy, Option.bind_some, i00]
  rcases (show (z < 0 ∨ (¬ z < 0 ∧ ¬ z ≤ 10)) ∨ ∃ d, 0 ≤ d ∧ d ≤ 10 ∧ z = nI d from cas z 0 10 (by omega) (by omega)) with hz | ⟨r, -, r2, rfl⟩
  · refine AgrR w q m (r := -1) ?_ (fun T _ t1 => ?_)
    · unfold f_c10_route
      rw [zc10, Option.bind_some, zr10_3, Option.bind_some, C_has_t SA_19 cv ha h8, Option.bind_some, i10, Option.bind_some, C_has_t SA_19 cv hb h8, Option.bind_some, i10, C_isFar_f hz, Option.bind_some, i00]
    · unfold f_c11_route
      rw [zc144, Option.bind_some, zs144_10, Option.bind_some, M_isWell_t t1.2.1 h8 ha, Option.bind_some, i10, M_isWell_t t1.2.1 h8 hb, Option.bind_some, i10, M_inF (N := N) hz, Option.bind_some, i00]
  have ei : ∀ T : gS, f_c11_in N (nI r) 0 10 (mk L T) = some 1 := fun T => M_inT (lo := 0) (hi := 10) (by omega) r2 (by omega)
  obtain ⟨S1, e1, f1, d1⟩ := C_count (L := L) (N := N) (r := r) (t := b) cg cv wg wv (by omega) hb hN
  have q1 : CA S1 (g, v, x, l, u, n, k, h) := q.fr f1 (fun y hy => by unfold sC; omega)
  have l1 : Fr lowC S S1 := f1.low (fun y hy => by omega)
  rcases Classical.em (∃ m, rL (vN v) (pD g v) r b m a) with ⟨M, hM⟩ | hno
  · have hM2 := rL_lt ha hM
    have ca : S1.1 132 a = nI M := (d1 a ha).1 M hM
    obtain ⟨S2, e2, f2, r2'⟩ := C_clear (L := L) (N := N) (S := S1)
    have q2 : CA S2 (g, v, x, [], u, n, k, h) := q1.row (f2.mono (fun y hy => Or.inr hy)) r2'
    have l2 : Fr lowC S1 S2 := f2.low (fun y hy => by have hy2 : y = 13 ∨ y = 14 := hy; omega)
    obtain ⟨S3, e3, q3, f3, l3⟩ := C_addB (L := L) (N := N) (y := (nI a).toInt64) q2 (by show 0 < 8; omega)
    have d3 : scD S3 g v r b := fun i hi => by
      have e5 : S3.1 132 i = S1.1 132 i := (f3.i (by show ¬ (132 = 13 ∨ 132 = 14); omega) i).trans (f2.i (by show ¬ (132 = 13 ∨ 132 = 14); omega) i)
      exact ⟨fun m hm => e5.trans ((d1 i hi).1 m hm), fun hm => e5.trans ((d1 i hi).2 hm)⟩
    obtain ⟨S4, e4, q4, l4⟩ := C_ro92 (L := L) (N := N) (M := M) (a := a) (t := b) q3 wg wv d3 (by omega) ha hM hN
    refine AgrI (c' := c) m (r := nI (M + 1)) (S1 := S4) ?_ (lowTr l1 (lowTr l2 (lowTr l3 l4))) q4 (w.rw (by rw [rowF_len]; omega)) (by omega) (fun T mt => ?_)
    · unfold f_c10_route
      rw [zc10, Option.bind_some, zr10_3, Option.bind_some, C_has_t SA_19 cv ha h8, Option.bind_some, i10, Option.bind_some, C_has_t SA_19 cv hb h8, Option.bind_some, i10, C_isFar_t r2, Option.bind_some, i10, zr10_9, Option.bind_some, Option.bind_some, zr10_2, Option.bind_some, e1, Option.bind_some, zr10_9, Option.bind_some, zr131_0, Option.bind_some, zg132 (by omega), Option.bind_some, ca, izle (by omega), zr10_1, Option.bind_some, e2, Option.bind_some, zr10_1, Option.bind_some, e3, Option.bind_some, show nI M - 1 = nI M + -1 from Int32.sub_eq_add_neg _ _, e4, Option.bind_some, nI_1]
    · have t1 := mt.thr
      obtain ⟨T1, g1, g2, g3⟩ := M_layS (L := L) (N := N) (r := r) (t := b) t1.1 t1.2.1 wg wv (by omega) hb hN
      have t2 : MA T1 (g, v, x, l, u, n, k, h) c := t1.fm g2 (fun y hy => by unfold sM; omega) (fun _ z => z.elim)
      have cb : T1.1 162 a = nI (M + 1) := (g3 a ha).1 M hM
      obtain ⟨T2, g4, t3, g5, h3⟩ := M_tellA (L := L) (N := N) (y := (nI a).toInt64) t2.clr (by show 0 < 8; omega)
      have d4 : lyD T2 g v r b := fun i hi => by
        have e5 : T2.1 162 i = T1.1 162 i := (g5.i (by omega) (by show ¬ (162 = 149); omega) i).trans (rdI_ne (by omega))
        exact ⟨fun m hm => e5.trans ((g3 i hi).1 m hm), fun hm => e5.trans ((g3 i hi).2 hm)⟩
      obtain ⟨T3, g6, t4, d5, h4⟩ := M_ro68 (L := L) (N := N) (M := M) (a := a) (t := b) t3 wg wv d4 (by omega) hb ha hM hN
      have cb3 : T3.1 162 a = nI (M + 1) := (d5 a ha).1 M hM
      have lt6 : nI (M + 1) < 1000000 := nI_lt (b := 1000000) (by omega) (by omega)
      refine ⟨T3, ?_, highTr thrH (highTr (g2.high (fun y hy => by omega)) (highTr clrH (highTr h3 h4))), t4⟩
      unfold f_c11_route
      rw [zc144, Option.bind_some, zs144_10, Option.bind_some, M_isWell_t t1.2.1 h8 ha, Option.bind_some, i10, M_isWell_t t1.2.1 h8 hb, Option.bind_some, i10, ei, Option.bind_some, i10, g1, Option.bind_some, zr144_31, Option.bind_some, zg162 (by omega), Option.bind_some, cb, if_pos lt6, zs144_9, Option.bind_some, g4, Option.bind_some, g6, Option.bind_some, zr144_31, Option.bind_some, zg162 (by omega), Option.bind_some, cb3]
  · have hno2 : ∀ m, ¬ rL (vN v) (pD g v) r b m a := fun m hm => hno ⟨m, hm⟩
    have ca : S1.1 132 a = -1 := (d1 a ha).2 hno2
    refine AgrI (c' := c) m (r := -2) (S1 := S1) ?_ l1 q1 w (by omega) (fun T mt => ?_)
    · unfold f_c10_route
      rw [zc10, Option.bind_some, zr10_3, Option.bind_some, C_has_t SA_19 cv ha h8, Option.bind_some, i10, Option.bind_some, C_has_t SA_19 cv hb h8, Option.bind_some, i10, C_isFar_t r2, Option.bind_some, i10, zr10_9, Option.bind_some, Option.bind_some, zr10_2, Option.bind_some, e1, Option.bind_some, zr10_9, Option.bind_some, zr131_0, Option.bind_some, zg132 (by omega), Option.bind_some, ca, if_neg (show ¬ (0 : Int32) ≤ -1 by decide)]
    · have t1 := mt.thr
      obtain ⟨T1, g1, g2, g3⟩ := M_layS (L := L) (N := N) (r := r) (t := b) t1.1 t1.2.1 wg wv (by omega) hb hN
      have t2 : MA T1 (g, v, x, l, u, n, k, h) c := t1.fm g2 (fun y hy => by unfold sM; omega) (fun _ z => z.elim)
      have cb : T1.1 162 a = nI 1000000 := (g3 a ha).2 hno2
      refine ⟨T1, ?_, highTr thrH (g2.high (fun y hy => by omega)), t2⟩
      unfold f_c11_route
      rw [zc144, Option.bind_some, zs144_10, Option.bind_some, M_isWell_t t1.2.1 h8 ha, Option.bind_some, i10, M_isWell_t t1.2.1 h8 hb, Option.bind_some, i10, ei, Option.bind_some, i10, g1, Option.bind_some, zr144_31, Option.bind_some, zg162 (by omega), Option.bind_some, cb, if_neg (show ¬ nI 1000000 < 1000000 by decide)]
end ROUTE
