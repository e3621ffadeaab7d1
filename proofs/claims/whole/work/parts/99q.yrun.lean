/-! CALLS: year: the acts one after another, the end -/
section YEARQ
variable {L N : Nat} {S T X : gS} {c : Nat} {g : pG} {v v0 v' : pV} {x x' : pX} {l : List Int64} {u : pX} {n : pN} {k : Nat → Option pV} {h : pH} {A : pA} {code : List Int32}
def yVs (code : List Int32) (g : pG) (x : pX) (v : pV) : Nat → Option pV
  | 0 => some v
  | i + 1 => (yVs code g x v i).bind fun w => yAct code g w x (yA x i)
theorem yVs_s {i : Nat} (h : yVs code g x v i = some v') : yVs code g x v (i + 1) = yAct code g v' x (yA x i) := by
  show (yVs code g x v i).bind _ = _
  rw [h, Option.bind_some]
theorem yOut_ex (code : List Int32) (g : pG) (x : pX) (v : pV) (m : Nat) : ∃ D v', D ≤ m ∧ yVs code g x v D = some v' ∧ (∀ i, i < D → ∃ w, yVs code g x v (i + 1) = some w) ∧ (D = m ∨ (D < m ∧ yVs code g x v (D + 1) = none)) := by
  have get : ∀ D, (∀ i, i < D → ∃ w, yVs code g x v (i + 1) = some w) → ∃ v', yVs code g x v D = some v' := by
    intro D hD
    match D, hD with
    | 0, _ => exact ⟨v, rfl⟩
    | d + 1, hD => exact hD d (by omega)
  rcases firstF (fun i => ∃ w, yVs code g x v (i + 1) = some w) m with z | ⟨D, d1, d2, d3⟩
  · obtain ⟨v', e⟩ := get m z
    exact ⟨m, v', Nat.le_refl _, e, z, Or.inl rfl⟩
  · obtain ⟨v', e⟩ := get D d2
    refine ⟨D, v', by omega, e, d2, Or.inr ⟨d1, ?_⟩⟩
    cases y : yVs code g x v (D + 1) with
    | none => rfl
    | some w => exact absurd ⟨w, y⟩ d3
theorem C_yWalk {m : Nat} (q : CA S (g, v, x, l, u, n, k, h)) (w : WA (g, v, x, l, u, n, k, h)) (hc : ruleCode u.2 u.1 = .inl code) (hm : m ≤ 30) (hp : ∀ i, i < m → acOk x (yA x i)) (hN : 900 ≤ N) : ∀ d, d ≤ m → (∀ i, i < d → ∃ w, yVs code g x v (i + 1) = some w) → ∃ S' v', yVs code g x v d = some v' ∧ WV g v' ∧ (∀ kk, lp_c10_year_43 N 10 (kk + d) 0 0 0 0 (mk L S) = lp_c10_year_43 N 10 kk (nI d) (nI (yA x d)) 0 (nI d) (mk L S')) ∧ Fr (pS 19) S S' ∧ CA S' (g, v', x, l, u, n, k, h) := by
  have hx : XOk x 80 := w.2.2.1
  have hx80 := hx.1
  intro d
  induction d with
  | zero => exact fun _ _ => ⟨S, v, rfl, w.2.1, fun _ => rfl, Fr.refl, q⟩
  | succ d ih =>
    intro hd hv
    obtain ⟨S1, v1, y1, w1, e1, f1, q1⟩ := ih (by omega) (fun i hi => hv i (by omega))
    have hl := yA_le d (fun i hi => hp i (by omega))
    have ho := hp d (by omega)
    have ho1 := ho.1
    have ct : CT S1 x := q1.2.2.1
    obtain ⟨vd, hvd⟩ := hv d (by omega)
    rw [yVs_s y1] at hvd
    obtain ⟨S2, r, e2, f2, hr⟩ := C_act (L := L) (N := N) q1 ⟨w.1, w1, w.2.2⟩ hc ho hN
    rcases hr with ⟨v2, y2, hr, w2, q2⟩ | ⟨y2, -, -⟩
    · have ct2 : CT S2 x := q2.2.2.1
      have hb := hx.2 (yA x d) (by omega)
      obtain ⟨s1, s2⟩ := shI_r (t := x.2 (yA x d))
      refine ⟨S2, v2, (yVs_s y1).trans y2, w2, fun kk => ?_, f1.trans f2 (fun _ z => z) (fun _ z => z), q2⟩
      rw [show kk + (d + 1) = kk + 1 + d by omega, e1, lp_c10_year_43.eq_2, k60, ile_f (by omega) (by omega), zr10_0, Option.bind_some, zi11_1, Option.bind_some, ct.1, ile_f (by omega) (by omega), i00, e2, Option.bind_some]
      dsimp only
      rw [if_pos hr, zr10_0, Option.bind_some, C_atc_t (cap := 60) ct2 hx (by omega) (by omega) (by omega), Option.bind_some, C_shape hb, Option.bind_some, C_sLen s1 s2, Option.bind_some, shL_K, Option.bind_some]
      dsimp only
      rw [nI_1, show (1 : Int32) = nI 1 from rfl, nI_add, nI_add, ← Nat.add_assoc]
      rfl
    · rw [y2] at hvd
      cases hvd
def flC (D m : Nat) : Int32 := if D = m then 0 else 1
theorem C_yLoop {m D : Nat} (q : CA S (g, v, x, l, u, n, k, h)) (w : WA (g, v, x, l, u, n, k, h)) (hc : ruleCode u.2 u.1 = .inl code) (hm : m ≤ 30) (hg : yG x m) (hD : D ≤ m) (hy : yVs code g x v D = some v') (hs : ∀ i, i < D → ∃ w, yVs code g x v (i + 1) = some w) (he : D = m ∨ (D < m ∧ yVs code g x v (D + 1) = none)) (hN : 900 ≤ N) : WV g v' ∧ ∃ S', lp_c10_year_43 N 10 N 0 0 0 0 (mk L S) = some (nI D, flC D m, mk L S') ∧ Fr (pS 19) S S' ∧ CA S' (g, v', x, l, u, n, k, h) := by
  have hx : XOk x 80 := w.2.2.1
  have hx80 := hx.1
  obtain ⟨hp, hend⟩ := hg
  obtain ⟨S1, v1, y1, w1, e1, f1, q1⟩ := C_yWalk (L := L) (N := N) q w hc hm hp hN D hD hs
  have hv : v1 = v' := Option.some.inj (y1.symm.trans hy)
  rw [hv] at w1 q1 y1
  have ct : CT S1 x := q1.2.2.1
  have hl := yA_le D (fun i hi => hp i (by omega))
  refine ⟨w1, ?_⟩
  rcases he with he | ⟨he, hn⟩
  · refine ⟨S1, ?_, f1, q1⟩
    have e3 := e1 (N - D - 1 + 1)
    rw [show N - D - 1 + 1 + D = N by omega] at e3
    have ex : yA x D = x.1 := by rw [he]; exact hend
    rw [e3, lp_c10_year_43.eq_2, k60, ile_f (by omega) (by omega), zr10_0, Option.bind_some, zi11_1, Option.bind_some, ct.1, ile_t (by omega) (by omega)]
    unfold flC
    rw [if_pos he]
  · have ho := hp D he
    have ho1 := ho.1
    rw [yVs_s y1] at hn
    obtain ⟨S2, r, e2, f2, hr⟩ := C_act (L := L) (N := N) q1 ⟨w.1, w1, w.2.2⟩ hc ho hN
    rcases hr with ⟨v2, y2, -, -, -⟩ | ⟨y2, hr, q2⟩
    · rw [y2] at hn
      cases hn
    · have ct2 : CT S2 x := q2.2.2.1
      refine ⟨S2, ?_, f1.trans f2 (fun _ z => z) (fun _ z => z), q2⟩
      have e3 := e1 (N - D - 2 + 1 + 1)
      rw [show N - D - 2 + 1 + 1 + D = N by omega] at e3
      rw [e3, lp_c10_year_43.eq_2, k60, ile_f (by omega) (by omega), zr10_0, Option.bind_some, zi11_1, Option.bind_some, ct.1, ile_f (by omega) (by omega), i00, e2, Option.bind_some]
      dsimp only
      rw [if_neg hr, Option.bind_some]
      dsimp only
      rw [nI_1, lp_c10_year_43.eq_2, k60, ile_f (by omega) (by omega), zr10_0, Option.bind_some, zi11_1, Option.bind_some, ct2.1, ile_f (by omega) (by omega), i10]
      unfold flC
      rw [if_neg (by omega)]
def qY (y : Nat) : Prop := y = 145 ∨ y = 153 ∨ (157 ≤ y ∧ y ≤ 159)
def qZ (y : Nat) : Prop := y = 20 ∨ (11 ≤ y ∧ y ≤ 15)
theorem M_yWalk2 {m M : Nat} (mt : MA T (g, v, x', l, u, n, k, h) c) (wg : WG g) (wv : WV g v) (hc : ruleCode u.2 u.1 = .inl code) (hx : XOk x 80) (hm : m ≤ 30) (hM : M ≤ 30) (hmM : m ≤ M) (hp : ∀ i, i < m → acOk x (yA x i)) (ha : ∀ i, i < m → acC g x T i (yA x i)) (hN : 900 ≤ N) : ∀ d, d ≤ m → (∀ i, i < d → ∃ w, yVs code g x v (i + 1) = some w) → ∃ T' v', yVs code g x v d = some v' ∧ WV g v' ∧ (∀ kk, lp_c11_year_72 N 144 (nI M) (kk + d) 0 (mk L T) = lp_c11_year_72 N 144 (nI M) kk (nI d) (mk L T')) ∧ FM qY qZ T T' ∧ MA T' (g, v', x', l, u, n, k, h) c := by
  intro d
  induction d with
  | zero => exact fun _ _ => ⟨T, v, rfl, wv, fun _ => rfl, FM.refl, mt⟩
  | succ d ih =>
    intro hd hv
    obtain ⟨T1, v1, y1, w1, e1, f1, q1⟩ := ih (by omega) (fun i hi => hv i (by omega))
    obtain ⟨vd, hvd⟩ := hv d (by omega)
    rw [yVs_s y1] at hvd
    have hA : acC g x T1 d (yA x d) := (ha d (by omega)).keep (show d < d + 1 by omega) (fun j _ => f1.i (by omega) (by unfold qY; omega) j)
    obtain ⟨T2, r, e2, f2, hr⟩ := M_act (L := L) (N := N) q1 wg w1 hc (hp d (by omega)) hx (by omega) hA hN
    rcases hr with ⟨v2, y2, hr, w2, q2⟩ | ⟨y2, -, -⟩
    · refine ⟨T2, v2, (yVs_s y1).trans y2, w2, fun kk => ?_, f1.tr f2, q2⟩
      rw [hr] at e2
      rw [show kk + (d + 1) = kk + 1 + d by omega, e1, lp_c11_year_72.eq_2, ile_f (by omega) (by omega), k4, nI_mul, e2, Option.bind_some]
      dsimp only
      rw [i10, nI_1]
    · rw [y2] at hvd
      cases hvd
theorem M_yLoop {m D : Nat} (mt : MA T (g, v, x', l, u, n, k, h) c) (wg : WG g) (wv : WV g v) (hc : ruleCode u.2 u.1 = .inl code) (hx : XOk x 80) (hm : m ≤ 30) (hg : yG x m) (ha : ∀ i, i < m → acC g x T i (yA x i)) (hD : D ≤ m) (hy : yVs code g x v D = some v') (hs : ∀ i, i < D → ∃ w, yVs code g x v (i + 1) = some w) (he : D = m ∨ (D < m ∧ yVs code g x v (D + 1) = none)) (hN : 900 ≤ N) : ∃ T', lp_c11_year_72 N 144 (nI m) N 0 (mk L T) = some (nI D, mk L T') ∧ FM qY qZ T T' ∧ MA T' (g, v', x', l, u, n, k, h) c := by
  obtain ⟨hp, -⟩ := hg
  obtain ⟨T1, v1, y1, w1, e1, f1, q1⟩ := M_yWalk2 (L := L) (N := N) (M := m) mt wg wv hc hx hm hm (Nat.le_refl _) hp ha hN D hD hs
  have hv : v1 = v' := Option.some.inj (y1.symm.trans hy)
  rw [hv] at w1 q1 y1
  have e3 := e1 (N - D - 1 + 1)
  rw [show N - D - 1 + 1 + D = N by omega] at e3
  rcases he with he | ⟨he, hn⟩
  · refine ⟨T1, ?_, f1, q1⟩
    rw [e3, lp_c11_year_72.eq_2, ile_t (by omega) (by omega)]
  · rw [yVs_s y1] at hn
    have hA : acC g x T1 D (yA x D) := (ha D he).keep (show D < D + 1 by omega) (fun j _ => f1.i (by omega) (by unfold qY; omega) j)
    obtain ⟨T2, r, e2, f2, hr⟩ := M_act (L := L) (N := N) q1 wg w1 hc (hp D he) hx (by omega) hA hN
    rcases hr with ⟨v2, y2, -, -, -⟩ | ⟨y2, hr, q2⟩
    · rw [y2] at hn
      cases hn
    · refine ⟨T2, ?_, f1.tr f2, q2⟩
      rw [hr] at e2
      rw [e3, lp_c11_year_72.eq_2, ile_f (by omega) (by omega), k4, nI_mul, e2, Option.bind_some]
      dsimp only
      rw [i00]
end YEARQ
