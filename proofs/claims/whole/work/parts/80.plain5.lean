/-! CALLS: plain -/
section PLAINE
variable {L N : Nat} {S T T' X : gS} {c : Nat} {g g' : pG} {v v' : pV} {x : pX} {l : List Int64} {u : pX} {n : pN} {k : Nat → Option pV} {h : pH} {A : pA}
theorem M_plWalk {m a b : Nat} (hab : a * b = m) (hR : RC X 148 x.1 38 x.2) (hm : m ≤ 36) (ha : a ≤ 6 ∧ b ≤ 6) (hb : ∀ j, j < x.1 → x.2 j < 256) : ∀ d, d ≤ m → (∀ j, j < d → plOk x j) →
    ∃ X', (∀ kk, lp_c11_plain_36 N 144 (nI a) (nI b) (kk + d) 0 0 (mk L (ms X 2 (-1))) = lp_c11_plain_36 N 144 (nI a) (nI b) kk (nI (plN x.2 d)) (nI d) (mk L (ms X' (nI (2 + d)) (-1)))) ∧ RC X' 148 x.1 38 x.2 ∧ FM (fun y => y = 150) (fun _ => False) X X' ∧ ∀ j, j < d → X'.1 150 j = nI (plC x.2 j) := by
  intro d
  induction d with
  | zero => exact fun _ _ => ⟨X, fun _ => rfl, hR, FM.refl, fun j hj => by omega⟩
  | succ d ih =>
    intro h1 h2
    obtain ⟨X1, e1, r1, f1, c1⟩ := ih (by omega) (fun j hj => h2 j (by omega))
    refine ⟨stI X1 150 d (nI (plC x.2 d)), fun kk => ?_, r1.st (by omega) (by omega), f1.tr (FM.stA rfl (by omega)), fun j hj => ?_⟩
    · rw [show kk + (d + 1) = kk + 1 + d by omega, e1]
      exact M_plOk hab r1 hm ha (by omega) (h2 d (by omega)) (plG_inv d (fun j hj => h2 j (by omega))).1 hb
    · by_cases z : j = d
      · rw [z, rdI_eq]
      · rw [rdI_ne (by omega)]; exact c1 j (by omega)
theorem M_plFault {q kk : Nat} {p y z a b : Int32} (hq : q < 1000) : lp_c11_plain_36 N 144 a b (kk + 1) y z (mk L (ms X p (nI q))) = some (mk L (ms X p (nI q))) := by
  rw [lp_c11_plain_36.eq_2]
  by_cases w : a * b ≤ z
  · rw [if_pos w]
  · rw [if_neg w, M_fine_f hq, Option.bind_some, if_pos rfl]
theorem RC0 (q : MT T x.1 x.2) (hx : x.1 ≤ 80) : RC (stI (mBeg T 148 x.1 38) 144 7 0) 148 x.1 38 x.2 := mBeg_RC (y := 0) hx (by omega) (by omega) (fun L S j hj => zg148 (by omega)) q.2
theorem M_dim {p : Nat} (hR : RC X 148 x.1 38 x.2) (hb : ∀ j, j < x.1 → x.2 j < 256) (hp : p < 38) : (plD x p → f_c11_oneOf N 144 51 4 (mk L (ms X (nI p) (-1))) = some (nI (x.2 p - 51), mk L (ms X (nI (p + 1)) (-1)))) ∧ (¬ plD x p → f_c11_oneOf N 144 51 4 (mk L (ms X (nI p) (-1))) = some (0, mk L (ms X (nI p) (nI p)))) :=
  ⟨fun h => M_oneOf_t (f := 51) (m := 4) hR (by have := h.1; omega) h.2.1 (by have := h.2.2; omega) (by omega), fun h => M_oneOf_n (f := 51) (m := 4) hR (by omega) (fun y => by
    by_cases z : x.2 p < 51
    · exact Or.inl z
    · refine Or.inr ?_
      by_cases z2 : 54 < x.2 p
      · omega
      · exact absurd ⟨by omega, by omega, by omega⟩ h) (by omega) (by omega) (by omega)⟩
theorem ms_out {Z : gS} {p w : Int32} : FM (fun _ => False) (fun k => k = 14 ∨ k = 15) (ms Z p w) Z := by
  have e : ms Z (Z.1 144 14) (Z.1 144 15) = Z := ms_id rfl rfl
  have f := ms_FM (X := Z) (p := p) (w := w) (p' := Z.1 144 14) (w' := Z.1 144 15) (K := fun k => k = 14 ∨ k = 15) (by omega) (by omega)
  rw [e] at f
  exact f
theorem ms_in {Z : gS} {p w : Int32} : FM (fun _ => False) (fun k => k = 14 ∨ k = 15) Z (ms Z p w) := by
  have e : ms Z (Z.1 144 14) (Z.1 144 15) = Z := ms_id rfl rfl
  have f := ms_FM (X := Z) (p' := p) (w' := w) (p := Z.1 144 14) (w := Z.1 144 15) (K := fun k => k = 14 ∨ k = 15) (by omega) (by omega)
  rw [e] at f
  exact f
theorem d3 {y : Nat} (h : 51 ≤ y) : nI (y - 51) + 3 = nI (y - 48) := by
  rw [k3, nI_add, show y - 51 + 3 = y - 48 by omega]
theorem M_plain_f {p : Nat} (m : MA T (g, v, x, l, u, n, k, h) c) (w : WA (g, v, x, l, u, n, k, h)) (hp : plBad x p) (h2 : p < 100) (hN : 900 ≤ N) : ∃ T', f_c11_plain N 144 (mk L T) = some (-1 - nI p, mk L T') ∧ Fr highM T T' ∧ MA T' (g, v, (0, x.2), l, u, n, k, h) c := by
  have t1 := m.thr
  have hx : x.1 ≤ 80 := w.2.2.1.1
  have hb : ∀ j, j < x.1 → x.2 j < 256 := w.2.2.1.2
  have hR := RC0 t1.2.2.1 hx
  have eB := M_beginText (L := L) (N := N) (top := 38) t1.2.2.1
  have fB : FM (fun _ => False) (fun k => k = 7 ∨ (11 ≤ k ∧ k ≤ 15)) (stI T 144 10 0) (ms (stI (mBeg (stI T 144 10 0) 148 x.1 38) 144 7 0) 0 (-1)) := mBeg_FM
  have e12 : (stI (mBeg (stI T 144 10 0) 148 x.1 38) 144 7 0).1 144 12 = nI x.1 := hR.2.1
  have e7 : (stI (mBeg (stI T 144 10 0) 148 x.1 38) 144 7 0).1 144 7 = 0 := rdI_eq
  generalize (stI (mBeg (stI T 144 10 0) 148 x.1 38) 144 7 0) = X at *
  have key : ∃ X' y, f_c11_plain N 144 (mk L T) = some (-1 - nI p, mk L (ms X' y (nI p))) ∧ FM (fun y => y = 150) (fun _ => False) X X' := by
    obtain ⟨N', rfl⟩ : ∃ N', N = N' + 1 := ⟨N - 1, by omega⟩
    obtain ⟨d0t, d0f⟩ := M_dim (L := L) (N := N' + 1) (p := 0) hR hb (by omega)
    obtain ⟨d1t, d1f⟩ := M_dim (L := L) (N := N' + 1) (p := 1) hR hb (by omega)
    have fin : ∀ (X' : gS) (y : Int32), X'.1 144 12 = nI x.1 → f_c11_wasRight (N' + 1) 144 (mk L (ms X' y (nI p))) = some (0, mk L (ms X' y (nI p))) := fun X' y e => M_right_f (p := 0) e hx (by omega)
    unfold f_c11_plain
    rw [zc144, Option.bind_some, zs144_10, Option.bind_some, k38, eB, Option.bind_some, ← nI_0]
    rcases hp with ⟨h0, rfl⟩ | ⟨h0, h1, rfl⟩ | ⟨h0, h1, i, i1, i2, i3, rfl⟩ | ⟨h0, h1, i2, i3, rfl⟩
    · refine ⟨X, nI 0, ?_, FM.refl⟩
      rw [d0f h0, Option.bind_some, M_oneOf_f (by omega), Option.bind_some]
      dsimp only
      rw [M_plFault (by omega), Option.bind_some, fin X _ e12, Option.bind_some]
      dsimp only
      rw [if_pos (show (0 : Int32) = nI 0 from rfl), zi144_15, Option.bind_some]
      rfl
    · refine ⟨X, nI 1, ?_, FM.refl⟩
      rw [d0t h0, Option.bind_some]
      dsimp only
      rw [d1f h1, Option.bind_some]
      dsimp only
      rw [M_plFault (by omega), Option.bind_some, fin X _ e12, Option.bind_some]
      dsimp only
      rw [if_pos (show (0 : Int32) = nI 0 from rfl), zi144_15, Option.bind_some]
      rfl
    · have hm := plM_le h0 h1
      have b0 := h0.2
      have b1 := h1.2
      obtain ⟨X1, w1, r1, f1, -⟩ := M_plWalk (L := L) (N := N' + 1) (a := x.2 0 - 48) (b := x.2 1 - 48) (m := plM x) rfl hR hm.2 (by omega) hb i (by omega) i2
      obtain ⟨X2, w2, f2⟩ := M_plBad (L := L) (N := N' + 1) (a := x.2 0 - 48) (b := x.2 1 - 48) (m := plM x) (kk := N' + 1 - i - 2) rfl r1 hm.2 (by omega) i1 i3 (plG_inv _ i2).1 hb
      have ew := w1 (N' + 1 - i - 2 + 2)
      rw [show N' + 1 - i - 2 + 2 + i = N' + 1 by omega, w2] at ew
      refine ⟨X2, nI (2 + (i + 1)), ?_, f1.tr f2⟩
      rw [d0t h0, Option.bind_some]
      dsimp only
      rw [d1t h1, Option.bind_some]
      dsimp only
      rw [d3 b0.1, d3 b1.1]
      have ew2 : lp_c11_plain_36 (N' + 1) 144 (nI (x.2 0 - 48)) (nI (x.2 1 - 48)) (N' + 1) (nI 0) (nI 0) (mk L (ms X (nI (1 + 1)) (-1))) = some (mk L (ms X2 (nI (2 + (i + 1))) (nI (2 + i)))) := ew
      rw [ew2, Option.bind_some, fin X2 _ ((f2.k (fun z => z)).trans r1.2.1), Option.bind_some]
      dsimp only
      rw [if_pos (show (0 : Int32) = nI 0 from rfl), zi144_15, Option.bind_some]
      rfl
    · have hm := plM_le h0 h1
      have b0 := h0.2
      have b1 := h1.2
      obtain ⟨X1, w1, r1, f1, -⟩ := M_plWalk (L := L) (N := N' + 1) (a := x.2 0 - 48) (b := x.2 1 - 48) (m := plM x) rfl hR hm.2 (by omega) hb (plM x) (by omega) i2
      have ew := w1 (N' - plM x + 1)
      have hw : lp_c11_plain_36 (N' + 1) 144 (nI (x.2 0 - 48)) (nI (x.2 1 - 48)) (N' - plM x + 1) (nI (plN x.2 (plM x))) (nI (plM x)) (mk L (ms X1 (nI (2 + plM x)) (-1))) = some (mk L (ms X1 (nI (2 + plM x)) (-1))) := by
        rw [lp_c11_plain_36.eq_2, nI_mul, show (x.2 0 - 48) * (x.2 1 - 48) = plM x from rfl, ile_t (Nat.le_refl _) (show plM x < 2147483648 by omega)]
      rw [show N' - plM x + 1 + plM x = N' + 1 by omega, hw] at ew
      refine ⟨X1, nI (2 + plM x), ?_, f1⟩
      rw [d0t h0, Option.bind_some]
      dsimp only
      rw [d1t h1, Option.bind_some]
      dsimp only
      rw [d3 b0.1, d3 b1.1]
      have ew2 : lp_c11_plain_36 (N' + 1) 144 (nI (x.2 0 - 48)) (nI (x.2 1 - 48)) (N' + 1) (nI 0) (nI 0) (mk L (ms X (nI (1 + 1)) (-1))) = some (mk L (ms X1 (nI (2 + plM x)) (-1))) := ew
      rw [ew2, Option.bind_some, M_right_n r1.2.1 hx i3, Option.bind_some]
      dsimp only
      rw [if_pos (show (0 : Int32) = nI 0 from rfl), zi144_15, Option.bind_some]
      rfl
  obtain ⟨X', y, e, f⟩ := key
  have fm : FM (fun y => y = 150) (fun k => k = 7 ∨ (10 ≤ k ∧ k ≤ 15)) T (ms X' y (nI p)) := ((((FM.stK (A := fun _ => False) (K := fun k => k = 10) rfl).mono (fun _ z => z.elim) (fun k hk => by omega)).tr (fB.mono (fun _ z => z.elim) (fun k hk => by omega))).tr (ms_out.mono (fun _ z => z.elim) (fun k hk => by omega))).tr ((f.mono (fun _ z => z) (fun _ z => z.elim)).tr (ms_in.mono (fun _ z => z.elim) (fun k hk => by omega)))
  exact ⟨_, e, fm.high (fun y hy => by omega), m.text (fm.mono (fun y hy => by show _ ∨ _; unfold sM; omega) (fun y hy => by show _ ∨ _; unfold sK; omega)) ⟨(ms_o (by omega)).trans ((f.k (fun z => z)).trans e7), fun j hj => by cases (show j < 0 from hj)⟩⟩
theorem M_plain_t (m : MA T (g, v, x, l, u, n, k, h) c) (w : WA (g, v, x, l, u, n, k, h)) (hp : plGood x) (hN : 900 ≤ N) : ∃ T', f_c11_plain N 144 (mk L T) = some (nI (plM x), mk L T') ∧ Fr highM T T' ∧ MA T' (plP x, vEmp v, (0, x.2), l, u, (0, n.2), kNo, h) (c + 1) := by
  have t1 := m.thr
  have hx : x.1 ≤ 80 := w.2.2.1.1
  have hb : ∀ j, j < x.1 → x.2 j < 256 := w.2.2.1.2
  have hR := RC0 t1.2.2.1 hx
  have eB := M_beginText (L := L) (N := N) (top := 38) t1.2.2.1
  have fB : FM (fun _ => False) (fun k => k = 7 ∨ (11 ≤ k ∧ k ≤ 15)) (stI T 144 10 0) (ms (stI (mBeg (stI T 144 10 0) 148 x.1 38) 144 7 0) 0 (-1)) := mBeg_FM
  have e7 : (stI (mBeg (stI T 144 10 0) 148 x.1 38) 144 7 0).1 144 7 = 0 := rdI_eq
  generalize (stI (mBeg (stI T 144 10 0) 148 x.1 38) 144 7 0) = X at *
  obtain ⟨d0t, -⟩ := M_dim (L := L) (N := N) (p := 0) hR hb (by omega)
  obtain ⟨d1t, -⟩ := M_dim (L := L) (N := N) (p := 1) hR hb (by omega)
  have hG := hp
  obtain ⟨h0, h1, i2, i3⟩ := hp
  have hm := plM_le h0 h1
  have b0 := h0.2
  have b1 := h1.2
  obtain ⟨p1, p2⟩ := plG_inv (plM x) i2
  obtain ⟨X1, w1, r1, f1, c1⟩ := M_plWalk (L := L) (N := N) (a := x.2 0 - 48) (b := x.2 1 - 48) (m := plM x) rfl hR hm.2 (by omega) hb (plM x) (by omega) i2
  have ew := w1 (N - plM x - 1 + 1)
  have hw : lp_c11_plain_36 N 144 (nI (x.2 0 - 48)) (nI (x.2 1 - 48)) (N - plM x - 1 + 1) (nI (plN x.2 (plM x))) (nI (plM x)) (mk L (ms X1 (nI (2 + plM x)) (-1))) = some (mk L (ms X1 (nI (2 + plM x)) (-1))) := by
    rw [lp_c11_plain_36.eq_2, nI_mul, show (x.2 0 - 48) * (x.2 1 - 48) = plM x from rfl, ile_t (Nat.le_refl _) (show plM x < 2147483648 by omega)]
  rw [show N - plM x - 1 + 1 + plM x = N by omega, hw] at ew
  have ew2 : lp_c11_plain_36 N 144 (nI (x.2 0 - 48)) (nI (x.2 1 - 48)) N (nI 0) (nI 0) (mk L (ms X (nI (1 + 1)) (-1))) = some (mk L (ms X1 (nI (2 + plM x)) (-1))) := ew
  have eW := M_right_t (L := L) (N := N) (len := x.1) (X := X1) (p := 2 + plM x) r1.2.1 hx (by omega) (by omega)
  have fY : FM (fun y => y = 150) (fun k => k = 7 ∨ (10 ≤ k ∧ k ≤ 15)) T (ms X1 (nI (2 + plM x)) (-1)) := ((((FM.stK (A := fun _ => False) (K := fun k => k = 10) rfl).mono (fun _ z => z.elim) (fun k hk => by omega)).tr (fB.mono (fun _ z => z.elim) (fun k hk => by omega))).tr (ms_out.mono (fun _ z => z.elim) (fun k hk => by omega))).tr ((f1.mono (fun _ z => z) (fun _ z => z.elim)).tr (ms_in.mono (fun _ z => z.elim) (fun k hk => by omega)))
  have y7 : (ms X1 (nI (2 + plM x)) (-1)).1 144 7 = 0 := (ms_o (by omega)).trans ((f1.k (fun z => z)).trans e7)
  have y150 : ∀ j, j < plM x → (ms X1 (nI (2 + plM x)) (-1)).1 150 j = nI (plC x.2 j) := fun j hj => (ms_o (by omega)).trans (c1 j hj)
  generalize (ms X1 (nI (2 + plM x)) (-1)) = Y at *
  have fZ : FM (fun _ => False) (fun k => 1 ≤ k ∧ k ≤ 3) Y (stI (stI (stI Y 144 1 (nI (x.2 0 - 48))) 144 2 (nI (x.2 1 - 48))) 144 3 0) := ((FM.stK (by omega)).tr (FM.stK (by omega))).tr (FM.stK (by omega))
  obtain ⟨r, er, s, er2, g1, g2, g3⟩ := lp_inv (Lp := fun kk (s : gS) i => lp_c11_plain_192 N 144 (nI (x.2 0 - 48)) (nI (x.2 1 - 48)) kk (nI i) (mk L s)) (n := plM x) (P := fun i s => FM (fun y => y = 146 ∨ y = 147) (fun k => k = 3) (stI (stI (stI Y 144 1 (nI (x.2 0 - 48))) 144 2 (nI (x.2 1 - 48))) 144 3 0) s ∧ s.1 144 3 = nI (plN x.2 i) ∧ ∀ j, j < plN x.2 i → s.1 146 j = nI ((plG x.2 i).2.1 j) ∧ s.1 147 j = nI ((plG x.2 i).2.2 j)) (Q := fun r => ∃ s, r = mk L s ∧ FM (fun y => y = 146 ∨ y = 147) (fun k => k = 3) (stI (stI (stI Y 144 1 (nI (x.2 0 - 48))) 144 2 (nI (x.2 1 - 48))) 144 3 0) s ∧ s.1 144 3 = nI (plN x.2 (plM x)) ∧ ∀ j, j < plN x.2 (plM x) → s.1 146 j = nI ((plG x.2 (plM x)).2.1 j) ∧ s.1 147 j = nI ((plG x.2 (plM x)).2.2 j))
    (fun kk i s hi hs => Or.inr (by
      obtain ⟨a1, a2, a3⟩ := hs
      have e150 : s.1 150 i = nI (plC x.2 i) := (a1.i (by omega) (by omega) i).trans ((fZ.i (by omega) (fun z => z) i).trans (y150 i hi))
      show ∃ s', lp_c11_plain_192 N 144 (nI (x.2 0 - 48)) (nI (x.2 1 - 48)) (kk + 1) (nI i) (mk L s) = lp_c11_plain_192 N 144 (nI (x.2 0 - 48)) (nI (x.2 1 - 48)) kk (nI (i + 1)) (mk L s') ∧ _
      rw [lp_c11_plain_192.eq_2, nI_mul, show (x.2 0 - 48) * (x.2 1 - 48) = plM x from rfl, ile_f hi (by omega), zr144_16, Option.bind_some, zg150 (by omega), e150, Option.bind_some]
      by_cases z : plV x.2 i
      · have z1 := z.1
        have z2 := z.2
        have hn : plN x.2 i < 6 := by
          rcases (i2 i hi).2 with y | y
          · exact y.2
          · omega
        have eC : plC x.2 i = x.2 (2 + i) - 48 := if_pos z
        have eA : ∀ y : Int32, (stI s 146 (plN x.2 i) y).1 144 3 = nI (plN x.2 i) := fun y => (rdI_ne (by omega)).trans a2
        have eA2 : ∀ y z : Int32, (stI (stI s 146 (plN x.2 i) y) 147 (plN x.2 i) z).1 144 3 = nI (plN x.2 i) := fun y z => (rdI_ne (by omega)).trans (eA y)
        have eA3 : ∀ y : Int32, (stI s 146 (plN x.2 i) y).1 150 i = nI (plC x.2 i) := fun y => (rdI_ne (by omega)).trans e150
        refine ⟨stI (stI (stI s 146 (plN x.2 i) (nI i)) 147 (plN x.2 i) (nI (plC x.2 i))) 144 3 (nI (plN x.2 i + 1)), ?_, ?_, ?_, fun j hj => ?_⟩
        · rw [iz_f (by omega) (by omega)]
          simp (disch := omega) only [Option.bind_some, ↓ile_t, ↓ile_f, ↓ilt_t, ↓ilt_f, ↓ieq_t, ↓ieq_f, ↓iz_t, ↓iz_f, ↓iltz, ↓izle, ↓ilez_t, ↓ilez_f, ↓im1, ile_t, ile_f, ilt_t, ilt_f, ieq_t, ieq_f, iz_t, iz_f, iltz, izle, ilez_t, ilez_f, im1, gZ_0, gZ_1, e10, e00, ↓reduceIte, Sum.elim_inl, Sum.elim_inr, nI_1, nI_add, Int32.sub_zero, zr144_4, zr144_5, zr144_16, zi144_3, a2, zp146, zp147, eA, eA2, eA3, zg150, zs144_3]
        · exact ((a1.tr (FM.stA (Or.inl rfl) (by omega))).tr (FM.stA (Or.inr rfl) (by omega))).tr (FM.stK rfl)
        · rw [rdI_eq, plN_t z]
        · rw [plN_t z] at hj
          unfold plG
          rw [if_pos z]
          show _ = nI (if j = plN x.2 i then i else (plG x.2 i).2.1 j) ∧ _ = nI (if j = plN x.2 i then x.2 (2 + i) - 48 else (plG x.2 i).2.2 j)
          by_cases e : j = plN x.2 i
          · rw [if_pos e, if_pos e, e, rdI_ne (by omega), rdI_ne (by omega), rdI_eq, rdI_ne (by omega), rdI_eq, eC]
            exact ⟨rfl, rfl⟩
          · rw [if_neg e, if_neg e, rdI_ne (by omega), rdI_ne (by omega), rdI_ne (by omega), rdI_ne (by omega), rdI_ne (by omega), rdI_ne (by omega)]
            exact a3 j (by omega)
      · have eC : plC x.2 i = 0 := if_neg z
        refine ⟨s, ?_, a1, ?_, ?_⟩
        · rw [iz_t eC, Option.bind_some, nI_1]
        · unfold plN; rw [plN_f z]; exact a2
        · unfold plN; rw [plN_f z]; exact a3))
    (fun kk s hs => by
      refine ⟨mk L s, ?_, s, rfl, hs⟩
      show lp_c11_plain_192 N 144 (nI (x.2 0 - 48)) (nI (x.2 1 - 48)) (kk + 1) (nI (plM x)) (mk L s) = _
      rw [lp_c11_plain_192.eq_2, nI_mul, show (x.2 0 - 48) * (x.2 1 - 48) = plM x from rfl, ile_t (Nat.le_refl _) (by omega)]) (plM x) N 0 (stI (stI (stI Y 144 1 (nI (x.2 0 - 48))) 144 2 (nI (x.2 1 - 48))) 144 3 0) (by omega) (by omega) ⟨FM.refl, rdI_eq, fun j hj => by cases (show j < 0 from hj)⟩
  rw [er2] at er
  have f5 : FM (fun y => y = 145) (fun k => k = 23 ∨ k = 38) s (stI (stI (stI (stI (stI s 145 40 0) 145 41 0) 145 42 0) 144 23 0) 144 38 (nI (c + 1))) := ((((FM.stA (A := fun y => y = 145) (K := fun k => k = 23 ∨ k = 38) rfl (by decide)).tr (FM.stA rfl (by decide))).tr (FM.stA rfl (by decide))).tr (FM.stK (by omega))).tr (FM.stK (by omega))
  have fZ1 : (stI (stI (stI Y 144 1 (nI (x.2 0 - 48))) 144 2 (nI (x.2 1 - 48))) 144 3 0).1 144 1 = nI (x.2 0 - 48) := by rw [rdI_ne (by omega), rdI_ne (by omega), rdI_eq]
  have fZ2 : (stI (stI (stI Y 144 1 (nI (x.2 0 - 48))) 144 2 (nI (x.2 1 - 48))) 144 3 0).1 144 2 = nI (x.2 1 - 48) := by rw [rdI_ne (by omega), rdI_eq]
  have s38 : (stI (stI (stI (stI s 145 40 0) 145 41 0) 145 42 0) 144 23 0).1 144 38 = nI c := by
    rw [rdI_ne (by omega), rdI_ne (by omega), rdI_ne (by omega), rdI_ne (by omega)]
    exact (g1.k (by omega)).trans ((fZ.k (by omega)).trans ((fY.k (by omega)).trans m.2.2.2.2.2.2.1.1))
  have fA : FM (fun y => y = 150 ∨ (145 ≤ y ∧ y ≤ 147)) pmK T (stI (stI (stI (stI (stI s 145 40 0) 145 41 0) 145 42 0) 144 23 0) 144 38 (nI (c + 1))) := (((fY.mono (fun y hy => by omega) (fun y hy => by unfold pmK sK; omega)).tr (fZ.mono (fun _ z => z.elim) (fun y hy => by unfold pmK sK; omega))).tr (g1.mono (fun y hy => by omega) (fun y hy => by unfold pmK sK; omega))).tr (f5.mono (fun y hy => by omega) (fun y hy => by unfold pmK sK; omega))
  refine ⟨_, ?_, fA.high (fun y hy => by omega), M_newMA m (fA.mono (fun y hy => by unfold pmA sM; omega) (fun _ z => z)) ⟨?_, ?_, ?_, fun i hi => ⟨?_, ?_⟩⟩ ⟨?_, ?_, ?_, fun w hw => by cases (show w < 0 from hw)⟩ ?_ ?_ rdI_eq⟩
  · unfold f_c11_plain
    rw [zc144, Option.bind_some, zs144_10, Option.bind_some, k38, eB, Option.bind_some, ← nI_0, d0t h0, Option.bind_some]
    dsimp only
    rw [d1t h1, Option.bind_some]
    dsimp only
    rw [d3 b0.1, d3 b1.1, ew2, Option.bind_some, eW, Option.bind_some, if_neg (show ¬ (1 : Int32) = nI 0 by decide), zs144_1, Option.bind_some, zs144_2, Option.bind_some, nI_0, zs144_3, Option.bind_some]
    have er3 : lp_c11_plain_192 N 144 (nI (x.2 0 - 48)) (nI (x.2 1 - 48)) N 0 (mk L (stI (stI (stI Y 144 1 (nI (x.2 0 - 48))) 144 2 (nI (x.2 1 - 48))) 144 3 0)) = some (mk L s) := er
    rw [er3, Option.bind_some, zr144_0, Option.bind_some, k40, zp145 (by omega), Option.bind_some, zr144_0, Option.bind_some, k41, zp145 (by omega), Option.bind_some, zr144_0, Option.bind_some, k42, zp145 (by omega), Option.bind_some]
    unfold f_c11_told
    simp (disch := omega) only [Option.bind_some, ↓ile_t, ↓ile_f, ↓ilt_t, ↓ilt_f, ↓ieq_t, ↓ieq_f, ↓iz_t, ↓iz_f, ↓iltz, ↓izle, ↓ilez_t, ↓ilez_f, ↓im1, ile_t, ile_f, ilt_t, ilt_f, ieq_t, ieq_f, iz_t, iz_f, iltz, izle, ilez_t, ilez_f, im1, gZ_0, gZ_1, e10, e00, ↓reduceIte, Sum.elim_inl, Sum.elim_inr, nI_1, nI_add, Int32.sub_zero, zc144, zs144_23, zi144_38, s38, zs144_38]
    rw [nI_mul]
    rfl
  · exact (f5.k (by omega)).trans ((g1.k (by omega)).trans fZ1)
  · exact (f5.k (by omega)).trans ((g1.k (by omega)).trans fZ2)
  · exact (f5.k (by omega)).trans g2
  · exact (f5.i (by omega) (by omega) i).trans (g3 i hi).1
  · exact (f5.i (by omega) (by omega) i).trans (g3 i hi).2
  · rw [rdI_ne (by omega), rdI_ne (by omega), rdI_ne (by omega), rdI_ne (by omega), rdI_eq]
    rfl
  · rw [rdI_ne (by omega), rdI_ne (by omega), rdI_ne (by omega), rdI_eq]
    rfl
  · rw [rdI_ne (by omega), rdI_ne (by omega), rdI_eq]
    rfl
  · exact (f5.k (by omega)).trans ((g1.k (by omega)).trans ((fZ.k (by omega)).trans y7))
  · rw [rdI_ne (by omega), rdI_eq]
theorem A_plain (w : WA A) (q : CA S A) (m : MA S A c) (hN : 900 ≤ N) : Agr L S c (f_c10_plain N 10) (f_c11_plain N 144) := by
  obtain ⟨g, v, x, l, u, n, k, h⟩ := A
  rcases pl_or x with ⟨p, hp, hp2⟩ | hp
  · obtain ⟨e1, q1⟩ := C_plain_f (L := L) (N := N) q w hp hp2 hN
    exact AgrI (c' := c) m e1 (Fr.stI (by unfold lowC; omega)) q1 ⟨w.1, w.2.1, ⟨by show 0 ≤ 80; omega, fun j hj => by cases (show j < 0 from hj)⟩, w.2.2.2⟩ (by omega) (fun T mt => M_plain_f mt w hp hp2 hN)
  · obtain ⟨S1, e1, q1, f1⟩ := C_plain_t (L := L) (N := N) q w hp hN
    exact AgrI (c' := c + 1) m e1 f1 q1 (w.plain (WG_plP hp) WV_emp) (by omega) (fun T mt => M_plain_t mt w hp hN)
end PLAINE
