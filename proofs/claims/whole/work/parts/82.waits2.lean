/-! CALLS: waits -/
section WAITSE
variable {L N : Nat} {S T X : gS} {c : Nat} {g : pG} {v : pV} {x : pX} {l : List Int64} {u : pX} {n : pN} {k : Nat → Option pV} {h : pH} {A : pA}
def wtD (x : pX) (j : Nat) : Nat := x.2 j - 48
def wtS (x : pX) : Nat := oB (wtD x) x.1 (x.1 - 1)
def wtR (x : pX) : Nat := wtD x (oT (wtD x) x.1 (wtS x))
theorem C_waitsL (q : CT S x) (hx : XOk x 80) (hp : wtGood x) (hN : 900 ≤ N) : lp_c10_waits_32 N 10 (mk L S) N (-1) 0 0 0 = some (nI (wtR x), nI (wtS x), nI (oT (wtD x) x.1 (wtS x))) := by
  have h80 : x.1 ≤ 80 := hx.1
  have hp' := hp
  obtain ⟨hp1, hp2⟩ := hp
  have dT : ∀ i, i < x.1 → f_c8_digit N 11 (nI i) 16 (mk L S) = some (nI (wtD x i)) := fun i hi => C_dgc_t (cap := 16) q hx hi (hp2 i hi).1 (by omega) (hp2 i hi).2.1 (hp2 i hi).2.2
  have d9 : ∀ i, i < x.1 → wtD x i ≤ 9 := fun i hi => by have := (hp2 i hi).2; unfold wtD; omega
  have tk : ∀ s, s < x.1 → f_c10_takenBehind N 10 (nI s) (mk L S) = some (nI (oT (wtD x) x.1 s)) := fun s hs => C_taken q hx hp' hs hN
  obtain ⟨r, er, hr⟩ := lp_inv (Lp := fun kk (y : Int32 × Int32 × Int32) i => lp_c10_waits_32 N 10 (mk L S) kk y.1 y.2.1 y.2.2 (nI i)) (n := x.1) (P := fun i y => (i = 0 → y = (-1, 0, 0)) ∧ (0 < i → y = (nI (wtD x (oT (wtD x) x.1 (oB (wtD x) x.1 (i - 1)))), nI (oB (wtD x) x.1 (i - 1)), nI (oT (wtD x) x.1 (oB (wtD x) x.1 (i - 1)))))) (Q := fun r => r = (nI (wtR x), nI (wtS x), nI (oT (wtD x) x.1 (wtS x))))
    (fun kk i y hi hP => Or.inr (by
      obtain ⟨p1, p2⟩ := hP
      have hT := oT_lt (d := wtD x) hi
      have hD := d9 _ hT
      show ∃ s' : Int32 × Int32 × Int32, lp_c10_waits_32 N 10 (mk L S) (kk + 1) y.1 y.2.1 y.2.2 (nI i) = lp_c10_waits_32 N 10 (mk L S) kk s'.1 s'.2.1 s'.2.2 (nI (i + 1)) ∧ _
      rw [lp_c10_waits_32.eq_2, zr10_0, Option.bind_some, zi11_1, Option.bind_some, q.1, ile_f hi (by omega), tk i hi, Option.bind_some, Option.bind_some, dT _ hT, Option.bind_some, nI_1]
      by_cases z : i = 0
      · have c1 : ¬ nI (wtD x (oT (wtD x) x.1 i)) ≤ y.1 := by
          rw [p1 z]
          show ¬ nI _ ≤ (-1 : Int32)
          rw [i32_le, nI_toInt (by omega)]
          have : (-1 : Int32).toInt = -1 := by decide
          omega
        rw [if_neg c1]
        refine ⟨(nI (wtD x (oT (wtD x) x.1 i)), nI i, nI (oT (wtD x) x.1 i)), rfl, fun e => by omega, fun _ => ?_⟩
        rw [z]
        rfl
      · obtain ⟨i', rfl⟩ : ∃ i', i = i' + 1 := ⟨i - 1, by omega⟩
        have hy := p2 (by omega)
        rw [Nat.add_sub_cancel] at hy
        have hB := oB_le (d := wtD x) (len := x.1) i'
        have hT2 := d9 _ (oT_lt (d := wtD x) (len := x.1) (s := oB (wtD x) x.1 i') (by omega))
        rw [hy]
        dsimp only
        by_cases y1 : wtD x (oT (wtD x) x.1 (i' + 1)) ≤ wtD x (oT (wtD x) x.1 (oB (wtD x) x.1 i'))
        · rw [ile_t y1 (by omega)]
          refine ⟨_, rfl, fun e => by omega, fun _ => ?_⟩
          rw [Nat.add_sub_cancel, oB, if_pos y1]
        · rw [ile_f (by omega) (by omega)]
          refine ⟨(nI (wtD x (oT (wtD x) x.1 (i' + 1))), nI (i' + 1), nI (oT (wtD x) x.1 (i' + 1))), rfl, fun e => by omega, fun _ => ?_⟩
          rw [Nat.add_sub_cancel, oB, if_neg y1]))
    (fun kk y hP => by
      refine ⟨_, ?_, hP.2 hp1⟩
      show lp_c10_waits_32 N 10 (mk L S) (kk + 1) y.1 y.2.1 y.2.2 (nI x.1) = _
      rw [lp_c10_waits_32.eq_2, zr10_0, Option.bind_some, zi11_1, Option.bind_some, q.1, ile_t (Nat.le_refl _) (by omega)]) x.1 N 0 (-1, 0, 0) (by omega) (by omega) ⟨fun _ => rfl, fun e => absurd e (by omega)⟩
  rw [nI_0, hr] at er
  exact er
theorem M_takes {d : Nat → Nat} {len s : Nat} (h16 : len ≤ 16) (hd : ∀ j, j < len → d j ≤ 9 ∧ T.1 150 j = nI (d j)) (hs : s < len) (hN : 900 ≤ N) : f_c11_takes N 144 (nI s) (nI len) (mk L T) = some (nI (oT d len s)) := by
  unfold f_c11_takes
  rw [zc144, Option.bind_some]
  by_cases z : s = 0
  · rw [iz_t z]
    unfold oT
    rw [if_pos z]
    rfl
  · rw [iz_f (by omega) (by omega)]
    have hM : ∀ i, i ≤ len → oM d i ≤ 9 := fun i hi => oM_le i (fun j hj => (hd j (by omega)).1)
    obtain ⟨r, er, hr⟩ := lp_inv (Lp := fun kk (y : Int32) i => lp_c11_takes_11 N 144 (nI s) (mk L T) kk y (nI i)) (n := s) (P := fun i y => y = nI (oM d i)) (Q := fun r => r = nI (oM d s))
      (fun kk i y hi hP => Or.inr (by
        have h9 := hM i (by omega)
        have h9' := (hd i (by omega)).1
        refine ⟨_, ?_, rfl⟩
        show lp_c11_takes_11 N 144 (nI s) (mk L T) (kk + 1) y (nI i) = _
        rw [lp_c11_takes_11.eq_2, ile_f hi (by omega), zr144_16, Option.bind_some, zg150 (by omega), (hd i (by omega)).2, Option.bind_some, hP, gmax_nI (by omega) (by omega), nI_1]
        rfl))
      (fun kk y hP => ⟨y, by
        show lp_c11_takes_11 N 144 (nI s) (mk L T) (kk + 1) y (nI s) = _
        rw [lp_c11_takes_11.eq_2, ile_t (Nat.le_refl _) (by omega)], hP⟩) s N 0 0 (by omega) (by omega) rfl
    rw [hr, nI_0] at er
    rw [er, Option.bind_some]
    have h9 := hM s (by omega)
    obtain ⟨r2, er2, hr2⟩ := lp_inv (Lp := fun kk (_ : Unit) i => lp_c11_takes_38 N 144 (nI len) (nI (oM d s)) (mk L T) kk (nI i)) (n := len) (P := fun i _ => s ≤ i ∧ fstN (fun j => decide (oM d s < d j)) s (len - s) = fstN (fun j => decide (oM d s < d j)) i (len - i)) (Q := fun r => r = .inl (nI (oT d len s)) ∨ (r = .inr () ∧ oT d len s = len - 1))
      (fun kk i y hi hP => by
        have h9' := (hd i hi).1
        show (∃ r, lp_c11_takes_38 N 144 (nI len) (nI (oM d s)) (mk L T) (kk + 1) (nI i) = some r ∧ _) ∨ ∃ s' : Unit, lp_c11_takes_38 N 144 (nI len) (nI (oM d s)) (mk L T) (kk + 1) (nI i) = lp_c11_takes_38 N 144 (nI len) (nI (oM d s)) (mk L T) kk (nI (i + 1)) ∧ _
        rw [lp_c11_takes_38.eq_2, ile_f hi (by omega), zr144_16, Option.bind_some, zg150 (by omega), (hd i hi).2, Option.bind_some, nI_1]
        by_cases y1 : d i ≤ oM d s
        · right
          rw [ile_t y1 (by omega)]
          exact ⟨(), rfl, by omega, hP.2.trans (fstN_s hi (decide_eq_false (by omega)))⟩
        · left
          refine ⟨_, by rw [ile_f (by omega) (by omega)], Or.inl ?_⟩
          unfold oT
          rw [if_neg z, hP.2, fstN_h hi (decide_eq_true (by omega))]
          rfl)
      (fun kk y hP => by
        refine ⟨.inr (), ?_, Or.inr ⟨rfl, ?_⟩⟩
        · show lp_c11_takes_38 N 144 (nI len) (nI (oM d s)) (mk L T) (kk + 1) (nI len) = _
          rw [lp_c11_takes_38.eq_2, ile_t (Nat.le_refl _) (by omega)]
        · unfold oT
          rw [if_neg z, hP.2, Nat.sub_self]
          rfl) (len - s) N s () (by omega) (by omega) ⟨Nat.le_refl _, rfl⟩
    rw [er2, Option.bind_some]
    rcases hr2 with hr2 | ⟨hr2, ho⟩
    · rw [hr2, Sum.elim_inl]
    · rw [hr2, Sum.elim_inr, nI_sub1 (by omega), ho]
theorem M_waitsB {d : Nat → Nat} {len : Nat} (h16 : len ≤ 16) (h1 : 0 < len) (hd : ∀ j, j < len → d j ≤ 9 ∧ T.1 150 j = nI (d j)) (hN : 900 ≤ N) : lp_c11_waits_70 N 144 (nI len) (mk L T) N 0 1 = some (nI (oB d len (len - 1))) := by
  obtain ⟨r, er, hr⟩ := lp_inv (Lp := fun kk (y : Int32) i => lp_c11_waits_70 N 144 (nI len) (mk L T) kk y (nI (i + 1))) (n := len - 1) (P := fun i y => y = nI (oB d len i)) (Q := fun r => r = nI (oB d len (len - 1)))
    (fun kk i y hi hP => Or.inr (by
      have hB := oB_le (d := d) (len := len) i
      have t1 := oT_lt (d := d) (len := len) (s := i + 1) (by omega)
      have t2 := oT_lt (d := d) (len := len) (s := oB d len i) (by omega)
      have e1 := hd _ t1
      have e2 := hd _ t2
      show ∃ s', lp_c11_waits_70 N 144 (nI len) (mk L T) (kk + 1) y (nI (i + 1)) = lp_c11_waits_70 N 144 (nI len) (mk L T) kk s' (nI (i + 1 + 1)) ∧ _
      rw [lp_c11_waits_70.eq_2, ile_f (by omega) (by omega), zr144_16, Option.bind_some, M_takes h16 hd (by omega) hN, Option.bind_some, zg150 (by omega), e1.2, Option.bind_some, Option.bind_some, hP, M_takes h16 hd (by omega) hN, Option.bind_some, zg150 (by omega), e2.2, Option.bind_some, nI_1]
      refine ⟨_, rfl, ?_⟩
      rw [oB]
      by_cases y1 : d (oT d len (i + 1)) ≤ d (oT d len (oB d len i))
      · rw [ile_t y1 (by omega), if_pos y1]
      · rw [ile_f (by omega) (by omega), if_neg y1]))
    (fun kk y hP => ⟨y, by
      show lp_c11_waits_70 N 144 (nI len) (mk L T) (kk + 1) y (nI (len - 1 + 1)) = _
      rw [lp_c11_waits_70.eq_2, ile_t (by omega) (by omega)], hP⟩) (len - 1) N 0 0 (by omega) (by omega) rfl
  rw [hr] at er
  exact er
theorem M_wtStep {i kk : Nat} (hR : RC X 148 x.1 16 x.2) (hi : i < x.1) (hok : wtOk x i) : lp_c11_waits_13 N 144 (kk + 1) (nI i) (mk L (ms X (nI i) (-1))) = lp_c11_waits_13 N 144 kk (nI (i + 1)) (mk L (ms (stI X 150 i (nI (wtD x i))) (nI (i + 1)) (-1))) := by
  obtain ⟨o1, o2, o3⟩ := hok
  have hmin : i < min x.1 16 := by omega
  have e1 : f_c11_oneOf N 144 48 10 (mk L (ms X (nI i) (-1))) = some (nI (wtD x i), mk L (ms X (nI (i + 1)) (-1))) := M_oneOf_t (f := 48) (m := 10) hR hmin o2 (by omega) (by omega)
  have eH := M_here_t (L := L) (N := N) (w := -1) hR hmin
  rw [lp_c11_waits_13.eq_2, M_fine_t, Option.bind_some, if_neg (show ¬ (1 : Int32) = 0 by decide)]
  by_cases z : i = 0
  · rw [iz_t z, zr144_16, Option.bind_some, e1, Option.bind_some]
    dsimp only
    rw [zp150 (by omega), Option.bind_some, ms_st (by omega), nI_1]
  · have cm : ¬ nI (x.2 i) = -1 := nI_m1 (by omega)
    rw [iz_f (by omega) (by omega), eH, Option.bind_some, if_neg cm, zr144_16, Option.bind_some, e1, Option.bind_some]
    dsimp only
    rw [zp150 (by omega), Option.bind_some, ms_st (by omega), nI_1]
theorem M_wtWalk (hR : RC X 148 x.1 16 x.2) : ∀ d, d ≤ x.1 → (∀ j, j < d → wtOk x j) → ∃ X', (∀ kk, lp_c11_waits_13 N 144 (kk + d) 0 (mk L (ms X 0 (-1))) = lp_c11_waits_13 N 144 kk (nI d) (mk L (ms X' (nI d) (-1)))) ∧ RC X' 148 x.1 16 x.2 ∧ FM (fun y => y = 150) (fun _ => False) X X' ∧ ∀ j, j < d → X'.1 150 j = nI (wtD x j) := by
  intro d
  induction d with
  | zero => exact fun _ _ => ⟨X, fun _ => rfl, hR, FM.refl, fun j hj => by omega⟩
  | succ d ih =>
    intro h1 h2
    obtain ⟨X1, e1, r1, f1, c1⟩ := ih (by omega) (fun j hj => h2 j (by omega))
    have hd := (h2 d (by omega)).1
    refine ⟨stI X1 150 d (nI (wtD x d)), fun kk => ?_, r1.st (by omega) (by omega), f1.tr (FM.stA rfl (by omega)), fun j hj => ?_⟩
    · rw [show kk + (d + 1) = kk + 1 + d by omega, e1]
      exact M_wtStep r1 (by omega) (h2 d (by omega))
    · by_cases z : j = d
      · rw [z, rdI_eq]
      · rw [rdI_ne (by omega)]; exact c1 j (by omega)
theorem RC16 (q : MT T x.1 x.2) (hx : x.1 ≤ 80) : RC (stI (mBeg T 148 x.1 16) 144 7 0) 148 x.1 16 x.2 := mBeg_RC (y := 0) hx (by omega) (by omega) (fun L S j hj => zg148 (by omega)) q.2
theorem M_wtBad {p : Nat} (hR : RC X 148 x.1 16 x.2) (hx : x.1 ≤ 80) (hp : wtBad x p) (hN : 900 ≤ N) : ∃ X' y z w, lp_c11_waits_13 N 144 N 0 (mk L (ms X 0 (-1))) = some (z, mk L (ms X' y w)) ∧ f_c11_wasRight N 144 (mk L (ms X' y w)) = some (0, mk L (ms X' y (nI p))) ∧ FM (fun y => y = 150) (fun _ => False) X X' := by
  have bad : p < 16 → (p < x.1 → ¬ wtOk x p) → p ≤ x.1 → (∀ j, j < p → wtOk x j) → (p = 0 ∨ p < x.1) → ∃ X' y z w, lp_c11_waits_13 N 144 N 0 (mk L (ms X 0 (-1))) = some (z, mk L (ms X' y w)) ∧ f_c11_wasRight N 144 (mk L (ms X' y w)) = some (0, mk L (ms X' y (nI p))) ∧ FM (fun y => y = 150) (fun _ => False) X X' := by
    intro h16 hno hle hok h0
    obtain ⟨X1, e1, r1, f1, -⟩ := M_wtWalk (L := L) (N := N) hR p hle hok
    have ew := e1 (N - p - 2 + 2)
    have eO : f_c11_oneOf N 144 48 10 (mk L (ms X1 (nI p) (-1))) = some (0, mk L (ms X1 (nI p) (nI p))) := M_oneOf_n (f := 48) (m := 10) r1 (by omega) (fun y => by
      by_cases y1 : x.2 p < 48
      · exact Or.inl y1
      · refine Or.inr ?_
        by_cases y2 : 57 < x.2 p
        · omega
        · exact absurd ⟨h16, by omega, by omega⟩ (hno (by omega))) (by omega) (by omega) (by omega)
    have e2 : lp_c11_waits_13 N 144 (N - p - 2 + 1) (nI (p + 1)) (mk L (ms (stI X1 150 p 0) (nI p) (nI p))) = some (nI (p + 1), mk L (ms (stI X1 150 p 0) (nI p) (nI p))) := by
      rw [lp_c11_waits_13.eq_2, M_fine_f (by omega), Option.bind_some, if_pos rfl]
    have e3 : lp_c11_waits_13 N 144 (N - p - 2 + 2) (nI p) (mk L (ms X1 (nI p) (-1))) = some (nI (p + 1), mk L (ms (stI X1 150 p 0) (nI p) (nI p))) := by
      rw [lp_c11_waits_13.eq_2, M_fine_t, Option.bind_some, if_neg (show ¬ (1 : Int32) = 0 by decide)]
      by_cases z : p = 0
      · rw [iz_t z, zr144_16, Option.bind_some, eO, Option.bind_some]
        dsimp only
        rw [zp150 (by omega), Option.bind_some, ms_st (by omega), nI_1]
        exact e2
      · have hpx : p < x.1 := by omega
        have hb := (r1.2.2.2.2.2.2.2 p hpx).1
        have cm : ¬ nI (x.2 p) = -1 := nI_m1 (by omega)
        rw [iz_f (by omega) (by omega), M_here_t r1 (by omega), Option.bind_some, if_neg cm, zr144_16, Option.bind_some, eO, Option.bind_some]
        dsimp only
        rw [zp150 (by omega), Option.bind_some, ms_st (by omega), nI_1]
        exact e2
    rw [show N - p - 2 + 2 + p = N by omega] at ew
    refine ⟨stI X1 150 p 0, nI p, nI (p + 1), nI p, ew.trans e3, ?_, f1.tr (FM.stA rfl (by omega))⟩
    exact M_right_f (p := 0) ((rdI_ne (by omega)).trans r1.2.1) hx (by omega)
  rcases hp with ⟨h0, rfl⟩ | ⟨h1, h2, h3⟩
  · exact bad (by omega) (fun y => by omega) (by omega) (fun j hj => by omega) (Or.inl rfl)
  · by_cases h16 : p < 16
    · exact bad h16 (fun _ => h3) (by omega) h2 (Or.inr h1)
    · have hp16 : p = 16 := by
        by_cases y : p = 16
        · exact y
        · have := (h2 16 (by omega)).1; omega
      obtain ⟨X1, e1, r1, f1, -⟩ := M_wtWalk (L := L) (N := N) hR p (by omega) h2
      have ew := e1 (N - p - 1 + 1)
      have e3 : lp_c11_waits_13 N 144 (N - p - 1 + 1) (nI p) (mk L (ms X1 (nI p) (-1))) = some (nI p, mk L (ms X1 (nI p) (-1))) := by
        rw [lp_c11_waits_13.eq_2, M_fine_t, Option.bind_some, if_neg (show ¬ (1 : Int32) = 0 by decide), iz_f (by omega) (by omega), M_here_f r1 (by omega) (by omega), Option.bind_some, if_pos rfl]
      rw [show N - p - 1 + 1 + p = N by omega] at ew
      exact ⟨X1, nI p, nI p, -1, ew.trans e3, M_right_n r1.2.1 hx h1, f1⟩
theorem A_waits (w : WA A) (q : CA S A) (m : MA S A c) (hN : 900 ≤ N) : Agr L S c (f_c10_waits N 10) (f_c11_waits N 144) := by
  obtain ⟨g, v, x, l, u, n, k, h⟩ := A
  have wx : XOk x 80 := w.2.2.1
  have hx : x.1 ≤ 80 := wx.1
  have qT : CT S x := q.2.2.1
  obtain ⟨cb, cg⟩ := C_wtFault (L := L) (N := N) qT wx hN
  obtain ⟨e1, q1⟩ := C_cut (L := L) (N := N) (d := 0) q hx (by omega)
  have e1' : f_c8_cutTo N 11 0 (mk L S) = some (1, mk L (stI S 11 1 (nI 0))) := e1
  have w1 : WA (g, v, (0, x.2), l, u, n, k, h) := ⟨w.1, w.2.1, ⟨by show 0 ≤ 80; omega, fun j hj => by cases (show j < 0 from hj)⟩, w.2.2.2⟩
  have fL : Fr lowC S (stI S 11 1 (nI 0)) := Fr.stI (by unfold lowC; omega)
  have beg : ∀ T, MA T (g, v, x, l, u, n, k, h) c → ∃ X, f_c11_beginText N 144 16 (mk L (stI T 144 10 0)) = some (mk L (ms X 0 (-1))) ∧ RC X 148 x.1 16 x.2 ∧ X.1 144 7 = 0 ∧ FM (fun _ => False) (fun k => k = 7 ∨ (10 ≤ k ∧ k ≤ 15)) T X := by
    intro T mt
    have t1 := mt.thr
    refine ⟨_, M_beginText (L := L) (N := N) (top := 16) t1.2.2.1, RC16 t1.2.2.1 hx, rdI_eq, ?_⟩
    have fB : FM (fun _ => False) (fun k => k = 7 ∨ (11 ≤ k ∧ k ≤ 15)) (stI T 144 10 0) (ms (stI (mBeg (stI T 144 10 0) 148 x.1 16) 144 7 0) 0 (-1)) := mBeg_FM
    exact (((FM.stK (A := fun _ => False) (K := fun k => k = 10) rfl).mono (fun _ z => z.elim) (fun k hk => by omega)).tr (fB.mono (fun _ z => z.elim) (fun k hk => by omega))).tr (ms_out.mono (fun _ z => z.elim) (fun k hk => by omega))
  have out : ∀ T X X' y z, MA T (g, v, x, l, u, n, k, h) c → X.1 144 7 = 0 → FM (fun _ => False) (fun k => k = 7 ∨ (10 ≤ k ∧ k ≤ 15)) T X → FM (fun y => y = 150) (fun _ => False) X X' → MA (ms X' y z) (g, v, (0, x.2), l, u, n, k, h) c ∧ Fr highM T (ms X' y z) := by
    intro T X X' y z mt e7 f1 f2
    have f : FM (fun y => y = 150) (fun k => k = 7 ∨ (10 ≤ k ∧ k ≤ 15)) T (ms X' y z) := (f1.mono (fun _ z => z.elim) (fun _ z => z)).tr ((f2.mono (fun _ z => z) (fun _ z => z.elim)).tr (ms_in.mono (fun _ z => z.elim) (fun k hk => by omega)))
    exact ⟨mt.text (f.mono (fun y hy => by show _ ∨ _; unfold sM; omega) (fun y hy => by show _ ∨ _; unfold sK; omega)) ⟨(ms_o (by omega)).trans ((f2.k (fun z => z)).trans e7), fun j hj => by cases (show j < 0 from hj)⟩, f.high (fun y hy => by omega)⟩
  rcases wt_or x with ⟨p, hp⟩ | hp
  · refine AgrI (c' := c) m (r := -1 - nI p) (S1 := stI S 11 1 (nI 0)) ?_ fL q1 w1 (by omega) (fun T mt => ?_)
    · have hp80 : p < 1000 := by
        rcases hp with ⟨_, rfl⟩ | ⟨z, _⟩ <;> omega
      unfold f_c10_waits
      rw [zc10, Option.bind_some, cb p hp, Option.bind_some, iltz (by omega), zr10_0, Option.bind_some, e1', Option.bind_some]
    · obtain ⟨X, a1, a2, a3, a4⟩ := beg T mt
      obtain ⟨X', y, z, o, b1, b2, b3⟩ := M_wtBad (L := L) (N := N) a2 hx hp hN
      obtain ⟨o1, o2⟩ := out T X X' y (nI p) mt a3 a4 b3
      refine ⟨_, ?_, o2, o1⟩
      unfold f_c11_waits
      rw [zc144, Option.bind_some, zs144_10, Option.bind_some, a1, Option.bind_some, b1, Option.bind_some]
      dsimp only
      rw [b2, Option.bind_some]
      dsimp only
      rw [if_pos rfl, zi144_15, Option.bind_some]
      rfl
  · have eL := C_waitsL (L := L) (N := N) qT wx hp hN
    obtain ⟨S2, e2, q2, f2⟩ := C_tell2A (L := L) (N := N) (r := nI (wtR x)) (y := (nI (wtS x)).toInt64) (z := (nI (oT (wtD x) x.1 (wtS x))).toInt64) q1
    refine AgrI (c' := c) m (r := nI (wtR x)) (S1 := S2) ?_ (lowTr fL f2) q2 (w1.rw (by show 2 ≤ 8; omega)) (by omega) (fun T mt => ?_)
    · unfold f_c10_waits
      rw [zc10, Option.bind_some, cg hp, Option.bind_some, if_pos n1lt0, eL, Option.bind_some, zr10_0, Option.bind_some, e1', Option.bind_some]
      dsimp only
      rw [e2, Option.bind_some]
    · obtain ⟨X, a1, a2, a3, a4⟩ := beg T mt
      have h16 : x.1 ≤ 16 := by
        have h0 := hp.1
        have := (hp.2 (x.1 - 1) (by omega)).1
        omega
      obtain ⟨X', b1, b2, b3, b4⟩ := M_wtWalk (L := L) (N := N) a2 x.1 (Nat.le_refl _) hp.2
      have ew := b1 (N - x.1 - 1 + 1)
      have e3 : lp_c11_waits_13 N 144 (N - x.1 - 1 + 1) (nI x.1) (mk L (ms X' (nI x.1) (-1))) = some (nI x.1, mk L (ms X' (nI x.1) (-1))) := by
        have h0 := hp.1
        rw [lp_c11_waits_13.eq_2, M_fine_t, Option.bind_some, if_neg (show ¬ (1 : Int32) = 0 by decide), iz_f (by omega) (by omega), M_here_f b2 (by omega) (by omega), Option.bind_some, if_pos rfl]
      rw [show N - x.1 - 1 + 1 + x.1 = N by omega, e3] at ew
      have eR := M_right_t (L := L) (N := N) (len := x.1) (X := X') (p := x.1) b2.2.1 hx (Nat.le_refl _) (by omega)
      obtain ⟨o1, o2⟩ := out T X X' (nI x.1) (-1) mt a3 a4 b3
      have y150 : ∀ j, j < x.1 → wtD x j ≤ 9 ∧ (ms X' (nI x.1) (-1)).1 150 j = nI (wtD x j) := fun j hj => ⟨by have := (hp.2 j hj).2; unfold wtD; omega, (ms_o (by omega)).trans (b4 j hj)⟩
      generalize (ms X' (nI x.1) (-1)) = Y at *
      have eB := M_waitsB (L := L) (N := N) h16 hp.1 y150 hN
      obtain ⟨T1, g1, t1, h1, k1'⟩ := M_t1 (L := L) (N := N) (y := (nI (wtS x)).toInt64) o1
      obtain ⟨T2, g2, t2, h2, k2'⟩ := M_t2 (L := L) (N := N) (z := (nI (oT (wtD x) x.1 (wtS x))).toInt64) t1
      have hS : wtS x < x.1 := by have := oB_le (d := wtD x) (len := x.1) (x.1 - 1); have := hp.1; unfold wtS; omega
      have y1 : ∀ j, j < x.1 → wtD x j ≤ 9 ∧ T1.1 150 j = nI (wtD x j) := fun j hj => ⟨(y150 j hj).1, (k1'.i (by omega) (by unfold mRow; omega) j).trans ((rdI_ne (by omega)).trans (y150 j hj).2)⟩
      have y2 : ∀ j, j < x.1 → wtD x j ≤ 9 ∧ T2.1 150 j = nI (wtD x j) := fun j hj => ⟨(y150 j hj).1, (k2'.i (by omega) (by unfold mRow; omega) j).trans (y1 j hj).2⟩
      have tk1 := M_takes (L := L) (N := N) h16 y1 hS hN
      have tk2 := M_takes (L := L) (N := N) h16 y2 hS hN
      have hT := oT_lt (d := wtD x) hS
      have eB2 : lp_c11_waits_70 N 144 (nI x.1) (mk L Y) N 0 1 = some (nI (wtS x)) := eB
      refine ⟨T2, ?_, highTr o2 (highTr h1 h2), t2⟩
      unfold f_c11_waits
      rw [zc144, Option.bind_some, zs144_10, Option.bind_some, a1, Option.bind_some, ew, Option.bind_some]
      dsimp only
      rw [eR, Option.bind_some]
      dsimp only
      rw [if_neg (show ¬ (1 : Int32) = 0 by decide), eB2, Option.bind_some, zs144_9, Option.bind_some, g1, Option.bind_some, tk1, Option.bind_some, g2, Option.bind_some, zr144_16, Option.bind_some, tk2, Option.bind_some, zg150 (by omega), (y2 _ hT).2, Option.bind_some]
      rfl
end WAITSE
