/-! CALLS: rule, law -/
theorem cFin_over {t : Nat → Nat} : ∀ (d p : Nat) (s : cS) (code : List Int32), cFin t true p d s ≠ .inl code := by
  intro d
  induction d with
  | zero =>
    intro p s code h
    change (if true = true ∨ _ then _ else _) = _ at h
    rw [if_pos (Or.inl rfl)] at h
    cases h
  | succ d ih =>
    intro p s code h
    rw [cFin_d] at h
    cases hs : cStep s (t p) with
    | none => rw [hs] at h; cases h
    | some s' => rw [hs] at h; exact ih _ _ _ h
theorem ruleCode_len {t : Nat → Nat} {len : Nat} {code : List Int32} (h : ruleCode t len = .inl code) : len ≤ 40 := by
  unfold ruleCode at h
  split at h
  · omega
  · unfold cRead at h
    by_cases z : 40 < len
    · rw [decide_eq_true z] at h
      exact absurd h (cFin_over _ _ _ _)
    · omega
def t0 (j : Nat) : Nat := if j = 0 then 100 else if j = 1 then 45 else if j = 2 then 97 else if j = 3 then 42 else 50
theorem t0_code : cRead t0 5 = .inl noCode := by decide +kernel
section RULES
variable {L N : Nat} {S T : gS} {c : Nat} {g : pG} {v v' : pV} {x : pX} {l : List Int64} {u : pX} {n : pN} {k : Nat → Option pV} {h : pH} {A : pA} {code : List Int32}
theorem C_spare (q : CA S (g, v, x, l, u, n, k, h)) (w : WA (g, v, x, l, u, n, k, h)) (hN : 900 ≤ N) : ∃ a b S1 code0, S1.2.2 10 11 = some a ∧ S1.2.2 10 12 = some b ∧ ((a = 136 ∧ b = 140) ∨ (a = 140 ∧ b = 136)) ∧ ruleCode u.2 u.1 = .inl code0 ∧ CRu S1 a code0 ∧ CA S1 (g, v, (0, x.2), l, u, n, k, h) ∧ Fr lowC S S1 ∧
    match ruleCode x.2 x.1 with
    | .inr r => f_c10_readSpareRule N 10 (mk L S) = some (nI r, mk L S1) ∧ r < 1000
    | .inl code => f_c10_readSpareRule N 10 (mk L S) = some (-1, mk L S1) ∧ CRu S1 b code := by
  have hx : x.1 ≤ 80 := w.2.2.1.1
  have hb : ∀ j, j < x.1 → x.2 j < 256 := w.2.2.1.2
  have e11 : S.1 11 1 = nI x.1 := q.2.2.1.1
  have ex : ∀ j, j < x.1 → S.1 12 j = nI (x.2 j) := q.2.2.1.2
  obtain ⟨⟨a, b, q1, q2, q3, code0, q4, q5⟩, z0⟩ := q.2.2.2.2.1
  change ruleCode u.2 u.1 = .inl code0 at q4
  have hrb : RA b := by rcases q3 with ⟨-, rfl⟩ | ⟨-, rfl⟩; exact RA_140; exact RA_136
  -- behind the reading
  have fin : ∀ S1 : gS, Fr (pR b) S S1 → (stI S1 11 1 0).2.2 10 11 = some a ∧ (stI S1 11 1 0).2.2 10 12 = some b ∧ CRu (stI S1 11 1 0) a code0 ∧ CA (stI S1 11 1 0) (g, v, (0, x.2), l, u, n, k, h) ∧ Fr lowC S (stI S1 11 1 0) ∧ f_c8_cutTo N 11 0 (mk L S1) = some (1, mk L (stI S1 11 1 0)) ∧ ∀ code, CRu S1 b code → CRu (stI S1 11 1 0) b code := by
    intro S1 f1
    have r1 : CRu S1 a code0 := q5.fr f1 ⟨by show ¬ (_ ∨ _); omega, by show ¬ (_ ∨ _); omega⟩
    have p1 : S1.2.2 10 11 = some a := (f1.p (by show ¬ (_ ∨ _); omega) 11).trans q1
    have p2 : S1.2.2 10 12 = some b := (f1.p (by show ¬ (_ ∨ _); omega) 12).trans q2
    have c1 : CA S1 (g, v, x, l, u, n, k, h) := q.rule (f1.mono (fun y hy => by have z : y = b ∨ y = b + 1 ∨ y = b + 2 := hy; show _ ∨ _; omega)) ⟨a, b, p1, p2, q3, code0, q4, r1⟩
    obtain ⟨e2, c2⟩ := C_cut (L := L) (N := N) (d := 0) c1 hx (by omega)
    rw [nI_0] at e2 c2
    refine ⟨p1, p2, r1.fr (Fr.stI (A := fun y => y = 11) rfl) ⟨by omega, by omega⟩, c2, lowTr (f1.low (fun y hy => by have z : y = b ∨ y = b + 1 ∨ y = b + 2 := hy; omega)) (Fr.stI (by unfold lowC; omega)), e2, fun code hcd => hcd.fr (Fr.stI (A := fun y => y = 11) rfl) ⟨by omega, by omega⟩⟩
  unfold ruleCode
  by_cases z : x.1 = 0
  · have er := C_read (L := L) (N := N) (S := S) (a := b) (b := 1) (t := t0) (len := 5) (cap := 5) hrb hN (by omega) (by omega) (by omega) (fun j hj => by unfold t0; (repeat' split) <;> omega) (fun S' => zn1) (fun S' j f1 hj => by
      have hj5 : j < 5 := by omega
      rw [zg1 hj5, f1.i (by show ¬ (_ ∨ _); omega)]
      congr 1
      match j, hj5 with
      | 0, _ => exact z0.1
      | 1, _ => exact z0.2.1
      | 2, _ => exact z0.2.2.1
      | 3, _ => exact z0.2.2.2.1
      | 4, _ => exact z0.2.2.2.2.1
      | j + 5, hj => omega)
    rw [t0_code] at er
    obtain ⟨S1, e1, f1, r1⟩ := er
    obtain ⟨x1, x2, x3, x4, x5, x6, x7⟩ := fin S1 f1
    refine ⟨a, b, stI S1 11 1 0, code0, x1, x2, q3, q4, x3, x4, x5, ?_⟩
    rw [if_pos z]
    refine ⟨?_, x7 _ r1⟩
    simp (disch := omega) only [Option.bind_some, ↓ile_t, ↓ile_f, ↓ilt_t, ↓ilt_f, ↓ieq_t, ↓ieq_f, ↓iz_t, ↓iz_f, ↓iltz, ↓izle, ↓ilez_t, ↓ilez_f, ↓im1, ile_t, ile_f, ilt_t, ilt_f, ieq_t, ieq_f, iz_t, iz_f, iltz, izle, ilez_t, ilez_f, im1, gZ_0, gZ_1, e10, e00, ↓reduceIte, Sum.elim_inl, Sum.elim_inr, nI_1, nI_add, Int32.sub_zero, f_c10_readSpareRule, zc10, zr10_0, zr10_1, zr10_2, zr10_3, zr10_4, zr10_5, zr10_6, zr10_7, zr10_8, zr10_9, zr10_10, zs10_11, zs10_12, zc11, zr11_0, zi11_1, zs11_1, e11, zr10_12 q2, zn1, e1, x6]
  · have er := C_read (L := L) (N := N) (S := S) (a := b) (b := 12) (t := x.2) (len := x.1) (cap := 80) hrb hN hx (by omega) (by omega) hb (fun S' => zn12) (fun S' j f1 hj => by
      rw [zg12 (by omega), f1.i (by show ¬ (_ ∨ _); omega)]
      exact congrArg some (ex j (by omega)))
    rw [if_neg z]
    cases hc : cRead x.2 x.1 with
    | inr r =>
      rw [hc] at er
      obtain ⟨S1, e1, f1, hr⟩ := er
      obtain ⟨x1, x2, x3, x4, x5, x6, x7⟩ := fin S1 f1
      refine ⟨a, b, stI S1 11 1 0, code0, x1, x2, q3, q4, x3, x4, x5, ?_, hr⟩
      simp (disch := omega) only [Option.bind_some, ↓ile_t, ↓ile_f, ↓ilt_t, ↓ilt_f, ↓ieq_t, ↓ieq_f, ↓iz_t, ↓iz_f, ↓iltz, ↓izle, ↓ilez_t, ↓ilez_f, ↓im1, ile_t, ile_f, ilt_t, ilt_f, ieq_t, ieq_f, iz_t, iz_f, iltz, izle, ilez_t, ilez_f, im1, gZ_0, gZ_1, e10, e00, ↓reduceIte, Sum.elim_inl, Sum.elim_inr, nI_1, nI_add, Int32.sub_zero, f_c10_readSpareRule, zc10, zr10_0, zr10_1, zr10_2, zr10_3, zr10_4, zr10_5, zr10_6, zr10_7, zr10_8, zr10_9, zr10_10, zs10_11, zs10_12, zc11, zr11_0, zi11_1, zs11_1, e11, zr10_12 q2, e1, x6]
    | inl code =>
      rw [hc] at er
      obtain ⟨S1, e1, f1, r1⟩ := er
      obtain ⟨x1, x2, x3, x4, x5, x6, x7⟩ := fin S1 f1
      refine ⟨a, b, stI S1 11 1 0, code0, x1, x2, q3, q4, x3, x4, x5, ?_, x7 _ r1⟩
      simp (disch := omega) only [Option.bind_some, ↓ile_t, ↓ile_f, ↓ilt_t, ↓ilt_f, ↓ieq_t, ↓ieq_f, ↓iz_t, ↓iz_f, ↓iltz, ↓izle, ↓ilez_t, ↓ilez_f, ↓im1, ile_t, ile_f, ilt_t, ilt_f, ieq_t, ieq_f, iz_t, iz_f, iltz, izle, ilez_t, ilez_f, im1, gZ_0, gZ_1, e10, e00, ↓reduceIte, Sum.elim_inl, Sum.elim_inr, nI_1, nI_add, Int32.sub_zero, f_c10_readSpareRule, zc10, zr10_0, zr10_1, zr10_2, zr10_3, zr10_4, zr10_5, zr10_6, zr10_7, zr10_8, zr10_9, zr10_10, zs10_11, zs10_12, zc11, zr11_0, zi11_1, zs11_1, e11, zr10_12 q2, e1, x6]
/-- the reference's text laid into a rule's cell -/
theorem M_copy {id m : Nat} {t : Nat → Nat} {Lp : Nat → Int32 → gH → Option gH} (hid : id = 151 ∨ id = 152) (hm : m ≤ 40) (ht : ∀ j, j < m → t j < 256 ∧ T.1 148 j = bI (t j)) (h17 : T.2.2 144 17 = some id) (hN : 900 ≤ N)
    (hs : ∀ kk i (s : gS), i < m → s.2.2 144 17 = some id → s.1 148 i = bI (t i) → Lp (kk + 1) (nI i) (mk L s) = Lp kk (nI (i + 1)) (mk L (stI s id i (bI (t i)))))
    (he : ∀ kk (s : gS), Lp (kk + 1) (nI m) (mk L s) = some (mk L s)) :
    ∃ T', Lp N 0 (mk L T) = some (mk L T') ∧ FM (fun y => y = id) (fun _ => False) T T' ∧ ∀ j, j < m → T'.1 id j = bI (t j) := by
  obtain ⟨r, e, T', er, h1, h2⟩ := lp_inv (Lp := fun kk (s : gS) i => Lp kk (nI i) (mk L s)) (n := m) (P := fun i s => FM (fun y => y = id) (fun _ => False) T s ∧ ∀ j, j < i → s.1 id j = bI (t j)) (Q := fun r => ∃ T', r = mk L T' ∧ FM (fun y => y = id) (fun _ => False) T T' ∧ ∀ j, j < m → T'.1 id j = bI (t j))
    (fun kk i s hi hs' => Or.inr ⟨_, hs kk i s hi ((hs'.1.p (fun z => z)).trans h17) ((hs'.1.i (by omega) (by omega) i).trans (ht i hi).2), hs'.1.tr (FM.stA rfl (by omega)), fun j hj => by
      by_cases z : j = i
      · subst z; exact rdI_eq
      · rw [rdI_ne (by omega)]; exact hs'.2 j (by omega)⟩)
    (fun kk s hs' => ⟨_, he kk s, s, rfl, hs'⟩) m N 0 T (by omega) (by omega) ⟨FM.refl, fun j hj => by omega⟩
  rw [er, nI_0] at e
  exact ⟨T', e, h1, h2⟩
theorem M_spare (mt : MA T (g, v, x, l, u, n, k, h) c) (w : WA (g, v, x, l, u, n, k, h)) (hN : 900 ≤ N) : ∃ T1, MA T1 (g, v, (0, x.2), l, u, n, k, h) c ∧ Fr highM T T1 ∧ (∀ j, j < x.1 → x.2 j < 256 ∧ T1.1 148 j = bI (x.2 j)) ∧
    match ruleCode x.2 x.1 with
    | .inr q => f_c11_readRule N 144 (mk L T) = some (0, mk L T1) ∧ T1.1 144 15 = nI q ∧ q < 1000
    | .inl _ => f_c11_readRule N 144 (mk L T) = some (1, mk L T1) := by
  obtain ⟨T1, f1, e7, e20, hr⟩ := M_readRule (L := L) (N := N) mt.2.2.1 w.2.2.1.1 hN
  refine ⟨T1, mt.text (f1.mono (fun y hy => hy.elim) (fun y hy => by show _ ∨ _; unfold sK; omega)) ⟨e7, fun j hj => by cases (show j < 0 from hj)⟩, f1.high (fun y hy => hy.elim), fun j hj => ⟨(mt.2.2.1.2 j hj).1, (f1.i (by omega) (fun z => z) j).trans (mt.2.2.1.2 j hj).2⟩, hr⟩
theorem A_rule (w : WA A) (q : CA S A) (m : MA S A c) (hN : 900 ≤ N) : Agr L S c (f_c10_rule N 10) (f_c11_rule N 144) := by
  obtain ⟨g, v, x, l, u, n, k, h⟩ := A
  have hx : x.1 ≤ 80 := w.2.2.1.1
  have hb : ∀ j, j < x.1 → x.2 j < 256 := w.2.2.1.2
  obtain ⟨a, b, S1, code0, p1, p2, p3, p4, p5, q1, f1, hr⟩ := C_spare (L := L) (N := N) q w hN
  have w1 : WA (g, v, (0, x.2), l, u, n, k, h) := ⟨w.1, w.2.1, ⟨by show 0 ≤ 80; omega, fun j hj => by cases (show j < 0 from hj)⟩, w.2.2.2⟩
  cases hc : ruleCode x.2 x.1 with
  | inr r =>
    rw [hc] at hr
    obtain ⟨e1, hr⟩ := hr
    refine AgrI (c' := c) m (r := -1 - nI r) (S1 := S1) ?_ f1 q1 w1 (by omega) (fun T mt => ?_)
    · simp (disch := omega) only [Option.bind_some, ↓ile_t, ↓ile_f, ↓ilt_t, ↓ilt_f, ↓ieq_t, ↓ieq_f, ↓iz_t, ↓iz_f, ↓iltz, ↓izle, ↓ilez_t, ↓ilez_f, ↓im1, ile_t, ile_f, ilt_t, ilt_f, ieq_t, ieq_f, iz_t, iz_f, iltz, izle, ilez_t, ilez_f, im1, gZ_0, gZ_1, e10, e00, ↓reduceIte, Sum.elim_inl, Sum.elim_inr, nI_1, nI_add, Int32.sub_zero, f_c10_rule, zc10, zr10_0, zr10_1, zr10_2, zr10_3, zr10_4, zr10_5, zr10_6, zr10_7, zr10_8, zr10_9, zr10_10, zs10_11, zs10_12, e1]
    · have t1 := mt.thr
      obtain ⟨T1, t2, g1, -, hM⟩ := M_spare (L := L) (N := N) t1 w hN
      rw [hc] at hM
      have e7 : (stI T 144 10 0).1 144 7 = nI x.1 := t1.2.2.1.1
      refine ⟨T1, ?_, highTr thrH g1, t2⟩
      simp (disch := omega) only [Option.bind_some, ↓ile_t, ↓ile_f, ↓ilt_t, ↓ilt_f, ↓ieq_t, ↓ieq_f, ↓iz_t, ↓iz_f, ↓iltz, ↓izle, ↓ilez_t, ↓ilez_f, ↓im1, ile_t, ile_f, ilt_t, ilt_f, ieq_t, ieq_f, iz_t, iz_f, iltz, izle, ilez_t, ilez_f, im1, gZ_0, gZ_1, e10, e00, ↓reduceIte, Sum.elim_inl, Sum.elim_inr, nI_1, nI_add, Int32.sub_zero, f_c11_rule, zc144, zs144_10, zi144_7, e7, hM.1, zi144_15, hM.2.1, e00]
  | inl code =>
    rw [hc] at hr
    obtain ⟨e1, r1⟩ := hr
    have h40 := ruleCode_len hc
    have q2 : CA (stP (stP S1 10 11 (some b)) 10 12 (some a)) (g, v, (0, x.2), l, x, n, k, h) := by
      refine q1.rule ((Fr.stP (A := fun y => sC y ∨ y = 10 ∨ (136 ≤ y ∧ y ≤ 143)) (by omega)).trans (Fr.stP (A := fun y => sC y ∨ y = 10 ∨ (136 ≤ y ∧ y ≤ 143)) (by omega)) (fun _ z => z) (fun _ z => z)) ⟨b, a, ?_, rdP_eq, by omega, code, hc, r1⟩
      rw [rdP_ne (by omega), rdP_eq]
    refine AgrI (c' := c) m (r := 0) (S1 := stP (stP S1 10 11 (some b)) 10 12 (some a)) ?_ (lowTr f1 (lowTr (Fr.stP (by unfold lowC; omega)) (Fr.stP (by unfold lowC; omega)))) q2 ⟨w.1, w.2.1, w1.2.2.1, w.2.2.2.1, ⟨⟨h40, hb⟩, code, hc⟩, w.2.2.2.2.2⟩ (by omega) (fun T mt => ?_)
    · have m1 : (-1 : Int32) < 0 := by decide
      simp (disch := omega) only [Option.bind_some, ↓ile_t, ↓ile_f, ↓ilt_t, ↓ilt_f, ↓ieq_t, ↓ieq_f, ↓iz_t, ↓iz_f, ↓iltz, ↓izle, ↓ilez_t, ↓ilez_f, ↓im1, ile_t, ile_f, ilt_t, ilt_f, ieq_t, ieq_f, iz_t, iz_f, iltz, izle, ilez_t, ilez_f, im1, gZ_0, gZ_1, e10, e00, ↓reduceIte, Sum.elim_inl, Sum.elim_inr, nI_1, nI_add, Int32.sub_zero, f_c10_rule, zc10, zr10_0, zr10_1, zr10_2, zr10_3, zr10_4, zr10_5, zr10_6, zr10_7, zr10_8, zr10_9, zr10_10, zs10_11, zs10_12, e1, if_pos m1, zr10_11 p1, zr10_12 p2, zs10_11, zs10_12]
    · have t1 := mt.thr
      obtain ⟨T1, t2, g1, ht, hM⟩ := M_spare (L := L) (N := N) t1 w hN
      rw [hc] at hM
      have e7 : (stI T 144 10 0).1 144 7 = nI x.1 := t1.2.2.1.1
      obtain ⟨T2, a1, a2, a3⟩ := M_copy (L := L) (N := N) (T := T1) (id := 151) (m := x.1) (t := x.2) (Lp := lp_c11_rule_26 N 144 (nI x.1)) (by omega) h40 ht t2.2.2.2.2.1.1.1 hN
        (fun kk i s hi h17 h148 => by
          have hbi := bI_nar _ (hb i hi)
          rw [lp_c11_rule_26.eq_2]
          simp (disch := omega) only [Option.bind_some, ↓ile_t, ↓ile_f, ↓ilt_t, ↓ilt_f, ↓ieq_t, ↓ieq_f, ↓iz_t, ↓iz_f, ↓iltz, ↓izle, ↓ilez_t, ↓ilez_f, ↓im1, ile_t, ile_f, ilt_t, ilt_f, ieq_t, ieq_f, iz_t, iz_f, iltz, izle, ilez_t, ilez_f, im1, gZ_0, gZ_1, e10, e00, ↓reduceIte, Sum.elim_inl, Sum.elim_inr, nI_1, nI_add, Int32.sub_zero, zr144_17 h17, zr144_6, zg148, h148, zp151, hbi])
        (fun kk s => by
          rw [lp_c11_rule_26.eq_2]
          simp (disch := omega) only [Option.bind_some, ↓ile_t, ↓ile_f, ↓ilt_t, ↓ilt_f, ↓ieq_t, ↓ieq_f, ↓iz_t, ↓iz_f, ↓iltz, ↓izle, ↓ilez_t, ↓ilez_f, ↓im1, ile_t, ile_f, ilt_t, ilt_f, ieq_t, ieq_f, iz_t, iz_f, iltz, izle, ilez_t, ilez_f, im1, gZ_0, gZ_1, e10, e00, ↓reduceIte, Sum.elim_inl, Sum.elim_inr, nI_1, nI_add, Int32.sub_zero, ])
      have mu : MU (stI T2 144 19 (nI x.1)) 151 x.1 x.2 := ⟨(a2.p (fun z => z)).trans t2.2.2.2.2.1.1.1, rdI_eq, h40, by omega, fun j hj => ⟨hb j hj, by rw [rdI_ne (by omega)]; exact a3 j hj⟩⟩
      have fF : FM (fun y => y = 151) (fun y => y = 19) T1 (stI T2 144 19 (nI x.1)) := (a2.mono (fun _ z => z) (fun _ z => z.elim)).tr (FM.stK rfl)
      obtain ⟨s1, s2, s3, s4, ⟨s5, s0⟩, s6, s7, s8⟩ := t2
      refine ⟨stI T2 144 19 (nI x.1), ?_, highTr thrH (highTr g1 (fF.high (fun y hy => by omega))), ?_⟩
      · simp (disch := omega) only [Option.bind_some, ↓ile_t, ↓ile_f, ↓ilt_t, ↓ilt_f, ↓ieq_t, ↓ieq_f, ↓iz_t, ↓iz_f, ↓iltz, ↓izle, ↓ilez_t, ↓ilez_f, ↓im1, ile_t, ile_f, ilt_t, ilt_f, ieq_t, ieq_f, iz_t, iz_f, iltz, izle, ilez_t, ilez_f, im1, gZ_0, gZ_1, e10, e00, ↓reduceIte, Sum.elim_inl, Sum.elim_inr, nI_1, nI_add, Int32.sub_zero, f_c11_rule, zc144, zs144_10, zi144_7, e7, hM, a1, zs144_19]
      · exact ⟨s1.fm fF ⟨by omega, by omega, by omega⟩ ⟨by omega, by omega⟩, s2.fm fF (by omega) (by omega), s3.fm fF (by omega) (by omega), s4.fm fF (by omega) (by omega), ⟨mu, (fF.p (by omega)).trans s0⟩, s6.fm fF (by omega) (by omega), s7.fm fF ⟨by omega, by omega, by omega⟩ (by omega), s8.fm fF ⟨by omega, by omega⟩ (by omega)⟩
theorem M_par10 {id m : Nat} {t : Nat → Nat} (hm : MW T 145 v) (hM : MG T g) (hg : WG g) (hv : WV g v) (hu : MU T id m t) (hc : ruleCode t m = .inl code) (hN : 900 ≤ N) : ∃ T', f_c11_parchedIn10 N 144 (mk L T) = some (nI (sMore code g v 10), mk L T') ∧ FM (qA 156) qK T T' := by
  obtain ⟨T1, e1, e2, e3⟩ := M_aside (L := L) (N := N) (d := 156) MA_145 (by omega) (by omega) hm hv.1 hN
  have hM1 : MG T1 g := hM.fm e2 ⟨fun z => z, fun z => z, fun z => z⟩ ⟨by omega, by omega⟩
  have hu1 : MU T1 id m t := hu.fm e2 ⟨by omega, by omega⟩ ⟨fun z => z, fun z => z⟩
  obtain ⟨T2, a1, a2, a3, -⟩ := M_seasons (L := L) (N := N) (k0 := 10) MA_156 (by omega) (by omega) e3 hM1 hg hv hu1 hc (by omega) hN
  have hP := vSeas_P (code := code) hv 10
  refine ⟨T2, ?_, (e2.mono (fun y hy => Or.inl hy) (fun _ z => z.elim)).tr a2⟩
  rw [← k10] at a1
  simp (disch := omega) only [Option.bind_some, ↓ile_t, ↓ile_f, ↓ilt_t, ↓ilt_f, ↓ieq_t, ↓ieq_f, ↓iz_t, ↓iz_f, ↓iltz, ↓izle, ↓ilez_t, ↓ilez_f, ↓im1, ile_t, ile_f, ilt_t, ilt_f, ieq_t, ieq_f, iz_t, iz_f, iltz, izle, ilez_t, ilez_f, im1, gZ_0, gZ_1, e10, e00, ↓reduceIte, Sum.elim_inl, Sum.elim_inr, nI_1, nI_add, Int32.sub_zero, f_c11_parchedIn10, zc144, zr144_0, zr144_25, e1, f_c11_parchedIn, k42, zg156, e3.2.2.1, a1, a3.2.2.1, nI_sub, sMore_e]
theorem A_law (w : WA A) (q : CA S A) (m : MA S A c) (hN : 900 ≤ N) : Agr L S c (f_c10_law N 10) (f_c11_law N 144) := by
  obtain ⟨g, v, x, l, u, n, k, h⟩ := A
  have wv : WV g v := w.2.1
  have wg : WG g := w.1
  have hx : x.1 ≤ 80 := w.2.2.1.1
  have hb : ∀ j, j < x.1 → x.2 j < 256 := w.2.2.1.2
  obtain ⟨a, b, S1, code0, p1, p2, p3, p4, p5, q1, f1, hr⟩ := C_spare (L := L) (N := N) q w hN
  have w1 : WA (g, v, (0, x.2), l, u, n, k, h) := ⟨w.1, w.2.1, ⟨by show 0 ≤ 80; omega, fun j hj => by cases (show j < 0 from hj)⟩, w.2.2.2⟩
  cases hc : ruleCode x.2 x.1 with
  | inr r =>
    rw [hc] at hr
    obtain ⟨e1, hr⟩ := hr
    refine AgrI (c' := c) m (r := -10000 - nI r) (S1 := S1) ?_ f1 q1 w1 (by omega) (fun T mt => ?_)
    · simp (disch := omega) only [Option.bind_some, ↓ile_t, ↓ile_f, ↓ilt_t, ↓ilt_f, ↓ieq_t, ↓ieq_f, ↓iz_t, ↓iz_f, ↓iltz, ↓izle, ↓ilez_t, ↓ilez_f, ↓im1, ile_t, ile_f, ilt_t, ilt_f, ieq_t, ieq_f, iz_t, iz_f, iltz, izle, ilez_t, ilez_f, im1, gZ_0, gZ_1, e10, e00, ↓reduceIte, Sum.elim_inl, Sum.elim_inr, nI_1, nI_add, Int32.sub_zero, f_c10_law, zc10, zr10_0, zr10_1, zr10_2, zr10_3, zr10_4, zr10_5, zr10_6, zr10_7, zr10_8, zr10_9, zr10_10, zs10_11, zs10_12, e1]
    · have t1 := mt.thr
      obtain ⟨T1, t2, g1, -, hM⟩ := M_spare (L := L) (N := N) t1 w hN
      rw [hc] at hM
      have e7 : (stI T 144 10 0).1 144 7 = nI x.1 := t1.2.2.1.1
      refine ⟨T1, ?_, highTr thrH g1, t2⟩
      simp (disch := omega) only [Option.bind_some, ↓ile_t, ↓ile_f, ↓ilt_t, ↓ilt_f, ↓ieq_t, ↓ieq_f, ↓iz_t, ↓iz_f, ↓iltz, ↓izle, ↓ilez_t, ↓ilez_f, ↓im1, ile_t, ile_f, ilt_t, ilt_f, ieq_t, ieq_f, iz_t, iz_f, iltz, izle, ilez_t, ilez_f, im1, gZ_0, gZ_1, e10, e00, ↓reduceIte, Sum.elim_inl, Sum.elim_inr, nI_1, nI_add, Int32.sub_zero, f_c11_law, zc144, zs144_10, zi144_7, e7, hM.1, zi144_15, hM.2.1, e00]
  | inl code =>
    rw [hc] at hr
    obtain ⟨e1, r1⟩ := hr
    have h40 := ruleCode_len hc
    obtain ⟨S2, e2, f2, s2⟩ := C_take (L := L) (N := N) SA_31 SA_19 (by omega) q1.2.1 wv.1 hN
    have q2 : CA S2 (g, v, (0, x.2), l, u, n, k, h) := q1.fr f2 (fun y hy => by unfold sC; omega)
    have p2' : S2.2.2 10 12 = some b := (f2.p (by omega) 12).trans p2
    have r2 : CRu S2 b code := r1.fr f2 ⟨by omega, by omega⟩
    have gd : cGood code := ruleCode_good (len := x.1) (t := x.2) hx hb hc
    obtain ⟨S3, e3, f3, -, -⟩ := C_pass (L := L) (N := N) (n := 10) (by omega) SA_31 (by omega) s2 q2.1 wg wv r2 gd (by omega) hN
    have q3 := pS31 q2 f3
    obtain ⟨S4, e4, q4, -, f4, -⟩ := C_try (L := L) (N := N) (d := 10) q3.1 w1 p4 (by omega) hN
    obtain ⟨S5, e5, q5, f5⟩ := C_tell2A (L := L) (N := N) (r := nI (sMore code g v 10) - nI (sMore code0 g v 10)) (y := (nI (sMore code g v 10)).toInt64) (z := (nI (sMore code0 g v 10)).toInt64) q4
    rw [← k10] at e3 e4
    have w5 : WA (g, v, (0, x.2), [(nI (sMore code g v 10)).toInt64, (nI (sMore code0 g v 10)).toInt64], u, n, k, h) := w1.rw (by show 2 ≤ 8; omega)
    refine AgrI (c' := c) m (r := nI (sMore code g v 10) - nI (sMore code0 g v 10)) (S1 := S5) ?_ (lowTr f1 (lowTr (f2.low (fun y hy => by omega)) (lowTr q3.2 (lowTr f4 f5)))) q5 w5 (by omega) (fun T mt => ?_)
    · have m1 : (-1 : Int32) < 0 := by decide
      unfold f_c10_law
      rw [zc10, Option.bind_some, e1, Option.bind_some]
      dsimp only
      rw [if_pos m1, zr10_5, Option.bind_some, zr10_3, Option.bind_some, e2, Option.bind_some, zr10_6, Option.bind_some, zr10_5, Option.bind_some, zr10_2, Option.bind_some, zr10_12 p2', Option.bind_some, e3, Option.bind_some]
      dsimp only
      rw [e4, Option.bind_some]
      dsimp only
      rw [e5, Option.bind_some]
    · have t1 := mt.thr
      obtain ⟨T1, t2, g1, ht, hM⟩ := M_spare (L := L) (N := N) t1 w hN
      rw [hc] at hM
      have e7 : (stI T 144 10 0).1 144 7 = nI x.1 := t1.2.2.1.1
      obtain ⟨T2, a2, b2⟩ := M_par10 (L := L) (N := N) t2.2.1 t2.1 wg wv t2.2.2.2.2.1.1 p4 hN
      have t3 := qA156 t2 b2
      have h17 : T2.2.2 144 17 = some 151 := t3.1.2.2.2.2.1.1.1
      have h19 : T2.1 144 19 = nI u.1 := t3.1.2.2.2.2.1.1.2.1
      have ht2 : ∀ j, j < x.1 → x.2 j < 256 ∧ (stI (stP T2 144 17 (some 152)) 144 19 (nI x.1)).1 148 j = bI (x.2 j) := fun j hj => ⟨hb j hj, by
        rw [rdI_ne (by omega), rdP1, b2.i (by omega) (by show ¬ (_ ∨ _); omega) j]
        exact (ht j hj).2⟩
      obtain ⟨T3, a3, b3, d3⟩ := M_copy (L := L) (N := N) (T := stI (stP T2 144 17 (some 152)) 144 19 (nI x.1)) (id := 152) (m := x.1) (t := x.2) (Lp := lp_c11_law_58 N 144 (nI x.1)) (by omega) h40 ht2 rdP_eq hN
        (fun kk i s hi h17 h148 => by
          have hbi := bI_nar _ (hb i hi)
          rw [lp_c11_law_58.eq_2]
          simp (disch := omega) only [Option.bind_some, ↓ile_t, ↓ile_f, ↓ilt_t, ↓ilt_f, ↓ieq_t, ↓ieq_f, ↓iz_t, ↓iz_f, ↓iltz, ↓izle, ↓ilez_t, ↓ilez_f, ↓im1, ile_t, ile_f, ilt_t, ilt_f, ieq_t, ieq_f, iz_t, iz_f, iltz, izle, ilez_t, ilez_f, im1, gZ_0, gZ_1, e10, e00, ↓reduceIte, Sum.elim_inl, Sum.elim_inr, nI_1, nI_add, Int32.sub_zero, zr144_17 h17, zr144_6, zg148, h148, zp152, hbi])
        (fun kk s => by
          rw [lp_c11_law_58.eq_2]
          simp (disch := omega) only [Option.bind_some, ↓ile_t, ↓ile_f, ↓ilt_t, ↓ilt_f, ↓ieq_t, ↓ieq_f, ↓iz_t, ↓iz_f, ↓iltz, ↓izle, ↓ilez_t, ↓ilez_f, ↓im1, ile_t, ile_f, ilt_t, ilt_f, ieq_t, ieq_f, iz_t, iz_f, iltz, izle, ilez_t, ilez_f, im1, gZ_0, gZ_1, e10, e00, ↓reduceIte, Sum.elim_inl, Sum.elim_inr, nI_1, nI_add, Int32.sub_zero, ])
      have fA : FM (fun y => y = 152) (fun y => y = 17 ∨ y = 19) T2 T3 := ((FM.stP (A := fun y => y = 152) (K := fun y => y = 17 ∨ y = 19) (by omega)).tr (FM.stK (by omega))).tr (b3.mono (fun _ z => z) (fun _ z => z.elim))
      have mu : MU T3 152 x.1 x.2 := ⟨(b3.p (fun z => z)).trans rdP_eq, (b3.k (fun z => z)).trans rdI_eq, h40, by omega, fun j hj => ⟨hb j hj, d3 j hj⟩⟩
      obtain ⟨T4, a4, b4⟩ := M_par10 (L := L) (N := N) (T := T3) (t3.1.2.1.fm fA (by omega) (by omega)) (t3.1.1.fm fA ⟨by omega, by omega, by omega⟩ ⟨by omega, by omega⟩) wg wv mu hc hN
      have fB : FM (fun y => y = 152 ∨ (156 ≤ y ∧ y ≤ 159) ∨ y = 153) (fun y => y = 17 ∨ y = 19 ∨ y = 20 ∨ (11 ≤ y ∧ y ≤ 15)) T2 (stI (stP T4 144 17 (some 151)) 144 19 (nI u.1)) :=
        ((fA.mono (fun y hy => by omega) (fun y hy => by omega)).tr (b4.mono (fun y hy => by have z : y = 156 ∨ y = 153 ∨ (157 ≤ y ∧ y ≤ 159) := hy; omega) (fun y hy => by have z : y = 20 ∨ (11 ≤ y ∧ y ≤ 15) := hy; omega))).tr ((FM.stP (by omega)).tr (FM.stK (by omega)))
      have t5 : MA (stI (stP T4 144 17 (some 151)) 144 19 (nI u.1)) (g, v, (0, x.2), l, u, n, k, h) c := by
        obtain ⟨s1, s2, s3, s4, ⟨s5, s0⟩, s6, s7, s8⟩ := t3.1
        exact ⟨s1.fm fB ⟨by omega, by omega, by omega⟩ ⟨by omega, by omega⟩, s2.fm fB (by omega) (by omega), s3.fm fB (by omega) (by omega), s4.fm fB (by omega) (by omega), ⟨⟨rdP_eq, rdI_eq, s5.2.2.1, s5.2.2.2.1, fun j hj => ⟨(s5.2.2.2.2 j hj).1, (fB.i (by omega) (by omega) j).trans (s5.2.2.2.2 j hj).2⟩⟩, (fB.p (by omega)).trans s0⟩, s6.fm fB (by omega) (by omega), s7.fm fB ⟨by omega, by omega, by omega⟩ (by omega), s8.fm fB ⟨by omega, by omega⟩ (by omega)⟩
      obtain ⟨T5, a5, t6, g5, -⟩ := M_t1 (L := L) (N := N) (y := (nI (sMore code g v 10)).toInt64) t5
      obtain ⟨T6, a6, t7, g6, -⟩ := M_t2 (L := L) (N := N) (z := (nI (sMore code0 g v 10)).toInt64) t6
      refine ⟨T6, ?_, highTr thrH (highTr g1 (highTr t3.2 (highTr (fB.high (fun y hy => by omega)) (highTr g5 g6)))), t7⟩
      unfold f_c11_law
      rw [zc144, Option.bind_some, zs144_10, Option.bind_some, zi144_7, e7, Option.bind_some, hM, Option.bind_some]
      dsimp only
      rw [if_neg n10, a2, Option.bind_some]
      dsimp only
      rw [zr144_17 h17, Option.bind_some, zi144_19, h19, Option.bind_some, zr144_18, Option.bind_some, zs144_17, Option.bind_some, zs144_19, Option.bind_some, a3, Option.bind_some, a4, Option.bind_some]
      dsimp only
      rw [zs144_17, Option.bind_some, zs144_19, Option.bind_some, zs144_9, Option.bind_some, a5, Option.bind_some, a6, Option.bind_some]
end RULES
