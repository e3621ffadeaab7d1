/-! CALLS that look at seasons to come: what they stand on -/
theorem bitC_ex (x : Int32) : ∃ y, ∀ (N : Nat) (h : gH), f_jInteger_bitCount N x h = some y := ⟨_, fun _ _ => rfl⟩
noncomputable def bitC (x : Int32) : Int32 := (bitC_ex x).choose
theorem bitC_e {x : Int32} {N : Nat} {h : gH} : f_jInteger_bitCount N x h = some (bitC x) := (bitC_ex x).choose_spec N h
theorem i32_nle {x y : Int32} (h : ¬ x ≤ y) : y < x := by
  rw [i32_lt]
  rw [i32_le] at h
  exact Int.lt_of_not_ge h
theorem cas (p : Int32) (lo hi : Nat) (hl : lo < 2147483648) (hh : hi < 2147483648) : (p < nI lo ∨ (¬ p < nI lo ∧ ¬ p ≤ nI hi)) ∨ ∃ d, lo ≤ d ∧ d ≤ hi ∧ p = nI d := by
  by_cases h1 : p < nI lo
  · exact Or.inl (Or.inl h1)
  · by_cases h2 : p ≤ nI hi
    · obtain ⟨d, e, d1, d2⟩ := rng (y := p) h1 (fun z => by rw [i32_le] at h2; rw [i32_lt] at z; exact absurd (Int.lt_of_lt_of_le z h2) (Int.lt_irrefl _)) hl hh
      exact Or.inr ⟨d, d1, d2, e⟩
    · exact Or.inl (Or.inr ⟨h1, h2⟩)
theorem sMore_e {code : List Int32} {g : pG} {v : pV} {d : Nat} : vP (vSeas code g v d) - vP v = sMore code g v d := rfl
section TRIALS
variable {L N : Nat} {S T : gS} {c : Nat} {g : pG} {v v' : pV} {x : pX} {l : List Int64} {u : pX} {n : pN} {k : Nat → Option pV} {h : pH} {A : pA} {code : List Int32}
theorem M_inF {p lo hi : Int32} {h : gH} (hp : p < lo ∨ (¬ p < lo ∧ ¬ p ≤ hi)) : f_c11_in N p lo hi h = some 0 := M_in_n (hp.elim Or.inl (fun z => Or.inr (i32_nle z.2)))
theorem M_inT {d lo hi : Nat} {h : gH} (h1 : lo ≤ d) (h2 : d ≤ hi) (h3 : hi < 2147483648) : f_c11_in N (nI d) (nI lo) (nI hi) h = some 1 := M_in_t (nI_nlt h1 (by omega)) (nI_nlt h2 h3)
theorem AgrR {α : Type} {C M : gH → Option (α × gH)} {r : α} (w : WA A) (q : CA S A) (m : MA S A c) (e : C (mk L S) = some (r, mk L S)) (f : ∀ T, MA T A c → MA (stI T 144 10 0) A c → M (mk L T) = some (r, mk L (stI T 144 10 0))) : Agr L S c C M :=
  AgrI (c' := c) m e Fr.refl q w (by omega) (fun T mt => ⟨stI T 144 10 0, f T mt mt.thr, thrH, mt.thr⟩)
theorem CA.ru (q : CA S (g, v, x, l, u, n, k, h)) (hc : ruleCode u.2 u.1 = .inl code) : ∃ a, S.2.2 10 11 = some a ∧ (a = 136 ∨ a = 140) ∧ CRu S a code := by
  obtain ⟨a, b, q1, q2, q3, code', q4, q5⟩ := q.2.2.2.2.1.1
  have e : ruleCode u.2 u.1 = .inl code' := q4
  rw [hc] at e
  cases e
  exact ⟨a, q1, by omega, q5⟩
theorem WA.good (w : WA (g, v, x, l, u, n, k, h)) (hc : ruleCode u.2 u.1 = .inl code) : cGood code := ruleCode_good (len := u.1) (t := u.2) (Nat.le_trans w.2.2.2.2.1.1.1 (by omega)) w.2.2.2.2.1.1.2 hc
theorem C_to31 (q : CA S (g, v, x, l, u, n, k, h)) (w : WA (g, v, x, l, u, n, k, h)) (hN : 900 ≤ N) : ∃ S1, f_c7_take N 31 19 (mk L S) = some (mk L S1) ∧ CA S1 (g, v, x, l, u, n, k, h) ∧ CV S1 31 v ∧ Fr lowC S S1 := by
  obtain ⟨S1, e1, e2, e3⟩ := C_take (L := L) (N := N) SA_31 SA_19 (by omega) q.2.1 w.2.1.1 hN
  exact ⟨S1, e1, q.fr e2 (fun y hy => by unfold sC; omega), e3, e2.low (fun y hy => by omega)⟩
theorem pS31 {S1 : gS} (q : CA S A) (f : Fr (pS 31) S S1) : CA S1 A ∧ Fr lowC S S1 :=
  ⟨q.fr f (fun y hy => by have z : (31 ≤ y ∧ y ≤ 31 + 5) ∨ y = 38 ∨ y = 39 ∨ y = 139 ∨ y = 143 := hy; unfold sC; omega), f.low (fun y hy => by have z : (31 ≤ y ∧ y ≤ 31 + 5) ∨ y = 38 ∨ y = 39 ∨ y = 139 ∨ y = 143 := hy; omega)⟩
theorem C_pass31 {d a : Nat} (q : CA S (g, v, x, l, u, n, k, h)) (w : WA (g, v, x, l, u, n, k, h)) (hc : ruleCode u.2 u.1 = .inl code) (ha : a = 136 ∨ a = 140) (hr : CRu S a code) (hs : CV S 31 v') (hv : WV g v') (hd : d ≤ 800) (hN : 900 ≤ N) :
    ∃ S1, f_c0_pass N 37 31 15 a (nI d) (mk L S) = some (nI (sMore code g v' d), mk L S1) ∧ CA S1 (g, v, x, l, u, n, k, h) ∧ CV S1 31 (vSeas code g v' d) ∧ Fr lowC S S1 ∧ ∀ m, d = m + 1 → ∀ i, i < gVm g → S1.1 38 i = nI (sDrew code g (vSeas code g v' m) i) ∧ S1.1 39 i = oI (sDrFr code g (vSeas code g v' m) i) := by
  obtain ⟨S1, e1, e2, e3, e4⟩ := C_pass (L := L) (N := N) (n := d) ha SA_31 (by omega) hs q.1 w.1 hv hr (w.good hc) hd hN
  exact ⟨S1, e1, (pS31 q e2).1, e3, (pS31 q e2).2, e4⟩
theorem C_try {d : Nat} (q : CA S (g, v, x, l, u, n, k, h)) (w : WA (g, v, x, l, u, n, k, h)) (hc : ruleCode u.2 u.1 = .inl code) (hd : d ≤ 800) (hN : 900 ≤ N) :
    ∃ S1, f_c10_tryAsItIs N 10 (nI d) (mk L S) = some (nI (sMore code g v d), mk L S1) ∧ CA S1 (g, v, x, l, u, n, k, h) ∧ CV S1 31 (vSeas code g v d) ∧ Fr lowC S S1 ∧ ∀ m, d = m + 1 → ∀ i, i < gVm g → S1.1 38 i = nI (sDrew code g (vSeas code g v m) i) ∧ S1.1 39 i = oI (sDrFr code g (vSeas code g v m) i) := by
  obtain ⟨S1, e1, q1, s1, f1⟩ := C_to31 (L := L) (N := N) q w hN
  obtain ⟨a, a1, a2, a3⟩ := q1.ru hc
  obtain ⟨S2, e2, q2, s2, f2, d2⟩ := C_pass31 (L := L) (N := N) q1 w hc a2 a3 s1 w.2.1 hd hN
  refine ⟨S2, ?_, q2, s2, lowTr f1 f2, d2⟩
  simp (disch := omega) only [Option.bind_some, ↓ile_t, ↓ile_f, ↓ilt_t, ↓ilt_f, ↓ieq_t, ↓ieq_f, ↓iz_t, ↓iz_f, ↓iltz, ↓izle, ↓ilez_t, ↓ilez_f, ↓im1, ile_t, ile_f, ilt_t, ilt_f, ieq_t, ieq_f, iz_t, iz_f, iltz, izle, ilez_t, ilez_f, im1, gZ_0, gZ_1, e10, e00, ↓reduceIte, Sum.elim_inl, Sum.elim_inr, nI_1, nI_add, Int32.sub_zero, f_c10_tryAsItIs, zc10, zr10_0, zr10_1, zr10_2, zr10_3, zr10_4, zr10_5, zr10_6, zr10_7, zr10_8, zr10_9, zr10_10, zs10_11, zs10_12, e1, zr10_11 a1, e2]
theorem M_then (mt : MA T (g, v, x, l, u, n, k, h) c) (w : WA (g, v, x, l, u, n, k, h)) (hN : 900 ≤ N) : ∃ T1, f_c11_lay N 145 156 0 (mk L T) = some (mk L T1) ∧ MA T1 (g, v, x, l, u, n, k, h) c ∧ MW T1 156 v ∧ Fr highM T T1 := by
  obtain ⟨T1, e1, e2, e3⟩ := M_aside (L := L) (N := N) (d := 156) MA_145 (by omega) (by omega) mt.2.1 w.2.1.1 hN
  exact ⟨T1, e1, mt.fm e2 (fun y hy => by unfold sM; omega) (fun _ z => z.elim), e3, e2.high (fun y hy => by omega)⟩
theorem qA156 {T1 : gS} (mt : MA T A c) (f : FM (qA 156) qK T T1) : MA T1 A c ∧ Fr highM T T1 :=
  ⟨mt.fm f (fun y hy => by have z : y = 156 ∨ y = 153 ∨ (157 ≤ y ∧ y ≤ 159) := hy; unfold sM; omega) (fun y hy => by have z : y = 20 ∨ (11 ≤ y ∧ y ≤ 15) := hy; unfold sK; omega), f.high (fun y hy => by have z : y = 156 ∨ y = 153 ∨ (157 ≤ y ∧ y ≤ 159) := hy; omega)⟩
theorem M_go156 {d : Nat} (mt : MA T (g, v, x, l, u, n, k, h) c) (w : WA (g, v, x, l, u, n, k, h)) (hc : ruleCode u.2 u.1 = .inl code) (hs : MW T 156 v') (hv : WV g v') (hd : d ≤ 800) (hN : 900 ≤ N) :
    ∃ T1, f_c11_goSeasons N 144 156 (nI d) (mk L T) = some (mk L T1) ∧ MA T1 (g, v, x, l, u, n, k, h) c ∧ MW T1 156 (vSeas code g v' d) ∧ Fr highM T T1 ∧ ∀ m, d = m + 1 → ∀ i, i < gVm g → T1.1 158 i = nI (sDrew code g (vSeas code g v' m) i) ∧ T1.1 159 i = oI (sDrFr code g (vSeas code g v' m) i) := by
  obtain ⟨T1, e1, e2, e3, e4⟩ := M_seasons (L := L) (N := N) (k0 := d) MA_156 (by omega) (by omega) hs mt.1 w.1 hv mt.2.2.2.2.1.1 hc hd hN
  exact ⟨T1, e1, (qA156 mt e2).1, e3, (qA156 mt e2).2, e4⟩
theorem M_one156 (mt : MA T (g, v, x, l, u, n, k, h) c) (w : WA (g, v, x, l, u, n, k, h)) (hc : ruleCode u.2 u.1 = .inl code) (hs : MW T 156 v') (hv : WV g v') (hN : 900 ≤ N) :
    ∃ T1 y, f_c11_goSeason N 144 156 (mk L T) = some (y, mk L T1) ∧ MA T1 (g, v, x, l, u, n, k, h) c ∧ MW T1 156 (vSea code g v') ∧ Fr highM T T1 ∧ ∀ i, i < gVm g → T1.1 158 i = nI (sDrew code g v' i) ∧ T1.1 159 i = oI (sDrFr code g v' i) := by
  obtain ⟨T1, y, e1, e2, e3, e4⟩ := M_season (L := L) (N := N) MA_156 (by omega) (by omega) hs mt.1 w.1 hv mt.2.2.2.2.1.1 hc hN
  exact ⟨T1, y, e1, (qA156 mt e2).1, e3, (qA156 mt e2).2, e4⟩
theorem C_one31 {a : Nat} (q : CA S (g, v, x, l, u, n, k, h)) (w : WA (g, v, x, l, u, n, k, h)) (hc : ruleCode u.2 u.1 = .inl code) (ha : a = 136 ∨ a = 140) (hr : CRu S a code) (hs : CV S 31 v') (hv : WV g v') (hN : 900 ≤ N) :
    ∃ S1, f_c0_passOne N 37 31 15 a (mk L S) = some (mk L S1) ∧ CA S1 (g, v, x, l, u, n, k, h) ∧ CV S1 31 (vSea code g v') ∧ Fr lowC S S1 ∧ ∀ i, i < gVm g → S1.1 38 i = nI (sDrew code g v' i) ∧ S1.1 39 i = oI (sDrFr code g v' i) := by
  obtain ⟨S1, e1, e2, e3, e4⟩ := C_season (L := L) (N := N) ha SA_31 (by omega) hs q.1 w.1 hv hr (w.good hc) hN
  exact ⟨S1, e1, (pS31 q e2).1, e3, (pS31 q e2).2, e4⟩
-- rows
theorem MA.clr (mt : MA T (g, v, x, l, u, n, k, h) c) : MA (stI T 144 9 0) (g, v, x, [], u, n, k, h) c := mt.row (FM.stK (by show _ ∨ _; omega)) MR_0
theorem clrH {w : Int32} : Fr highM T (stI T 144 9 w) := Fr.stI (by unfold highM; omega)
theorem clrW {r : Nat} {w : Int32} (hr : r ≠ 144) (m : MW T r v) : MW (stI T 144 9 w) r v := m.fr (Fr.stI (A := fun x => x = 144) rfl) hr
theorem M_tellA {y : Int64} (mt : MA T (g, v, x, l, u, n, k, h) c) (hl : l.length < 8) : ∃ T1, f_c11_tell N 144 y (mk L T) = some (mk L T1) ∧ MA T1 (g, v, x, l ++ [y], u, n, k, h) c ∧ FM mRow kRow T T1 ∧ Fr highM T T1 := by
  obtain ⟨T1, e1, e2, e3⟩ := M_tell (L := L) (N := N) (y := y) mt.2.2.2.1 hl
  exact ⟨T1, e1, mt.row (e2.mono (fun y hy => by have z : y = 149 := hy; show _ ∨ _; omega) (fun y hy => by have z : y = 9 := hy; show _ ∨ _; omega)) e3, e2, e2.high (fun y hy => by have z : y = 149 := hy; omega)⟩
theorem tellW {r : Nat} {T1 : gS} (f : FM mRow kRow T T1) (hr : r ≠ 144 ∧ r ≠ 149) (m : MW T r v) : MW T1 r v := m.fm f hr.1 hr.2
theorem C_tell1A {r : Int32} {y : Int64} (q : CA S (g, v, x, l, u, n, k, h)) : ∃ S1, f_c10_tellOne N 10 r y (mk L S) = some (r, mk L S1) ∧ CA S1 (g, v, x, [y], u, n, k, h) ∧ Fr lowC S S1 := by
  obtain ⟨S1, e1, e2, e3⟩ := C_tell1 (L := L) (N := N) (S := S) (r := r) (y := y)
  exact ⟨S1, e1, q.row (e2.mono (fun y hy => by have z : y = 13 ∨ y = 14 := hy; show _ ∨ _; omega)) e3, e2.low (fun y hy => by have z : y = 13 ∨ y = 14 := hy; omega)⟩
theorem C_tell2A {r : Int32} {y z : Int64} (q : CA S (g, v, x, l, u, n, k, h)) : ∃ S1, f_c10_tellTwo N 10 r y z (mk L S) = some (r, mk L S1) ∧ CA S1 (g, v, x, [y, z], u, n, k, h) ∧ Fr lowC S S1 := by
  obtain ⟨S1, e1, e2, e3⟩ := C_tell2 (L := L) (N := N) (S := S) (r := r) (y := y) (z := z)
  exact ⟨S1, e1, q.row (e2.mono (fun y hy => by have z : y = 13 ∨ y = 14 := hy; show _ ∨ _; omega)) e3, e2.low (fun y hy => by have z : y = 13 ∨ y = 14 := hy; omega)⟩
theorem C_tell3A {r : Int32} {y z b : Int64} (q : CA S (g, v, x, l, u, n, k, h)) : ∃ S1, f_c10_tellThree N 10 r y z b (mk L S) = some (r, mk L S1) ∧ CA S1 (g, v, x, [y, z, b], u, n, k, h) ∧ Fr lowC S S1 := by
  obtain ⟨S1, e1, e2, e3⟩ := C_tell3 (L := L) (N := N) (S := S) (r := r) (y := y) (z := z) (w := b)
  exact ⟨S1, e1, q.row (e2.mono (fun y hy => by have z : y = 13 ∨ y = 14 := hy; show _ ∨ _; omega)) e3, e2.low (fun y hy => by have z : y = 13 ∨ y = 14 := hy; omega)⟩
theorem WA.rw (w : WA (g, v, x, l, u, n, k, h)) {l' : List Int64} (hl : l'.length ≤ 8) : WA (g, v, x, l', u, n, k, h) := ⟨w.1, w.2.1, w.2.2.1, hl, w.2.2.2.2⟩
/-- the reference tells one number, two, three -/
theorem M_t1 {y : Int64} (mt : MA T (g, v, x, l, u, n, k, h) c) : ∃ T1, f_c11_tell N 144 y (mk L (stI T 144 9 0)) = some (mk L T1) ∧ MA T1 (g, v, x, [y], u, n, k, h) c ∧ Fr highM T T1 ∧ FM mRow kRow (stI T 144 9 0) T1 := by
  obtain ⟨T1, e1, m1, f1, h1⟩ := M_tellA (L := L) (N := N) (y := y) mt.clr (by show 0 < 8; omega)
  exact ⟨T1, e1, m1, highTr clrH h1, f1⟩
theorem M_t2 {y z : Int64} (mt : MA T (g, v, x, [y], u, n, k, h) c) : ∃ T1, f_c11_tell N 144 z (mk L T) = some (mk L T1) ∧ MA T1 (g, v, x, [y, z], u, n, k, h) c ∧ Fr highM T T1 ∧ FM mRow kRow T T1 := by
  obtain ⟨T1, e1, m1, f1, h1⟩ := M_tellA (L := L) (N := N) (y := z) mt (by show 1 < 8; omega)
  exact ⟨T1, e1, m1, h1, f1⟩
theorem M_t3 {y z b : Int64} (mt : MA T (g, v, x, [y, z], u, n, k, h) c) : ∃ T1, f_c11_tell N 144 b (mk L T) = some (mk L T1) ∧ MA T1 (g, v, x, [y, z, b], u, n, k, h) c ∧ Fr highM T T1 ∧ FM mRow kRow T T1 := by
  obtain ⟨T1, e1, m1, f1, h1⟩ := M_tellA (L := L) (N := N) (y := b) mt (by show 2 < 8; omega)
  exact ⟨T1, e1, m1, h1, f1⟩
-- later
theorem A_later {p y : Int32} (w : WA A) (q : CA S A) (m : MA S A c) (hN : 900 ≤ N) : Agr L S c (f_c10_later N 10 p y) (f_c11_later N 144 p y) := by
  obtain ⟨g, v, x, l, u, n, k, h⟩ := A
  have wv : WV g v := w.2.1
  have h8 := wv.1
  obtain ⟨code, hc⟩ : ∃ code, ruleCode u.2 u.1 = .inl code := w.2.2.2.2.1.2
  rcases in_or (n := vN v) p (by omega) with ⟨i, hi, rfl⟩ | hp
  · have e0 := C_has_t (L := L) (N := N) SA_19 q.2.1 hi h8
    rcases (show (y < 0 ∨ (¬ y < 0 ∧ ¬ y ≤ 99)) ∨ ∃ d, 0 ≤ d ∧ d ≤ 99 ∧ y = nI d from cas y 0 99 (by omega) (by omega)) with hy | ⟨d, -, hd, rfl⟩
    · refine AgrR w q m (r := -1) ?_ (fun T _ t1 => ?_)
      · rcases hy with hy | ⟨h1, hy⟩
        · simp (disch := omega) only [Option.bind_some, ↓ile_t, ↓ile_f, ↓ilt_t, ↓ilt_f, ↓ieq_t, ↓ieq_f, ↓iz_t, ↓iz_f, ↓iltz, ↓izle, ↓ilez_t, ↓ilez_f, ↓im1, ile_t, ile_f, ilt_t, ilt_f, ieq_t, ieq_f, iz_t, iz_f, iltz, izle, ilez_t, ilez_f, im1, gZ_0, gZ_1, e10, e00, ↓reduceIte, Sum.elim_inl, Sum.elim_inr, nI_1, nI_add, Int32.sub_zero, f_c10_later, zc10, zr10_0, zr10_1, zr10_2, zr10_3, zr10_4, zr10_5, zr10_6, zr10_7, zr10_8, zr10_9, zr10_10, zs10_11, zs10_12, e0, if_pos hy]
        · simp (disch := omega) only [Option.bind_some, ↓ile_t, ↓ile_f, ↓ilt_t, ↓ilt_f, ↓ieq_t, ↓ieq_f, ↓iz_t, ↓iz_f, ↓iltz, ↓izle, ↓ilez_t, ↓ilez_f, ↓im1, ile_t, ile_f, ilt_t, ilt_f, ieq_t, ieq_f, iz_t, iz_f, iltz, izle, ilez_t, ilez_f, im1, gZ_0, gZ_1, e10, e00, ↓reduceIte, Sum.elim_inl, Sum.elim_inr, nI_1, nI_add, Int32.sub_zero, f_c10_later, zc10, zr10_0, zr10_1, zr10_2, zr10_3, zr10_4, zr10_5, zr10_6, zr10_7, zr10_8, zr10_9, zr10_10, zs10_11, zs10_12, e0, if_neg h1, if_neg hy]
      · simp (disch := omega) only [Option.bind_some, ↓ile_t, ↓ile_f, ↓ilt_t, ↓ilt_f, ↓ieq_t, ↓ieq_f, ↓iz_t, ↓iz_f, ↓iltz, ↓izle, ↓ilez_t, ↓ilez_f, ↓im1, ile_t, ile_f, ilt_t, ilt_f, ieq_t, ieq_f, iz_t, iz_f, iltz, izle, ilez_t, ilez_f, im1, gZ_0, gZ_1, e10, e00, ↓reduceIte, Sum.elim_inl, Sum.elim_inr, nI_1, nI_add, Int32.sub_zero, f_c11_later, zc144, zs144_10, M_isWell_t t1.2.1 h8 hi, M_inF (N := N) hy, eq_self_iff_true]
    · have c1 : nI d ≤ 99 := nI_le (b := 99) hd (by omega)
      obtain ⟨S1, e1, q1, s1, f1, -⟩ := C_try (L := L) (N := N) (d := d) q w hc (by omega) hN
      have wv' := wv.seas (code := code) d
      have n' : vN (vSeas code g v d) = vN v := vSeas_N d
      have eT : S1.1 36 i = nI (vT (vSeas code g v d) i) := (s1.2.2.2 i (by omega)).2.2.2.2
      obtain ⟨S2, e2, q2, f2⟩ := C_tell2A (L := L) (N := N) (r := nI (vT (vSeas code g v d) i)) (y := (nI (sumN (vT (vSeas code g v d)) (vN (vSeas code g v d)))).toInt64) (z := (nI (sMore code g v d)).toInt64) q1
      have wr := w.rw (l' := [(nI (sumN (vT (vSeas code g v d)) (vN (vSeas code g v d)))).toInt64, (nI (sMore code g v d)).toInt64]) (by show 2 ≤ 8; omega)
      refine AgrI (c' := c) m (S1 := S2) (r := nI (vT (vSeas code g v d) i)) ?_ (lowTr f1 f2) q2 wr (by omega) (fun T mt => ?_)
      · simp (disch := omega) only [Option.bind_some, ↓ile_t, ↓ile_f, ↓ilt_t, ↓ilt_f, ↓ieq_t, ↓ieq_f, ↓iz_t, ↓iz_f, ↓iltz, ↓izle, ↓ilez_t, ↓ilez_f, ↓im1, ile_t, ile_f, ilt_t, ilt_f, ieq_t, ieq_f, iz_t, iz_f, iltz, izle, ilez_t, ilez_f, im1, gZ_0, gZ_1, e10, e00, ↓reduceIte, Sum.elim_inl, Sum.elim_inr, nI_1, nI_add, Int32.sub_zero, f_c10_later, zc10, zr10_0, zr10_1, zr10_2, zr10_3, zr10_4, zr10_5, zr10_6, zr10_7, zr10_8, zr10_9, zr10_10, zs10_11, zs10_12, e0, if_pos c1, e1, qr5 SA_31, qg5 SA_31, eT, C_waters SA_31 s1 wv'.1 hN, e2]
      · have t1 := mt.thr
        obtain ⟨T1, a1, t2, m1, g1⟩ := M_then (L := L) (N := N) t1 w hN
        obtain ⟨T2, a2, t3, m2, g2, -⟩ := M_go156 (L := L) (N := N) (d := d) t2 w hc m1 wv (by omega) hN
        obtain ⟨T3, a3, t4, g3, k3⟩ := M_t1 (L := L) (N := N) (y := (nI (sumN (vT (vSeas code g v d)) (vN (vSeas code g v d)))).toInt64) t3
        obtain ⟨T4, a4, t5, g4, k4⟩ := M_t2 (L := L) (N := N) (z := (nI (sMore code g v d)).toInt64) t4
        have m2' : MW (stI T2 144 9 0) 156 (vSeas code g v d) := clrW (by omega) m2
        have m3 : MW T3 156 (vSeas code g v d) := tellW k3 (by omega) m2'
        have m4 : MW T4 156 (vSeas code g v d) := tellW k4 (by omega) m3
        have hP := vSeas_P (code := code) wv d
        have ei : f_c11_in N (nI d) 0 99 (mk L (stI T 144 10 0)) = some 1 := M_inT (lo := 0) (hi := 99) (by omega) hd (by omega)
        refine ⟨T4, ?_, highTr thrH (highTr g1 (highTr g2 (highTr g3 g4))), t5⟩
        simp (disch := omega) only [Option.bind_some, ↓ile_t, ↓ile_f, ↓ilt_t, ↓ilt_f, ↓ieq_t, ↓ieq_f, ↓iz_t, ↓iz_f, ↓iltz, ↓izle, ↓ilez_t, ↓ilez_f, ↓im1, ile_t, ile_f, ilt_t, ilt_f, ieq_t, ieq_f, iz_t, iz_f, iltz, izle, ilez_t, ilez_f, im1, gZ_0, gZ_1, e10, e00, ↓reduceIte, Sum.elim_inl, Sum.elim_inr, nI_1, nI_add, Int32.sub_zero, f_c11_later, zc144, zs144_10, M_isWell_t t1.2.1 h8 hi, ei, zr144_0, zr144_25, a1, a2, zs144_9, M_waters MA_156 m2' wv'.1 hN, a3, k42, zg156, m3.2.2.1, zg145, t4.2.1.2.2.1, nI_sub, sMore_e, a4, k32, (m4.2.2.2 i (by omega)).2.2.2.2]
  · refine AgrR w q m (r := -1) ?_ (fun T _ t1 => ?_)
    · simp (disch := omega) only [Option.bind_some, ↓ile_t, ↓ile_f, ↓ilt_t, ↓ilt_f, ↓ieq_t, ↓ieq_f, ↓iz_t, ↓iz_f, ↓iltz, ↓izle, ↓ilez_t, ↓ilez_f, ↓im1, ile_t, ile_f, ilt_t, ilt_f, ieq_t, ieq_f, iz_t, iz_f, iltz, izle, ilez_t, ilez_f, im1, gZ_0, gZ_1, e10, e00, ↓reduceIte, Sum.elim_inl, Sum.elim_inr, nI_1, nI_add, Int32.sub_zero, f_c10_later, zc10, zr10_0, zr10_1, zr10_2, zr10_3, zr10_4, zr10_5, zr10_6, zr10_7, zr10_8, zr10_9, zr10_10, zs10_11, zs10_12, C_has_f (L := L) (N := N) SA_19 q.2.1 hp]
    · simp (disch := omega) only [Option.bind_some, ↓ile_t, ↓ile_f, ↓ilt_t, ↓ilt_f, ↓ieq_t, ↓ieq_f, ↓iz_t, ↓iz_f, ↓iltz, ↓izle, ↓ilez_t, ↓ilez_f, ↓im1, ile_t, ile_f, ilt_t, ilt_f, ieq_t, ieq_f, iz_t, iz_f, iltz, izle, ilez_t, ilez_f, im1, gZ_0, gZ_1, e10, e00, ↓reduceIte, Sum.elim_inl, Sum.elim_inr, nI_1, nI_add, Int32.sub_zero, f_c11_later, zc144, zs144_10, M_isWell_f t1.2.1 h8 hp, eq_self_iff_true]
end TRIALS
