/-! CALLS: what to say where, what it would be without -/
theorem pig : ∀ (n : Nat) (f : Nat → Nat), ∃ x, x ≤ n ∧ ∀ w, w < n → f w ≠ x := by
  intro n
  induction n with
  | zero => intro f; exact ⟨0, Nat.le_refl _, fun w hw => by omega⟩
  | succ n ih =>
    intro f
    obtain ⟨x, hx, h1⟩ := ih f
    by_cases hn : f n = x
    · obtain ⟨y, hy, h2⟩ := ih (fun w => if f w = n + 1 then x else f w)
      by_cases e : y = x
      · refine ⟨n + 1, Nat.le_refl _, fun w hw z => ?_⟩
        by_cases q : w = n
        · subst q; omega
        · have := h2 w (by omega)
          rw [if_pos z] at this
          exact this e.symm
      · refine ⟨y, by omega, fun w hw z => ?_⟩
        by_cases q : w = n
        · subst q; exact e (z.symm.trans hn)
        · have := h2 w (by omega)
          rw [if_neg (by omega)] at this
          exact this z
    · refine ⟨x, by omega, fun w hw => ?_⟩
      by_cases q : w = n
      · subst q; exact hn
      · exact h1 w (by omega)
theorem fstN_all {p : Nat → Bool} : ∀ (d i : Nat), (∀ u, i ≤ u → u < i + d → p u = false) → fstN p i d = none := by
  intro d
  induction d with
  | zero => intro i _; rfl
  | succ d ih =>
    intro i h
    unfold fstN
    rw [h i (Nat.le_refl _) (by omega)]
    exact ih (i + 1) (fun u h1 h2 => h u (by omega) (by omega))
def sArg (p : Nat → Bool) (val : Nat → Nat) (bt : Nat → Nat → Bool) : Nat → Option (Nat × Nat)
  | 0 => none
  | i + 1 => if p i then (match sArg p val bt i with
    | none => some (i, val i)
    | some (j, m) => if bt (val i) m then some (i, val i) else some (j, m)) else sArg p val bt i
theorem sArg_t {p : Nat → Bool} {val : Nat → Nat} {bt : Nat → Nat → Bool} {i : Nat} (h : p i = true) : sArg p val bt (i + 1) = (match sArg p val bt i with
    | none => some (i, val i)
    | some (j, m) => if bt (val i) m then some (i, val i) else some (j, m)) := by rw [sArg, if_pos h]
theorem sArg_f {p : Nat → Bool} {val : Nat → Nat} {bt : Nat → Nat → Bool} {i : Nat} (h : p i = false) : sArg p val bt (i + 1) = sArg p val bt i := by rw [sArg, if_neg (by rw [h]; decide)]
theorem sArg_tn {p : Nat → Bool} {val : Nat → Nat} {bt : Nat → Nat → Bool} {i : Nat} (h : p i = true) (hs : sArg p val bt i = none) : sArg p val bt (i + 1) = some (i, val i) := by rw [sArg_t h, hs]
theorem sArg_ts {p : Nat → Bool} {val : Nat → Nat} {bt : Nat → Nat → Bool} {i j m : Nat} (h : p i = true) (hs : sArg p val bt i = some (j, m)) (hb : bt (val i) m = true) : sArg p val bt (i + 1) = some (i, val i) := by
  rw [sArg_t h, hs]
  dsimp only
  rw [if_pos hb]
theorem sArg_to {p : Nat → Bool} {val : Nat → Nat} {bt : Nat → Nat → Bool} {i j m : Nat} (h : p i = true) (hs : sArg p val bt i = some (j, m)) (hb : bt (val i) m = false) : sArg p val bt (i + 1) = some (j, m) := by
  rw [sArg_t h, hs]
  dsimp only
  rw [if_neg (by rw [hb]; decide)]
theorem sArg_lt {p : Nat → Bool} {val : Nat → Nat} {bt : Nat → Nat → Bool} {B : Nat} (hB : ∀ i, val i ≤ B) : ∀ n j m, sArg p val bt n = some (j, m) → j < n ∧ m ≤ B := by
  intro n
  induction n with
  | zero => intro j m h; cases h
  | succ n ih =>
    intro j m h
    cases hp : p n with
    | false =>
      rw [sArg_f hp] at h
      have := ih j m h
      omega
    | true =>
      rw [sArg_t hp] at h
      cases hs : sArg p val bt n with
      | none =>
        rw [hs] at h
        cases h
        exact ⟨by omega, hB n⟩
      | some y =>
        obtain ⟨j', m'⟩ := y
        rw [hs] at h
        dsimp only at h
        have := ih j' m' hs
        cases hb : bt (val n) m' with
        | true =>
          rw [hb, if_pos rfl] at h
          cases h
          exact ⟨by omega, hB n⟩
        | false =>
          rw [hb, if_neg (by decide)] at h
          cases h
          omega
theorem sArg_some {p : Nat → Bool} {val : Nat → Nat} {bt : Nat → Nat → Bool} : ∀ n i, i < n → p i = true → ∃ y, sArg p val bt n = some y := by
  intro n
  induction n with
  | zero => intro i h; omega
  | succ n ih =>
    intro i hi hp
    cases hq : p n with
    | true =>
      rw [sArg_t hq]
      cases sArg p val bt n with
      | none => exact ⟨_, rfl⟩
      | some y =>
        obtain ⟨j, m⟩ := y
        dsimp only
        split <;> exact ⟨_, rfl⟩
    | false =>
      rw [sArg_f hq]
      by_cases e : i = n
      · subst e; rw [hp] at hq; cases hq
      · exact ih i (by omega) hp
/-- as the class and the reference keep it -/
def aX (o : Option (Nat × Nat)) : Int32 := match o with | none => -1 | some (j, _) => nI j
def aY (z : Int32) (o : Option (Nat × Nat)) : Int32 := match o with | none => z | some (_, m) => nI m
def sMax (p : Nat → Bool) : Nat → Nat
  | 0 => 0
  | k + 1 => if p (k + 1) then k + 1 else sMax p k
theorem sMax_le {p : Nat → Bool} : ∀ k, sMax p k ≤ k := by
  intro k
  induction k with
  | zero => exact Nat.le_refl _
  | succ k ih =>
    unfold sMax
    split <;> omega
theorem sMore_leP {code : List Int32} {g : pG} {v : pV} {n : Nat} (h : vP v ≤ 9999) : sMore code g v n ≤ 9999 := by
  have : vP (vSeas code g v n) ≤ 9999 := by
    cases n with
    | zero => exact h
    | succ n => exact Nat.min_le_left _ _
  unfold sMore
  omega
theorem sMore_le {code : List Int32} {g : pG} {v : pV} {n : Nat} (h : WV g v) : sMore code g v n ≤ 9999 := sMore_leP h.2.1.1
section WHATS
variable {L N : Nat} {S T : gS} {c : Nat} {g : pG} {v v' : pV} {x : pX} {l : List Int64} {u : pX} {n : pN} {k : Nat → Option pV} {h : pH} {A : pA} {code : List Int32}
theorem CV_A {b w y : Nat} (h : CV S b v) : CV (stI S (b + 4) w (nI y)) b (vSetA v w y) := by
  refine ⟨?_, ?_, ?_, fun u hu => ?_⟩
  · rw [rdI_ne (by omega)]; exact h.1
  · rw [rdI_ne (by omega)]; exact h.2.1
  · rw [rdI_ne (by omega)]; exact h.2.2.1
  · have z := h.2.2.2 u hu
    refine ⟨by rw [rdI_ne (by omega)]; exact z.1, by rw [rdI_ne (by omega)]; exact z.2.1, by rw [rdI_ne (by omega)]; exact z.2.2.1, ?_, by rw [rdI_ne (by omega)]; exact z.2.2.2.2⟩
    show _ = nI (nup _ _ _ _)
    by_cases q : u = w
    · subst q; rw [rdI_eq, nup_eq]
    · rw [rdI_ne (by omega), nup_ne q]; exact z.2.2.2.1
theorem CA.tri {S1 : gS} (q : CA S A) (f : Fr (fun y => 31 ≤ y ∧ y ≤ 36) S S1) : CA S1 A ∧ Fr lowC S S1 := ⟨q.fr f (fun y hy => by unfold sC; omega), f.low (fun y hy => by omega)⟩
theorem MA.tri {T1 : gS} (q : MA T A c) (f : FM (fun y => y = 156) (fun _ => False) T T1) : MA T1 A c ∧ Fr highM T T1 := ⟨q.fm f (fun y hy => by unfold sM; omega) (fun _ z => z.elim), f.high (fun y hy => by omega)⟩
theorem M_pin {d : Nat} (mt : MA T (g, v, x, l, u, n, k, h) c) (w : WA (g, v, x, l, u, n, k, h)) (hc : ruleCode u.2 u.1 = .inl code) (hs : MW T 156 v') (hv : WV g v') (hd : d ≤ 800) (hN : 900 ≤ N) :
    ∃ T1, f_c11_parchedIn N 144 (nI d) (mk L T) = some (nI (sMore code g v' d), mk L T1) ∧ MA T1 (g, v, x, l, u, n, k, h) c ∧ MW T1 156 (vSeas code g v' d) ∧ Fr highM T T1 := by
  obtain ⟨T1, e1, t1, m1, f1, -⟩ := M_go156 (L := L) (N := N) (d := d) mt w hc hs hv hd hN
  have hP := vSeas_P (code := code) hv d
  refine ⟨T1, ?_, t1, m1, f1⟩
  simp (disch := omega) only [Option.bind_some, ↓ile_t, ↓ile_f, ↓ilt_t, ↓ilt_f, ↓ieq_t, ↓ieq_f, ↓iz_t, ↓iz_f, ↓iltz, ↓izle, ↓ilez_t, ↓ilez_f, ↓im1, ile_t, ile_f, ilt_t, ilt_f, ieq_t, ieq_f, iz_t, iz_f, iltz, izle, ilez_t, ilez_f, im1, gZ_0, gZ_1, e10, e00, ↓reduceIte, Sum.elim_inl, Sum.elim_inr, nI_1, nI_add, Int32.sub_zero, f_c11_parchedIn, zc144, zr144_25, k42, zg156, hs.2.2.1, e1, m1.2.2.1, nI_sub, sMore_e]
theorem C_tried_f {y : Int32} {hh : gH} (hy : y < 1 ∨ (¬ y < 1 ∧ ¬ y ≤ 30)) : f_c10_isTried N y hh = some 0 := by
  unfold f_c10_isTried
  rcases hy with hy | ⟨h1, h2⟩
  · rw [if_pos hy]; rfl
  · rw [if_neg h1, if_pos (i32_nle h2)]; rfl
theorem C_tried_t {d : Nat} {hh : gH} (h1 : 1 ≤ d) (h2 : d ≤ 30) : f_c10_isTried N (nI d) hh = some 1 := by
  unfold f_c10_isTried
  rw [if_neg (show ¬ nI d < 1 from nI_nlt (b := 1) h1 (by omega)), if_neg (show ¬ (30 : Int32) < nI d from nI_nlt (a := 30) h2 (by omega))]; rfl
theorem M_span_f {y : Int32} {hh : gH} (hy : y < 1 ∨ (¬ y < 1 ∧ ¬ y ≤ 30)) : f_c11_isSpan N y hh = some 0 := by
  unfold f_c11_isSpan
  rw [M_inF hy]; rfl
theorem M_span_t {d : Nat} {hh : gH} (h1 : 1 ≤ d) (h2 : d ≤ 30) : f_c11_isSpan N (nI d) hh = some 1 := by
  unfold f_c11_isSpan
  rw [show f_c11_in N (nI d) 1 30 hh = some 1 from M_inT (lo := 1) (hi := 30) h1 h2 (by omega)]; rfl
-- best
theorem A_best {p y : Int32} (w : WA A) (q : CA S A) (m : MA S A c) (hN : 900 ≤ N) : Agr L S c (f_c10_best N 10 p y) (f_c11_best N 144 p y) := by
  obtain ⟨g, v, x, l, u, n, k, h⟩ := A
  have wv : WV g v := w.2.1
  have wg : WG g := w.1
  have h8 := wv.1
  have h36 := wg.f
  obtain ⟨code, hc⟩ : ∃ code, ruleCode u.2 u.1 = .inl code := w.2.2.2.2.1.2
  rcases (show (p < 1 ∨ (¬ p < 1 ∧ ¬ p ≤ 9)) ∨ ∃ d, 1 ≤ d ∧ d ≤ 9 ∧ p = nI d from cas p 1 9 (by omega) (by omega)) with hp | ⟨wo, w1, w9, rfl⟩
  · refine AgrR w q m (r := -1) ?_ (fun T _ t1 => ?_)
    · rcases hp with hp | ⟨h1, hp⟩
      · simp (disch := omega) only [Option.bind_some, ↓ile_t, ↓ile_f, ↓ilt_t, ↓ilt_f, ↓ieq_t, ↓ieq_f, ↓iz_t, ↓iz_f, ↓iltz, ↓izle, ↓ilez_t, ↓ilez_f, ↓im1, ile_t, ile_f, ilt_t, ilt_f, ieq_t, ieq_f, iz_t, iz_f, iltz, izle, ilez_t, ilez_f, im1, gZ_0, gZ_1, e10, e00, ↓reduceIte, Sum.elim_inl, Sum.elim_inr, nI_1, nI_add, Int32.sub_zero, f_c10_best, zc10, zr10_0, zr10_1, zr10_2, zr10_3, zr10_4, zr10_5, zr10_6, zr10_7, zr10_8, zr10_9, zr10_10, zs10_11, zs10_12, if_pos hp]
      · have h3 := i32_nle hp
        simp (disch := omega) only [Option.bind_some, ↓ile_t, ↓ile_f, ↓ilt_t, ↓ilt_f, ↓ieq_t, ↓ieq_f, ↓iz_t, ↓iz_f, ↓iltz, ↓izle, ↓ilez_t, ↓ilez_f, ↓im1, ile_t, ile_f, ilt_t, ilt_f, ieq_t, ieq_f, iz_t, iz_f, iltz, izle, ilez_t, ilez_f, im1, gZ_0, gZ_1, e10, e00, ↓reduceIte, Sum.elim_inl, Sum.elim_inr, nI_1, nI_add, Int32.sub_zero, f_c10_best, zc10, zr10_0, zr10_1, zr10_2, zr10_3, zr10_4, zr10_5, zr10_6, zr10_7, zr10_8, zr10_9, zr10_10, zs10_11, zs10_12, if_neg h1, if_pos h3]
    · simp (disch := omega) only [Option.bind_some, ↓ile_t, ↓ile_f, ↓ilt_t, ↓ilt_f, ↓ieq_t, ↓ieq_f, ↓iz_t, ↓iz_f, ↓iltz, ↓izle, ↓ilez_t, ↓ilez_f, ↓im1, ile_t, ile_f, ilt_t, ilt_f, ieq_t, ieq_f, iz_t, iz_f, iltz, izle, ilez_t, ilez_f, im1, gZ_0, gZ_1, e10, e00, ↓reduceIte, Sum.elim_inl, Sum.elim_inr, nI_1, nI_add, Int32.sub_zero, f_c11_best, zc144, zs144_10, M_inF (N := N) hp, eq_self_iff_true]
  · have c1 : ¬ nI wo < 1 := nI_nlt (b := 1) w1 (by omega)
    have c2 : ¬ (9 : Int32) < nI wo := nI_nlt (a := 9) w9 (by omega)
    have ei : ∀ T : gS, f_c11_in N (nI wo) 1 9 (mk L T) = some 1 := fun T => M_inT (lo := 1) (hi := 9) w1 w9 (by omega)
    rcases (show (y < 1 ∨ (¬ y < 1 ∧ ¬ y ≤ 30)) ∨ ∃ d, 1 ≤ d ∧ d ≤ 30 ∧ y = nI d from cas y 1 30 (by omega) (by omega)) with hy | ⟨d, d1, d2, rfl⟩
    · refine AgrR w q m (r := -1) ?_ (fun T _ t1 => ?_)
      · simp (disch := omega) only [Option.bind_some, ↓ile_t, ↓ile_f, ↓ilt_t, ↓ilt_f, ↓ieq_t, ↓ieq_f, ↓iz_t, ↓iz_f, ↓iltz, ↓izle, ↓ilez_t, ↓ilez_f, ↓im1, ile_t, ile_f, ilt_t, ilt_f, ieq_t, ieq_f, iz_t, iz_f, iltz, izle, ilez_t, ilez_f, im1, gZ_0, gZ_1, e10, e00, ↓reduceIte, Sum.elim_inl, Sum.elim_inr, nI_1, nI_add, Int32.sub_zero, f_c10_best, zc10, zr10_0, zr10_1, zr10_2, zr10_3, zr10_4, zr10_5, zr10_6, zr10_7, zr10_8, zr10_9, zr10_10, zs10_11, zs10_12, if_neg c1, if_neg c2, C_tried_f hy, eq_self_iff_true]
      · simp (disch := omega) only [Option.bind_some, ↓ile_t, ↓ile_f, ↓ilt_t, ↓ilt_f, ↓ieq_t, ↓ieq_f, ↓iz_t, ↓iz_f, ↓iltz, ↓izle, ↓ilez_t, ↓ilez_f, ↓im1, ile_t, ile_f, ilt_t, ilt_f, ieq_t, ieq_f, iz_t, iz_f, iltz, izle, ilez_t, ilez_f, im1, gZ_0, gZ_1, e10, e00, ↓reduceIte, Sum.elim_inl, Sum.elim_inr, nI_1, nI_add, Int32.sub_zero, f_c11_best, zc144, zs144_10, ei, M_span_f hy, eq_self_iff_true]
    · have eN : S.1 19 0 = nI (vN v) := q.2.1.1
      by_cases z8 : vN v = 8
      · have n8 : ¬ nI (vN v) < 8 := nI_nlt (b := 8) (by omega) (by omega)
        have p8 : nI (vN v) = 8 := by rw [z8]; rfl
        refine AgrR w q m (r := -2) ?_ (fun T _ t1 => ?_)
        · simp (disch := omega) only [Option.bind_some, ↓ile_t, ↓ile_f, ↓ilt_t, ↓ilt_f, ↓ieq_t, ↓ieq_f, ↓iz_t, ↓iz_f, ↓iltz, ↓izle, ↓ilez_t, ↓ilez_f, ↓im1, ile_t, ile_f, ilt_t, ilt_f, ieq_t, ieq_f, iz_t, iz_f, iltz, izle, ilez_t, ilez_f, im1, gZ_0, gZ_1, e10, e00, ↓reduceIte, Sum.elim_inl, Sum.elim_inr, nI_1, nI_add, Int32.sub_zero, f_c10_best, zc10, zr10_0, zr10_1, zr10_2, zr10_3, zr10_4, zr10_5, zr10_6, zr10_7, zr10_8, zr10_9, zr10_10, zs10_11, zs10_12, if_neg c1, if_neg c2, C_tried_t d1 d2, qc SA_19, qi0 SA_19, qs0 SA_19, qr1 SA_19, qr2 SA_19, qr3 SA_19, qr4 SA_19, qr5 SA_19, qi6 SA_19, qs6 SA_19, qi7 SA_19, qs7 SA_19, eN, if_neg n8]
        · have eN' : (stI T 144 10 0).1 145 40 = nI (vN v) := t1.2.1.1
          simp (disch := omega) only [Option.bind_some, ↓ile_t, ↓ile_f, ↓ilt_t, ↓ilt_f, ↓ieq_t, ↓ieq_f, ↓iz_t, ↓iz_f, ↓iltz, ↓izle, ↓ilez_t, ↓ilez_f, ↓im1, ile_t, ile_f, ilt_t, ilt_f, ieq_t, ieq_f, iz_t, iz_f, iltz, izle, ilez_t, ilez_f, im1, gZ_0, gZ_1, e10, e00, ↓reduceIte, Sum.elim_inl, Sum.elim_inr, nI_1, nI_add, Int32.sub_zero, f_c11_best, zc144, zs144_10, ei, M_span_t d1 d2, zr144_0, k40, zg145, eN', if_pos p8]
      · have n8 : nI (vN v) < 8 := nI_lt (b := 8) (by omega) (by omega)
        have p8 : ¬ nI (vN v) = 8 := fun e => z8 ((nI_eq (b := 8) (by omega) (by omega)).mp e)
        have wa : ∀ f, f < gRw g * gCo g → sOn v f = none → WV g (vAdd v f wo 1) := fun f hf ho => wv.add (by omega) hf ⟨w1, w9⟩ (by omega) ho
        have hB : ∀ f, (if f < gRw g * gCo g then sMore code g (vAdd v f wo 1) d else 0) ≤ 9999 := fun f => by
          split
          · exact sMore_leP wv.2.1.1
          · omega
        generalize hV : (fun f => if f < gRw g * gCo g then sMore code g (vAdd v f wo 1) d else 0) = val at *
        have hval : ∀ f, f < gRw g * gCo g → sMore code g (vAdd v f wo 1) d = val f := fun f hf => by rw [← hV]; exact (if_pos hf).symm
        have hB' : ∀ f, val f ≤ 9999 := fun f => by rw [← hV]; exact hB f
        generalize hP : (fun f => (sOn v f).isNone) = pf
        have hpf : ∀ f, sOn v f = none → pf f = true := fun f hf => by rw [← hP]; show (sOn v f).isNone = true; rw [hf]; rfl
        have hpf2 : ∀ f i, sOn v f = some i → pf f = false := fun f i hf => by rw [← hP]; show (sOn v f).isNone = false; rw [hf]; rfl
        -- the class's loop
        have hC : ∃ r, lp_c10_best_43 N 10 (nI wo) (nI d) N (-1) 0 (nI 0) (mk L S) = some r ∧ ∃ S', r = (aX (sArg pf val (fun a b => decide (a < b)) (gRw g * gCo g)), aY 0 (sArg pf val (fun a b => decide (a < b)) (gRw g * gCo g)), mk L S') ∧ CA S' (g, v, x, l, u, n, k, h) ∧ Fr lowC S S' := by
          refine lp_inv (Lp := fun kk (s : Int32 × Int32 × gS) i => lp_c10_best_43 N 10 (nI wo) (nI d) kk s.1 s.2.1 (nI i) (mk L s.2.2)) (n := gRw g * gCo g) (P := fun i s => s.1 = aX (sArg pf val (fun a b => decide (a < b)) i) ∧ s.2.1 = aY 0 (sArg pf val (fun a b => decide (a < b)) i) ∧ CA s.2.2 (g, v, x, l, u, n, k, h) ∧ Fr lowC S s.2.2) (fun kk i s hi hs => Or.inr ?_) (fun kk s hs => ?_) (gRw g * gCo g) N 0 (-1, 0, S) (by omega) (by omega) ⟨rfl, rfl, q, Fr.refl⟩
          · obtain ⟨x1, x2, s⟩ := s
            obtain ⟨rfl, rfl, qs, fs⟩ := hs
            dsimp only at qs fs
            have eO := C_wellOn (L := L) (N := N) (f := i) SA_19 qs.2.1 wg wv hN (by omega)
            cases ho : sOn v i with
            | some j =>
              have hj := fstN_some _ _ _ ho
              rw [ho] at eO
              refine ⟨(aX (sArg pf val (fun a b => decide (a < b)) (i + 1)), aY 0 (sArg pf val (fun a b => decide (a < b)) (i + 1)), s), ?_, rfl, rfl, qs, fs⟩
              show lp_c10_best_43 N 10 (nI wo) (nI d) (kk + 1) _ _ _ _ = lp_c10_best_43 N 10 (nI wo) (nI d) kk _ _ _ _
              rw [lp_c10_best_43.eq_2, sArg_f (hpf2 i j ho)]
              simp (disch := omega) only [Option.bind_some, ↓ile_t, ↓ile_f, ↓ilt_t, ↓ilt_f, ↓ieq_t, ↓ieq_f, ↓iz_t, ↓iz_f, ↓iltz, ↓izle, ↓ilez_t, ↓ilez_f, ↓im1, ile_t, ile_f, ilt_t, ilt_f, ieq_t, ieq_f, iz_t, iz_f, iltz, izle, ilez_t, ilez_f, im1, gZ_0, gZ_1, e10, e00, ↓reduceIte, Sum.elim_inl, Sum.elim_inr, nI_1, nI_add, Int32.sub_zero, zc10, zr10_0, zr10_1, zr10_2, zr10_3, zr10_4, zr10_5, zr10_6, zr10_7, zr10_8, zr10_9, zr10_10, zs10_11, zs10_12, C_fields qs.1, eO, oI]
            | none =>
              rw [ho] at eO
              obtain ⟨s1, a1, b1, b2, b3⟩ := C_to31 (L := L) (N := N) qs w hN
              obtain ⟨s2, a2, b4, b5⟩ := C_sayOn_ok (L := L) (N := N) (w := wo) (m := 1) SA_31 b2 wg wv hN (f := i) (by omega) ho (by omega)
              have b6 := b1.tri (b4.mono (fun y hy => by omega))
              obtain ⟨a, r1, r2, r3⟩ := b6.1.ru hc
              obtain ⟨s3, a3, b7, -, b8, -⟩ := C_pass31 (L := L) (N := N) (d := d) b6.1 w hc r2 r3 b5 (wa i hi ho) (by omega) hN
              rw [hval i hi] at a3
              have hVi := hB' i
              refine ⟨(aX (sArg pf val (fun a b => decide (a < b)) (i + 1)), aY 0 (sArg pf val (fun a b => decide (a < b)) (i + 1)), s3), ?_, rfl, rfl, b7, lowTr fs (lowTr b3 (lowTr b6.2 b8))⟩
              rw [← k1] at a2
              cases hs : sArg pf val (fun a b => decide (a < b)) i with
              | none =>
                rw [sArg_tn (hpf i ho) hs]
                show lp_c10_best_43 N 10 (nI wo) (nI d) (kk + 1) (-1) 0 (nI i) (mk L s) = lp_c10_best_43 N 10 (nI wo) (nI d) kk (nI i) (nI (val i)) (nI (i + 1)) (mk L s3)
                rw [lp_c10_best_43.eq_2]
                simp (disch := omega) only [Option.bind_some, ↓ile_t, ↓ile_f, ↓ilt_t, ↓ilt_f, ↓ieq_t, ↓ieq_f, ↓iz_t, ↓iz_f, ↓iltz, ↓izle, ↓ilez_t, ↓ilez_f, ↓im1, ile_t, ile_f, ilt_t, ilt_f, ieq_t, ieq_f, iz_t, iz_f, iltz, izle, ilez_t, ilez_f, im1, gZ_0, gZ_1, e10, e00, ↓reduceIte, Sum.elim_inl, Sum.elim_inr, nI_1, nI_add, Int32.sub_zero, zc10, zr10_0, zr10_1, zr10_2, zr10_3, zr10_4, zr10_5, zr10_6, zr10_7, zr10_8, zr10_9, zr10_10, zs10_11, zs10_12, C_fields qs.1, eO, oI, m1lt, a1, a2, zr10_11 r1, a3]
              | some jm =>
                obtain ⟨j, mm⟩ := jm
                have hj := sArg_lt hB' i j mm hs
                by_cases z : val i < mm
                · rw [sArg_ts (hpf i ho) hs (decide_eq_true z)]
                  show lp_c10_best_43 N 10 (nI wo) (nI d) (kk + 1) (nI j) (nI mm) (nI i) (mk L s) = lp_c10_best_43 N 10 (nI wo) (nI d) kk (nI i) (nI (val i)) (nI (i + 1)) (mk L s3)
                  rw [lp_c10_best_43.eq_2]
                  simp (disch := omega) only [Option.bind_some, ↓ile_t, ↓ile_f, ↓ilt_t, ↓ilt_f, ↓ieq_t, ↓ieq_f, ↓iz_t, ↓iz_f, ↓iltz, ↓izle, ↓ilez_t, ↓ilez_f, ↓im1, ile_t, ile_f, ilt_t, ilt_f, ieq_t, ieq_f, iz_t, iz_f, iltz, izle, ilez_t, ilez_f, im1, gZ_0, gZ_1, e10, e00, ↓reduceIte, Sum.elim_inl, Sum.elim_inr, nI_1, nI_add, Int32.sub_zero, zc10, zr10_0, zr10_1, zr10_2, zr10_3, zr10_4, zr10_5, zr10_6, zr10_7, zr10_8, zr10_9, zr10_10, zs10_11, zs10_12, C_fields qs.1, eO, oI, m1lt, a1, a2, zr10_11 r1, a3]
                · rw [sArg_to (hpf i ho) hs (decide_eq_false z)]
                  show lp_c10_best_43 N 10 (nI wo) (nI d) (kk + 1) (nI j) (nI mm) (nI i) (mk L s) = lp_c10_best_43 N 10 (nI wo) (nI d) kk (nI j) (nI mm) (nI (i + 1)) (mk L s3)
                  rw [lp_c10_best_43.eq_2]
                  simp (disch := omega) only [Option.bind_some, ↓ile_t, ↓ile_f, ↓ilt_t, ↓ilt_f, ↓ieq_t, ↓ieq_f, ↓iz_t, ↓iz_f, ↓iltz, ↓izle, ↓ilez_t, ↓ilez_f, ↓im1, ile_t, ile_f, ilt_t, ilt_f, ieq_t, ieq_f, iz_t, iz_f, iltz, izle, ilez_t, ilez_f, im1, gZ_0, gZ_1, e10, e00, ↓reduceIte, Sum.elim_inl, Sum.elim_inr, nI_1, nI_add, Int32.sub_zero, zc10, zr10_0, zr10_1, zr10_2, zr10_3, zr10_4, zr10_5, zr10_6, zr10_7, zr10_8, zr10_9, zr10_10, zs10_11, zs10_12, C_fields qs.1, eO, oI, m1lt, a1, a2, zr10_11 r1, a3]
          · obtain ⟨x1, x2, s⟩ := s
            obtain ⟨rfl, rfl, qs, fs⟩ := hs
            refine ⟨_, ?_, s, rfl, qs, fs⟩
            show lp_c10_best_43 N 10 (nI wo) (nI d) (kk + 1) _ _ _ _ = _
            rw [lp_c10_best_43.eq_2]
            simp (disch := omega) only [Option.bind_some, ↓ile_t, ↓ile_f, ↓ilt_t, ↓ilt_f, ↓ieq_t, ↓ieq_f, ↓iz_t, ↓iz_f, ↓iltz, ↓izle, ↓ilez_t, ↓ilez_f, ↓im1, ile_t, ile_f, ilt_t, ilt_f, ieq_t, ieq_f, iz_t, iz_f, iltz, izle, ilez_t, ilez_f, im1, gZ_0, gZ_1, e10, e00, ↓reduceIte, Sum.elim_inl, Sum.elim_inr, nI_1, nI_add, Int32.sub_zero, zc10, zr10_0, zr10_1, zr10_2, zr10_3, zr10_4, zr10_5, zr10_6, zr10_7, zr10_8, zr10_9, zr10_10, zs10_11, zs10_12, C_fields qs.1]
        have hM : ∀ T1 : gS, MA T1 (g, v, x, l, u, n, k, h) c → ∃ r, lp_c11_best_49 N 144 (nI wo) (nI d) N (-1) 1000000 (nI 0) (mk L T1) = some r ∧ ∃ S', r = (aX (sArg pf val (fun a b => decide (a < b)) (gRw g * gCo g)), aY 1000000 (sArg pf val (fun a b => decide (a < b)) (gRw g * gCo g)), mk L S') ∧ MA S' (g, v, x, l, u, n, k, h) c ∧ Fr highM T1 S' := by
          intro T1 t1
          refine lp_inv (Lp := fun kk (s : Int32 × Int32 × gS) i => lp_c11_best_49 N 144 (nI wo) (nI d) kk s.1 s.2.1 (nI i) (mk L s.2.2)) (n := gRw g * gCo g) (P := fun i s => s.1 = aX (sArg pf val (fun a b => decide (a < b)) i) ∧ s.2.1 = aY 1000000 (sArg pf val (fun a b => decide (a < b)) i) ∧ MA s.2.2 (g, v, x, l, u, n, k, h) c ∧ Fr highM T1 s.2.2) (fun kk i s hi hs => Or.inr ?_) (fun kk s hs => ?_) (gRw g * gCo g) N 0 (-1, 1000000, T1) (by omega) (by omega) ⟨rfl, rfl, t1, Fr.refl⟩
          · obtain ⟨x1, x2, s⟩ := s
            obtain ⟨rfl, rfl, qs, fs⟩ := hs
            dsimp only at qs fs
            have eO := M_wellOn (L := L) (N := N) (f := i) MA_145 qs.2.1 wg wv hN (by omega)
            cases ho : sOn v i with
            | some j =>
              have hj := fstN_some _ _ _ ho
              rw [ho] at eO
              have m1 : ¬ nI j = -1 := nI_m1 (by omega)
              refine ⟨(aX (sArg pf val (fun a b => decide (a < b)) (i + 1)), aY 1000000 (sArg pf val (fun a b => decide (a < b)) (i + 1)), s), ?_, rfl, rfl, qs, fs⟩
              show lp_c11_best_49 N 144 (nI wo) (nI d) (kk + 1) _ _ _ _ = lp_c11_best_49 N 144 (nI wo) (nI d) kk _ _ _ _
              rw [lp_c11_best_49.eq_2, sArg_f (hpf2 i j ho)]
              simp (disch := omega) only [Option.bind_some, ↓ile_t, ↓ile_f, ↓ilt_t, ↓ilt_f, ↓ieq_t, ↓ieq_f, ↓iz_t, ↓iz_f, ↓iltz, ↓izle, ↓ilez_t, ↓ilez_f, ↓im1, ile_t, ile_f, ilt_t, ilt_f, ieq_t, ieq_f, iz_t, iz_f, iltz, izle, ilez_t, ilez_f, im1, gZ_0, gZ_1, e10, e00, ↓reduceIte, Sum.elim_inl, Sum.elim_inr, nI_1, nI_add, Int32.sub_zero, M_fields qs.1, zr144_0, eO, oI, if_neg m1]
            | none =>
              rw [ho] at eO
              obtain ⟨s1, a1, b1, b2, b3⟩ := M_then (L := L) (N := N) qs w hN
              obtain ⟨s2, a2, b4, b5⟩ := M_add (L := L) (N := N) (f := i) (w := wo) (m := 1) MA_156 (by omega) b2 (by omega)
              have b6 := b1.tri b4
              obtain ⟨s3, a3, b7, -, b8⟩ := M_pin (L := L) (N := N) (d := d) b6.1 w hc b5 (wa i hi ho) (by omega) hN
              rw [hval i hi] at a3
              have hVi := hB' i
              have m1 : ((-1 : Int32) = -1) = True := eq_self _
              refine ⟨(aX (sArg pf val (fun a b => decide (a < b)) (i + 1)), aY 1000000 (sArg pf val (fun a b => decide (a < b)) (i + 1)), s3), ?_, rfl, rfl, b7, highTr fs (highTr b3 (highTr b6.2 b8))⟩
              rw [← k1] at a2
              cases hs : sArg pf val (fun a b => decide (a < b)) i with
              | none =>
                have c9 : nI (val i) < 1000000 := nI_lt (b := 1000000) (by omega) (by omega)
                rw [sArg_tn (hpf i ho) hs]
                show lp_c11_best_49 N 144 (nI wo) (nI d) (kk + 1) (-1) 1000000 (nI i) (mk L s) = lp_c11_best_49 N 144 (nI wo) (nI d) kk (nI i) (nI (val i)) (nI (i + 1)) (mk L s3)
                rw [lp_c11_best_49.eq_2]
                simp (disch := omega) only [Option.bind_some, ↓ile_t, ↓ile_f, ↓ilt_t, ↓ilt_f, ↓ieq_t, ↓ieq_f, ↓iz_t, ↓iz_f, ↓iltz, ↓izle, ↓ilez_t, ↓ilez_f, ↓im1, ile_t, ile_f, ilt_t, ilt_f, ieq_t, ieq_f, iz_t, iz_f, iltz, izle, ilez_t, ilez_f, im1, gZ_0, gZ_1, e10, e00, ↓reduceIte, Sum.elim_inl, Sum.elim_inr, nI_1, nI_add, Int32.sub_zero, M_fields qs.1, zr144_0, eO, oI, m1, zr144_25, a1, a2, a3, if_pos c9]
              | some jm =>
                obtain ⟨j, mm⟩ := jm
                have hj := sArg_lt hB' i j mm hs
                by_cases z : val i < mm
                · rw [sArg_ts (hpf i ho) hs (decide_eq_true z)]
                  show lp_c11_best_49 N 144 (nI wo) (nI d) (kk + 1) (nI j) (nI mm) (nI i) (mk L s) = lp_c11_best_49 N 144 (nI wo) (nI d) kk (nI i) (nI (val i)) (nI (i + 1)) (mk L s3)
                  rw [lp_c11_best_49.eq_2]
                  simp (disch := omega) only [Option.bind_some, ↓ile_t, ↓ile_f, ↓ilt_t, ↓ilt_f, ↓ieq_t, ↓ieq_f, ↓iz_t, ↓iz_f, ↓iltz, ↓izle, ↓ilez_t, ↓ilez_f, ↓im1, ile_t, ile_f, ilt_t, ilt_f, ieq_t, ieq_f, iz_t, iz_f, iltz, izle, ilez_t, ilez_f, im1, gZ_0, gZ_1, e10, e00, ↓reduceIte, Sum.elim_inl, Sum.elim_inr, nI_1, nI_add, Int32.sub_zero, M_fields qs.1, zr144_0, eO, oI, m1, zr144_25, a1, a2, a3]
                · rw [sArg_to (hpf i ho) hs (decide_eq_false z)]
                  show lp_c11_best_49 N 144 (nI wo) (nI d) (kk + 1) (nI j) (nI mm) (nI i) (mk L s) = lp_c11_best_49 N 144 (nI wo) (nI d) kk (nI j) (nI mm) (nI (i + 1)) (mk L s3)
                  rw [lp_c11_best_49.eq_2]
                  simp (disch := omega) only [Option.bind_some, ↓ile_t, ↓ile_f, ↓ilt_t, ↓ilt_f, ↓ieq_t, ↓ieq_f, ↓iz_t, ↓iz_f, ↓iltz, ↓izle, ↓ilez_t, ↓ilez_f, ↓im1, ile_t, ile_f, ilt_t, ilt_f, ieq_t, ieq_f, iz_t, iz_f, iltz, izle, ilez_t, ilez_f, im1, gZ_0, gZ_1, e10, e00, ↓reduceIte, Sum.elim_inl, Sum.elim_inr, nI_1, nI_add, Int32.sub_zero, M_fields qs.1, zr144_0, eO, oI, m1, zr144_25, a1, a2, a3]
          · obtain ⟨x1, x2, s⟩ := s
            obtain ⟨rfl, rfl, qs, fs⟩ := hs
            refine ⟨_, ?_, s, rfl, qs, fs⟩
            show lp_c11_best_49 N 144 (nI wo) (nI d) (kk + 1) _ _ _ _ = _
            rw [lp_c11_best_49.eq_2]
            simp (disch := omega) only [Option.bind_some, ↓ile_t, ↓ile_f, ↓ilt_t, ↓ilt_f, ↓ieq_t, ↓ieq_f, ↓iz_t, ↓iz_f, ↓iltz, ↓izle, ↓ilez_t, ↓ilez_f, ↓im1, ile_t, ile_f, ilt_t, ilt_f, ieq_t, ieq_f, iz_t, iz_f, iltz, izle, ilez_t, ilez_f, im1, gZ_0, gZ_1, e10, e00, ↓reduceIte, Sum.elim_inl, Sum.elim_inr, nI_1, nI_add, Int32.sub_zero, M_fields qs.1]
        -- a field is free
        obtain ⟨f0, hf0, hf1⟩ := pig (vN v) (vF v)
        have hon : sOn v f0 = none := fstN_all _ _ (fun w' _ hw' => decide_eq_false (hf1 w' (by omega)))
        obtain ⟨⟨j, mm⟩, hs⟩ := sArg_some (p := pf) (val := val) (bt := fun a b => decide (a < b)) (gRw g * gCo g) f0 (by omega) (hpf f0 hon)
        have hj := sArg_lt hB' _ j mm hs
        obtain ⟨r, er, S1, er2, q1, f1⟩ := hC
        rw [er2, hs, nI_0] at er
        change lp_c10_best_43 N 10 (nI wo) (nI d) N (-1) 0 0 (mk L S) = some (nI j, nI mm, mk L S1) at er
        obtain ⟨S2, e2, q2, f2⟩ := C_tell1A (L := L) (N := N) (r := nI j) (y := (nI mm).toInt64) q1
        refine AgrI (c' := c) m (S1 := S2) (r := nI j) ?_ (lowTr f1 f2) q2 (w.rw (by show 1 ≤ 8; omega)) (by omega) (fun T mt => ?_)
        · simp (disch := omega) only [Option.bind_some, ↓ile_t, ↓ile_f, ↓ilt_t, ↓ilt_f, ↓ieq_t, ↓ieq_f, ↓iz_t, ↓iz_f, ↓iltz, ↓izle, ↓ilez_t, ↓ilez_f, ↓im1, ile_t, ile_f, ilt_t, ilt_f, ieq_t, ieq_f, iz_t, iz_f, iltz, izle, ilez_t, ilez_f, im1, gZ_0, gZ_1, e10, e00, ↓reduceIte, Sum.elim_inl, Sum.elim_inr, nI_1, nI_add, Int32.sub_zero, f_c10_best, zc10, zr10_0, zr10_1, zr10_2, zr10_3, zr10_4, zr10_5, zr10_6, zr10_7, zr10_8, zr10_9, zr10_10, zs10_11, zs10_12, if_neg c1, if_neg c2, C_tried_t d1 d2, qc SA_19, qi0 SA_19, qs0 SA_19, qr1 SA_19, qr2 SA_19, qr3 SA_19, qr4 SA_19, qr5 SA_19, qi6 SA_19, qs6 SA_19, qi7 SA_19, qs7 SA_19, eN, if_pos n8, er, e2]
        · have t1 := mt.thr
          have eN' : (stI T 144 10 0).1 145 40 = nI (vN v) := t1.2.1.1
          obtain ⟨r', er', T1, er2', t2, g1⟩ := hM _ t1
          rw [er2', hs, nI_0] at er'
          change lp_c11_best_49 N 144 (nI wo) (nI d) N (-1) 1000000 0 (mk L (stI T 144 10 0)) = some (nI j, nI mm, mk L T1) at er'
          obtain ⟨T3, a3, t4, g3, -⟩ := M_t1 (L := L) (N := N) (y := (nI mm).toInt64) t2
          refine ⟨T3, ?_, highTr thrH (highTr g1 g3), t4⟩
          simp (disch := omega) only [Option.bind_some, ↓ile_t, ↓ile_f, ↓ilt_t, ↓ilt_f, ↓ieq_t, ↓ieq_f, ↓iz_t, ↓iz_f, ↓iltz, ↓izle, ↓ilez_t, ↓ilez_f, ↓im1, ile_t, ile_f, ilt_t, ilt_f, ieq_t, ieq_f, iz_t, iz_f, iltz, izle, ilez_t, ilez_f, im1, gZ_0, gZ_1, e10, e00, ↓reduceIte, Sum.elim_inl, Sum.elim_inr, nI_1, nI_add, Int32.sub_zero, f_c11_best, zc144, zs144_10, ei, M_span_t d1 d2, zr144_0, k40, zg145, eN', if_neg p8, er', zs144_9, a3]
end WHATS
