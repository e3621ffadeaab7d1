/-! CALLS: squares -/
def sqO (b : Nat → Bool) (m : Nat) : Nat → Nat → Option Nat
  | 0, _ => none
  | d + 1, i => if m < i * i then none else if b (m - i * i) then some (i * i) else sqO b m d (i + 1)
theorem sqO_ext {b b' : Nat → Bool} {m : Nat} (h : ∀ j, j < m → b j = b' j) : ∀ d i, 0 < i → sqO b m d i = sqO b' m d i := by
  intro d
  induction d with
  | zero => exact fun _ _ => rfl
  | succ d ih =>
    intro i hi
    unfold sqO
    by_cases z : m < i * i
    · rw [if_pos z, if_pos z]
    · have h1 : 0 < i * i := Nat.mul_pos hi hi
      rw [if_neg z, if_neg z, h (m - i * i) (by omega), ih (i + 1) (by omega)]
theorem sqO_some {b : Nat → Bool} {m s : Nat} : ∀ d i, 0 < i → sqO b m d i = some s → 0 < s ∧ s ≤ m := by
  intro d
  induction d with
  | zero => intro i _ h; cases h
  | succ d ih =>
    intro i hi h
    unfold sqO at h
    have h1 : 0 < i * i := Nat.mul_pos hi hi
    by_cases z : m < i * i
    · rw [if_pos z] at h; cases h
    · rw [if_neg z] at h
      by_cases y : b (m - i * i) = true
      · rw [if_pos y] at h; cases h; omega
      · rw [if_neg y] at h; exact ih (i + 1) (by omega) h
def sqP : Nat → Nat → Bool
  | 0 => fun _ => false
  | m + 1 => fun j => if j = m then (sqO (sqP m) m 7 1).isNone else sqP m j
/-- who has to take from so many words loses -/
def sqB (j : Nat) : Bool := sqP (j + 1) j
theorem sqP_B {j : Nat} : ∀ m, j < m → sqP m j = sqB j := by
  intro m
  induction m with
  | zero => intro h; omega
  | succ m ih =>
    intro h
    by_cases z : j = m
    · rw [z]; rfl
    · show (if j = m then (sqO (sqP m) m 7 1).isNone else sqP m j) = sqB j
      rw [if_neg z]
      exact ih (by omega)
theorem sqB_eq (m : Nat) : sqB m = (sqO sqB m 7 1).isNone := by
  show (if m = m then (sqO (sqP m) m 7 1).isNone else sqP m m) = _
  rw [if_pos rfl, sqO_ext (fun j hj => sqP_B m hj) 7 1 (by omega)]
def oS (o : Option Nat) : Int32 ⊕ Unit := match o with | some s => .inl (nI s) | none => .inr ()
def oZ (o : Option Nat) : Int32 := match o with | some s => nI s | none => 0
section SQUARES
variable {L N : Nat} {S T : gS} {c : Nat} {g : pG} {v : pV} {x : pX} {l : List Int64} {u : pX} {n : pN} {k : Nat → Option pV} {h : pH} {A : pA}
theorem C_win2 {b : Nat → Bool} {m M : Nat} {hh : gH} (hm : m ≤ M) (hM : M ≤ 61) (hm60 : m ≤ 60) : ∀ d i, i + d = 8 → 0 < i → ∀ kk, lp_c10_winningSquare_2 N (nI m) (lN (lM b M)) hh (kk + d + 1) (nI i) = some (oS (sqO b m d i)) := by
  intro d
  induction d with
  | zero =>
    intro i hi h0 kk
    have : i = 8 := by omega
    subst this
    rw [show kk + 0 + 1 = kk + 1 from rfl, lp_c10_winningSquare_2.eq_2, nI_mul, ilt_t (by omega) (by omega)]
    rfl
  | succ d ih =>
    intro i hi h0 kk
    have i7 : i ≤ 7 := by omega
    have i2 : i * i ≤ 49 := Nat.mul_le_mul i7 i7
    have i1 : 0 < i * i := Nat.mul_pos h0 h0
    rw [show kk + (d + 1) + 1 = kk + d + 1 + 1 by omega, lp_c10_winningSquare_2.eq_2, nI_mul]
    unfold sqO
    by_cases z : m < i * i
    · rw [ilt_t z (by omega), if_pos z]; rfl
    · rw [ilt_f (by omega) (by omega), if_neg z, nI_sub (by omega), lM_get (by omega) (by omega)]
      by_cases y : b (m - i * i) = true
      · rw [if_pos y, if_pos y, if_pos (by decide)]; rfl
      · rw [if_neg y, if_neg y, if_neg (by decide), nI_1]
        exact ih (i + 1) (by omega) (by omega) kk
theorem C_win {b : Nat → Bool} {m M : Nat} {hh : gH} (hm : m ≤ M) (hM : M ≤ 61) (hm60 : m ≤ 60) (hN : 900 ≤ N) : f_c10_winningSquare N (nI m) (lN (lM b M)) hh = some (oZ (sqO b m 7 1)) := by
  obtain ⟨N', hN'⟩ : ∃ N', N = N' + 7 + 1 := ⟨N - 8, by omega⟩
  have e := C_win2 (N := N) (b := b) (hh := hh) hm hM hm60 7 1 (by omega) (by omega) N'
  rw [← hN'] at e
  unfold f_c10_winningSquare
  rw [show (1 : Int32) = nI 1 from rfl, e]
  cases sqO b m 7 1 with
  | none => rfl
  | some s => rfl
theorem C_sq17 {d : Nat} {hh : gH} (hd : d ≤ 60) (hN : 900 ≤ N) : lp_c10_squares_17 N (nI d) hh N 0 0 = some (lN (lM sqB (d + 1))) := by
  have e : lp_c10_squares_17 N (nI d) hh N (lN (lM sqB 0)) (nI 0) = some (lN (lM sqB (d + 1))) := by
    refine lp_seq (Lp := fun kk (s : Int64) i => lp_c10_squares_17 N (nI d) hh kk s (nI i)) (sp := fun i => lN (lM sqB i)) (n := d + 1) (fun kk i hi => ?_) (fun kk => ?_) (by omega)
    · show lp_c10_squares_17 N (nI d) hh (kk + 1) _ _ = lp_c10_squares_17 N (nI d) hh kk (lN (lM sqB (i + 1))) (nI (i + 1))
      rw [lp_c10_squares_17.eq_2, ilt_f (by omega) (by omega), C_win (Nat.le_refl _) (by omega) (by omega) hN, Option.bind_some]
      have eb := sqB_eq i
      cases ho : sqO sqB i 7 1 with
      | none =>
        rw [ho] at eb
        rw [show oZ (none : Option Nat) = 0 from rfl, if_pos rfl, Option.bind_some, lM_or (by omega) eb, nI_1]
      | some s =>
        have hs := sqO_some 7 1 (by omega) ho
        rw [ho] at eb
        rw [show oZ (some s) = nI s from rfl, iz_f hs.1 (by omega), Option.bind_some, lM_f eb, nI_1]
    · show lp_c10_squares_17 N (nI d) hh (kk + 1) _ _ = _
      rw [lp_c10_squares_17.eq_2, ilt_t (by omega) (by omega)]
  exact e
def sqQ (T : gS) (b : Nat → Bool) (m : Nat) : Prop := ∀ j, j < m → T.1 166 j = if b j then 0 else 1
theorem M_takO2 {b : Nat → Bool} {m : Nat} (hQ : sqQ T b m) (hm60 : m ≤ 60) : ∀ d i, i + d = 8 → 0 < i → ∀ kk, lp_c11_takesOf_2 N 144 (nI m) (mk L T) (kk + d + 1) (nI i) = some (oS (sqO b m d i)) := by
  intro d
  induction d with
  | zero =>
    intro i hi h0 kk
    have : i = 8 := by omega
    subst this
    rw [show kk + 0 + 1 = kk + 1 from rfl, lp_c11_takesOf_2.eq_2, nI_mul, ilt_t (by omega) (by omega)]
    rfl
  | succ d ih =>
    intro i hi h0 kk
    have i7 : i ≤ 7 := by omega
    have i2 : i * i ≤ 49 := Nat.mul_le_mul i7 i7
    have i1 : 0 < i * i := Nat.mul_pos h0 h0
    rw [show kk + (d + 1) + 1 = kk + d + 1 + 1 by omega, lp_c11_takesOf_2.eq_2, nI_mul]
    unfold sqO
    by_cases z : m < i * i
    · rw [ilt_t z (by omega), if_pos z]; rfl
    · rw [ilt_f (by omega) (by omega), if_neg z, zr144_36, Option.bind_some, nI_sub (by omega), zg166 (by omega), Option.bind_some, hQ _ (by omega)]
      by_cases y : b (m - i * i) = true
      · rw [if_pos y, if_pos y, if_pos (by decide)]; rfl
      · rw [if_neg y, if_neg y, if_neg (by decide), nI_1]
        exact ih (i + 1) (by omega) (by omega) kk
theorem M_takO {b : Nat → Bool} {m : Nat} (hQ : sqQ T b m) (hm60 : m ≤ 60) (hN : 900 ≤ N) : f_c11_takesOf N 144 (nI m) (mk L T) = some (oZ (sqO b m 7 1)) := by
  obtain ⟨N', hN'⟩ : ∃ N', N = N' + 7 + 1 := ⟨N - 8, by omega⟩
  have e := M_takO2 (L := L) (N := N) hQ hm60 7 1 (by omega) (by omega) N'
  rw [← hN'] at e
  unfold f_c11_takesOf
  rw [zc144, Option.bind_some, show (1 : Int32) = nI 1 from rfl, e]
  cases sqO b m 7 1 with
  | none => rfl
  | some s => rfl
theorem M_sq19 {d : Nat} (hd : d ≤ 60) (hN : 900 ≤ N) : ∃ T', lp_c11_squares_19 N 144 (nI d) N 0 (mk L T) = some (mk L T') ∧ FM (fun y => y = 166) (fun _ => False) T T' ∧ sqQ T' sqB (d + 1) := by
  have e : ∃ r, lp_c11_squares_19 N 144 (nI d) N (nI 0) (mk L T) = some r ∧ ∃ T', r = mk L T' ∧ FM (fun y => y = 166) (fun _ => False) T T' ∧ sqQ T' sqB (d + 1) := by
    refine lp_inv (Lp := fun kk (s : gS) i => lp_c11_squares_19 N 144 (nI d) kk (nI i) (mk L s)) (n := d + 1) (P := fun i s => FM (fun y => y = 166) (fun _ => False) T s ∧ sqQ s sqB i) (fun kk i s hi hs => Or.inr ?_) (fun kk s hs => ?_) (d + 1) N 0 T (by omega) (by omega) ⟨FM.refl, fun j hj => by omega⟩
    · obtain ⟨f, hQ⟩ := hs
      have eb := sqB_eq i
      refine ⟨stI s 166 i (if sqB i then 0 else 1), ?_, f.tr (FM.stA rfl (by omega)), fun j hj => ?_⟩
      · show lp_c11_squares_19 N 144 (nI d) (kk + 1) _ _ = lp_c11_squares_19 N 144 (nI d) kk (nI (i + 1)) _
        rw [lp_c11_squares_19.eq_2, ilt_f (by omega) (by omega), zr144_36, Option.bind_some, M_takO hQ (by omega) hN, Option.bind_some, zp166 (by omega), Option.bind_some, nI_1]
        cases ho : sqO sqB i 7 1 with
        | none =>
          rw [ho] at eb
          rw [eb]
          rfl
        | some s =>
          have hs := sqO_some 7 1 (by omega) ho
          rw [ho] at eb
          rw [eb, show oZ (some s) = nI s from rfl, ilez_f hs.1 (by omega)]
          rfl
      · by_cases z : j = i
        · rw [z, rdI_eq]
        · rw [rdI_ne (by omega)]; exact hQ j (by omega)
    · exact ⟨mk L s, by show lp_c11_squares_19 N 144 (nI d) (kk + 1) _ _ = _; rw [lp_c11_squares_19.eq_2, ilt_t (by omega) (by omega)], s, rfl, hs.1, hs.2⟩
  obtain ⟨r, e, T', er, e2, e3⟩ := e
  rw [er] at e
  exact ⟨T', e, e2, e3⟩
theorem C_clearA (q : CA S (g, v, x, l, u, n, k, h)) : ∃ S1, f_c4_clear N 13 (mk L S) = some (mk L S1) ∧ CA S1 (g, v, x, [], u, n, k, h) ∧ Fr lowC S S1 := by
  obtain ⟨S1, e1, e2, e3⟩ := C_clear (L := L) (N := N) (S := S)
  exact ⟨S1, e1, q.row (e2.mono (fun y hy => Or.inr hy)) e3, e2.low (fun y hy => by have hy2 : y = 13 ∨ y = 14 := hy; omega)⟩
theorem C_addA {y : Int64} (q : CA S (g, v, x, l, u, n, k, h)) (hl : l.length < 8) : ∃ S1, f_c4_add N 13 y (mk L S) = some (mk L S1) ∧ CA S1 (g, v, x, l ++ [y], u, n, k, h) ∧ Fr lowC S S1 := by
  obtain ⟨S1, e1, e2, e3⟩ := C_addR (L := L) (N := N) (S := S) (y := y) q.2.2.2.1 hl
  exact ⟨S1, e1, q.row (e2.mono (fun y hy => Or.inr hy)) e3, e2.low (fun y hy => by have hy2 : y = 13 ∨ y = 14 := hy; omega)⟩
theorem A_squares {y : Int32} (w : WA A) (q : CA S A) (m : MA S A c) (hN : 900 ≤ N) : Agr L S c (f_c10_squares N 10 y) (f_c11_squares N 144 y) := by
  obtain ⟨g, v, x, l, u, n, k, h⟩ := A
  rcases (show (y < 0 ∨ (¬ y < 0 ∧ ¬ y ≤ 60)) ∨ ∃ d, 0 ≤ d ∧ d ≤ 60 ∧ y = nI d from cas y 0 60 (by omega) (by omega)) with hy | ⟨d, -, d2, rfl⟩
  · refine AgrR w q m (r := -1) ?_ (fun T _ t1 => ?_)
    · unfold f_c10_squares
      rcases hy with hy | ⟨h1, hy⟩
      · rw [zc10, Option.bind_some, if_pos hy]
      · rw [zc10, Option.bind_some, if_neg h1, if_neg hy]
    · unfold f_c11_squares
      rw [zc144, Option.bind_some, zs144_10, Option.bind_some, M_inF (N := N) hy, Option.bind_some, if_pos rfl]
  · have c1 : ¬ nI d < 0 := nI_pos (by omega)
    have c2 : nI d ≤ 60 := nI_le (b := 60) d2 (by omega)
    have ei : ∀ T : gS, f_c11_in N (nI d) 0 60 (mk L T) = some 1 := fun T => M_inT (lo := 0) (hi := 60) (by omega) d2 (by omega)
    obtain ⟨S1, e1, q1, f1⟩ := C_clearA (L := L) (N := N) q
    have eb := sqB_eq d
    cases ho : sqO sqB d 7 1 with
    | none =>
      rw [ho] at eb
      refine AgrI (c' := c) m (r := 0) (S1 := S1) ?_ f1 q1 (w.rw (by show 0 ≤ 8; omega)) (by omega) (fun T mt => ?_)
      · unfold f_c10_squares
        rw [zc10, Option.bind_some, if_neg c1, if_pos c2, C_sq17 d2 hN, Option.bind_some, C_win (by omega) (by omega) d2 hN, Option.bind_some, zr10_1, Option.bind_some, e1, Option.bind_some, ho, show oZ (none : Option Nat) = 0 from rfl, if_pos rfl]
      · have t1 := mt.thr
        obtain ⟨T1, g1, g2, g3⟩ := M_sq19 (L := L) (N := N) (T := stI T 144 10 0) d2 hN
        have t2 : MA T1 (g, v, x, l, u, n, k, h) c := t1.fm g2 (fun y hy => by unfold sM; omega) (fun _ z => z.elim)
        have g9 := g3 d (by omega)
        rw [show sqB d = true from eb, bfT] at g9
        refine ⟨stI T1 144 9 0, ?_, highTr thrH (highTr (g2.high (fun y hy => by omega)) clrH), t2.clr⟩
        unfold f_c11_squares
        rw [zc144, Option.bind_some, zs144_10, Option.bind_some, ei, Option.bind_some, if_neg (show ¬ (1 : Int32) = 0 by decide), g1, Option.bind_some, zs144_9, Option.bind_some, zr144_36, Option.bind_some, zg166 (by omega), Option.bind_some, rdI_ne (by omega), g9, i00]
    | some s =>
      have hs := sqO_some 7 1 (by omega) ho
      rw [ho] at eb
      obtain ⟨S2, e2, q2, f2⟩ := C_addA (L := L) (N := N) (y := (nI s).toInt64) q1 (by show 0 < 8; omega)
      refine AgrI (c' := c) m (r := 1) (S1 := S2) ?_ (lowTr f1 f2) q2 (w.rw (by show 1 ≤ 8; omega)) (by omega) (fun T mt => ?_)
      · unfold f_c10_squares
        rw [zc10, Option.bind_some, if_neg c1, if_pos c2, C_sq17 d2 hN, Option.bind_some, C_win (by omega) (by omega) d2 hN, Option.bind_some, zr10_1, Option.bind_some, e1, Option.bind_some, ho, show oZ (some s) = nI s from rfl, iz_f hs.1 (by omega), zr10_1, Option.bind_some, e2, Option.bind_some]
      · have t1 := mt.thr
        obtain ⟨T1, g1, g2, g3⟩ := M_sq19 (L := L) (N := N) (T := stI T 144 10 0) d2 hN
        have t2 : MA T1 (g, v, x, l, u, n, k, h) c := t1.fm g2 (fun y hy => by unfold sM; omega) (fun _ z => z.elim)
        obtain ⟨T2, g4, t3, -, h3⟩ := M_tellA (L := L) (N := N) (y := (nI s).toInt64) t2.clr (by show 0 < 8; omega)
        have g9 := g3 d (by omega)
        rw [show sqB d = false from eb, bfF] at g9
        refine ⟨T2, ?_, highTr thrH (highTr (g2.high (fun y hy => by omega)) (highTr clrH h3)), t3⟩
        have g5 : sqQ (stI T1 144 9 0) sqB d := fun j hj => by rw [rdI_ne (by omega)]; exact g3 j (by omega)
        unfold f_c11_squares
        rw [zc144, Option.bind_some, zs144_10, Option.bind_some, ei, Option.bind_some, if_neg (show ¬ (1 : Int32) = 0 by decide), g1, Option.bind_some, zs144_9, Option.bind_some, zr144_36, Option.bind_some, zg166 (by omega), Option.bind_some, rdI_ne (by omega), g9, i10, M_takO g5 d2 hN, ho, Option.bind_some, show oZ (some s) = nI s from rfl, g4, Option.bind_some]
end SQUARES
