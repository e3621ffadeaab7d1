/-! CALLS: year: what a text tells; the class reads it -/
def yK (t : Nat) : Nat := if t = 115 then 4 else if t = 100 then 2 else if t = 97 ∨ t = 99 ∨ t = 110 ∨ t = 114 then 1 else 0
/-- what has to stand in a place behind the letter: 46 a mark, else the least digit -/
def yP (t j : Nat) : Nat := if t = 115 then (if j = 2 then 49 else if j = 3 then 46 else 48) else if t = 100 then (if j = 1 then 49 else 48) else 48
def ySt (x : pX) (p c : Nat) : Prop := p < min x.1 60 ∧ ((c = 46 ∧ (x.2 p = 46 ∨ x.2 p = 44)) ∨ (c ≠ 46 ∧ c ≤ x.2 p ∧ x.2 p ≤ 57))
def acOk (x : pX) (p : Nat) : Prop := p < min x.1 60 ∧ 0 < yK (x.2 p) ∧ ∀ j, j < yK (x.2 p) → ySt x (p + 1 + j) (yP (x.2 p) j)
def acQ (x : pX) (p q : Nat) : Prop := (¬ (p < min x.1 60 ∧ 0 < yK (x.2 p)) ∧ q = p) ∨ ((p < min x.1 60 ∧ 0 < yK (x.2 p)) ∧ ∃ j, j < yK (x.2 p) ∧ (∀ i, i < j → ySt x (p + 1 + i) (yP (x.2 p) i)) ∧ ¬ ySt x (p + 1 + j) (yP (x.2 p) j) ∧ q = p + 1 + j)
theorem yK_le {t : Nat} : yK t ≤ 4 := by unfold yK; (repeat' split) <;> omega
theorem yP_r {t j : Nat} : yP t j = 46 ∨ yP t j = 48 ∨ yP t j = 49 := by unfold yP; (repeat' split) <;> omega
theorem ac_or (x : pX) (p : Nat) : acOk x p ∨ ∃ q, acQ x p q := by
  rcases Classical.em (p < min x.1 60 ∧ 0 < yK (x.2 p)) with y | y
  · rcases firstF (fun j => ySt x (p + 1 + j) (yP (x.2 p) j)) (yK (x.2 p)) with z | ⟨j, z1, z2, z3⟩
    · exact Or.inl ⟨y.1, y.2, z⟩
    · exact Or.inr ⟨_, Or.inr ⟨y, j, z1, z2, z3, rfl⟩⟩
  · exact Or.inr ⟨p, Or.inl ⟨y, rfl⟩⟩
/-- where the acts stand -/
def yA (x : pX) : Nat → Nat
  | 0 => 0
  | i + 1 => yA x i + 1 + yK (x.2 (yA x i))
def yG (x : pX) (n : Nat) : Prop := (∀ i, i < n → acOk x (yA x i)) ∧ yA x n = x.1
def yB (x : pX) (n q : Nat) : Prop := (∀ i, i < n → acOk x (yA x i)) ∧ yA x n < x.1 ∧ acQ x (yA x n) q
theorem acOk_end {x : pX} {p : Nat} (h : acOk x p) : p + 1 + yK (x.2 p) ≤ min x.1 60 ∧ p + 2 ≤ p + 1 + yK (x.2 p) := by
  obtain ⟨h1, h2, h3⟩ := h
  have := (h3 (yK (x.2 p) - 1) (by omega)).1
  omega
theorem yA_le {x : pX} : ∀ n, (∀ i, i < n → acOk x (yA x i)) → yA x n ≤ min x.1 60 ∧ 2 * n ≤ yA x n := by
  intro n
  induction n with
  | zero => exact fun _ => ⟨Nat.zero_le _, Nat.le_refl _⟩
  | succ n ih =>
    intro h
    have i1 := ih (fun i hi => h i (by omega))
    have := acOk_end (h n (by omega))
    show yA x n + 1 + yK (x.2 (yA x n)) ≤ _ ∧ 2 * (n + 1) ≤ yA x n + 1 + yK (x.2 (yA x n))
    omega
theorem y_or (x : pX) : (∃ n q, n ≤ 30 ∧ q < 100 ∧ yB x n q) ∨ ∃ n, n ≤ 30 ∧ yG x n := by
  rcases firstF (fun i => yA x i < x.1 ∧ acOk x (yA x i)) 31 with z | ⟨n, n1, n2, n3⟩
  · have := yA_le 31 (fun i hi => (z i hi).2)
    omega
  · have h1 := fun i hi => (n2 i hi).2
    have h2 := yA_le n h1
    by_cases y : yA x n < x.1
    · rcases ac_or x (yA x n) with w | ⟨q, w⟩
      · exact absurd ⟨y, w⟩ n3
      · refine Or.inl ⟨n, q, by omega, ?_, h1, y, w⟩
        have k4 := yK_le (t := x.2 (yA x n))
        rcases w with w | ⟨-, j, w1, -, -, w2⟩
        · omega
        · omega
    · exact Or.inr ⟨n, by omega, h1, by omega⟩
/-- the string that tells what stands behind a letter -/
def shI (t : Nat) : Nat := if t = 97 ∨ t = 99 ∨ t = 110 ∨ t = 114 then 2 else if t = 100 then 4 else if t = 115 then 3 else 5
section YEARC
variable {L N : Nat} {S T : gS} {c : Nat} {g : pG} {v v' : pV} {x : pX} {l : List Int64} {u : pX} {n : pN} {k : Nat → Option pV} {h : pH} {A : pA} {hh : gH}
theorem C_shape {t : Nat} (ht : t < 256) : f_c10_shape N (nI t) hh = some (shI t) := by
  have e : ∀ m : Nat, m < 256 → ((nI t = (OfNat.ofNat m : Int32)) ↔ t = m) := fun m hm => nI_eq (b := m) (by omega) (by omega)
  have ne : ∀ m : Nat, m < 256 → t ≠ m → ¬ nI t = nI m := fun m hm h z => h ((nI_eq (by omega) (by omega)).mp z)
  unfold f_c10_shape shI
  by_cases z1 : t = 97
  · rw [z1]; rfl
  by_cases z2 : t = 99
  · rw [z2]; rfl
  by_cases z3 : t = 100
  · rw [z3]; rfl
  by_cases z4 : t = 110
  · rw [z4]; rfl
  by_cases z5 : t = 114
  · rw [z5]; rfl
  by_cases z6 : t = 115
  · rw [z6]; rfl
  rw [if_neg (show ¬ nI t = 97 from ne 97 (by omega) z1), if_neg (show ¬ nI t = 99 from ne 99 (by omega) z2), if_neg (show ¬ nI t = 100 from ne 100 (by omega) z3), if_neg (show ¬ nI t = 110 from ne 110 (by omega) z4), if_neg (show ¬ nI t = 114 from ne 114 (by omega) z5), if_neg (show ¬ nI t = 115 from ne 115 (by omega) z6), if_neg (by omega), if_neg z3, if_neg z6]
theorem C_shapeN : f_c10_shape N (-1) hh = some 5 := by
  unfold f_c10_shape
  rw [if_neg (by decide), if_neg (by decide), if_neg (by decide), if_neg (by decide), if_neg (by decide), if_neg (by decide)]
def shL (a : Nat) : Nat := if a = 2 then 1 else if a = 3 then 4 else if a = 4 then 2 else 0
theorem shL_K {t : Nat} : shL (shI t) = yK t := by
  unfold shI yK shL
  by_cases z1 : t = 97 ∨ t = 99 ∨ t = 110 ∨ t = 114
  · rw [if_pos z1, if_pos rfl, if_neg (by omega), if_neg (by omega), if_pos z1]
  · rw [if_neg z1]
    by_cases z2 : t = 100
    · rw [if_pos z2, if_neg (by omega), if_neg (by omega), if_pos rfl, if_neg (by omega), if_pos z2]
    · rw [if_neg z2]
      by_cases z3 : t = 115
      · rw [if_pos z3, if_neg (by omega), if_pos rfl, if_pos z3]
      · rw [if_neg z3, if_neg (by omega), if_neg (by omega), if_neg (by omega), if_neg z3, if_neg z2, if_neg z1]
theorem shI_r {t : Nat} : 2 ≤ shI t ∧ shI t < 6 := by unfold shI; (repeat' split) <;> omega
theorem zn69 {a : Nat} (h1 : 2 ≤ a) (h2 : a < 6) : gn (mk L S) (a + 4) = some (nI (shL a)) := by
  match a, h1, h2 with
  | 2, _, _ => exact zn6
  | 3, _, _ => exact zn7
  | 4, _, _ => exact zn8
  | 5, _, _ => exact zn9
  | n + 6, _, h => omega
theorem shr0 : ∀ n : Nat, n < 5 → nI n >>> ((0 : Int32) &&& 31) = nI n := by decide +kernel
theorem shL_le {a : Nat} : shL a ≤ 4 := by unfold shL; (repeat' split) <;> omega
theorem C_sLen {a : Nat} (h1 : 2 ≤ a) (h2 : a < 6) : f_jString_length N a (mk L S) = some (nI (shL a)) := by
  have hl := shL_le (a := a)
  have gc : gclS a = some () := by unfold gclS; rw [if_pos ⟨h1, h2⟩]
  have gv : gsV a = some (a + 4) := by unfold gsV; rw [if_pos ⟨h1, h2⟩]
  have ec : f_jString_coder N a (mk L S) = some 0 := by
    unfold f_jString_coder
    rw [gc, Option.bind_some, i10, Option.bind_some, Option.bind_some]
    rfl
  unfold f_jString_length
  rw [gc, Option.bind_some, gv, Option.bind_some, zn69 h1 h2, Option.bind_some, ec, Option.bind_some, shr0 _ (by omega)]
theorem C_sEmp {a : Nat} (h1 : 2 ≤ a) (h2 : a < 6) : f_jString_isEmpty N a (mk L S) = some (if shL a = 0 then 1 else 0) := by
  have hl := shL_le (a := a)
  have gc : gclS a = some () := by unfold gclS; rw [if_pos ⟨h1, h2⟩]
  have gv : gsV a = some (a + 4) := by unfold gsV; rw [if_pos ⟨h1, h2⟩]
  unfold f_jString_isEmpty
  rw [gc, Option.bind_some, gv, Option.bind_some, zn69 h1 h2, Option.bind_some]
  by_cases z : shL a = 0
  · rw [iz_t z, if_pos z]; rfl
  · rw [iz_f (by omega) (by omega), if_neg z]; rfl
theorem chr2 : ∀ c : Nat, c < 128 → gNar .char (((nI c &&& (255 : Int32)).toUInt32 % 65536).toInt32) = some (nI c) ∧ gNar .char (nI c) = some (nI c) := by decide +kernel
theorem C_sChr {t j : Nat} (hs : CStr S) (hj : j < yK t) : f_jString_charAt N (shI t) (nI j) (mk L S) = some (nI (yP t j)) := by
  obtain ⟨h1, h2⟩ := shI_r (t := t)
  have hl := shL_le (a := shI t)
  have hk := shL_K (t := t)
  have gc : gclS (shI t) = some () := by unfold gclS; rw [if_pos ⟨h1, h2⟩]
  have gv : gsV (shI t) = some (shI t + 4) := by unfold gsV; rw [if_pos ⟨h1, h2⟩]
  have el : f_jString_isLatin1 N (shI t) (mk L S) = some 1 := by
    unfold f_jString_isLatin1
    rw [gc, Option.bind_some, i10, Option.bind_some, i00, Option.bind_some]
    rfl
  have eb : gaB (mk L S) (shI t + 4) (nI j) = some (nI (yP t j)) := by
    obtain ⟨s1, s2, s3, s4, s5, s6, s7⟩ := hs
    unfold yK at hj
    unfold shI yP
    by_cases z3 : t = 115
    · rw [if_pos z3] at hj
      rw [if_neg (by omega), if_neg (by omega), if_pos z3, if_pos z3, zg7 (by omega)]
      match j, hj with
      | 0, _ => rw [s2]; rfl
      | 1, _ => rw [s3]; rfl
      | 2, _ => rw [s4]; rfl
      | 3, _ => rw [s5]; rfl
      | n + 4, h => omega
    · rw [if_neg z3] at hj
      by_cases z2 : t = 100
      · rw [if_pos z2] at hj
        rw [if_neg (by omega), if_pos z2, if_neg z3, if_pos z2, zg8 (by omega)]
        match j, hj with
        | 0, _ => rw [s6]; rfl
        | 1, _ => rw [s7]; rfl
        | n + 2, h => omega
      · rw [if_neg z2] at hj
        by_cases z1 : t = 97 ∨ t = 99 ∨ t = 110 ∨ t = 114
        · rw [if_pos z1] at hj
          rw [if_pos z1, if_neg z3, if_neg z2, zg6 (by omega), show j = 0 by omega, s1]
          rfl
        · rw [if_neg z1] at hj
          omega
  have hc : yP t j < 128 := by rcases yP_r (t := t) (j := j) with y | y | y <;> omega
  obtain ⟨c1, c2⟩ := chr2 (yP t j) hc
  unfold f_jString_charAt f_jStringLatin1_charAt f_jString_checkIndex
  rw [gc, Option.bind_some, el, Option.bind_some, i10, gv, Option.bind_some, zn69 h1 h2, Option.bind_some, iltz (by omega), ilt_t (by omega) (by omega), Option.bind_some, eb, Option.bind_some, c1, Option.bind_some, Option.bind_some, c2, Option.bind_some]
theorem C_stands {p c : Nat} (ct : CT S x) (hx : XOk x 80) (hp : p < 1000) (hc : c = 46 ∨ c = 48 ∨ c = 49) : ∃ y, f_c8_at N 11 (nI p) 60 (mk L S) = some y ∧ (ySt x p c → f_c10_stands N (nI c) y (mk L S) = some 1) ∧ (¬ ySt x p c → f_c10_stands N (nI c) y (mk L S) = some 0) := by
  by_cases z : p < x.1 ∧ p < 60
  · have hb := hx.2 p z.1
    refine ⟨nI (x.2 p), C_atc_t (cap := 60) ct hx z.1 z.2 (by omega), fun w => ?_, fun w => ?_⟩
    · unfold f_c10_stands
      rcases w.2 with ⟨rfl, w2⟩ | ⟨w1, w2, w3⟩
      · rw [if_pos (show nI 46 = 46 from rfl)]
        rcases w2 with w2 | w2
        · rw [w2, if_pos (show nI 46 = 46 from rfl)]; rfl
        · rw [w2, if_neg (show ¬ nI 44 = 46 by decide), if_pos (show nI 44 = 44 from rfl)]; rfl
      · rw [if_neg (show ¬ nI c = 46 from fun e => w1 ((nI_eq (b := 46) (by omega) (by omega)).mp e)), ilt_f w2 (by omega), k57, ilt_f w3 (by omega)]; rfl
    · unfold f_c10_stands
      by_cases w1 : c = 46
      · rw [w1, if_pos (show nI 46 = 46 from rfl), if_neg (show ¬ nI (x.2 p) = 46 from fun e => w ⟨by omega, Or.inl ⟨w1, Or.inl ((nI_eq (b := 46) (by omega) (by omega)).mp e)⟩⟩), if_neg (show ¬ nI (x.2 p) = 44 from fun e => w ⟨by omega, Or.inl ⟨w1, Or.inr ((nI_eq (b := 44) (by omega) (by omega)).mp e)⟩⟩)]; rfl
      · rw [if_neg (show ¬ nI c = 46 from fun e => w1 ((nI_eq (b := 46) (by omega) (by omega)).mp e))]
        by_cases w2 : c ≤ x.2 p
        · rw [ilt_f w2 (by omega), k57, ilt_t (show 57 < x.2 p by
            rcases Nat.lt_or_ge 57 (x.2 p) with y | y
            · exact y
            · exact absurd ⟨by omega, Or.inr ⟨w1, w2, y⟩⟩ w) (by omega)]; rfl
        · rw [ilt_t (by omega) (by omega)]; rfl
  · refine ⟨-1, C_atc_f (cap := 60) ct hx (by omega) hp, fun w => absurd w.1 (by omega), fun _ => ?_⟩
    unfold f_c10_stands
    rcases hc with rfl | rfl | rfl
    · rw [if_pos (show nI 46 = 46 from rfl), if_neg (by decide), if_neg (by decide)]; rfl
    · rw [if_neg (show ¬ nI 48 = 46 by decide), if_pos (show (-1 : Int32) < nI 48 by decide)]; rfl
    · rw [if_neg (show ¬ nI 49 = 46 by decide), if_pos (show (-1 : Int32) < nI 49 by decide)]; rfl
theorem C_fy50 {p t : Nat} (ct : CT S x) (hx : XOk x 80) (hs : CStr S) (hp : p ≤ 60) (hN : 900 ≤ N) : ((∀ j, j < yK t → ySt x (p + 1 + j) (yP t j)) → lp_c10_faultInYear_50 N 10 (shI t) (mk L S) N (nI (p + 1)) 0 = some (.inr (nI (p + 1 + yK t)))) ∧ ∀ j, j < yK t → (∀ i, i < j → ySt x (p + 1 + i) (yP t i)) → ¬ ySt x (p + 1 + j) (yP t j) → lp_c10_faultInYear_50 N 10 (shI t) (mk L S) N (nI (p + 1)) 0 = some (.inl (nI (p + 1 + j))) := by
  obtain ⟨h1, h2⟩ := shI_r (t := t)
  have hk := shL_K (t := t)
  have hk4 := yK_le (t := t)
  have good : ∀ kk i, i < yK t → ySt x (p + 1 + i) (yP t i) → lp_c10_faultInYear_50 N 10 (shI t) (mk L S) (kk + 1) (nI (p + 1 + i)) (nI i) = lp_c10_faultInYear_50 N 10 (shI t) (mk L S) kk (nI (p + 1 + (i + 1))) (nI (i + 1)) := by
    intro kk i hi hy
    obtain ⟨y, e1, e2, -⟩ := C_stands (L := L) (N := N) (p := p + 1 + i) (c := yP t i) ct hx (by omega) (yP_r)
    rw [lp_c10_faultInYear_50.eq_2, C_sLen h1 h2, Option.bind_some, hk, ile_f hi (by omega), C_sChr hs hi, Option.bind_some, zr10_0, Option.bind_some, e1, Option.bind_some, e2 hy, Option.bind_some, i10, nI_1, nI_1]
    rfl
  constructor
  · intro hy
    have e : lp_c10_faultInYear_50 N 10 (shI t) (mk L S) N (nI (p + 1 + 0)) (nI 0) = some (.inr (nI (p + 1 + yK t))) := by
      refine lp_seq (Lp := fun kk (_ : Unit) i => lp_c10_faultInYear_50 N 10 (shI t) (mk L S) kk (nI (p + 1 + i)) (nI i)) (sp := fun _ => ()) (n := yK t) (fun kk i hi => good kk i hi (hy i hi)) (fun kk => ?_) (by omega)
      show lp_c10_faultInYear_50 N 10 (shI t) (mk L S) (kk + 1) (nI (p + 1 + yK t)) (nI (yK t)) = _
      rw [lp_c10_faultInYear_50.eq_2, C_sLen h1 h2, Option.bind_some, hk, ile_t (Nat.le_refl _) (by omega)]
    exact e
  · intro j hj hy hn
    have e : lp_c10_faultInYear_50 N 10 (shI t) (mk L S) N (nI (p + 1 + 0)) (nI 0) = some (.inl (nI (p + 1 + j))) := by
      refine lp_seq (Lp := fun kk (_ : Unit) i => lp_c10_faultInYear_50 N 10 (shI t) (mk L S) kk (nI (p + 1 + i)) (nI i)) (sp := fun _ => ()) (n := j) (fun kk i hi => good kk i (by omega) (hy i hi)) (fun kk => ?_) (by omega)
      obtain ⟨y, e1, -, e3⟩ := C_stands (L := L) (N := N) (p := p + 1 + j) (c := yP t j) ct hx (by omega) (yP_r)
      show lp_c10_faultInYear_50 N 10 (shI t) (mk L S) (kk + 1) (nI (p + 1 + j)) (nI j) = _
      rw [lp_c10_faultInYear_50.eq_2, C_sLen h1 h2, Option.bind_some, hk, ile_f hj (by omega), C_sChr hs hj, Option.bind_some, zr10_0, Option.bind_some, e1, Option.bind_some, e3 hn, Option.bind_some, i00]
    exact e
theorem C_fyOk {p i kk : Nat} (ct : CT S x) (hx : XOk x 80) (hs : CStr S) (hi : i ≤ 60) (hp : acOk x p) (hN : 900 ≤ N) : lp_c10_faultInYear_4 N 10 (mk L S) (kk + 1) (nI p) (nI i) = lp_c10_faultInYear_4 N 10 (mk L S) kk (nI (p + 1 + yK (x.2 p))) (nI (i + 1)) := by
  obtain ⟨p1, p2, p3⟩ := hp
  have hb := hx.2 p (by omega)
  have hx80 := hx.1
  obtain ⟨h1, h2⟩ := shI_r (t := x.2 p)
  have e := (C_fy50 (L := L) (N := N) (p := p) (t := x.2 p) ct hx hs (by omega) hN).1 p3
  rw [lp_c10_faultInYear_4.eq_2, k60, ilt_f hi (by omega), zr10_0, Option.bind_some, zi11_1, Option.bind_some, ct.1, ile_f (by omega) (by omega), Option.bind_some, C_atc_t (cap := 60) ct hx (by omega) (by omega) (by omega), Option.bind_some, C_shape hb, Option.bind_some, C_sEmp h1 h2, Option.bind_some, shL_K, if_neg (show ¬ yK (x.2 p) = 0 by omega), i00, nI_1, e, Option.bind_some, Sum.elim_inr, nI_1]
theorem C_fyQ {p i q kk : Nat} (ct : CT S x) (hx : XOk x 80) (hs : CStr S) (hi : i ≤ 60) (hp : p < x.1) (hp2 : p ≤ 60) (hq : acQ x p q) (hN : 900 ≤ N) : lp_c10_faultInYear_4 N 10 (mk L S) (kk + 1) (nI p) (nI i) = some (.inl (nI q)) := by
  have hb := hx.2 p hp
  have hx80 := hx.1
  obtain ⟨h1, h2⟩ := shI_r (t := x.2 p)
  rw [lp_c10_faultInYear_4.eq_2, k60, ilt_f hi (by omega), zr10_0, Option.bind_some, zi11_1, Option.bind_some, ct.1, ile_f (by omega) (by omega), Option.bind_some]
  rcases hq with ⟨y, rfl⟩ | ⟨y, j, w1, w2, w3, rfl⟩
  · by_cases z : q < 60
    · have k0 : yK (x.2 q) = 0 := by
        rcases Nat.eq_zero_or_pos (yK (x.2 q)) with e | e
        · exact e
        · exact absurd ⟨by omega, e⟩ y
      rw [C_atc_t (cap := 60) ct hx (by omega) (by omega) (by omega), Option.bind_some, C_shape hb, Option.bind_some, C_sEmp h1 h2, Option.bind_some, shL_K, if_pos k0, i10]
    · rw [C_atc_f (cap := 60) ct hx (by omega) (by omega), Option.bind_some, C_shapeN, Option.bind_some, C_sEmp (by omega) (by omega), Option.bind_some, if_pos (show shL 5 = 0 from rfl), i10]
  · have e := (C_fy50 (L := L) (N := N) (p := p) (t := x.2 p) ct hx hs (by omega) hN).2 j w1 w2 w3
    rw [C_atc_t (cap := 60) ct hx (by omega) (by omega) (by omega), Option.bind_some, C_shape hb, Option.bind_some, C_sEmp h1 h2, Option.bind_some, shL_K, if_neg (show ¬ yK (x.2 p) = 0 by omega), i00, nI_1, e, Option.bind_some, Sum.elim_inl]
theorem C_fyWalk {m : Nat} (ct : CT S x) (hx : XOk x 80) (hs : CStr S) (h : ∀ i, i < m → acOk x (yA x i)) (hN : 900 ≤ N) : ∀ d, d ≤ m → ∀ kk, lp_c10_faultInYear_4 N 10 (mk L S) (kk + d) 0 0 = lp_c10_faultInYear_4 N 10 (mk L S) kk (nI (yA x d)) (nI d) := by
  intro d
  induction d with
  | zero => exact fun _ _ => rfl
  | succ d ih =>
    intro hd kk
    have hl := yA_le d (fun i hi => h i (by omega))
    rw [show kk + (d + 1) = kk + 1 + d by omega, ih (by omega)]
    exact C_fyOk ct hx hs (by omega) (h d (by omega)) hN
theorem C_faultY (ct : CT S x) (hx : XOk x 80) (hs : CStr S) (hN : 900 ≤ N) : (∀ m q, m ≤ 30 → yB x m q → f_c10_faultInYear N 10 (mk L S) = some (nI q)) ∧ ∀ m, m ≤ 30 → yG x m → f_c10_faultInYear N 10 (mk L S) = some (-1) := by
  have hx80 := hx.1
  constructor
  · intro m q hm ⟨h1, h2, h3⟩
    have hl := yA_le m h1
    have e := C_fyWalk (L := L) (N := N) ct hx hs h1 hN m (Nat.le_refl _) (N - m - 1 + 1)
    rw [show N - m - 1 + 1 + m = N by omega, C_fyQ ct hx hs (by omega) h2 (by omega) h3 hN] at e
    unfold f_c10_faultInYear
    rw [zc10, Option.bind_some, e, Option.bind_some, Sum.elim_inl]
  · intro m hm ⟨h1, h2⟩
    have hl := yA_le m h1
    have e := C_fyWalk (L := L) (N := N) ct hx hs h1 hN m (Nat.le_refl _) (N - m - 1 + 1)
    have e2 : lp_c10_faultInYear_4 N 10 (mk L S) (N - m - 1 + 1) (nI (yA x m)) (nI m) = some (.inr ()) := by
      rw [lp_c10_faultInYear_4.eq_2, k60, ilt_f (by omega) (by omega), zr10_0, Option.bind_some, zi11_1, Option.bind_some, ct.1, ile_t (by omega) (by omega)]
    rw [show N - m - 1 + 1 + m = N by omega, e2] at e
    unfold f_c10_faultInYear
    rw [zc10, Option.bind_some, e, Option.bind_some, Sum.elim_inr]
end YEARC
