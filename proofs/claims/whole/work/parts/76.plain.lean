/-! CALLS: plain: what a text says of it; the class -/
abbrev plV (t : Nat → Nat) (i : Nat) : Prop := 49 ≤ t (2 + i) ∧ t (2 + i) ≤ 54
def plG (t : Nat → Nat) : Nat → Nat × (Nat → Nat) × (Nat → Nat)
  | 0 => (0, fun _ => 0, fun _ => 0)
  | i + 1 => if plV t i then ((plG t i).1 + 1, fun j => if j = (plG t i).1 then i else (plG t i).2.1 j, fun j => if j = (plG t i).1 then t (2 + i) - 48 else (plG t i).2.2 j) else plG t i
def plN (t : Nat → Nat) (i : Nat) : Nat := (plG t i).1
def plOk (x : pX) (i : Nat) : Prop := 2 + i < x.1 ∧ ((plV x.2 i ∧ plN x.2 i < 6) ∨ x.2 (2 + i) = 46)
def plD (x : pX) (i : Nat) : Prop := i < x.1 ∧ 51 ≤ x.2 i ∧ x.2 i ≤ 54
def plM (x : pX) : Nat := (x.2 0 - 48) * (x.2 1 - 48)
def plBad (x : pX) (q : Nat) : Prop := (¬ plD x 0 ∧ q = 0) ∨ (plD x 0 ∧ ¬ plD x 1 ∧ q = 1) ∨ (plD x 0 ∧ plD x 1 ∧ ∃ i, i < plM x ∧ (∀ j, j < i → plOk x j) ∧ ¬ plOk x i ∧ q = 2 + i) ∨ (plD x 0 ∧ plD x 1 ∧ (∀ j, j < plM x → plOk x j) ∧ 2 + plM x < x.1 ∧ q = 2 + plM x)
def plGood (x : pX) : Prop := plD x 0 ∧ plD x 1 ∧ (∀ j, j < plM x → plOk x j) ∧ x.1 = 2 + plM x
def plP (x : pX) : pG := (x.2 0 - 48, x.2 1 - 48, plN x.2 (plM x), (plG x.2 (plM x)).2.1, (plG x.2 (plM x)).2.2)
theorem firstF (P : Nat → Prop) (m : Nat) : (∀ j, j < m → P j) ∨ ∃ i, i < m ∧ (∀ j, j < i → P j) ∧ ¬ P i := by
  induction m with
  | zero => exact Or.inl (fun j hj => by omega)
  | succ m ih =>
    rcases ih with h | ⟨i, h1, h2, h3⟩
    · by_cases z : P m
      · exact Or.inl (fun j hj => by
          by_cases e : j = m
          · rw [e]; exact z
          · exact h j (by omega))
      · exact Or.inr ⟨m, by omega, h, z⟩
    · exact Or.inr ⟨i, by omega, h2, h3⟩
theorem plM_le {x : pX} (h0 : plD x 0) (h1 : plD x 1) : 9 ≤ plM x ∧ plM x ≤ 36 := by
  have a : 3 ≤ x.2 0 - 48 ∧ x.2 0 - 48 ≤ 6 := by have := h0.2; omega
  have b : 3 ≤ x.2 1 - 48 ∧ x.2 1 - 48 ≤ 6 := by have := h1.2; omega
  exact ⟨Nat.mul_le_mul a.1 b.1, Nat.mul_le_mul a.2 b.2⟩
theorem pl_or (x : pX) : (∃ q, plBad x q ∧ q < 100) ∨ plGood x := by
  by_cases h0 : plD x 0
  · by_cases h1 : plD x 1
    · have hm := plM_le h0 h1
      rcases firstF (plOk x) (plM x) with h | ⟨i, i1, i2, i3⟩
      · by_cases z : 2 + plM x < x.1
        · exact Or.inl ⟨_, Or.inr (Or.inr (Or.inr ⟨h0, h1, h, z, rfl⟩)), by omega⟩
        · have := (h (plM x - 1) (by omega)).1
          exact Or.inr ⟨h0, h1, h, by omega⟩
      · exact Or.inl ⟨_, Or.inr (Or.inr (Or.inl ⟨h0, h1, i, i1, i2, i3, rfl⟩)), by omega⟩
    · exact Or.inl ⟨1, Or.inr (Or.inl ⟨h0, h1, rfl⟩), by omega⟩
  · exact Or.inl ⟨0, Or.inl ⟨h0, rfl⟩, by omega⟩
theorem plG_inv {x : pX} : ∀ i, (∀ j, j < i → plOk x j) → plN x.2 i ≤ 6 ∧ ∀ j, j < plN x.2 i → (plG x.2 i).2.1 j < i ∧ 1 ≤ (plG x.2 i).2.2 j ∧ (plG x.2 i).2.2 j ≤ 6 := by
  intro i
  induction i with
  | zero => exact fun _ => ⟨by show 0 ≤ 6; omega, fun j hj => by cases (show j < 0 from hj)⟩
  | succ i ih =>
    intro h
    obtain ⟨h1, h2⟩ := ih (fun j hj => h j (by omega))
    have hi := h i (by omega)
    by_cases z : plV x.2 i
    · have hn : plN x.2 i < 6 := by
        rcases hi.2 with y | y
        · exact y.2
        · have := z.1; omega
      unfold plN plG
      rw [if_pos z]
      refine ⟨hn, fun j hj => ?_⟩
      have hj2 : j < plN x.2 i + 1 := hj
      show (if j = plN x.2 i then i else (plG x.2 i).2.1 j) < i + 1 ∧ 1 ≤ (if j = plN x.2 i then x.2 (2 + i) - 48 else (plG x.2 i).2.2 j) ∧ (if j = plN x.2 i then x.2 (2 + i) - 48 else (plG x.2 i).2.2 j) ≤ 6
      by_cases e : j = plN x.2 i
      · rw [if_pos e, if_pos e]
        have := z.1; have := z.2
        omega
      · rw [if_neg e, if_neg e]
        have := h2 j (by omega)
        omega
    · unfold plN plG
      rw [if_neg z]
      exact ⟨h1, fun j hj => by have := h2 j hj; omega⟩
theorem plN_t {t : Nat → Nat} {i : Nat} (h : plV t i) : plN t (i + 1) = plN t i + 1 := by
  unfold plN
  rw [plG, if_pos h]
theorem plN_f {t : Nat → Nat} {i : Nat} (h : ¬ plV t i) : plG t (i + 1) = plG t i := by
  rw [plG, if_neg h]
theorem WG_plP {x : pX} (h : plGood x) : WG (plP x) := by
  obtain ⟨h0, h1, h2, h3⟩ := h
  obtain ⟨a1, a2⟩ := plG_inv (plM x) h2
  have b0 := h0.2
  have b1 := h1.2
  exact ⟨by show 3 ≤ x.2 0 - 48; omega, by show x.2 0 - 48 ≤ 6; omega, by show 3 ≤ x.2 1 - 48; omega, by show x.2 1 - 48 ≤ 6; omega, a1, a2⟩
section PLAINC
variable {L N : Nat} {S T : gS} {c : Nat} {x : pX} {A : pA}
theorem C_at_t {i : Nat} (q : CT S x) (hx : XOk x 80) (hi : i < x.1) : f_c8_at N 11 (nI i) 80 (mk L S) = some (nI (x.2 i)) := by
  have h1 := hx.1
  have c1 : ¬ (80 : Int32) ≤ nI i := nI_ge (b := 80) (by omega) (by omega)
  simp (disch := omega) only [Option.bind_some, ↓ile_t, ↓ile_f, ↓ilt_t, ↓ilt_f, ↓ieq_t, ↓ieq_f, ↓iz_t, ↓iz_f, ↓iltz, ↓izle, ↓ilez_t, ↓ilez_f, ↓im1, ile_t, ile_f, ilt_t, ilt_f, ieq_t, ieq_f, iz_t, iz_f, iltz, izle, ilez_t, ilez_f, im1, gZ_0, gZ_1, e10, e00, ↓reduceIte, Sum.elim_inl, Sum.elim_inr, nI_1, nI_add, Int32.sub_zero, f_c8_at, zc11, zr11_0, zi11_1, zs11_1, q.1, if_neg c1, zg12, q.2 i hi]
theorem C_at_f {i : Nat} (q : CT S x) (hx : XOk x 80) (hi : x.1 ≤ i) (h2 : i < 1000) : f_c8_at N 11 (nI i) 80 (mk L S) = some (-1) := by
  have h1 := hx.1
  simp (disch := omega) only [Option.bind_some, ↓ile_t, ↓ile_f, ↓ilt_t, ↓ilt_f, ↓ieq_t, ↓ieq_f, ↓iz_t, ↓iz_f, ↓iltz, ↓izle, ↓ilez_t, ↓ilez_f, ↓im1, ile_t, ile_f, ilt_t, ilt_f, ieq_t, ieq_f, iz_t, iz_f, iltz, izle, ilez_t, ilez_f, im1, gZ_0, gZ_1, e10, e00, ↓reduceIte, Sum.elim_inl, Sum.elim_inr, nI_1, nI_add, Int32.sub_zero, f_c8_at, zc11, zr11_0, zi11_1, zs11_1, q.1]
theorem C_dg_t {i : Nat} (q : CT S x) (hx : XOk x 80) (hi : i < x.1) (h1 : 48 ≤ x.2 i) (h2 : x.2 i ≤ 57) : f_c8_digit N 11 (nI i) 80 (mk L S) = some (nI (x.2 i - 48)) := by
  have c1 : ¬ nI (x.2 i) < 48 := nI_nlt (b := 48) h1 (by omega)
  have c2 : ¬ (57 : Int32) < nI (x.2 i) := nI_nlt (a := 57) h2 (by omega)
  simp (disch := omega) only [Option.bind_some, ↓ile_t, ↓ile_f, ↓ilt_t, ↓ilt_f, ↓ieq_t, ↓ieq_f, ↓iz_t, ↓iz_f, ↓iltz, ↓izle, ↓ilez_t, ↓ilez_f, ↓im1, ile_t, ile_f, ilt_t, ilt_f, ieq_t, ieq_f, iz_t, iz_f, iltz, izle, ilez_t, ilez_f, im1, gZ_0, gZ_1, e10, e00, ↓reduceIte, Sum.elim_inl, Sum.elim_inr, nI_1, nI_add, Int32.sub_zero, f_c8_digit, zc11, zr11_0, zi11_1, zs11_1, C_at_t q hx hi, if_neg c1, if_neg c2]
  rw [k48, nI_sub h1]
theorem C_dg_f {i : Nat} (q : CT S x) (hx : XOk x 80) (hi : i < x.1 → x.2 i < 48 ∨ 57 < x.2 i) (h2 : i < 1000) : f_c8_digit N 11 (nI i) 80 (mk L S) = some (-1) := by
  by_cases z : i < x.1
  · have hb := hx.2 i z
    rcases hi z with y | y
    · have c1 : nI (x.2 i) < 48 := nI_lt (b := 48) y (by omega)
      simp (disch := omega) only [Option.bind_some, ↓ile_t, ↓ile_f, ↓ilt_t, ↓ilt_f, ↓ieq_t, ↓ieq_f, ↓iz_t, ↓iz_f, ↓iltz, ↓izle, ↓ilez_t, ↓ilez_f, ↓im1, ile_t, ile_f, ilt_t, ilt_f, ieq_t, ieq_f, iz_t, iz_f, iltz, izle, ilez_t, ilez_f, im1, gZ_0, gZ_1, e10, e00, ↓reduceIte, Sum.elim_inl, Sum.elim_inr, nI_1, nI_add, Int32.sub_zero, f_c8_digit, zc11, zr11_0, zi11_1, zs11_1, C_at_t q hx z, if_pos c1]
    · have c1 : ¬ nI (x.2 i) < 48 := nI_nlt (b := 48) (by omega) (by omega)
      have c2 : (57 : Int32) < nI (x.2 i) := nI_lt (a := 57) y (by omega)
      simp (disch := omega) only [Option.bind_some, ↓ile_t, ↓ile_f, ↓ilt_t, ↓ilt_f, ↓ieq_t, ↓ieq_f, ↓iz_t, ↓iz_f, ↓iltz, ↓izle, ↓ilez_t, ↓ilez_f, ↓im1, ile_t, ile_f, ilt_t, ilt_f, ieq_t, ieq_f, iz_t, iz_f, iltz, izle, ilez_t, ilez_f, im1, gZ_0, gZ_1, e10, e00, ↓reduceIte, Sum.elim_inl, Sum.elim_inr, nI_1, nI_add, Int32.sub_zero, f_c8_digit, zc11, zr11_0, zi11_1, zs11_1, C_at_t q hx z, if_neg c1, if_pos c2]
  · have c1 : (-1 : Int32) < 48 := by decide
    simp (disch := omega) only [Option.bind_some, ↓ile_t, ↓ile_f, ↓ilt_t, ↓ilt_f, ↓ieq_t, ↓ieq_f, ↓iz_t, ↓iz_f, ↓iltz, ↓izle, ↓ilez_t, ↓ilez_f, ↓im1, ile_t, ile_f, ilt_t, ilt_f, ieq_t, ieq_f, iz_t, iz_f, iltz, izle, ilez_t, ilez_f, im1, gZ_0, gZ_1, e10, e00, ↓reduceIte, Sum.elim_inl, Sum.elim_inr, nI_1, nI_add, Int32.sub_zero, f_c8_digit, zc11, zr11_0, zi11_1, zs11_1, C_at_f q hx (by omega) h2, if_pos c1]
theorem C_dim {i : Nat} (q : CT S x) (hx : XOk x 80) (h2 : i < 1000) : (plD x i → f_c8_digit N 11 (nI i) 80 (mk L S) = some (nI (x.2 i - 48)) ∧ ¬ nI (x.2 i - 48) < 3 ∧ nI (x.2 i - 48) ≤ 6) ∧ (¬ plD x i → ∃ y, f_c8_digit N 11 (nI i) 80 (mk L S) = some y ∧ (y < 3 ∨ (¬ y < 3 ∧ ¬ y ≤ 6))) := by
  refine ⟨fun h => ?_, fun h => ?_⟩
  · obtain ⟨a, b, d⟩ := h
    exact ⟨C_dg_t q hx a (by omega) (by omega), nI_nlt (b := 3) (by omega) (by omega), nI_le (b := 6) (by omega) (by omega)⟩
  · by_cases z : i < x.1 ∧ 48 ≤ x.2 i ∧ x.2 i ≤ 57
    · refine ⟨_, C_dg_t q hx z.1 z.2.1 z.2.2, ?_⟩
      by_cases y : x.2 i < 51
      · exact Or.inl (nI_lt (b := 3) (by omega) (by omega))
      · have : 54 < x.2 i := by
          by_cases y2 : 54 < x.2 i
          · exact y2
          · exact absurd ⟨z.1, by omega, by omega⟩ h
        exact Or.inr ⟨nI_nlt (b := 3) (by omega) (by omega), nI_ge (a := 6) (by omega) (by omega)⟩
    · exact ⟨-1, C_dg_f q hx (fun y => by omega) h2, Or.inl (by decide)⟩
theorem C_flag_t {i : Nat} (q : CT S x) (hx : XOk x 80) (h2 : i < 900) (z : 2 + i < x.1) (y : plV x.2 i) : ∃ y, f_c8_digit N 11 (nI (2 + i)) 80 (mk L S) = some y ∧ (if y < (1 : Int32) then (0 : Int32) else (if (6 : Int32) < y then (0 : Int32) else (1 : Int32))) = 1 := by
  have y1 := y.1
  have y2 := y.2
  refine ⟨_, C_dg_t q hx z (by omega) (by omega), ?_⟩
  have c1 : ¬ nI (x.2 (2 + i) - 48) < 1 := nI_nlt (b := 1) (by omega) (by omega)
  have c2 : ¬ (6 : Int32) < nI (x.2 (2 + i) - 48) := nI_nlt (a := 6) (by omega) (by omega)
  rw [if_neg c1, if_neg c2]
theorem C_flag_f {i : Nat} (q : CT S x) (hx : XOk x 80) (h2 : i < 900) (h : ¬ (2 + i < x.1 ∧ plV x.2 i)) : ∃ y, f_c8_digit N 11 (nI (2 + i)) 80 (mk L S) = some y ∧ (if y < (1 : Int32) then (0 : Int32) else (if (6 : Int32) < y then (0 : Int32) else (1 : Int32))) = 0 := by
  by_cases z : 2 + i < x.1 ∧ 48 ≤ x.2 (2 + i) ∧ x.2 (2 + i) ≤ 57
  · refine ⟨_, C_dg_t q hx z.1 z.2.1 z.2.2, ?_⟩
    by_cases y1 : x.2 (2 + i) = 48
    · have c1 : nI (x.2 (2 + i) - 48) < 1 := nI_lt (b := 1) (by omega) (by omega)
      rw [if_pos c1]
    · have y2 : 54 < x.2 (2 + i) := by
        by_cases y2 : 54 < x.2 (2 + i)
        · exact y2
        · exact absurd ⟨z.1, by omega, by omega⟩ h
      have c1 : ¬ nI (x.2 (2 + i) - 48) < 1 := nI_nlt (b := 1) (by omega) (by omega)
      have c2 : (6 : Int32) < nI (x.2 (2 + i) - 48) := nI_lt (a := 6) (by omega) (by omega)
      rw [if_neg c1, if_pos c2]
  · refine ⟨-1, C_dg_f q hx (fun y => by omega) (by omega), ?_⟩
    rw [if_pos (show (-1 : Int32) < 1 by decide)]
theorem C_plOk {i m kk : Nat} (q : CT S x) (hx : XOk x 80) (hm : m ≤ 36) (hi : i < m) (hok : plOk x i) (hn : plN x.2 i ≤ 6) :
    lp_c1_faultIn_55 N 11 (nI (2 + m)) (mk L S) (kk + 1) (nI (plN x.2 i)) (nI (2 + i)) = lp_c1_faultIn_55 N 11 (nI (2 + m)) (mk L S) kk (nI (plN x.2 (i + 1))) (nI (2 + (i + 1))) := by
  by_cases z : plV x.2 i
  · obtain ⟨y, e1, e2⟩ := C_flag_t (L := L) (N := N) q hx (by omega) hok.1 z
    rw [lp_c1_faultIn_55.eq_2, ile_f (by omega) (by omega), e1, Option.bind_some, e2]
    have hn2 : plN x.2 i < 6 := by
      rcases hok.2 with y | y
      · exact y.2
      · have := z.1; omega
    have c0 : (if (1 : Int32) = 0 then (0 : Int32) else 1) = 1 := by decide
    have c1 : ¬ (6 : Int32) < nI (plN x.2 i + 1) := nI_nlt (a := 6) (by omega) (by omega)
    rw [c0, if_neg (show ¬ (1 : Int32) = 0 by decide), nI_1, if_neg c1, plN_t z, nI_1]
    rfl
  · obtain ⟨y, e1, e2⟩ := C_flag_f (L := L) (N := N) q hx (by omega) (fun w => z w.2)
    rw [lp_c1_faultIn_55.eq_2, ile_f (by omega) (by omega), e1, Option.bind_some, e2]
    have h46 : x.2 (2 + i) = 46 := hok.2.elim (fun y => absurd y.1 z) id
    have c0 : (if (0 : Int32) = 0 then (0 : Int32) else 1) = 0 := by decide
    have c1 : ¬ (6 : Int32) < nI (plN x.2 i) := nI_nlt (a := 6) (by omega) (by omega)
    have e3 : nI (plN x.2 i) + 0 = nI (plN x.2 i) := Int32.add_zero _
    have e4 : nI (x.2 (2 + i)) = 46 := by rw [h46]; rfl
    rw [c0, if_pos (show (0 : Int32) = 0 from rfl), e3, if_neg c1, C_at_t q hx hok.1, Option.bind_some, if_pos e4, show plN x.2 (i + 1) = plN x.2 i by unfold plN; rw [plN_f z], nI_1]
    rfl
theorem C_plBad {i m kk : Nat} (q : CT S x) (hx : XOk x 80) (hm : m ≤ 36) (hi : i < m) (hok : ¬ plOk x i) (hn : plN x.2 i ≤ 6) :
    lp_c1_faultIn_55 N 11 (nI (2 + m)) (mk L S) (kk + 1) (nI (plN x.2 i)) (nI (2 + i)) = some (.inl (nI (2 + i))) := by
  by_cases z : 2 + i < x.1 ∧ plV x.2 i
  · obtain ⟨y, e1, e2⟩ := C_flag_t (L := L) (N := N) q hx (by omega) z.1 z.2
    rw [lp_c1_faultIn_55.eq_2, ile_f (by omega) (by omega), e1, Option.bind_some, e2]
    have hn2 : plN x.2 i = 6 := by
      by_cases y : plN x.2 i < 6
      · exact absurd ⟨z.1, Or.inl ⟨z.2, y⟩⟩ hok
      · omega
    have c0 : (if (1 : Int32) = 0 then (0 : Int32) else 1) = 1 := by decide
    have c1 : (6 : Int32) < nI (plN x.2 i + 1) := nI_lt (a := 6) (by omega) (by omega)
    rw [c0, nI_1, if_pos c1]
  · obtain ⟨y, e1, e2⟩ := C_flag_f (L := L) (N := N) q hx (by omega) z
    rw [lp_c1_faultIn_55.eq_2, ile_f (by omega) (by omega), e1, Option.bind_some, e2]
    have c0 : (if (0 : Int32) = 0 then (0 : Int32) else 1) = 0 := by decide
    have c1 : ¬ (6 : Int32) < nI (plN x.2 i) := nI_nlt (a := 6) (by omega) (by omega)
    have e3 : nI (plN x.2 i) + 0 = nI (plN x.2 i) := Int32.add_zero _
    rw [c0, if_pos (show (0 : Int32) = 0 from rfl), e3, if_neg c1]
    by_cases y : 2 + i < x.1
    · have hb := hx.2 _ y
      have c2 : ¬ nI (x.2 (2 + i)) = 46 := fun e => hok ⟨y, Or.inr ((nI_eq (b := 46) (by omega) (by omega)).mp e)⟩
      rw [C_at_t q hx y, Option.bind_some, if_neg c2]
    · rw [C_at_f q hx (by omega) (by omega), Option.bind_some, if_neg (by decide)]
theorem C_plWalk {i m d : Nat} (q : CT S x) (hx : XOk x 80) (hm : m ≤ 36) (hi : i + d ≤ m) (hok : ∀ j, j < i + d → plOk x j) : ∀ kk, lp_c1_faultIn_55 N 11 (nI (2 + m)) (mk L S) (kk + d) (nI (plN x.2 i)) (nI (2 + i)) = lp_c1_faultIn_55 N 11 (nI (2 + m)) (mk L S) kk (nI (plN x.2 (i + d))) (nI (2 + (i + d))) := by
  induction d with
  | zero => exact fun _ => rfl
  | succ d ih =>
    intro kk
    have e := ih (by omega) (fun j hj => hok j (by omega)) (kk + 1)
    rw [show kk + (d + 1) = kk + 1 + d by omega, e]
    exact C_plOk q hx hm (by omega) (hok _ (by omega)) (plG_inv _ (fun j hj => hok j (by omega))).1
theorem plM_e {y : pX} (h0 : plD y 0) (h1 : plD y 1) : (2 : Int32) + nI (y.2 0 - 48) * nI (y.2 1 - 48) = nI (2 + plM y) := by
  rw [nI_mul, k2, nI_add]
  rfl
theorem C_faultIn_t {p : Nat} (q : CT S x) (hx : XOk x 80) (hp : plBad x p) (hN : 900 ≤ N) : f_c1_faultIn N 15 11 (mk L S) = some (nI p) := by
  obtain ⟨d0t, d0f⟩ := C_dim (L := L) (N := N) (i := 0) q hx (by omega)
  obtain ⟨d1t, d1f⟩ := C_dim (L := L) (N := N) (i := 1) q hx (by omega)
  unfold f_c1_faultIn
  rw [zc15, Option.bind_some, ← nI_0, k1]
  rcases hp with ⟨h0, rfl⟩ | ⟨h0, h1, rfl⟩ | ⟨h0, h1, i, i1, i2, i3, rfl⟩ | ⟨h0, h1, i2, i3, rfl⟩
  · obtain ⟨y, e, h⟩ := d0f h0
    rw [e, Option.bind_some]
    rcases h with h | ⟨h, h'⟩
    · rw [if_pos h]
    · rw [if_neg h, if_neg h']
  · obtain ⟨e0, a0, b0⟩ := d0t h0
    obtain ⟨y, e, h⟩ := d1f h1
    rw [e0, Option.bind_some, if_neg a0, if_pos b0, e, Option.bind_some]
    rcases h with h | ⟨h, h'⟩
    · rw [if_pos h]
    · rw [if_neg h, if_neg h']
  · obtain ⟨e0, a0, b0⟩ := d0t h0
    obtain ⟨e1, a1, b1⟩ := d1t h1
    have hm := plM_le h0 h1
    rw [e0, Option.bind_some, if_neg a0, if_pos b0, e1, Option.bind_some, if_neg a1, if_pos b1, ← k1, nI_0, plM_e h0 h1]
    have ew := C_plWalk (L := L) (N := N) (i := 0) (d := i) (m := plM x) q hx hm.2 (by omega) (fun j hj => i2 j (by omega)) (N - i - 1 + 1)
    rw [show N - i - 1 + 1 + i = N by omega, Nat.zero_add, C_plBad q hx hm.2 i1 i3 (plG_inv _ i2).1] at ew
    have ew2 : lp_c1_faultIn_55 N 11 (nI (2 + plM x)) (mk L S) N 0 2 = some (.inl (nI (2 + i))) := ew
    rw [ew2, Option.bind_some, Sum.elim_inl]
  · obtain ⟨e0, a0, b0⟩ := d0t h0
    obtain ⟨e1, a1, b1⟩ := d1t h1
    have hm := plM_le h0 h1
    rw [e0, Option.bind_some, if_neg a0, if_pos b0, e1, Option.bind_some, if_neg a1, if_pos b1, ← k1, nI_0, plM_e h0 h1]
    have ew := C_plWalk (L := L) (N := N) (i := 0) (d := plM x) (m := plM x) q hx hm.2 (by omega) (fun j hj => i2 j (by omega)) (N - plM x - 1 + 1)
    rw [show N - plM x - 1 + 1 + plM x = N by omega, Nat.zero_add, lp_c1_faultIn_55.eq_2, ile_t (Nat.le_refl _) (by omega)] at ew
    have ew2 : lp_c1_faultIn_55 N 11 (nI (2 + plM x)) (mk L S) N 0 2 = some (.inr ()) := ew
    have hx1 := hx.1
    rw [ew2, Option.bind_some, Sum.elim_inr, zi11_1, Option.bind_some, q.1, ile_f (by omega) (by omega)]
theorem C_faultIn_f (q : CT S x) (hx : XOk x 80) (hp : plGood x) (hN : 900 ≤ N) : f_c1_faultIn N 15 11 (mk L S) = some (-1) := by
  obtain ⟨d0t, d0f⟩ := C_dim (L := L) (N := N) (i := 0) q hx (by omega)
  obtain ⟨d1t, d1f⟩ := C_dim (L := L) (N := N) (i := 1) q hx (by omega)
  obtain ⟨h0, h1, i2, i3⟩ := hp
  unfold f_c1_faultIn
  rw [zc15, Option.bind_some, ← nI_0, k1]
  obtain ⟨e0, a0, b0⟩ := d0t h0
  obtain ⟨e1, a1, b1⟩ := d1t h1
  have hm := plM_le h0 h1
  rw [e0, Option.bind_some, if_neg a0, if_pos b0, e1, Option.bind_some, if_neg a1, if_pos b1, ← k1, nI_0, plM_e h0 h1]
  have ew := C_plWalk (L := L) (N := N) (i := 0) (d := plM x) (m := plM x) q hx hm.2 (by omega) (fun j hj => i2 j (by omega)) (N - plM x - 1 + 1)
  rw [show N - plM x - 1 + 1 + plM x = N by omega, Nat.zero_add, lp_c1_faultIn_55.eq_2, ile_t (Nat.le_refl _) (by omega)] at ew
  have ew2 : lp_c1_faultIn_55 N 11 (nI (2 + plM x)) (mk L S) N 0 2 = some (.inr ()) := ew
  rw [ew2, Option.bind_some, Sum.elim_inr, zi11_1, Option.bind_some, q.1, ile_t (by omega) (by omega)]
end PLAINC
