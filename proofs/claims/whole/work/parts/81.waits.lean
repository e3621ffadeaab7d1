/-! CALLS: waits -/
def wtOk (x : pX) (j : Nat) : Prop := j < 16 ∧ 48 ≤ x.2 j ∧ x.2 j ≤ 57
def wtBad (x : pX) (p : Nat) : Prop := (x.1 = 0 ∧ p = 0) ∨ (p < x.1 ∧ (∀ j, j < p → wtOk x j) ∧ ¬ wtOk x p)
def wtGood (x : pX) : Prop := 0 < x.1 ∧ ∀ j, j < x.1 → wtOk x j
theorem wt_or (x : pX) : (∃ p, wtBad x p) ∨ wtGood x := by
  by_cases z : x.1 = 0
  · exact Or.inl ⟨0, Or.inl ⟨z, rfl⟩⟩
  · rcases firstF (wtOk x) x.1 with h | ⟨i, i1, i2, i3⟩
    · exact Or.inr ⟨by omega, h⟩
    · exact Or.inl ⟨i, Or.inr ⟨i1, i2, i3⟩⟩
def oM (d : Nat → Nat) : Nat → Nat
  | 0 => 0
  | s + 1 => max (oM d s) (d s)
def oT (d : Nat → Nat) (len s : Nat) : Nat := if s = 0 then 0 else (fstN (fun j => decide (oM d s < d j)) s (len - s)).getD (len - 1)
def oB (d : Nat → Nat) (len : Nat) : Nat → Nat
  | 0 => 0
  | i + 1 => if d (oT d len (i + 1)) ≤ d (oT d len (oB d len i)) then oB d len i else i + 1
theorem oM_le {d : Nat → Nat} {m : Nat} : ∀ s, (∀ j, j < s → d j ≤ m) → oM d s ≤ m := by
  intro s
  induction s with
  | zero => exact fun _ => Nat.zero_le _
  | succ s ih =>
    intro h
    have h1 := ih (fun j hj => h j (by omega))
    have h2 := h s (by omega)
    show max (oM d s) (d s) ≤ m
    omega
theorem oT_lt {d : Nat → Nat} {len s : Nat} (hs : s < len) : oT d len s < len := by
  unfold oT
  split
  · omega
  · cases ho : fstN (fun j => decide (oM d s < d j)) s (len - s) with
    | none => show len - 1 < len; omega
    | some j =>
      have := fstN_some _ _ _ ho
      show j < len
      omega
theorem oB_le {d : Nat → Nat} {len : Nat} : ∀ i, oB d len i ≤ i := by
  intro i
  induction i with
  | zero => exact Nat.le_refl _
  | succ i ih =>
    unfold oB
    split <;> omega
section WAITSC
variable {L N : Nat} {S T : gS} {c : Nat} {x : pX} {A : pA}
theorem C_atc_t {i cap : Nat} (q : CT S x) (hx : XOk x 80) (hi : i < x.1) (hc : i < cap) (hc2 : cap < 1000) : f_c8_at N 11 (nI i) (nI cap) (mk L S) = some (nI (x.2 i)) := by
  have h1 := hx.1
  simp (disch := omega) only [Option.bind_some, ↓ile_t, ↓ile_f, ↓ilt_t, ↓ilt_f, ↓ieq_t, ↓ieq_f, ↓iz_t, ↓iz_f, ↓iltz, ↓izle, ↓ilez_t, ↓ilez_f, ↓im1, ile_t, ile_f, ilt_t, ilt_f, ieq_t, ieq_f, iz_t, iz_f, iltz, izle, ilez_t, ilez_f, im1, gZ_0, gZ_1, e10, e00, ↓reduceIte, Sum.elim_inl, Sum.elim_inr, nI_1, nI_add, Int32.sub_zero, f_c8_at, zc11, zr11_0, zi11_1, zs11_1, q.1, zg12, q.2 i hi]
theorem C_atc_f {i cap : Nat} (q : CT S x) (hx : XOk x 80) (hi : x.1 ≤ i ∨ cap ≤ i) (h2 : i < 1000) : f_c8_at N 11 (nI i) (nI cap) (mk L S) = some (-1) := by
  have h1 := hx.1
  by_cases z : x.1 ≤ i
  · simp (disch := omega) only [Option.bind_some, ↓ile_t, ↓ile_f, ↓ilt_t, ↓ilt_f, ↓ieq_t, ↓ieq_f, ↓iz_t, ↓iz_f, ↓iltz, ↓izle, ↓ilez_t, ↓ilez_f, ↓im1, ile_t, ile_f, ilt_t, ilt_f, ieq_t, ieq_f, iz_t, iz_f, iltz, izle, ilez_t, ilez_f, im1, gZ_0, gZ_1, e10, e00, ↓reduceIte, Sum.elim_inl, Sum.elim_inr, nI_1, nI_add, Int32.sub_zero, f_c8_at, zc11, zr11_0, zi11_1, zs11_1, q.1]
  · simp (disch := omega) only [Option.bind_some, ↓ile_t, ↓ile_f, ↓ilt_t, ↓ilt_f, ↓ieq_t, ↓ieq_f, ↓iz_t, ↓iz_f, ↓iltz, ↓izle, ↓ilez_t, ↓ilez_f, ↓im1, ile_t, ile_f, ilt_t, ilt_f, ieq_t, ieq_f, iz_t, iz_f, iltz, izle, ilez_t, ilez_f, im1, gZ_0, gZ_1, e10, e00, ↓reduceIte, Sum.elim_inl, Sum.elim_inr, nI_1, nI_add, Int32.sub_zero, f_c8_at, zc11, zr11_0, zi11_1, zs11_1, q.1]
theorem C_dgc_t {i cap : Nat} (q : CT S x) (hx : XOk x 80) (hi : i < x.1) (hc : i < cap) (hc2 : cap < 1000) (h1 : 48 ≤ x.2 i) (h2 : x.2 i ≤ 57) : f_c8_digit N 11 (nI i) (nI cap) (mk L S) = some (nI (x.2 i - 48)) := by
  have c1 : ¬ nI (x.2 i) < 48 := nI_nlt (b := 48) h1 (by omega)
  have c2 : ¬ (57 : Int32) < nI (x.2 i) := nI_nlt (a := 57) h2 (by omega)
  simp (disch := omega) only [Option.bind_some, ↓ile_t, ↓ile_f, ↓ilt_t, ↓ilt_f, ↓ieq_t, ↓ieq_f, ↓iz_t, ↓iz_f, ↓iltz, ↓izle, ↓ilez_t, ↓ilez_f, ↓im1, ile_t, ile_f, ilt_t, ilt_f, ieq_t, ieq_f, iz_t, iz_f, iltz, izle, ilez_t, ilez_f, im1, gZ_0, gZ_1, e10, e00, ↓reduceIte, Sum.elim_inl, Sum.elim_inr, nI_1, nI_add, Int32.sub_zero, f_c8_digit, zc11, zr11_0, zi11_1, zs11_1, C_atc_t q hx hi hc hc2, if_neg c1, if_neg c2]
  rw [k48, nI_sub h1]
theorem C_dgc_f {i cap : Nat} (q : CT S x) (hx : XOk x 80) (hi : i < x.1 → i < cap → x.2 i < 48 ∨ 57 < x.2 i) (h2 : i < 1000) (hc2 : cap < 1000) : f_c8_digit N 11 (nI i) (nI cap) (mk L S) = some (-1) := by
  by_cases z : i < x.1 ∧ i < cap
  · have hb := hx.2 i z.1
    rcases hi z.1 z.2 with y | y
    · have c1 : nI (x.2 i) < 48 := nI_lt (b := 48) y (by omega)
      simp (disch := omega) only [Option.bind_some, ↓ile_t, ↓ile_f, ↓ilt_t, ↓ilt_f, ↓ieq_t, ↓ieq_f, ↓iz_t, ↓iz_f, ↓iltz, ↓izle, ↓ilez_t, ↓ilez_f, ↓im1, ile_t, ile_f, ilt_t, ilt_f, ieq_t, ieq_f, iz_t, iz_f, iltz, izle, ilez_t, ilez_f, im1, gZ_0, gZ_1, e10, e00, ↓reduceIte, Sum.elim_inl, Sum.elim_inr, nI_1, nI_add, Int32.sub_zero, f_c8_digit, zc11, zr11_0, zi11_1, zs11_1, C_atc_t q hx z.1 z.2 hc2, if_pos c1]
    · have c1 : ¬ nI (x.2 i) < 48 := nI_nlt (b := 48) (by omega) (by omega)
      have c2 : (57 : Int32) < nI (x.2 i) := nI_lt (a := 57) y (by omega)
      simp (disch := omega) only [Option.bind_some, ↓ile_t, ↓ile_f, ↓ilt_t, ↓ilt_f, ↓ieq_t, ↓ieq_f, ↓iz_t, ↓iz_f, ↓iltz, ↓izle, ↓ilez_t, ↓ilez_f, ↓im1, ile_t, ile_f, ilt_t, ilt_f, ieq_t, ieq_f, iz_t, iz_f, iltz, izle, ilez_t, ilez_f, im1, gZ_0, gZ_1, e10, e00, ↓reduceIte, Sum.elim_inl, Sum.elim_inr, nI_1, nI_add, Int32.sub_zero, f_c8_digit, zc11, zr11_0, zi11_1, zs11_1, C_atc_t q hx z.1 z.2 hc2, if_neg c1, if_pos c2]
  · have c1 : (-1 : Int32) < 48 := by decide
    simp (disch := omega) only [Option.bind_some, ↓ile_t, ↓ile_f, ↓ilt_t, ↓ilt_f, ↓ieq_t, ↓ieq_f, ↓iz_t, ↓iz_f, ↓iltz, ↓izle, ↓ilez_t, ↓ilez_f, ↓im1, ile_t, ile_f, ilt_t, ilt_f, ieq_t, ieq_f, iz_t, iz_f, iltz, izle, ilez_t, ilez_f, im1, gZ_0, gZ_1, e10, e00, ↓reduceIte, Sum.elim_inl, Sum.elim_inr, nI_1, nI_add, Int32.sub_zero, f_c8_digit, zc11, zr11_0, zi11_1, zs11_1, C_atc_f (cap := cap) q hx (by omega) h2, if_pos c1]
theorem C_wtFault (q : CT S x) (hx : XOk x 80) (hN : 900 ≤ N) : (∀ p, wtBad x p → f_c10_faultInOffers N 10 (mk L S) = some (nI p)) ∧ (wtGood x → f_c10_faultInOffers N 10 (mk L S) = some (-1)) := by
  have h80 : x.1 ≤ 80 := hx.1
  have dT : ∀ i, i < x.1 → wtOk x i → f_c8_digit N 11 (nI i) 16 (mk L S) = some (nI (x.2 i - 48)) := fun i hi h => C_dgc_t (cap := 16) q hx hi h.1 (by omega) h.2.1 h.2.2
  have dF : ∀ i, i < x.1 → ¬ wtOk x i → f_c8_digit N 11 (nI i) 16 (mk L S) = some (-1) := fun i hi h => C_dgc_f (cap := 16) q hx (fun _ h16 => by
    by_cases y : x.2 i < 48
    · exact Or.inl y
    · refine Or.inr ?_
      by_cases y2 : 57 < x.2 i
      · exact y2
      · exact absurd ⟨h16, by omega, by omega⟩ h) (by omega) (by omega)
  have walk : ∀ d, d ≤ x.1 → (∀ j, j < d → wtOk x j) → ∀ kk, lp_c10_faultInOffers_2 N 10 (mk L S) (kk + d) 0 = lp_c10_faultInOffers_2 N 10 (mk L S) kk (nI d) := by
    intro d
    induction d with
    | zero => exact fun _ _ _ => rfl
    | succ d ih =>
      intro h1 h2 kk
      have z9 := (h2 d (by omega)).2.2
      rw [show kk + (d + 1) = kk + 1 + d by omega, ih (by omega) (fun j hj => h2 j (by omega)), lp_c10_faultInOffers_2.eq_2]
      simp (disch := omega) only [Option.bind_some, ↓ile_t, ↓ile_f, ↓ilt_t, ↓ilt_f, ↓ieq_t, ↓ieq_f, ↓iz_t, ↓iz_f, ↓iltz, ↓izle, ↓ilez_t, ↓ilez_f, ↓im1, ile_t, ile_f, ilt_t, ilt_f, ieq_t, ieq_f, iz_t, iz_f, iltz, izle, ilez_t, ilez_f, im1, gZ_0, gZ_1, e10, e00, ↓reduceIte, Sum.elim_inl, Sum.elim_inr, nI_1, nI_add, Int32.sub_zero, zc10, zr10_0, zr10_1, zr10_2, zr10_3, zr10_4, zr10_5, zr10_6, zr10_7, zr10_8, zr10_9, zr10_10, zs10_11, zs10_12, zc11, zr11_0, zi11_1, zs11_1, q.1, dT d (by omega) (h2 d (by omega))]
  have en : ∀ kk, lp_c10_faultInOffers_2 N 10 (mk L S) (kk + 1) (nI x.1) = some (.inr ()) := by
    intro kk
    rw [lp_c10_faultInOffers_2.eq_2]
    simp (disch := omega) only [Option.bind_some, ↓ile_t, ↓ile_f, ↓ilt_t, ↓ilt_f, ↓ieq_t, ↓ieq_f, ↓iz_t, ↓iz_f, ↓iltz, ↓izle, ↓ilez_t, ↓ilez_f, ↓im1, ile_t, ile_f, ilt_t, ilt_f, ieq_t, ieq_f, iz_t, iz_f, iltz, izle, ilez_t, ilez_f, im1, gZ_0, gZ_1, e10, e00, ↓reduceIte, Sum.elim_inl, Sum.elim_inr, nI_1, nI_add, Int32.sub_zero, zc10, zr10_0, zr10_1, zr10_2, zr10_3, zr10_4, zr10_5, zr10_6, zr10_7, zr10_8, zr10_9, zr10_10, zs10_11, zs10_12, zc11, zr11_0, zi11_1, zs11_1, q.1]
  refine ⟨fun p hp => ?_, fun hp => ?_⟩
  · unfold f_c10_faultInOffers
    rw [zc10, Option.bind_some]
    rcases hp with ⟨h0, rfl⟩ | ⟨h1, h2, h3⟩
    · have e := walk 0 (by omega) (fun j hj => by omega) (N - 1 + 1)
      have e2 := en (N - 1)
      rw [h0] at e2
      rw [e2, show N - 1 + 1 + 0 = N by omega] at e
      rw [e, Option.bind_some, Sum.elim_inr]
      simp (disch := omega) only [Option.bind_some, ↓ile_t, ↓ile_f, ↓ilt_t, ↓ilt_f, ↓ieq_t, ↓ieq_f, ↓iz_t, ↓iz_f, ↓iltz, ↓izle, ↓ilez_t, ↓ilez_f, ↓im1, ile_t, ile_f, ilt_t, ilt_f, ieq_t, ieq_f, iz_t, iz_f, iltz, izle, ilez_t, ilez_f, im1, gZ_0, gZ_1, e10, e00, ↓reduceIte, Sum.elim_inl, Sum.elim_inr, nI_1, nI_add, Int32.sub_zero, zc10, zr10_0, zr10_1, zr10_2, zr10_3, zr10_4, zr10_5, zr10_6, zr10_7, zr10_8, zr10_9, zr10_10, zs10_11, zs10_12, zc11, zr11_0, zi11_1, zs11_1, q.1, h0]
      rfl
    · have e := walk p (by omega) h2 (N - p - 1 + 1)
      rw [show N - p - 1 + 1 + p = N by omega, lp_c10_faultInOffers_2.eq_2, zr10_0, Option.bind_some, zi11_1, Option.bind_some, q.1, ile_f h1 (by omega), Option.bind_some, dF p h1 h3, Option.bind_some, if_neg n1le0] at e
      rw [e, Option.bind_some, Sum.elim_inl]
  · obtain ⟨h1, h2⟩ := hp
    have e := walk x.1 (by omega) h2 (N - x.1 - 1 + 1)
    rw [show N - x.1 - 1 + 1 + x.1 = N by omega, en] at e
    unfold f_c10_faultInOffers
    rw [zc10, Option.bind_some, e, Option.bind_some, Sum.elim_inr]
    simp (disch := omega) only [Option.bind_some, ↓ile_t, ↓ile_f, ↓ilt_t, ↓ilt_f, ↓ieq_t, ↓ieq_f, ↓iz_t, ↓iz_f, ↓iltz, ↓izle, ↓ilez_t, ↓ilez_f, ↓im1, ile_t, ile_f, ilt_t, ilt_f, ieq_t, ieq_f, iz_t, iz_f, iltz, izle, ilez_t, ilez_f, im1, gZ_0, gZ_1, e10, e00, ↓reduceIte, Sum.elim_inl, Sum.elim_inr, nI_1, nI_add, Int32.sub_zero, zc10, zr10_0, zr10_1, zr10_2, zr10_3, zr10_4, zr10_5, zr10_6, zr10_7, zr10_8, zr10_9, zr10_10, zs10_11, zs10_12, zc11, zr11_0, zi11_1, zs11_1, q.1]
theorem C_taken {s : Nat} (q : CT S x) (hx : XOk x 80) (hp : wtGood x) (hs : s < x.1) (hN : 900 ≤ N) : f_c10_takenBehind N 10 (nI s) (mk L S) = some (nI (oT (fun j => x.2 j - 48) x.1 s)) := by
  have h80 : x.1 ≤ 80 := hx.1
  obtain ⟨hp1, hp2⟩ := hp
  have dT : ∀ i, i < x.1 → f_c8_digit N 11 (nI i) 16 (mk L S) = some (nI (x.2 i - 48)) := fun i hi => C_dgc_t (cap := 16) q hx hi (hp2 i hi).1 (by omega) (hp2 i hi).2.1 (hp2 i hi).2.2
  have hM : ∀ i, i ≤ x.1 → oM (fun j => x.2 j - 48) i ≤ 9 := fun i hi => oM_le i (fun j hj => by have := (hp2 j (by omega)).2; show x.2 j - 48 ≤ 9; omega)
  obtain ⟨r, er, hr⟩ := lp_inv (Lp := fun kk (y : Int32) i => lp_c10_takenBehind_4 N 10 (nI s) (mk L S) kk y (nI i)) (n := x.1) (P := fun i y => (i = 0 → y = -1) ∧ (0 < i → 0 < s) ∧ (0 < i → i ≤ s → y = nI (oM (fun j => x.2 j - 48) i)) ∧ (s ≤ i → 0 < i → y = nI (oM (fun j => x.2 j - 48) s) ∧ fstN (fun j => decide (oM (fun j => x.2 j - 48) s < x.2 j - 48)) s (x.1 - s) = fstN (fun j => decide (oM (fun j => x.2 j - 48) s < x.2 j - 48)) i (x.1 - i))) (Q := fun r => r = .inl (nI (oT (fun j => x.2 j - 48) x.1 s)) ∨ (r = .inr () ∧ oT (fun j => x.2 j - 48) x.1 s = x.1 - 1))
    (fun kk i y hi hP => by
      obtain ⟨p1, p2, p3, p4⟩ := hP
      have d9 : x.2 i - 48 ≤ 9 := by have := (hp2 i hi).2; omega
      show (∃ r, lp_c10_takenBehind_4 N 10 (nI s) (mk L S) (kk + 1) y (nI i) = some r ∧ _) ∨ ∃ s', lp_c10_takenBehind_4 N 10 (nI s) (mk L S) (kk + 1) y (nI i) = lp_c10_takenBehind_4 N 10 (nI s) (mk L S) kk s' (nI (i + 1)) ∧ _
      rw [lp_c10_takenBehind_4.eq_2, zr10_0, Option.bind_some, zi11_1, Option.bind_some, q.1, ile_f hi (by omega), Option.bind_some, dT i hi, Option.bind_some, nI_1]
      by_cases z : i < s
      · right
        by_cases z0 : i = 0
        · have c1 : ¬ nI (x.2 i - 48) ≤ y := by
            rw [p1 z0, i32_le, nI_toInt (by omega)]
            have : (-1 : Int32).toInt = -1 := by decide
            omega
          rw [if_neg c1, ilt_t z (by omega)]
          refine ⟨_, rfl, fun e => by omega, fun _ => by omega, fun _ _ => ?_, fun h1 _ => ?_⟩
          · rw [z0]; show _ = nI (max 0 (x.2 0 - 48)); rw [Nat.max_eq_right (Nat.zero_le _)]
          · have e1 : s = 1 := by omega
            rw [e1, z0]
            exact ⟨by show _ = nI (max 0 (x.2 0 - 48)); rw [Nat.max_eq_right (Nat.zero_le _)], rfl⟩
        · have hy := p3 (by omega) (by omega)
          have h9 := hM i (by omega)
          have key : ∀ y', y' = nI (oM (fun j => x.2 j - 48) (i + 1)) → (i + 1 = 0 → y' = -1) ∧ (0 < i + 1 → 0 < s) ∧ (0 < i + 1 → i + 1 ≤ s → y' = nI (oM (fun j => x.2 j - 48) (i + 1))) ∧ (s ≤ i + 1 → 0 < i + 1 → y' = nI (oM (fun j => x.2 j - 48) s) ∧ fstN (fun j => decide (oM (fun j => x.2 j - 48) s < x.2 j - 48)) s (x.1 - s) = fstN (fun j => decide (oM (fun j => x.2 j - 48) s < x.2 j - 48)) (i + 1) (x.1 - (i + 1))) := fun y' hy' => ⟨fun e => by omega, fun _ => by omega, fun _ _ => hy', fun h1 _ => by
            have e1 : s = i + 1 := by omega
            rw [e1]
            exact ⟨hy', rfl⟩⟩
          rw [hy]
          by_cases y1 : x.2 i - 48 ≤ oM (fun j => x.2 j - 48) i
          · rw [ile_t y1 (by omega)]
            exact ⟨_, rfl, key _ (by show _ = nI (max _ (x.2 i - 48)); rw [Nat.max_eq_left y1])⟩
          · rw [ile_f (by omega) (by omega), ilt_t z (by omega)]
            exact ⟨_, rfl, key _ (by show _ = nI (max _ (x.2 i - 48)); rw [Nat.max_eq_right (by omega)])⟩
      · by_cases z0 : i = 0
        · left
          have c1 : ¬ nI (x.2 i - 48) ≤ y := by
            rw [p1 z0, i32_le, nI_toInt (by omega)]
            have : (-1 : Int32).toInt = -1 := by decide
            omega
          refine ⟨_, by rw [if_neg c1, ilt_f (by omega) (by omega)], Or.inl ?_⟩
          unfold oT
          rw [if_pos (show s = 0 by omega), z0]
        · obtain ⟨hy, hf⟩ := p4 (by omega) (by omega)
          have h9 := hM s (by omega)
          have hs0 := p2 (by omega)
          rw [hy]
          by_cases y1 : x.2 i - 48 ≤ oM (fun j => x.2 j - 48) s
          · right
            rw [ile_t y1 (by omega)]
            refine ⟨_, rfl, fun e => by omega, fun _ => hs0, fun _ _ => by omega, fun _ _ => ⟨rfl, hf.trans (fstN_s hi (decide_eq_false (by omega)))⟩⟩
          · left
            refine ⟨_, by rw [ile_f (by omega) (by omega), ilt_f (by omega) (by omega)], Or.inl ?_⟩
            unfold oT
            rw [if_neg (show ¬ s = 0 by omega), hf, fstN_h hi (decide_eq_true (by omega))]
            rfl)
    (fun kk y hP => by
      refine ⟨.inr (), ?_, Or.inr ⟨rfl, ?_⟩⟩
      · show lp_c10_takenBehind_4 N 10 (nI s) (mk L S) (kk + 1) y (nI x.1) = _
        rw [lp_c10_takenBehind_4.eq_2, zr10_0, Option.bind_some, zi11_1, Option.bind_some, q.1, ile_t (Nat.le_refl _) (by omega)]
      · have hf := (hP.2.2.2 (by omega) (by omega)).2
        have hs0 := hP.2.1 (by omega)
        unfold oT
        rw [if_neg (show ¬ s = 0 by omega), hf, Nat.sub_self]
        rfl) x.1 N 0 (-1) (by omega) (by omega) ⟨fun _ => rfl, fun h => absurd h (by omega), fun h => absurd h (by omega), fun _ h => absurd h (by omega)⟩
  rw [nI_0] at er
  unfold f_c10_takenBehind
  rw [zc10, Option.bind_some, er, Option.bind_some]
  rcases hr with hr | ⟨hr, ho⟩
  · rw [hr, Sum.elim_inl]
  · rw [hr, Sum.elim_inr, zr10_0, Option.bind_some, zi11_1, Option.bind_some, q.1, nI_sub1 (by omega), ho]
end WAITSC
