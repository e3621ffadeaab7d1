/-! CALLS: covers, in numbers -/
def cm (s b : Nat) : Nat := s &&& (63 - b)
theorem cm_I : ∀ s : Nat, s < 64 → ∀ b : Nat, b < 64 → nI s &&& (nI b ^^^ (-1 : Int32)) = nI (cm s b) := by decide +kernel
theorem cm_63 : ∀ b : Nat, b < 64 → ∀ k : Nat, k < 6 → (63 - b).testBit k = !b.testBit k := by decide +kernel
theorem cm_le {s b : Nat} : cm s b ≤ s := Nat.and_le_left
theorem cm_bit {s b k : Nat} (hb : b < 64) (hk : k < 6) : (cm s b).testBit k = (s.testBit k && !b.testBit k) := by
  unfold cm
  rw [Nat.testBit_and, cm_63 b hb k hk]
theorem lM_tb {b : Nat → Bool} {n k : Nat} (hk : k < n) : (lM b n).testBit k = b k := by
  rw [Nat.testBit_eq_decide_div_mod_eq, lM_bit n hk]
  cases b k with
  | true => rfl
  | false => rfl
theorem no_bits {s n : Nat} (h : s < 2 ^ n) (h0 : ∀ k, k < n → s.testBit k = false) : s = 0 := by
  apply Nat.eq_of_testBit_eq
  intro i
  rw [Nat.zero_testBit]
  by_cases z : i < n
  · exact h0 i z
  · exact Nat.testBit_lt_two_pow (Nat.lt_of_lt_of_le h (Nat.pow_le_pow_right (by decide) (by omega)))
theorem lC_suc {b : Nat → Bool} {n : Nat} : lC b n ≤ lC b (n + 1) := by
  rw [lC]
  exact Nat.le_add_right _ _
theorem lC_mono {b b' : Nat → Bool} : ∀ n, (∀ i, i < n → b' i = true → b i = true) → lC b' n ≤ lC b n := by
  intro n
  induction n with
  | zero => exact fun _ => Nat.le_refl _
  | succ n ih =>
    intro h
    have i1 := ih (fun i hi => h i (by omega))
    by_cases z : b' n = true
    · rw [lC_t z, lC_t (h n (by omega) z)]; omega
    · rw [lC_f (Bool.eq_false_iff.mpr z)]
      exact Nat.le_trans i1 lC_suc
theorem lC_less {b b' : Nat → Bool} {k : Nat} : ∀ n, (∀ i, i < n → b' i = true → b i = true) → k < n → b k = true → b' k = false → lC b' n + 1 ≤ lC b n := by
  intro n
  induction n with
  | zero => intro _ h; omega
  | succ n ih =>
    intro h hk h1 h2
    by_cases z : k = n
    · rw [← z]
      have := lC_mono (b := b) (b' := b') k (fun i hi => h i (by omega))
      rw [lC_f h2, lC_t h1]
      omega
    · have i1 := ih (fun i hi => h i (by omega)) (by omega) h1 h2
      by_cases y : b' n = true
      · rw [lC_t y, lC_t (h n (by omega) y)]; omega
      · rw [lC_f (Bool.eq_false_iff.mpr y)]
        exact Nat.le_trans i1 lC_suc
/-- the villages (bits) that a field is near -/
def cBy (g : pG) (r f : Nat) : Nat := lM (fun k => decide (sFar g f (gHm g k) ≤ r)) (gVm g)
/-- the fewest fields for a set, of the last so many fields -/
def cW (g : pG) (r : Nat) : Nat → Nat → Nat
  | 0, s => if s = 0 then 0 else 1000000
  | e + 1, s => min (cW g r e s) (1 + cW g r e (cm s (cBy g r (gRw g * gCo g - (e + 1)))))
theorem cW_le {g : pG} {r : Nat} : ∀ e s, cW g r e s ≤ 1000000 := by
  intro e
  induction e with
  | zero => intro s; unfold cW; split <;> omega
  | succ e ih => intro s; have := ih s; unfold cW; omega
theorem pw6 {n : Nat} (h : n ≤ 6) : 2 ^ n ≤ 64 := Nat.pow_le_pow_right (by decide) h
theorem cBy_lt {g : pG} {r f : Nat} : cBy g r f < 2 ^ gVm g := lM_lt _
theorem sFar_self {g : pG} {f : Nat} : sFar g f f = 0 := by unfold sFar ndist; omega
theorem cW_cnt {g : pG} {r : Nat} (wg : WG g) : ∀ e, e ≤ gRw g * gCo g → ∀ s, s < 2 ^ gVm g → (∀ k, k < gVm g → s.testBit k = true → gRw g * gCo g - e ≤ gHm g k) → cW g r e s ≤ lC (fun k => s.testBit k) (gVm g) := by
  have h6 := wg.2.2.2.2.1
  have p6 := pw6 h6
  intro e
  induction e with
  | zero =>
    intro _ s hs hh
    have : s = 0 := no_bits hs (fun k hk => by
      cases z : s.testBit k with
      | false => rfl
      | true =>
        have h1 := hh k hk z
        have h2 := (wg.2.2.2.2.2 k hk).1
        omega)
    unfold cW
    rw [if_pos this]
    exact Nat.zero_le _
  | succ e ih =>
    intro he s hs hh
    rcases Classical.em (∃ k, k < gVm g ∧ s.testBit k = true ∧ gHm g k = gRw g * gCo g - (e + 1)) with ⟨k, h1, h2, h3⟩ | y
    · have hb : (cBy g r (gRw g * gCo g - (e + 1))).testBit k = true := by
        unfold cBy
        rw [lM_tb h1, ← h3]
        exact decide_eq_true (by rw [sFar_self]; exact Nat.zero_le _)
      have cb := cBy_lt (g := g) (r := r) (f := gRw g * gCo g - (e + 1))
      have cbit : ∀ i, i < gVm g → (cm s (cBy g r (gRw g * gCo g - (e + 1)))).testBit i = (s.testBit i && !(cBy g r (gRw g * gCo g - (e + 1))).testBit i) := fun i hi => cm_bit (by omega) (by omega)
      have l1 : lC (fun k => (cm s (cBy g r (gRw g * gCo g - (e + 1)))).testBit k) (gVm g) + 1 ≤ lC (fun k => s.testBit k) (gVm g) := by
        refine lC_less (k := k) (gVm g) (fun i hi z => ?_) h1 h2 ?_
        · have z2 : (cm s (cBy g r (gRw g * gCo g - (e + 1)))).testBit i = true := z
          rw [cbit i hi] at z2
          exact (Bool.and_eq_true_iff.mp z2).1
        · show (cm s (cBy g r (gRw g * gCo g - (e + 1)))).testBit k = false
          rw [cbit k h1, hb, Bool.not_true, Bool.and_false]
      have l2 := ih (by omega) (cm s (cBy g r (gRw g * gCo g - (e + 1)))) (Nat.lt_of_le_of_lt cm_le hs) (fun i hi z => by
        rw [cbit i hi] at z
        obtain ⟨z1, z2⟩ := Bool.and_eq_true_iff.mp z
        have h4 := hh i hi z1
        by_cases w : gHm g i = gRw g * gCo g - (e + 1)
        · exfalso
          have : (cBy g r (gRw g * gCo g - (e + 1))).testBit i = true := by
            unfold cBy
            rw [lM_tb hi, ← w]
            exact decide_eq_true (by rw [sFar_self]; exact Nat.zero_le _)
          rw [this] at z2
          cases z2
        · omega)
      unfold cW
      omega
    · have l2 := ih (by omega) s hs (fun i hi z => by
        have h4 := hh i hi z
        by_cases w : gHm g i = gRw g * gCo g - (e + 1)
        · exact absurd ⟨i, hi, z, w⟩ y
        · omega)
      unfold cW
      omega
/-- all villages can be covered, by as many fields at most -/
theorem cW_all {g : pG} {r : Nat} (wg : WG g) {s : Nat} (hs : s < 2 ^ gVm g) : cW g r (gRw g * gCo g) s ≤ 6 := by
  have h1 := cW_cnt (r := r) wg (gRw g * gCo g) (Nat.le_refl _) s hs (fun k _ _ => by omega)
  have h2 := lC_le (b := fun k => s.testBit k) (gVm g)
  have := wg.2.2.2.2.1
  omega
/-- which fields are told, field by field: what is left, the row -/
def cvN (g : pG) (r f : Nat) (st : Nat × List Int64) : Nat × List Int64 := if cW g r (gRw g * gCo g - f) st.1 = 1 + cW g r (gRw g * gCo g - (f + 1)) (cm st.1 (cBy g r f)) then (cm st.1 (cBy g r f), st.2 ++ [(nI f).toInt64]) else st
def cvF (g : pG) (r : Nat) : Nat → Nat × List Int64
  | 0 => (2 ^ gVm g - 1, [])
  | f + 1 => cvN g r f (cvF g r f)
theorem cW_e {g : pG} {r f s : Nat} (hf : f < gRw g * gCo g) : cW g r (gRw g * gCo g - f) s = min (cW g r (gRw g * gCo g - (f + 1)) s) (1 + cW g r (gRw g * gCo g - (f + 1)) (cm s (cBy g r f))) := by
  obtain ⟨e, he⟩ : ∃ e, gRw g * gCo g - f = e + 1 := ⟨gRw g * gCo g - f - 1, by omega⟩
  rw [he, show gRw g * gCo g - (f + 1) = e by omega]
  show min (cW g r e s) (1 + cW g r e (cm s (cBy g r (gRw g * gCo g - (e + 1))))) = _
  rw [show gRw g * gCo g - (e + 1) = f by omega]
theorem cvF_ok {g : pG} {r : Nat} (wg : WG g) : ∀ f, f ≤ gRw g * gCo g → (cvF g r f).1 < 2 ^ gVm g ∧ cW g r (gRw g * gCo g - f) (cvF g r f).1 + (cvF g r f).2.length = cW g r (gRw g * gCo g) (2 ^ gVm g - 1) := by
  intro f
  induction f with
  | zero => exact fun _ => ⟨by have := Nat.two_pow_pos (gVm g); show 2 ^ gVm g - 1 < 2 ^ gVm g; omega, rfl⟩
  | succ f ih =>
    intro hf
    obtain ⟨i1, i2⟩ := ih (by omega)
    have e := cW_e (g := g) (r := r) (s := (cvF g r f).1) (show f < gRw g * gCo g by omega)
    show (cvN g r f (cvF g r f)).1 < 2 ^ gVm g ∧ cW g r (gRw g * gCo g - (f + 1)) (cvN g r f (cvF g r f)).1 + (cvN g r f (cvF g r f)).2.length = _
    unfold cvN
    by_cases z : cW g r (gRw g * gCo g - f) (cvF g r f).1 = 1 + cW g r (gRw g * gCo g - (f + 1)) (cm (cvF g r f).1 (cBy g r f))
    · rw [if_pos z]
      refine ⟨Nat.lt_of_le_of_lt cm_le i1, ?_⟩
      show cW g r (gRw g * gCo g - (f + 1)) (cm (cvF g r f).1 (cBy g r f)) + ((cvF g r f).2 ++ [(nI f).toInt64]).length = _
      rw [List.length_append, show [(nI f).toInt64].length = 1 from rfl]
      omega
    · rw [if_neg z]
      exact ⟨i1, by omega⟩
theorem cvF_stop {g : pG} {r f : Nat} (wg : WG g) (h : (cvF g r f).2.length = cW g r (gRw g * gCo g) (2 ^ gVm g - 1)) : ∀ e, f + e ≤ gRw g * gCo g → cvF g r (f + e) = cvF g r f := by
  intro e
  induction e with
  | zero => exact fun _ => rfl
  | succ e ih =>
    intro he
    have i1 := ih (by omega)
    have i2 := (cvF_ok (r := r) wg (f + e) (by omega)).2
    show cvN g r (f + e) (cvF g r (f + e)) = cvF g r f
    rw [i1] at i2 ⊢
    unfold cvN
    rw [if_neg (by omega)]
