/-! HOW MANY BITS a mask has -/
def S0 : gS := (fun _ _ => 0, fun _ _ => 0, fun _ _ => none)
def bitJ (y : Int32) : Int32 := (f_jInteger_bitCount 0 y (mk 0 S0)).getD 0
theorem bitJ_e {y : Int32} {N : Nat} {h : gH} : f_jInteger_bitCount N y h = some (bitJ y) := rfl
theorem bitC_J {y : Int32} : bitC y = bitJ y := by
  have e := bitC_e (x := y) (N := 0) (h := mk 0 S0)
  rw [bitJ_e] at e
  exact (Option.some.inj e).symm
def bMB (b : Nat → Bool) : Nat → Int32
  | 0 => 0
  | i + 1 => if b i then bMB b i ||| ((1 : Int32) <<< (nI i &&& 31)) else bMB b i
def bCB (b : Nat → Bool) : Nat → Nat
  | 0 => 0
  | i + 1 => bCB b i + (if b i then 1 else 0)
def bL (b0 b1 b2 b3 b4 b5 b6 b7 : Bool) (i : Nat) : Bool := match i with
  | 0 => b0
  | 1 => b1
  | 2 => b2
  | 3 => b3
  | 4 => b4
  | 5 => b5
  | 6 => b6
  | 7 => b7
  | _ => false
theorem bCount0 : ∀ b0 b1 b2 b3 b4 b5 b6 b7 : Bool, ∀ n : Nat, n < 9 → bitJ (bMB (bL b0 b1 b2 b3 b4 b5 b6 b7) n) = nI (bCB (bL b0 b1 b2 b3 b4 b5 b6 b7) n) := by decide +kernel
theorem bMB_ext {b b' : Nat → Bool} : ∀ n, (∀ i, i < n → b i = b' i) → bMB b n = bMB b' n ∧ bCB b n = bCB b' n := by
  intro n
  induction n with
  | zero => exact fun _ => ⟨rfl, rfl⟩
  | succ n ih =>
    intro h
    obtain ⟨e1, e2⟩ := ih (fun i hi => h i (by omega))
    have e3 := h n (by omega)
    rw [bMB, bMB, bCB, bCB, e1, e2, e3]
    exact ⟨rfl, rfl⟩
theorem bCount {b : Nat → Bool} {n : Nat} (hn : n ≤ 8) : bitJ (bMB b n) = nI (bCB b n) := by
  obtain ⟨e1, e2⟩ := bMB_ext (b := b) (b' := bL (b 0) (b 1) (b 2) (b 3) (b 4) (b 5) (b 6) (b 7)) n (fun i hi => by
    match i, (show i < 8 by omega) with
    | 0, _ => rfl
    | 1, _ => rfl
    | 2, _ => rfl
    | 3, _ => rfl
    | 4, _ => rfl
    | 5, _ => rfl
    | 6, _ => rfl
    | 7, _ => rfl
    | n + 8, h => omega)
  rw [e1, e2]
  exact bCount0 _ _ _ _ _ _ _ _ n (by omega)
noncomputable def bDec (p : Nat → Prop) (i : Nat) : Bool := @decide (p i) (Classical.propDecidable _)
theorem bDec_t {p : Nat → Prop} {i : Nat} (h : p i) : bDec p i = true := @decide_eq_true _ (Classical.propDecidable _) h
theorem bDec_f {p : Nat → Prop} {i : Nat} (h : ¬ p i) : bDec p i = false := @decide_eq_false _ (Classical.propDecidable _) h
theorem bMask_B {p : Nat → Prop} : ∀ n, bMask p n = bMB (bDec p) n := by
  intro n
  induction n with
  | zero => rfl
  | succ n ih =>
    by_cases z : p n
    · rw [bMask_t z, bMB, if_pos (bDec_t z), ih]
    · rw [bMask_f z, bMB, bDec_f z, ih]
      rfl
noncomputable def bCn (p : Nat → Prop) (n : Nat) : Nat := bCB (bDec p) n
theorem bCn_t {p : Nat → Prop} {i : Nat} (h : p i) : bCn p (i + 1) = bCn p i + 1 := by
  unfold bCn
  rw [bCB, if_pos (bDec_t h)]
theorem bCn_f {p : Nat → Prop} {i : Nat} (h : ¬ p i) : bCn p (i + 1) = bCn p i := by
  unfold bCn
  rw [bCB, bDec_f h]
  rfl
theorem bitC_n {p : Nat → Prop} {n : Nat} (hn : n ≤ 8) : bitC (bMask p n) = nI (bCn p n) := by
  rw [bitC_J, bMask_B]
  exact bCount hn
