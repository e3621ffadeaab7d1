/-! MASKS: bits of an int, one for each -/
noncomputable def bMask (p : Nat → Prop) : Nat → Int32
  | 0 => 0
  | i + 1 => @ite Int32 (p i) (Classical.propDecidable _) (bMask p i ||| ((1 : Int32) <<< (nI i &&& 31))) (bMask p i)
theorem bOne : ∀ i : Nat, i < 32 → ((1 : Int32) <<< (nI i &&& 31)).toBitVec = BitVec.twoPow 32 i := by decide +kernel
theorem bShr : ∀ i : Nat, i < 32 → ((nI i &&& 31).toBitVec.smod 32).toNat = i := by decide +kernel
theorem bMask_t {p : Nat → Prop} {i : Nat} (h : p i) : bMask p (i + 1) = bMask p i ||| ((1 : Int32) <<< (nI i &&& 31)) := by
  rw [bMask, if_pos h]
theorem bMask_f {p : Nat → Prop} {i : Nat} (h : ¬ p i) : bMask p (i + 1) = bMask p i := by
  rw [bMask, if_neg h]
theorem bMask_get {p : Nat → Prop} {j : Nat} : ∀ n, n ≤ 32 → ((bMask p n).toBitVec.getLsbD j = true ↔ j < n ∧ p j) := by
  intro n
  induction n with
  | zero =>
    intro _
    have e : (bMask p 0).toBitVec = 0#32 := rfl
    rw [e, BitVec.getLsbD_zero]
    constructor
    · intro h; cases h
    · intro h; omega
  | succ n ih =>
    intro hn
    have ih' := ih (by omega)
    by_cases z : p n
    · have e : (bMask p (n + 1)).toBitVec = (bMask p n).toBitVec ||| BitVec.twoPow 32 n := by
        rw [bMask_t z, ← bOne n (by omega)]
        rfl
      rw [e, BitVec.getLsbD_or, BitVec.getLsbD_twoPow, Bool.or_eq_true, ih']
      constructor
      · rintro (h | h)
        · exact ⟨by omega, h.2⟩
        · have h2 : n = j := by
            rw [Bool.and_eq_true] at h
            exact of_decide_eq_true h.2
          rw [← h2]
          exact ⟨by omega, z⟩
      · rintro ⟨h1, h2⟩
        by_cases y : j = n
        · right
          rw [y, Bool.and_eq_true]
          exact ⟨decide_eq_true (by omega), decide_eq_true rfl⟩
        · exact Or.inl ⟨by omega, h2⟩
    · rw [bMask_f z, ih']
      constructor
      · rintro ⟨h1, h2⟩; exact ⟨by omega, h2⟩
      · rintro ⟨h1, h2⟩
        refine ⟨?_, h2⟩
        by_cases y : j = n
        · exact absurd (y ▸ h2) z
        · omega
theorem bBit {m : Int32} {j : Nat} (hj : j < 32) : ((m >>> (nI j &&& 31)) &&& 1) = 1 ↔ m.toBitVec.getLsbD j = true := by
  have e1 : ((m >>> (nI j &&& 31)) &&& 1).toBitVec = m.toBitVec.sshiftRight j &&& 1#32 := by
    have : ((m >>> (nI j &&& 31)) &&& 1).toBitVec = m.toBitVec.sshiftRight ((nI j &&& 31).toBitVec.smod 32).toNat &&& 1#32 := rfl
    rw [this, bShr j hj]
  have e2 : (m.toBitVec.sshiftRight j).getLsbD 0 = m.toBitVec.getLsbD j := by
    rw [BitVec.getLsbD_sshiftRight]
    simp [hj]
  rw [← Int32.toBitVec_inj, e1, BitVec.and_one_eq_setWidth_ofBool_getLsbD, e2]
  cases m.toBitVec.getLsbD j
  · constructor
    · intro h
      exact absurd h (by decide)
    · intro h; cases h
  · exact ⟨fun _ => rfl, fun _ => by decide⟩
theorem bMask_bit {p : Nat → Prop} {n j : Nat} (hn : n ≤ 32) (hj : j < 32) : ((bMask p n >>> (nI j &&& 31)) &&& 1) = 1 ↔ j < n ∧ p j := (bBit hj).trans (bMask_get n hn)
theorem bMask_ext {p p' : Nat → Prop} : ∀ n, (∀ j, j < n → (p j ↔ p' j)) → bMask p n = bMask p' n := by
  intro n
  induction n with
  | zero => exact fun _ => rfl
  | succ n ih =>
    intro h
    have e := ih (fun j hj => h j (by omega))
    by_cases z : p n
    · rw [bMask_t z, bMask_t ((h n (by omega)).mp z), e]
    · rw [bMask_f z, bMask_f (fun y => z ((h n (by omega)).mpr y)), e]
theorem bMask_all {n : Nat} (hn : n ≤ 8) : ((1 : Int32) <<< (nI n &&& 31)) - 1 = bMask (fun _ => True) n := by
  match n, hn with
  | 0, _ => rfl
  | 1, _ => simp only [bMask, if_true]; rfl
  | 2, _ => simp only [bMask, if_true]; rfl
  | 3, _ => simp only [bMask, if_true]; rfl
  | 4, _ => simp only [bMask, if_true]; rfl
  | 5, _ => simp only [bMask, if_true]; rfl
  | 6, _ => simp only [bMask, if_true]; rfl
  | 7, _ => simp only [bMask, if_true]; rfl
  | 8, _ => simp only [bMask, if_true]; rfl
  | n + 9, h => omega
