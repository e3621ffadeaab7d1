/-! HOW MANY BITS a long has: by bytes -/
def lM (b : Nat → Bool) : Nat → Nat
  | 0 => 0
  | i + 1 => lM b i + (if b i then 2 ^ i else 0)
def lC (b : Nat → Bool) : Nat → Nat
  | 0 => 0
  | i + 1 => lC b i + (if b i then 1 else 0)
theorem lM_lt {b : Nat → Bool} : ∀ n, lM b n < 2 ^ n := by
  intro n
  induction n with
  | zero => exact Nat.lt_add_one 0
  | succ n ih =>
    rw [Nat.pow_succ]
    unfold lM
    split <;> omega
theorem lM_64 {b : Nat → Bool} {n : Nat} (h : n ≤ 63) : lM b n < 2 ^ 63 := Nat.lt_of_lt_of_le (lM_lt n) (Nat.pow_le_pow_right (by decide) h)
theorem lM_t {b : Nat → Bool} {i : Nat} (h : b i = true) : lM b (i + 1) = lM b i + 2 ^ i := by rw [lM, if_pos h]
theorem lM_f {b : Nat → Bool} {i : Nat} (h : b i = false) : lM b (i + 1) = lM b i := by rw [lM, h]; rfl
theorem lC_t {b : Nat → Bool} {i : Nat} (h : b i = true) : lC b (i + 1) = lC b i + 1 := by rw [lC, if_pos h]
theorem lC_f {b : Nat → Bool} {i : Nat} (h : b i = false) : lC b (i + 1) = lC b i := by rw [lC, h]; rfl
theorem lC_le {b : Nat → Bool} : ∀ n, lC b n ≤ n := by
  intro n
  induction n with
  | zero => exact Nat.le_refl _
  | succ n ih => unfold lC; split <;> omega
theorem lM_ext {b b' : Nat → Bool} : ∀ n, (∀ i, i < n → b i = b' i) → lM b n = lM b' n ∧ lC b n = lC b' n := by
  intro n
  induction n with
  | zero => exact fun _ => ⟨rfl, rfl⟩
  | succ n ih =>
    intro h
    obtain ⟨e1, e2⟩ := ih (fun i hi => h i (by omega))
    rw [lM, lM, lC, lC, e1, e2, h n (by omega)]
    exact ⟨rfl, rfl⟩
theorem lM_add {b : Nat → Bool} {m : Nat} : ∀ n, lM b (m + n) = lM b m + 2 ^ m * lM (fun i => b (m + i)) n ∧ lC b (m + n) = lC b m + lC (fun i => b (m + i)) n := by
  intro n
  induction n with
  | zero => exact ⟨rfl, rfl⟩
  | succ n ih =>
    obtain ⟨e1, e2⟩ := ih
    rw [show m + (n + 1) = m + n + 1 by omega]
    by_cases z : b (m + n) = true
    · rw [lM_t z, lC_t z, lM_t (b := fun i => b (m + i)) z, lC_t (b := fun i => b (m + i)) z, e1, e2, Nat.mul_add, ← Nat.pow_add]
      exact ⟨by omega, by omega⟩
    · have z := Bool.eq_false_iff.mpr z
      rw [lM_f z, lC_f z, lM_f (b := fun i => b (m + i)) z, lC_f (b := fun i => b (m + i)) z, e1, e2]
      exact ⟨rfl, rfl⟩
theorem lM_bit {b : Nat → Bool} {j : Nat} : ∀ n, j < n → lM b n / 2 ^ j % 2 = if b j then 1 else 0 := by
  intro n hj
  obtain ⟨d, rfl⟩ : ∃ d, n = j + (1 + d) := ⟨n - j - 1, by omega⟩
  have e1 := (lM_add (b := b) (m := j) (1 + d)).1
  have e2 := (lM_add (b := fun i => b (j + i)) (m := 1) d).1
  have l1 := lM_lt (b := b) j
  have e3 : lM (fun i => b (j + i)) 1 = if b j then 1 else 0 := by
    show 0 + (if b (j + 0) then 2 ^ 0 else 0) = _
    rw [Nat.add_zero, Nat.zero_add]
  rw [e3] at e2
  rw [e1, Nat.add_mul_div_left _ _ (Nat.two_pow_pos j), Nat.div_eq_of_lt l1, Nat.zero_add, e2]
  split <;> omega
-- ===== bytes =====
def qG (m1 m3 mf x : Nat) : Nat :=
  ((((x - (x / 2 &&& m1)) &&& m3) + ((x - (x / 2 &&& m1)) / 4 &&& m3)) + (((x - (x / 2 &&& m1)) &&& m3) + ((x - (x / 2 &&& m1)) / 4 &&& m3)) / 16) &&& mf
theorem q_blk {a b m m' : Nat} (ha : a < 256) (hm : m < 256) : (a + 256 * b) &&& (m + 256 * m') = (a &&& m) + 256 * (b &&& m') := by
  have h0 : a &&& m < 2 ^ 8 := Nat.and_lt_two_pow _ hm
  have e : ∀ x y : Nat, x + 256 * y = 2 ^ 8 * y + x := fun x y => by omega
  rw [e, e, e]
  apply Nat.eq_of_testBit_eq
  intro j
  rw [Nat.testBit_and, Nat.testBit_two_pow_mul_add _ (show a < 2 ^ 8 from ha), Nat.testBit_two_pow_mul_add _ (show m < 2 ^ 8 from hm), Nat.testBit_two_pow_mul_add _ h0]
  by_cases z : j < 8
  · rw [if_pos z, if_pos z, if_pos z, Nat.testBit_and]
  · rw [if_neg z, if_neg z, if_neg z, Nat.testBit_and]
theorem q_f1 : ∀ a : Nat, a < 256 → ∀ r : Nat, r < 2 → (a / 2 + 128 * r) &&& 85 = a / 2 &&& 85 := by decide +kernel
theorem q_f3 : ∀ a : Nat, a < 256 → ∀ r : Nat, r < 4 → (a / 4 + 64 * r) &&& 51 = a / 4 &&& 51 := by decide +kernel
theorem q_15 {x : Nat} : x &&& 15 = x % 16 := Nat.and_two_pow_sub_one_eq_mod x 4
theorem q_step {a b m1 m3 mf : Nat} (ha : a < 256) (h3 : m3 % 16 = 3 ∨ b = 0) : qG (85 + 256 * m1) (51 + 256 * m3) (15 + 256 * mf) (a + 256 * b) = qG 85 51 15 a + 256 * qG m1 m3 mf b := by
  have s1 : a / 2 &&& 85 ≤ a / 2 := Nat.and_le_left
  have s2 : b / 2 &&& m1 ≤ b / 2 := Nat.and_le_left
  have e1 : (a + 256 * b) / 2 = (a / 2 + 128 * (b % 2)) + 256 * (b / 2) := by omega
  have e2 : (a + 256 * b) / 2 &&& (85 + 256 * m1) = (a / 2 &&& 85) + 256 * (b / 2 &&& m1) := by
    rw [e1, q_blk (by omega) (by omega), q_f1 a ha _ (by omega)]
  have e3 : (a + 256 * b) - ((a + 256 * b) / 2 &&& (85 + 256 * m1)) = (a - (a / 2 &&& 85)) + 256 * (b - (b / 2 &&& m1)) := by
    rw [e2]; omega
  unfold qG
  rw [e3]
  have hya : a - (a / 2 &&& 85) < 256 := by omega
  have hb0 : b = 0 → b - (b / 2 &&& m1) = 0 := fun z => by omega
  generalize hyA : a - (a / 2 &&& 85) = ya at *
  generalize hyB : b - (b / 2 &&& m1) = yb at *
  have e4 : (ya + 256 * yb) / 4 = (ya / 4 + 64 * (yb % 4)) + 256 * (yb / 4) := by omega
  rw [q_blk hya (by omega), e4, q_blk (by omega) (by omega), q_f3 ya hya _ (by omega)]
  have z1 : ya &&& 51 ≤ 51 := Nat.and_le_right
  have z2 : ya / 4 &&& 51 ≤ 51 := Nat.and_le_right
  have z3 : ((yb &&& m3) + (yb / 4 &&& m3)) % 16 ≤ 6 := by
    rcases h3 with h3 | h3
    · have i1 : (yb &&& m3) % 2 ^ 4 = (yb % 2 ^ 4) &&& (m3 % 2 ^ 4) := Nat.and_mod_two_pow
      have i2 : (yb / 4 &&& m3) % 2 ^ 4 = (yb / 4 % 2 ^ 4) &&& (m3 % 2 ^ 4) := Nat.and_mod_two_pow
      have i3 : (yb % 2 ^ 4) &&& (m3 % 2 ^ 4) ≤ m3 % 2 ^ 4 := Nat.and_le_right
      have i4 : (yb / 4 % 2 ^ 4) &&& (m3 % 2 ^ 4) ≤ m3 % 2 ^ 4 := Nat.and_le_right
      omega
    · have i1 : (yb &&& m3) ≤ yb := Nat.and_le_left
      have i2 : (yb / 4 &&& m3) ≤ yb / 4 := Nat.and_le_left
      have i3 := hb0 h3
      omega
  generalize hz1 : (ya &&& 51) = p1 at *
  generalize hz2 : (ya / 4 &&& 51) = p2 at *
  generalize hz3 : (yb &&& m3) = p3 at *
  generalize hz4 : (yb / 4 &&& m3) = p4 at *
  have e5 : (p1 + 256 * p3 + (p2 + 256 * p4)) + (p1 + 256 * p3 + (p2 + 256 * p4)) / 16 = ((p1 + p2) + (p1 + p2) / 16 + 16 * ((p3 + p4) % 16)) + 256 * ((p3 + p4) + (p3 + p4) / 16) := by omega
  rw [e5, q_blk (by omega) (by omega), q_15, q_15]
  omega
theorem q_0 {m1 m3 mf : Nat} : qG m1 m3 mf 0 = 0 := by
  unfold qG
  simp
theorem q_one0 : ∀ b0 b1 b2 b3 b4 b5 b6 b7 : Bool, qG 85 51 15 (lM (bL b0 b1 b2 b3 b4 b5 b6 b7) 8) = lC (bL b0 b1 b2 b3 b4 b5 b6 b7) 8 := by decide +kernel
theorem q_one {b : Nat → Bool} : qG 85 51 15 (lM b 8) = lC b 8 := by
  obtain ⟨e1, e2⟩ := lM_ext (b := b) (b' := bL (b 0) (b 1) (b 2) (b 3) (b 4) (b 5) (b 6) (b 7)) 8 (fun i hi => by
    match i, hi with
    | 0, _ => rfl
    | 1, _ => rfl
    | 2, _ => rfl
    | 3, _ => rfl
    | 4, _ => rfl
    | 5, _ => rfl
    | 6, _ => rfl
    | 7, _ => rfl
    | n + 8, h => omega)
  rw [e1, e2]
  exact q_one0 _ _ _ _ _ _ _ _
theorem q_rec {b : Nat → Bool} {m m1 m3 mf : Nat} (h3 : m3 % 16 = 3 ∨ m = 0) : qG (85 + 256 * m1) (51 + 256 * m3) (15 + 256 * mf) (lM b (8 + m)) = lC b 8 + 256 * qG m1 m3 mf (lM (fun i => b (8 + i)) m) := by
  rw [(lM_add (b := b) (m := 8) m).1, show (2 : Nat) ^ 8 = 256 from rfl, q_step (lM_lt (b := b) 8) (by
    rcases h3 with h3 | h3
    · exact Or.inl h3
    · right; rw [h3]; rfl), q_one]
theorem q_40 {b : Nat → Bool} : ∃ c0 c1 c2 c3 c4, c0 ≤ 8 ∧ c1 ≤ 8 ∧ c2 ≤ 8 ∧ c3 ≤ 8 ∧ c4 ≤ 8 ∧ lC b 40 = c0 + c1 + c2 + c3 + c4 ∧ qG 6148914691236517205 3689348814741910323 1085102592571150095 (lM b 40) = c0 + 256 * (c1 + 256 * (c2 + 256 * (c3 + 256 * c4))) := by
  have a1 := q_rec (b := b) (m := 32) (m1 := 24019198012642645) (m3 := 14411518807585587) (mf := 4238682002231055) (Or.inl (by decide))
  have a2 := q_rec (b := fun i => b (8 + i)) (m := 24) (m1 := 93824992236885) (m3 := 56294995342131) (mf := 16557351571215) (Or.inl (by decide))
  have a3 := q_rec (b := fun i => b (8 + (8 + i))) (m := 16) (m1 := 366503875925) (m3 := 219902325555) (mf := 64677154575) (Or.inl (by decide))
  have a4 := q_rec (b := fun i => b (8 + (8 + (8 + i)))) (m := 8) (m1 := 1431655765) (m3 := 858993459) (mf := 252645135) (Or.inl (by decide))
  have a5 := q_rec (b := fun i => b (8 + (8 + (8 + (8 + i))))) (m := 0) (m1 := 5592405) (m3 := 3355443) (mf := 986895) (Or.inr rfl)
  have c1 := (lM_add (b := b) (m := 8) 32).2
  have c2 := (lM_add (b := fun i => b (8 + i)) (m := 8) 24).2
  have c3 := (lM_add (b := fun i => b (8 + (8 + i))) (m := 8) 16).2
  have c4 := (lM_add (b := fun i => b (8 + (8 + (8 + i)))) (m := 8) 8).2
  refine ⟨lC b 8, lC (fun i => b (8 + i)) 8, lC (fun i => b (8 + (8 + i))) 8, lC (fun i => b (8 + (8 + (8 + i)))) 8, lC (fun i => b (8 + (8 + (8 + (8 + i))))) 8, lC_le 8, lC_le 8, lC_le 8, lC_le 8, lC_le 8, ?_, ?_⟩
  · rw [show (40 : Nat) = 8 + 32 from rfl, c1, show (32 : Nat) = 8 + 24 from rfl, c2, show (24 : Nat) = 8 + 16 from rfl, c3, show (16 : Nat) = 8 + 8 from rfl, c4]
    omega
  · rw [show lM (fun i => b (8 + (8 + (8 + (8 + (8 + i)))))) 0 = 0 from rfl, q_0] at a5
    exact a1.trans (congrArg (fun y => lC b 8 + 256 * y) (a2.trans (congrArg (fun y => lC (fun i => b (8 + i)) 8 + 256 * y) (a3.trans (congrArg (fun y => lC (fun i => b (8 + (8 + i))) 8 + 256 * y) (a4.trans (congrArg (fun y => lC (fun i => b (8 + (8 + (8 + i)))) 8 + 256 * y) a5)))))))
-- ===== the JDK's way =====
def jS (y : Int64) (s : Int32) : Int64 := (y.toUInt64 >>> (s.toInt64.toUInt64 &&& Int64.toUInt64 63)).toInt64
def jA (y : Int64) : Int64 := y - (jS y 1 &&& (6148914691236517205 : Int64))
def jB (y : Int64) : Int64 := (y &&& (3689348814741910323 : Int64)) + (jS y 2 &&& (3689348814741910323 : Int64))
def jC (y : Int64) : Int64 := (y + jS y 4) &&& (1085102592571150095 : Int64)
def jD (y : Int64) (s : Int32) : Int64 := y + jS y s
theorem j_bc {N : Nat} {y : Int64} {h : gH} : f_jLong_bitCount N y h = some ((jD (jD (jD (jC (jB (jA y))) 8) 16) 32).toInt32 &&& 127) := rfl
theorem jS_n {n k p : Nat} (hn : n < 2 ^ 64) (hk : k < 64) (hp : 2 ^ k = p) : jS (lN n) (nI k) = lN (n / p) := by
  rw [← hp]; exact wb_shr hn hk
theorem and_lt64 {a m : Nat} (h : m < 2 ^ 63) : a &&& m < 2 ^ 63 := Nat.lt_of_le_of_lt Nat.and_le_right h
theorem j_lM {b : Nat → Bool} {N : Nat} {h : gH} : f_jLong_bitCount N (lN (lM b 40)) h = some (nI (lC b 40)) := by
  obtain ⟨c0, c1, c2, c3, c4, h0, h1, h2, h3, h4, e1, e2⟩ := q_40 (b := b)
  have hx := lM_lt (b := b) 40
  have hx2 : lM b 40 < 1099511627776 := hx
  rw [j_bc, e1]
  generalize hX : lM b 40 = x at *
  have s1 : x / 2 &&& 6148914691236517205 ≤ x / 2 := Nat.and_le_left
  have eA : jA (lN x) = lN (x - (x / 2 &&& 6148914691236517205)) := by
    unfold jA
    rw [show (1 : Int32) = nI 1 from rfl, jS_n (p := 2) (by omega) (by omega) rfl, show (6148914691236517205 : Int64) = lN 6148914691236517205 from rfl, wb_and (by omega) (by decide), lN_sub (by omega)]
  rw [eA]
  unfold qG at e2
  generalize hY : x - (x / 2 &&& 6148914691236517205) = y at *
  have hy : y < 1099511627776 := by omega
  have s2 : y &&& 3689348814741910323 ≤ y := Nat.and_le_left
  have s3 : y / 4 &&& 3689348814741910323 ≤ y / 4 := Nat.and_le_left
  have eB : jB (lN y) = lN ((y &&& 3689348814741910323) + (y / 4 &&& 3689348814741910323)) := by
    unfold jB
    rw [show (2 : Int32) = nI 2 from rfl, jS_n (p := 4) (by omega) (by omega) rfl, show (3689348814741910323 : Int64) = lN 3689348814741910323 from rfl, wb_and (by omega) (by decide), wb_and (by omega) (by decide), lN_add]
  rw [eB]
  generalize hZ : (y &&& 3689348814741910323) + (y / 4 &&& 3689348814741910323) = z at *
  have eC : jC (lN z) = lN (c0 + 256 * (c1 + 256 * (c2 + 256 * (c3 + 256 * c4)))) := by
    unfold jC
    rw [show (4 : Int32) = nI 4 from rfl, jS_n (p := 16) (by omega) (by omega) rfl, show (1085102592571150095 : Int64) = lN 1085102592571150095 from rfl, lN_add, wb_and (by omega) (by decide), e2]
  rw [eC]
  have eD : ∀ {n k p : Nat}, n < 2 ^ 64 → k < 64 → 2 ^ k = p → jD (lN n) (nI k) = lN (n + n / p) := fun hn hk hp => by
    unfold jD
    rw [jS_n hn hk hp, lN_add]
  have f1 : (c0 + 256 * (c1 + 256 * (c2 + 256 * (c3 + 256 * c4)))) / 256 = c1 + 256 * (c2 + 256 * (c3 + 256 * c4)) := by omega
  rw [show (8 : Int32) = nI 8 from rfl, eD (p := 256) (by omega) (by omega) rfl, f1]
  have f2 : (c0 + 256 * (c1 + 256 * (c2 + 256 * (c3 + 256 * c4))) + (c1 + 256 * (c2 + 256 * (c3 + 256 * c4)))) = (c0 + c1) + 256 * (c1 + c2) + 65536 * ((c2 + c3) + 256 * (c3 + c4) + 65536 * c4) := by omega
  rw [f2]
  have f3 : ((c0 + c1) + 256 * (c1 + c2) + 65536 * ((c2 + c3) + 256 * (c3 + c4) + 65536 * c4)) / 65536 = (c2 + c3) + 256 * (c3 + c4) + 65536 * c4 := by omega
  rw [show (16 : Int32) = nI 16 from rfl, eD (p := 65536) (by omega) (by omega) rfl, f3]
  have f4 : (c0 + c1) + 256 * (c1 + c2) + 65536 * ((c2 + c3) + 256 * (c3 + c4) + 65536 * c4) + ((c2 + c3) + 256 * (c3 + c4) + 65536 * c4) = (c0 + c1 + c2 + c3) + 256 * (c1 + c2 + c3 + c4) + 65536 * (c2 + c3 + c4) + 16777216 * (c3 + c4) + 4294967296 * c4 := by omega
  rw [f4]
  have f5 : ((c0 + c1 + c2 + c3) + 256 * (c1 + c2 + c3 + c4) + 65536 * (c2 + c3 + c4) + 16777216 * (c3 + c4) + 4294967296 * c4) / 4294967296 = c4 := by omega
  rw [show (32 : Int32) = nI 32 from rfl, eD (p := 4294967296) (by omega) (by omega) rfl, f5, lN_i, show (127 : Int32) = nI (2 ^ 7 - 1) from rfl, fa_mask]
  have f6 : ((c0 + c1 + c2 + c3) + 256 * (c1 + c2 + c3 + c4) + 65536 * (c2 + c3 + c4) + 16777216 * (c3 + c4) + 4294967296 * c4 + c4) % 2 ^ 7 = c0 + c1 + c2 + c3 + c4 := by
    rw [show (2 : Nat) ^ 7 = 128 from rfl]
    omega
  rw [f6]
theorem j_n {b : Nat → Bool} {n N : Nat} {h : gH} (hn : n ≤ 40) : f_jLong_bitCount N (lN (lM b n)) h = some (nI (lC b n)) := by
  obtain ⟨d, hd⟩ : ∃ d, 40 = n + d := ⟨40 - n, by omega⟩
  have e1 := lM_add (b := fun i => b i && decide (i < n)) (m := n) d
  have e2 := lM_ext (b := fun i => b i && decide (i < n)) (b' := b) n (fun i hi => by show (b i && decide (i < n)) = b i; rw [decide_eq_true hi, Bool.and_true])
  have e3 := lM_ext (b := fun i => (fun i => b i && decide (i < n)) (n + i)) (b' := fun _ => false) d (fun i hi => by show (b (n + i) && decide (n + i < n)) = false; rw [decide_eq_false (by omega), Bool.and_false])
  have e4 : ∀ d, lM (fun _ => false) d = 0 ∧ lC (fun _ => false) d = 0 := by
    intro d
    induction d with
    | zero => exact ⟨rfl, rfl⟩
    | succ d ih => exact ⟨by rw [lM_f rfl]; exact ih.1, by rw [lC_f rfl]; exact ih.2⟩
  have e := j_lM (b := fun i => b i && decide (i < n)) (N := N) (h := h)
  rw [hd, e1.1, e1.2, e2.1, e2.2, e3.1, e3.2, (e4 d).1, (e4 d).2, Nat.mul_zero, Nat.add_zero, Nat.add_zero] at e
  exact e
theorem lM_or {b : Nat → Bool} {i : Nat} (hi : i < 63) (h : b i = true) : lN (lM b i) ||| ((1 : Int64) <<< ((nI i).toInt64 &&& 63)) = lN (lM b (i + 1)) := by
  have h1 := lM_lt (b := b) i
  have h2 : 2 ^ i < 2 ^ 63 := wb_lt2 hi
  have e := Nat.two_pow_add_eq_or_of_lt h1 1
  rw [Nat.mul_one] at e
  rw [show (1 : Int64) = lN 1 from rfl, wb_shl 1 (by omega), Nat.one_mul, wb_or (by omega) (by omega), lM_t h, Nat.or_comm, ← e, Nat.add_comm]
theorem lM_get {b : Nat → Bool} {n j : Nat} (hn : n ≤ 63) (hj : j < n) : ((((lN (lM b n)).toUInt64 >>> ((nI j).toInt64.toUInt64 &&& Int64.toUInt64 63)).toInt64) &&& (1 : Int64)) = lN (if b j then 1 else 0) := by
  have := lM_64 (b := b) hn
  rw [wb_bit (by omega) (by omega), lM_bit n hj]
theorem bfF {α : Type} {x y : α} : (if false = true then x else y) = y := rfl
theorem bfT {α : Type} {x y : α} : (if true = true then x else y) = x := rfl
theorem i10 {α : Type} {x y : α} : (if (1 : Int32) = 0 then x else y) = y := if_neg (by decide)
theorem i00 {α : Type} {x y : α} : (if (0 : Int32) = 0 then x else y) = x := if_pos rfl
