/-! GROUND OF THE PURE PART: conditions over nI, arithmetic over nI, loops, frames -/
section COND
variable {α : Type} {a b : Nat} {x y : α}
theorem ile_t (h : a ≤ b) (hb : b < 2147483648) : (if nI a ≤ nI b then x else y) = x := if_pos (nI_le h hb)
theorem ile_f (h : b < a) (ha : a < 2147483648) : (if nI a ≤ nI b then x else y) = y := if_neg (nI_ge h ha)
theorem ilt_t (h : a < b) (hb : b < 2147483648) : (if nI a < nI b then x else y) = x := if_pos (nI_lt h hb)
theorem ilt_f (h : b ≤ a) (ha : a < 2147483648) : (if nI a < nI b then x else y) = y := if_neg (nI_nlt h ha)
theorem ieq_t (h : a = b) : (if nI a = nI b then x else y) = x := if_pos (by rw [h])
theorem ieq_f (h : a ≠ b) (ha : a < 2147483648) (hb : b < 2147483648) : (if nI a = nI b then x else y) = y := if_neg (fun z => h ((nI_eq ha hb).mp z))
theorem iz_t (h : a = 0) : (if nI a = 0 then x else y) = x := if_pos (by rw [h]; exact nI_0)
theorem iz_f (h : 0 < a) (ha : a < 2147483648) : (if nI a = 0 then x else y) = y := if_neg (nI_ne0 h ha)
theorem iltz (ha : a < 2147483648) : (if nI a < 0 then x else y) = y := if_neg (nI_pos ha)
theorem izle (ha : a < 2147483648) : (if 0 ≤ nI a then x else y) = x := if_pos (nI_pos' ha)
theorem ilez_t (h : a = 0) : (if nI a ≤ 0 then x else y) = x := if_pos (by rw [h]; decide)
theorem ilez_f (h : 0 < a) (ha : a < 2147483648) : (if nI a ≤ 0 then x else y) = y := if_neg (nI_nle h ha)
theorem izlt_t (h : 0 < a) (ha : a < 2147483648) : (if 0 < nI a then x else y) = x := if_pos (by rw [← nI_0]; exact nI_lt h ha)
theorem izlt_f (h : a = 0) : (if 0 < nI a then x else y) = y := if_neg (by rw [h]; decide)
theorem nI_m1 (ha : a < 2147483648) : nI a ≠ -1 := fun z => by
  have h1 := nI_toInt ha
  rw [z] at h1
  have h2 : (-1 : Int32).toInt = -1 := by decide
  omega
theorem im1 (ha : a < 2147483648) : (if nI a = -1 then x else y) = y := if_neg (nI_m1 ha)
theorem gNZ_nI (h : 0 < a) (ha : a < 2147483648) : gNZ (nI a) = some () := by unfold gNZ; rw [if_neg (nI_ne0 h ha)]
end COND
theorem gZ_0 : gZ 0 = some 0 := rfl
theorem gZ_1 : gZ 1 = some 1 := rfl
theorem e10 : ((1 : Int32) = 0) = False := by decide
theorem e00 : ((0 : Int32) = 0) = True := by decide
theorem nI_sub {a b : Nat} (h : b ≤ a) : nI a - nI b = nI (a - b) := by
  obtain ⟨c, rfl⟩ : ∃ c, a = b + c := ⟨a - b, by omega⟩
  rw [← nI_add, show b + c - b = c by omega, Int32.add_comm, Int32.add_sub_cancel]
theorem nI_sub1 {a : Nat} (h : 0 < a) : nI a - 1 = nI (a - 1) := nI_sub (b := 1) h
theorem nI_dec (a : Nat) : nI (a + 1) + (-1) = nI a := by
  rw [nI_succ, Int32.add_assoc]
  show nI a + 0 = nI a
  rw [Int32.add_zero]
theorem nI_mul (a b : Nat) : nI a * nI b = nI (a * b) := (Int32.ofNat_mul a b).symm
theorem i32_le {x y : Int32} : x ≤ y ↔ x.toInt ≤ y.toInt := Int32.le_iff_toInt_le
theorem i32_lt {x y : Int32} : x < y ↔ x.toInt < y.toInt := Int32.lt_iff_toInt_lt
theorem i32_0 : (0 : Int32).toInt = 0 := by decide
theorem gmin_nI {a b : Nat} (ha : a < 2147483648) (hb : b < 2147483648) : gmin (nI a) (nI b) = nI (min a b) := by
  unfold gmin
  by_cases h : b < a
  · rw [if_pos (nI_lt h ha), Nat.min_eq_right (by omega)]
  · rw [if_neg (nI_nlt (by omega) hb), Nat.min_eq_left (by omega)]
theorem gmax_nI {a b : Nat} (ha : a < 2147483648) (hb : b < 2147483648) : gmax (nI a) (nI b) = nI (max a b) := by
  unfold gmax
  by_cases h : a < b
  · rw [if_pos (nI_lt h hb), Nat.max_eq_right (by omega)]
  · rw [if_neg (nI_nlt (by omega) ha), Nat.max_eq_left (by omega)]
theorem gmax_0 {a : Nat} (ha : a < 2147483648) : gmax 0 (nI a) = nI a := by
  have := gmax_nI (a := 0) (b := a) (by omega) ha
  rw [nI_0, Nat.max_eq_right (by omega)] at this
  exact this
def ndist (a b : Nat) : Nat := (a - b) + (b - a)
theorem ndist_comm (a b : Nat) : ndist a b = ndist b a := by unfold ndist; omega
theorem gabs_sub {a b : Nat} (ha : a < 2147483648) (hb : b < 2147483648) : gabs (nI a - nI b) = nI (ndist a b) := by
  unfold gabs ndist
  by_cases h : b ≤ a
  · rw [nI_sub h, if_pos (nI_pos' (by omega)), show a - b + (b - a) = a - b by omega]
  · have e : nI a - nI b = 0 - nI (b - a) := by
      rw [← nI_sub (by omega : a ≤ b)]
      rw [Int32.zero_sub, Int32.neg_sub]
    have h2 : ¬ (0 : Int32) ≤ nI a - nI b := by
      rw [e, i32_le, Int32.toInt_sub, i32_0, nI_toInt (by omega)]
      rw [Int.bmod_eq_of_le (by omega) (by omega)]
      omega
    rw [if_neg h2, e, Int32.zero_sub, Int32.zero_sub, Int32.neg_neg, show a - b + (b - a) = b - a by omega]
theorem nI_div {a b : Nat} (ha : a < 2147483648) (hb : b < 2147483648) : nI a / nI b = nI (a / b) := by
  apply Int32.toInt_inj.mp
  have hq : a / b ≤ a := Nat.div_le_self a b
  rw [Int32.toInt_div, nI_toInt ha, nI_toInt hb, nI_toInt (by omega), show (a : Int).tdiv (b : Int) = ((a / b : Nat) : Int) from Int.ofNat_tdiv a b]
  generalize a / b = q at *
  rw [Int.bmod_eq_of_le (by omega) (by omega)]
theorem nI_rem {a b : Nat} (ha : a < 2147483648) (hb : b < 2147483648) : nI a - nI a / nI b * nI b = nI (a % b) := by
  rw [nI_div ha hb, nI_mul, nI_sub (Nat.div_mul_le_self a b)]
  congr 1
  have := Nat.div_add_mod a b
  rw [Nat.mul_comm] at this
  omega
/-- an index that may be out -/
theorem in_or {n : Nat} (x : Int32) (hn : n < 2147483648) : (∃ w, w < n ∧ x = nI w) ∨ (x < 0 ∨ (¬ x < 0 ∧ nI n ≤ x)) := by
  by_cases h : x < 0
  · exact Or.inr (Or.inl h)
  · obtain ⟨j, hj, rfl⟩ := nI_of h
    by_cases h2 : j < n
    · exact Or.inl ⟨j, h2, rfl⟩
    · exact Or.inr (Or.inr ⟨h, nI_le (by omega) hj⟩)
/-- a loop that counts up to n, whatever it keeps -/
theorem lp_inv {σ ρ : Type} {Lp : Nat → σ → Nat → Option ρ} {P : Nat → σ → Prop} {Q : ρ → Prop} {n : Nat}
    (hs : ∀ k i s, i < n → P i s → (∃ r, Lp (k + 1) s i = some r ∧ Q r) ∨ ∃ s', Lp (k + 1) s i = Lp k s' (i + 1) ∧ P (i + 1) s')
    (he : ∀ k s, P n s → ∃ r, Lp (k + 1) s n = some r ∧ Q r) : ∀ (d k i : Nat) (s : σ), i + d = n → d < k → P i s → ∃ r, Lp k s i = some r ∧ Q r := by
  intro d
  induction d with
  | zero =>
    intro k i s hi hk h
    obtain ⟨k, rfl⟩ : ∃ j, k = j + 1 := ⟨k - 1, by omega⟩
    obtain rfl : i = n := by omega
    exact he k s h
  | succ d ih =>
    intro k i s hi hk h
    obtain ⟨k, rfl⟩ : ∃ j, k = j + 1 := ⟨k - 1, by omega⟩
    rcases hs k i s (by omega) h with q | ⟨s', e, h'⟩
    · exact q
    · rw [e]; exact ih k (i + 1) s' (by omega) (by omega) h'
/-- a loop that counts up and whose states are known -/
theorem lp_seq {σ ρ : Type} {Lp : Nat → σ → Nat → Option ρ} {sp : Nat → σ} {r : ρ} {n : Nat}
    (hs : ∀ k i, i < n → Lp (k + 1) (sp i) i = Lp k (sp (i + 1)) (i + 1)) (he : ∀ k, Lp (k + 1) (sp n) n = some r) {k : Nat} (hk : n < k) : Lp k (sp 0) 0 = some r := by
  obtain ⟨q, h1, h2⟩ := lp_inv (Lp := Lp) (P := fun i s => s = sp i) (Q := fun q => q = r) (n := n) (fun k i s hi h => Or.inr ⟨sp (i + 1), by rw [h]; exact hs k i hi, rfl⟩) (fun k s h => ⟨r, by rw [h]; exact he k, rfl⟩) n k 0 (sp 0) (by omega) hk rfl
  rw [h1, h2]
/-- the same for a loop that keeps nothing, with a way out -/
def fstN (p : Nat → Bool) : Nat → Nat → Option Nat
  | _, 0 => none
  | i, d + 1 => if p i then some i else fstN p (i + 1) d
theorem lp_fst {ρ : Type} {Lp : Nat → Nat → Option ρ} {p : Nat → Bool} {o : Option Nat → ρ} {n : Nat}
    (hs : ∀ k i, i < n → p i = false → Lp (k + 1) i = Lp k (i + 1)) (ht : ∀ k i, i < n → p i = true → Lp (k + 1) i = some (o (some i))) (he : ∀ k, Lp (k + 1) n = some (o none)) : ∀ (d k i : Nat), i + d = n → d < k → Lp k i = some (o (fstN p i d)) := by
  intro d
  induction d with
  | zero =>
    intro k i hi hk
    obtain ⟨k, rfl⟩ : ∃ j, k = j + 1 := ⟨k - 1, by omega⟩
    obtain rfl : i = n := by omega
    exact he k
  | succ d ih =>
    intro k i hi hk
    obtain ⟨k, rfl⟩ : ∃ j, k = j + 1 := ⟨k - 1, by omega⟩
    unfold fstN
    cases hp : p i with
    | true => rw [if_pos rfl]; exact ht k i (by omega) hp
    | false => rw [if_neg (by decide), hs k i (by omega) hp]; exact ih k (i + 1) (by omega) (by omega)
theorem fstN_some {p : Nat → Bool} : ∀ (d i w : Nat), fstN p i d = some w → i ≤ w ∧ w < i + d ∧ p w = true ∧ ∀ u, i ≤ u → u < w → p u = false := by
  intro d
  induction d with
  | zero => intro i w h; cases h
  | succ d ih =>
    intro i w h
    unfold fstN at h
    split at h
    · rename_i q; cases h; exact ⟨Nat.le_refl _, by omega, q, fun u h1 h2 => by omega⟩
    · rename_i q
      obtain ⟨h1, h2, h3, h4⟩ := ih (i + 1) w h
      refine ⟨by omega, by omega, h3, fun u hu1 hu2 => ?_⟩
      by_cases e : u = i
      · subst e; exact Bool.eq_false_iff.mpr q
      · exact h4 u (by omega) hu2
theorem fstN_none {p : Nat → Bool} : ∀ (d i : Nat), fstN p i d = none → ∀ u, i ≤ u → u < i + d → p u = false := by
  intro d
  induction d with
  | zero => intro i h u h1 h2; omega
  | succ d ih =>
    intro i h u h1 h2
    unfold fstN at h
    split at h
    · cases h
    · rename_i q
      by_cases e : u = i
      · subst e; exact Bool.eq_false_iff.mpr q
      · exact ih (i + 1) h u (by omega) (by omega)
def sumN (f : Nat → Nat) : Nat → Nat
  | 0 => 0
  | n + 1 => sumN f n + f n
def oI : Option Nat → Int32
  | none => -1
  | some i => nI i
-- ===== frames =====
def Fr (A : Nat → Prop) (S S' : gS) : Prop := ∀ x, ¬ A x → S'.1 x = S.1 x ∧ S'.2.1 x = S.2.1 x ∧ S'.2.2 x = S.2.2 x
theorem Fr.refl {A : Nat → Prop} {S : gS} : Fr A S S := fun _ _ => ⟨rfl, rfl, rfl⟩
theorem Fr.trans {A B C : Nat → Prop} {S S1 S2 : gS} (h1 : Fr A S S1) (h2 : Fr B S1 S2) (ha : ∀ x, A x → C x) (hb : ∀ x, B x → C x) : Fr C S S2 := fun x hx =>
  have q1 := h1 x (fun z => hx (ha x z))
  have q2 := h2 x (fun z => hx (hb x z))
  ⟨q2.1.trans q1.1, q2.2.1.trans q1.2.1, q2.2.2.trans q1.2.2⟩
theorem Fr.mono {A C : Nat → Prop} {S S1 : gS} (h1 : Fr A S S1) (ha : ∀ x, A x → C x) : Fr C S S1 := fun x hx => h1 x (fun z => hx (ha x z))
theorem Fr.i {A : Nat → Prop} {S S' : gS} (h : Fr A S S') {x : Nat} (hx : ¬ A x) (k : Nat) : S'.1 x k = S.1 x k := by rw [(h x hx).1]
theorem Fr.l {A : Nat → Prop} {S S' : gS} (h : Fr A S S') {x : Nat} (hx : ¬ A x) (k : Nat) : S'.2.1 x k = S.2.1 x k := by rw [(h x hx).2.1]
theorem Fr.p {A : Nat → Prop} {S S' : gS} (h : Fr A S S') {x : Nat} (hx : ¬ A x) (k : Nat) : S'.2.2 x k = S.2.2 x k := by rw [(h x hx).2.2]
theorem Fr.stI {A : Nat → Prop} {S : gS} {a k : Nat} {v : Int32} (h : A a) : Fr A S (stI S a k v) := fun x hx => ⟨stI_1 (fun z => hx (z ▸ h)), rfl, rfl⟩
theorem Fr.stL {A : Nat → Prop} {S : gS} {a k : Nat} {v : Int64} (h : A a) : Fr A S (stL S a k v) := fun x hx => ⟨rfl, stL_1 (fun z => hx (z ▸ h)), rfl⟩
theorem Fr.stP {A : Nat → Prop} {S : gS} {a k : Nat} {v : Option Nat} (h : A a) : Fr A S (stP S a k v) := fun x hx => ⟨rfl, rfl, stP_1 (fun z => hx (z ▸ h))⟩
theorem rdI_eq {S : gS} {a k : Nat} {v : Int32} : (stI S a k v).1 a k = v := by rw [rdI, if_pos ⟨rfl, rfl⟩]
theorem rdI_ne {S : gS} {a k b j : Nat} {v : Int32} (h : b ≠ a ∨ j ≠ k) : (stI S a k v).1 b j = S.1 b j := by rw [rdI, if_neg (fun z => h.elim (fun q => q z.1) (fun q => q z.2))]
theorem rdL_eq {S : gS} {a k : Nat} {v : Int64} : (stL S a k v).2.1 a k = v := by rw [rdL, if_pos ⟨rfl, rfl⟩]
theorem rdL_ne {S : gS} {a k b j : Nat} {v : Int64} (h : b ≠ a ∨ j ≠ k) : (stL S a k v).2.1 b j = S.2.1 b j := by rw [rdL, if_neg (fun z => h.elim (fun q => q z.1) (fun q => q z.2))]
theorem rdP_eq {S : gS} {a k : Nat} {v : Option Nat} : (stP S a k v).2.2 a k = v := by rw [rdP, if_pos ⟨rfl, rfl⟩]
theorem rdP_ne {S : gS} {a k b j : Nat} {v : Option Nat} (h : b ≠ a ∨ j ≠ k) : (stP S a k v).2.2 b j = S.2.2 b j := by rw [rdP, if_neg (fun z => h.elim (fun q => q z.1) (fun q => q z.2))]
