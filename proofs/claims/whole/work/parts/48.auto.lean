/-! A RULE'S TEXT: the class's way, sign by sign, as numbers alone -/
abbrev cS : Type := List Int32 × List Nat × Nat × (Nat → Bool) × Nat × Bool
def cRank (c : Nat) : Nat := if c = 60 ∨ c = 61 ∨ c = 62 then 1 else if c = 43 ∨ c = 45 then 2 else if c = 42 ∨ c = 47 then 3 else if c = 256 then 4 else 0
def cThing (c : Nat) : Bool := decide (c = 119 ∨ c = 100 ∨ c = 97 ∨ c = 109 ∨ c = 118 ∨ c = 108 ∨ c = 110)
def cDig (c : Nat) : Bool := decide (48 ≤ c ∧ c ≤ 57)
def cNeg (c : Nat) : Int32 := -(nI c)
def cRel (k : Nat) : List Nat → List Int32 → List Int32 × List Nat
  | [], O => (O, [])
  | c :: W, O => if k ≤ cRank c then cRel k W (cNeg c :: O) else (O, c :: W)
def cStep : cS → Nat → Option cS
  | (O, W, n, m, d, true), c => if c = 45 then some (O, 256 :: W, n, m, d, true) else if c = 40 then (if n < 4 then some (O, 40 :: W, n + 1, (fun j => if j = n + 1 then false else m j), d, true) else none) else if cDig c = true then some (nI (c - 48) :: O, W, n, m, 1, false) else if cThing c = true then some (cNeg c :: O, W, n, m, 0, false) else none
  | (O, W, n, m, d, false), c => if cDig c = true then (if d < 1 ∨ 2 < d then none else match O with | x :: O' => some ((x * 10 + nI (c - 48)) :: O', W, n, m, d + 1, false) | [] => none) else if c = 41 then (if n < 1 then none else some ((cRel 1 W O).1, (cRel 1 W O).2.tail, n - 1, m, 0, false)) else if cRank c = 0 then none else if cRank c = 1 ∧ m n = true then none else some ((cRel (cRank c) W O).1, c :: (cRel (cRank c) W O).2, n, (if cRank c = 1 then (fun j => if j = n then true else m j) else m), 0, true)
def cFin (t : Nat → Nat) (over : Bool) : Nat → Nat → cS → List Int32 ⊕ Nat
  | p, 0, s => if over = true ∨ s.2.2.2.2.2 = true ∨ 0 < s.2.2.1 then .inr p else .inl (cRel 1 s.2.1 s.1).1.reverse
  | p, d + 1, s => match cStep s (t p) with
    | none => .inr p
    | some s' => cFin t over (p + 1) d s'
def cRead (t : Nat → Nat) (len : Nat) : List Int32 ⊕ Nat := cFin t (decide (40 < len)) 0 (min len 40) ([], [], 0, fun _ => false, 0, true)
-- ===== what the steps come to =====
def pRank (c : Int32) : Nat := if c = 42 then 3 else if c = 43 then 2 else if c = 45 then 2 else if c = 47 then 3 else if c = 60 then 1 else if c = 61 then 1 else if c = 62 then 1 else if c = 256 then 4 else 0
def pThing (ask : Nat → Int32) (c : Int32) : Int32 := if c = 97 then ask 2 else if c = 100 then ask 1 else if c = 108 then ask 5 else if c = 109 then ask 3 else if c = 118 then ask 4 else if c = 119 then ask 0 else ask 6
def pApp (c a b : Int32) : Int32 := if c = 42 then a * b else if c = 43 then a + b else if c = 45 then a - b else if c = 60 then (if b ≤ a then 0 else 1) else if c = 61 then (if a = b then 1 else 0) else if c = 62 then (if a ≤ b then 0 else 1) else if b = 0 then 0 else a / b
def pst (ask : Nat → Int32) (x : Int32) (s : List Int32) : Option (List Int32) :=
  if 0 ≤ x then some (x :: s) else if pRank (-x) = 4 then (match s with | a :: s => some (-a :: s) | [] => none) else if pRank (-x) = 0 then some (pThing ask (-x) :: s) else (match s with | b :: a :: s => some (pApp (-x) a b :: s) | _ => none)
def pev (ask : Nat → Int32) : List Int32 → List Int32 → Option (List Int32)
  | [], s => some s
  | x :: xs, s => (pst ask x s).bind (pev ask xs)
theorem pev_app {ask : Nat → Int32} {xs ys s : List Int32} : pev ask (xs ++ ys) s = (pev ask xs s).bind (pev ask ys) := by
  induction xs generalizing s with
  | nil => rfl
  | cons x xs ih =>
    show (pst ask x s).bind (pev ask (xs ++ ys)) = ((pst ask x s).bind (pev ask xs)).bind (pev ask ys)
    cases pst ask x s with
    | none => rfl
    | some s' => exact ih
theorem pev_1 {ask : Nat → Int32} {x : Int32} {s : List Int32} : pev ask [x] s = pst ask x s := by
  show (pst ask x s).bind (fun s => some s) = _
  cases pst ask x s <;> rfl
/-- the evaluator of a row of steps -/
def pEv (code : List Int32) (ask : Nat → Int32) : Int32 := match pev ask code [] with
  | some (v :: _) => v
  | _ => 0
def cLow (k : Nat) : List Nat → Prop
  | [] => True
  | c :: _ => cRank c < k
theorem cRel_low {k : Nat} {W : List Nat} (hW : cLow k W) : ∀ (pend : List Nat) (O : List Int32), (∀ x, x ∈ pend → k ≤ cRank x) → cRel k (pend ++ W) O = ((pend.map cNeg).reverse ++ O, W) := by
  intro pend
  induction pend with
  | nil =>
    intro O _
    cases W with
    | nil => rfl
    | cons c W =>
      show (if k ≤ cRank c then _ else _) = _
      rw [if_neg (by have : cRank c < k := hW; omega)]
      rfl
  | cons x pend ih =>
    intro O hp
    show (if k ≤ cRank x then cRel k (pend ++ W) (cNeg x :: O) else _) = _
    rw [if_pos (hp x (List.mem_cons_self ..)), ih (cNeg x :: O) (fun y hy => hp y (List.mem_cons_of_mem _ hy)), List.map_cons, List.reverse_cons, List.append_assoc]
    rfl
section AUTO
variable {t : Nat → Nat} {over : Bool} {n p : Nat}
theorem cFin_s {s s' : cS} (hp : p < n) (e : cStep s (t p) = some s') : cFin t over p (n - p) s = cFin t over (p + 1) (n - (p + 1)) s' := by
  rw [show n - p = (n - (p + 1)) + 1 by omega]
  show (match cStep s (t p) with | none => _ | some s' => cFin t over (p + 1) (n - (p + 1)) s') = _
  rw [e]
theorem cFin_n {s : cS} (hp : p < n) (e : cStep s (t p) = none) : cFin t over p (n - p) s = .inr p := by
  rw [show n - p = (n - (p + 1)) + 1 by omega]
  show (match cStep s (t p) with | none => _ | some s' => cFin t over (p + 1) (n - (p + 1)) s') = _
  rw [e]
theorem cFin_e {s : cS} (e : s.2.2.2.2.2 = true ∨ 0 < s.2.2.1) : cFin t over n (n - n) s = .inr n := by
  rw [Nat.sub_self]
  show (if over = true ∨ s.2.2.2.2.2 = true ∨ 0 < s.2.2.1 then _ else _) = _
  rw [if_pos (Or.inr e)]
end AUTO
theorem cDig_t {c : Nat} (h : 48 ≤ c ∧ c ≤ 57) : cDig c = true := decide_eq_true h
theorem cDig_f {c : Nat} (h : ¬ (48 ≤ c ∧ c ≤ 57)) : cDig c = false := decide_eq_false h
theorem pNum {ask : Nat → Int32} {v : Nat} {s : List Int32} (h : v < 2147483648) : pst ask (nI v) s = some (nI v :: s) := by
  unfold pst; rw [if_pos (nI_pos' h)]
theorem cNeg_neg {c : Nat} : -(cNeg c) = nI c := Int32.neg_neg
theorem cNeg_lt : ∀ c : Nat, c < 300 → 0 < c → ¬ 0 ≤ cNeg c := by unfold cNeg; decide +kernel
theorem pNEG {ask : Nat → Int32} {a : Int32} {s : List Int32} : pst ask (cNeg 256) (a :: s) = some (-a :: s) := by
  unfold pst
  rw [if_neg (cNeg_lt 256 (by omega) (by omega)), cNeg_neg, if_pos (by decide)]
theorem pTH {ask : Nat → Int32} {c : Nat} {s : List Int32} (hc : cThing c = true) : pst ask (cNeg c) s = some (pThing ask (nI c) :: s) := by
  have h := of_decide_eq_true hc
  unfold pst
  rw [if_neg (cNeg_lt c (by omega) (by omega)), cNeg_neg]
  have h2 : pRank (nI c) = 0 := by
    rcases h with rfl | rfl | rfl | rfl | rfl | rfl | rfl <;> decide
  rw [if_neg (by omega), if_pos h2]
theorem pOP {ask : Nat → Int32} {c : Nat} {a b : Int32} {s : List Int32} (hc : c = 60 ∨ c = 61 ∨ c = 62 ∨ c = 43 ∨ c = 45 ∨ c = 42 ∨ c = 47) : pst ask (cNeg c) (b :: a :: s) = some (pApp (nI c) a b :: s) := by
  unfold pst
  rw [if_neg (cNeg_lt c (by omega) (by omega)), cNeg_neg]
  have h2 : pRank (nI c) ≠ 4 ∧ pRank (nI c) ≠ 0 := by
    rcases hc with rfl | rfl | rfl | rfl | rfl | rfl | rfl <;> decide
  rw [if_neg h2.1, if_neg h2.2]
