/-! THE HEAP AS NUMBERS: every cell that is made stands at its place; what changes is S: ints, longs, the few references that move. A field's kind: 0 an int, 1 a reference that moves, b + 2 the reference to b, for good. -/
abbrev gK : Type := (Nat × List Nat) ⊕ (Nat × Nat)
def LAYT : List gK := [.inr (7, 5), .inr (9, 0), .inr (9, 0), .inr (9, 0), .inr (9, 0), .inr (8, 1), .inr (8, 4), .inr (8, 2), .inr (8, 0), .inl (10, [13, 15, 17, 21, 27, 33, 39, 42, 130, 133, 137, 1, 1]), .inl (8, [14, 0]), .inr (3, 80), .inl (4, [16, 0]), .inr (4, 8), .inl (1, [0, 0, 0, 18, 19, 20]), .inr (0, 6), .inr (0, 6), .inr (0, 36), .inl (7, [0, 22, 23, 24, 25, 26, 0, 0]), .inr (0, 8), .inr (0, 8), .inr (0, 8), .inr (0, 8), .inr (0, 8), .inl (7, [0, 28, 29, 30, 31, 32, 0, 0]), .inr (0, 8), .inr (0, 8), .inr (0, 8), .inr (0, 8), .inr (0, 8), .inl (7, [0, 34, 35, 36, 37, 38, 0, 0]), .inr (0, 8), .inr (0, 8), .inr (0, 8), .inr (0, 8), .inr (0, 8), .inl (0, [40, 41]), .inr (0, 6), .inr (0, 6), .inl (5, [43, 44, 45, 0]), .inr (5, 12), .inr (5, 2), .inr (2, 2), .inl (7, [0, 47, 48, 49, 50, 51, 0, 0]), .inr (0, 8), .inr (0, 8), .inr (0, 8), .inr (0, 8), .inr (0, 8), .inl (7, [0, 53, 54, 55, 56, 57, 0, 0]), .inr (0, 8), .inr (0, 8), .inr (0, 8), .inr (0, 8), .inr (0, 8), .inl (7, [0, 59, 60, 61, 62, 63, 0, 0]), .inr (0, 8), .inr (0, 8), .inr (0, 8), .inr (0, 8), .inr (0, 8), .inl (7, [0, 65, 66, 67, 68, 69, 0, 0]), .inr (0, 8), .inr (0, 8), .inr (0, 8), .inr (0, 8), .inr (0, 8), .inl (7, [0, 71, 72, 73, 74, 75, 0, 0]), .inr (0, 8), .inr (0, 8), .inr (0, 8), .inr (0, 8), .inr (0, 8), .inl (7, [0, 77, 78, 79, 80, 81, 0, 0]), .inr (0, 8), .inr (0, 8), .inr (0, 8), .inr (0, 8), .inr (0, 8), .inl (7, [0, 83, 84, 85, 86, 87, 0, 0]), .inr (0, 8), .inr (0, 8), .inr (0, 8), .inr (0, 8), .inr (0, 8), .inl (7, [0, 89, 90, 91, 92, 93, 0, 0]), .inr (0, 8), .inr (0, 8), .inr (0, 8), .inr (0, 8), .inr (0, 8), .inl (7, [0, 95, 96, 97, 98, 99, 0, 0]), .inr (0, 8), .inr (0, 8), .inr (0, 8), .inr (0, 8), .inr (0, 8), .inl (7, [0, 101, 102, 103, 104, 105, 0, 0]), .inr (0, 8), .inr (0, 8), .inr (0, 8), .inr (0, 8), .inr (0, 8), .inl (7, [0, 107, 108, 109, 110, 111, 0, 0]), .inr (0, 8), .inr (0, 8), .inr (0, 8), .inr (0, 8), .inr (0, 8), .inl (7, [0, 113, 114, 115, 116, 117, 0, 0]), .inr (0, 8), .inr (0, 8), .inr (0, 8), .inr (0, 8), .inr (0, 8), .inl (7, [0, 119, 120, 121, 122, 123, 0, 0]), .inr (0, 8), .inr (0, 8), .inr (0, 8), .inr (0, 8), .inr (0, 8), .inl (7, [0, 125, 126, 127, 128, 129, 0, 0]), .inr (0, 8), .inr (0, 8), .inr (0, 8), .inr (0, 8), .inr (0, 8), .inl (2, [131, 132, 0]), .inr (0, 12), .inr (0, 12), .inl (9, [134, 135, 136]), .inr (0, 8), .inr (0, 36), .inr (0, 2368), .inl (3, [0]), .inl (6, [139, 140, 141, 0, 0, 0, 0, 0, 0]), .inr (0, 40), .inr (0, 40), .inr (0, 40), .inl (6, [143, 144, 145, 0, 0, 0, 0, 0, 0]), .inr (0, 40), .inr (0, 40), .inr (0, 40), .inl (11, [147, 0, 0, 0, 148, 149, 150, 0, 151, 0, 0, 1, 0, 0, 0, 0, 152, 1, 154, 0, 0, 155, 156, 0, 157, 158, 159, 160, 161, 162, 163, 164, 165, 166, 0, 167, 168, 0, 0, 169, 170, 171]), .inr (0, 43), .inr (0, 6), .inr (0, 6), .inr (1, 80), .inr (4, 16), .inr (0, 36), .inr (1, 40), .inr (1, 40), .inr (0, 7), .inr (0, 516), .inr (0, 43), .inr (0, 43), .inr (0, 8), .inr (0, 6), .inr (0, 6), .inr (0, 320), .inr (0, 2368), .inr (0, 8), .inr (0, 12), .inr (0, 12), .inr (0, 6), .inr (2, 61), .inr (0, 86), .inr (2, 2), .inr (0, 2), .inr (4, 1)]
def LAY (L : Nat) : List gK := .inr (6, L) :: LAYT
abbrev gS : Type := (Nat → Nat → Int32) × (Nat → Nat → Int64) × (Nat → Nat → Option Nat)
def mkF (S : gS) (a k : Nat) : Nat → Value
  | 0 => .int (S.1 a k)
  | 1 => va_rf (S.2.2 a k)
  | b + 2 => .ref b
def mkC (S : gS) (a : Nat) : gK → gMC
  | .inl (c, ks) => .inr (c, ks.mapIdx (fun k q => mkF S a k q))
  | .inr (t, n) => .inl (t, n, if t = 4 then .inr (.inl (S.2.1 a)) else if t = 5 then .inr (.inr (.inr (.inr (S.2.2 a)))) else .inl (S.1 a))
def mk (L : Nat) (S : gS) : gH := (LAY L).mapIdx (mkC S)
def stI (S : gS) (a k : Nat) (v : Int32) : gS := (fun b j => if b = a ∧ j = k then v else S.1 b j, S.2)
def stL (S : gS) (a k : Nat) (v : Int64) : gS := (S.1, fun b j => if b = a ∧ j = k then v else S.2.1 b j, S.2.2)
def stP (S : gS) (a k : Nat) (v : Option Nat) : gS := (S.1, S.2.1, fun b j => if b = a ∧ j = k then v else S.2.2 b j)
/-- the kind of a field of a cell of a class; an array's kind and length -/
def kF (a c k : Nat) : Option Nat := match LAYT[a - 1]? with
  | some (.inl (c', ks)) => if 1 ≤ a ∧ c' = c then ks[k]? else none
  | _ => none
def kA (a : Nat) : Option (Nat × Nat) := match LAYT[a - 1]? with
  | some (.inr q) => if 1 ≤ a then some q else none
  | _ => none
theorem mk_at {L : Nat} {S : gS} {a : Nat} {k : gK} (h : (LAY L)[a]? = some k) : (mk L S)[a]? = some (mkC S a k) := by
  unfold mk
  rw [List.getElem?_mapIdx, h]
  rfl
theorem kF_at {a c k q : Nat} (h : kF a c k = some q) (L : Nat) : ∃ ks, (LAY L)[a]? = some (.inl (c, ks)) ∧ ks[k]? = some q := by
  unfold kF at h
  split at h
  · rename_i c' ks hk
    split at h
    · rename_i z
      obtain ⟨z1, rfl⟩ := z
      refine ⟨ks, ?_, h⟩
      unfold LAY
      obtain ⟨b, rfl⟩ : ∃ b, a = b + 1 := ⟨a - 1, by omega⟩
      rw [List.getElem?_cons_succ]
      exact hk
    · cases h
  · cases h
theorem kA_at {a t n : Nat} (h : kA a = some (t, n)) (L : Nat) : (LAY L)[a]? = some (.inr (t, n)) := by
  unfold kA at h
  split at h
  · rename_i q hk
    split at h
    · rename_i z
      cases h
      unfold LAY
      obtain ⟨b, rfl⟩ : ∃ b, a = b + 1 := ⟨a - 1, by omega⟩
      rw [List.getElem?_cons_succ]
      exact hk
    · cases h
  · cases h
theorem mk_set {L : Nat} {S S' : gS} {a : Nat} {k : gK} (h : (LAY L)[a]? = some k) (ho : ∀ b, b ≠ a → ∀ k, mkC S' b k = mkC S b k) : (mk L S).set a (mkC S' a k) = mk L S' := by
  have hlt := (List.getElem?_eq_some_iff.mp h).1
  apply List.ext_getElem?
  intro i
  unfold mk
  rw [List.getElem?_set, List.getElem?_mapIdx, List.getElem?_mapIdx, List.length_mapIdx]
  by_cases q : a = i
  · subst q
    rw [if_pos rfl, if_pos hlt, h]
    rfl
  · rw [if_neg q]
    cases (LAY L)[i]? with
    | none => rfl
    | some k => simp only [Option.map_some]; rw [ho i (fun z => q z.symm) k]
theorem mkF_of {S S' : gS} {a k q : Nat} (h1 : S'.1 a k = S.1 a k) (h2 : S'.2.2 a k = S.2.2 a k) : mkF S' a k q = mkF S a k q := by
  unfold mkF
  split
  · rw [h1]
  · rw [h2]
  · rfl
theorem mkC_of {S S' : gS} {a : Nat} (h1 : S'.1 a = S.1 a) (h2 : S'.2.1 a = S.2.1 a) (h3 : S'.2.2 a = S.2.2 a) (k : gK) : mkC S' a k = mkC S a k := by
  rcases k with ⟨c, ks⟩ | ⟨t, n⟩
  · show Sum.inr (c, ks.mapIdx (fun k q => mkF S' a k q)) = Sum.inr (c, ks.mapIdx (fun k q => mkF S a k q))
    congr 3
    funext k q
    exact mkF_of (by rw [h1]) (by rw [h3])
  · show Sum.inl (t, n, _) = Sum.inl (t, n, _)
    rw [h1, h2, h3]
theorem stI_1 {S : gS} {a k b : Nat} {v : Int32} (h : b ≠ a) : (stI S a k v).1 b = S.1 b := by
  funext j; show (if b = a ∧ j = k then v else S.1 b j) = _; rw [if_neg (fun z => h z.1)]
theorem stL_1 {S : gS} {a k b : Nat} {v : Int64} (h : b ≠ a) : (stL S a k v).2.1 b = S.2.1 b := by
  funext j; show (if b = a ∧ j = k then v else S.2.1 b j) = _; rw [if_neg (fun z => h z.1)]
theorem stP_1 {S : gS} {a k b : Nat} {v : Option Nat} (h : b ≠ a) : (stP S a k v).2.2 b = S.2.2 b := by
  funext j; show (if b = a ∧ j = k then v else S.2.2 b j) = _; rw [if_neg (fun z => h z.1)]
theorem stI_o {S : gS} {a k : Nat} {v : Int32} : ∀ b, b ≠ a → ∀ q, mkC (stI S a k v) b q = mkC S b q := fun b h q => mkC_of (S := S) (S' := stI S a k v) (stI_1 h) rfl rfl q
theorem stL_o {S : gS} {a k : Nat} {v : Int64} : ∀ b, b ≠ a → ∀ q, mkC (stL S a k v) b q = mkC S b q := fun b h q => mkC_of (S := S) (S' := stL S a k v) rfl (stL_1 h) rfl q
theorem stP_o {S : gS} {a k : Nat} {v : Option Nat} : ∀ b, b ≠ a → ∀ q, mkC (stP S a k v) b q = mkC S b q := fun b h q => mkC_of (S := S) (S' := stP S a k v) rfl rfl (stP_1 h) q
-- ===== reading =====
section MKR
variable {L : Nat} {S : gS} {a c k n b : Nat} {i : Int32}
theorem gf_mk {q : Nat} (h : kF a c k = some q) : gf (mk L S) a c k = some (mkF S a k q) := by
  obtain ⟨ks, h1, h2⟩ := kF_at h L
  unfold gf
  rw [mk_at h1]
  show (if c = c then (ks.mapIdx (fun k q => mkF S a k q))[k]? else none) = _
  rw [if_pos rfl, List.getElem?_mapIdx, h2]
  rfl
theorem gfI_mk (h : kF a c k = some 0) : gfI (mk L S) a c k = some (S.1 a k) := by
  unfold gfI; rw [gf_mk h]; rfl
theorem gfR_mk (h : kF a c k = some (b + 2)) : gfR (mk L S) a c k = some b := by
  unfold gfR; rw [gf_mk h]; rfl
theorem gfP_mk (h : kF a c k = some 1) (hb : S.2.2 a k = some b) : gfR (mk L S) a c k = some b := by
  unfold gfR; rw [gf_mk h]; show (match (some (va_rf (S.2.2 a k))) with | some (.ref x) => some x | _ => none) = _; rw [hb]; rfl
theorem gcl_mk {q : Nat} (h : kF a c k = some q) : gcl (mk L S) a c = some () := by
  obtain ⟨ks, h1, h2⟩ := kF_at h L
  unfold gcl
  rw [mk_at h1]
  show (if c = c then some () else none) = _
  rw [if_pos rfl]
theorem ga_mk {t : Nat} (h : kA a = some (t, n)) (ht : t ≠ 4 ∧ t ≠ 5) (hi : vinb i n = true) : ga t (mk L S) a i = some (S.1 a i.toNatClampNeg) := by
  unfold ga
  rw [mk_at (kA_at h L)]
  show (match some (Sum.inl (t, n, if t = 4 then Sum.inr (.inl (S.2.1 a)) else if t = 5 then Sum.inr (.inr (.inr (.inr (S.2.2 a)))) else Sum.inl (S.1 a)) : gMC) with | some (.inl (t', n, .inl f)) => if t' = t ∧ vinb i n = true then some (f i.toNatClampNeg) else none | _ => none) = _
  rw [if_neg ht.1, if_neg ht.2]
  show (if t = t ∧ vinb i n = true then _ else _) = _
  rw [if_pos ⟨rfl, hi⟩]
theorem gaL_mk (h : kA a = some (4, n)) (hi : vinb i n = true) : gaL (mk L S) a i = some (S.2.1 a i.toNatClampNeg) := by
  unfold gaL
  rw [mk_at (kA_at h L)]
  show (if 4 = 4 ∧ vinb i n = true then some (S.2.1 a i.toNatClampNeg) else none) = _
  rw [if_pos ⟨rfl, hi⟩]
theorem gaR_mk (h : kA a = some (5, n)) (hi : vinb i n = true) : gaR (mk L S) a i = S.2.2 a i.toNatClampNeg := by
  unfold gaR
  rw [mk_at (kA_at h L)]
  show (if 5 = 5 ∧ vinb i n = true then S.2.2 a i.toNatClampNeg else none) = _
  rw [if_pos ⟨rfl, hi⟩]
theorem gn_mk {t : Nat} (h : kA a = some (t, n)) (ht : t < 6 ∨ (t = 7 ∧ a = 1) ∨ (t = 8 ∧ 6 ≤ a ∧ a < 10)) : gn (mk L S) a = some (Int32.ofNat n) := by
  unfold gn
  rw [mk_at (kA_at h L)]
  show (if t < 6 ∨ (t = 7 ∧ a = 1) ∨ (t = 8 ∧ 6 ≤ a ∧ a < 10) then some (Int32.ofNat n) else none) = _
  rw [if_pos ht]
-- ===== writing =====
theorem sf_mk {v : Int32} (h : kF a c k = some 0) : sf (mk L S) a c k (.int v) = some (mk L (stI S a k v)) := by
  obtain ⟨ks, h1, h2⟩ := kF_at h L
  have hk : k < ks.length := (List.getElem?_eq_some_iff.mp h2).1
  unfold sf
  rw [mk_at h1]
  show (if c = c ∧ k < (ks.mapIdx (fun k q => mkF S a k q)).length then some ((mk L S).set a (.inr (c, (ks.mapIdx (fun k q => mkF S a k q)).set k (.int v)))) else none) = _
  rw [if_pos ⟨rfl, by rw [List.length_mapIdx]; exact hk⟩]
  rw [← mk_set h1 stI_o]
  congr 3
  congr 1
  apply List.ext_getElem?
  intro j
  rw [List.getElem?_set, List.getElem?_mapIdx, List.getElem?_mapIdx, List.length_mapIdx]
  by_cases q : k = j
  · subst q
    rw [if_pos rfl, if_pos hk, h2]
    show _ = some (Value.int (if a = a ∧ k = k then v else S.1 a k))
    rw [if_pos ⟨rfl, rfl⟩]
  · rw [if_neg q]
    cases ks[j]? with
    | none => rfl
    | some z =>
      simp only [Option.map_some]
      rw [mkF_of (S := S) (S' := stI S a k v)]
      · show (if a = a ∧ j = k then v else S.1 a j) = _
        rw [if_neg (fun z => q z.2.symm)]
      · rfl
theorem sfP_mk {v : Nat} (h : kF a c k = some 1) : sf (mk L S) a c k (.ref v) = some (mk L (stP S a k (some v))) := by
  obtain ⟨ks, h1, h2⟩ := kF_at h L
  have hk : k < ks.length := (List.getElem?_eq_some_iff.mp h2).1
  unfold sf
  rw [mk_at h1]
  show (if c = c ∧ k < (ks.mapIdx (fun k q => mkF S a k q)).length then some ((mk L S).set a (.inr (c, (ks.mapIdx (fun k q => mkF S a k q)).set k (.ref v)))) else none) = _
  rw [if_pos ⟨rfl, by rw [List.length_mapIdx]; exact hk⟩]
  rw [← mk_set h1 stP_o]
  congr 3
  congr 1
  apply List.ext_getElem?
  intro j
  rw [List.getElem?_set, List.getElem?_mapIdx, List.getElem?_mapIdx, List.length_mapIdx]
  by_cases q : k = j
  · subst q
    rw [if_pos rfl, if_pos hk, h2]
    show _ = some (va_rf (if a = a ∧ k = k then some v else S.2.2 a k))
    rw [if_pos ⟨rfl, rfl⟩]
    rfl
  · rw [if_neg q]
    cases ks[j]? with
    | none => rfl
    | some z =>
      simp only [Option.map_some]
      rw [mkF_of (S := S) (S' := stP S a k (some v))]
      · rfl
      · show (if a = a ∧ j = k then some v else S.2.2 a j) = _
        rw [if_neg (fun z => q z.2.symm)]
theorem sa_mk {t : Nat} {v : Int32} (h : kA a = some (t, n)) (ht : t ≠ 4 ∧ t ≠ 5) (hi : vinb i n = true) : sa t (mk L S) a i v = some (mk L (stI S a i.toNatClampNeg v)) := by
  unfold sa
  rw [mk_at (kA_at h L)]
  show (match some (Sum.inl (t, n, if t = 4 then Sum.inr (.inl (S.2.1 a)) else if t = 5 then Sum.inr (.inr (.inr (.inr (S.2.2 a)))) else Sum.inl (S.1 a)) : gMC) with | some (.inl (t', n, .inl f)) => if t' = t ∧ vinb i n = true then some ((mk L S).set a (.inl (t, n, .inl (upd f i.toNatClampNeg v)))) else none | _ => none) = _
  rw [if_neg ht.1, if_neg ht.2]
  show (if t = t ∧ vinb i n = true then some ((mk L S).set a (.inl (t, n, .inl (upd (S.1 a) i.toNatClampNeg v)))) else none) = _
  rw [if_pos ⟨rfl, hi⟩, ← mk_set (kA_at h L) stI_o]
  congr 3
  rw [if_neg ht.1, if_neg ht.2]
  congr 3
  funext j
  show _ = if a = a ∧ j = i.toNatClampNeg then v else S.1 a j
  unfold upd
  by_cases q : j = i.toNatClampNeg
  · rw [if_pos q, if_pos ⟨rfl, q⟩]
  · rw [if_neg q, if_neg (fun z => q z.2)]
theorem saL_mk {v : Int64} (h : kA a = some (4, n)) (hi : vinb i n = true) : saL (mk L S) a i v = some (mk L (stL S a i.toNatClampNeg v)) := by
  unfold saL
  rw [mk_at (kA_at h L)]
  show (if 4 = 4 ∧ vinb i n = true then some ((mk L S).set a (.inl (4, n, .inr (.inl (vp_updL (S.2.1 a) i.toNatClampNeg v))))) else none) = _
  rw [if_pos ⟨rfl, hi⟩, ← mk_set (kA_at h L) stL_o]
  congr 3
  rw [if_pos rfl]
  congr 4
  funext j
  show _ = if a = a ∧ j = i.toNatClampNeg then v else S.2.1 a j
  unfold vp_updL
  by_cases q : j = i.toNatClampNeg
  · rw [if_pos q, if_pos ⟨rfl, q⟩]
  · rw [if_neg q, if_neg (fun z => q z.2)]
theorem saR_mk {v j : Nat} {q : Nat} (h : kA a = some (5, n)) (hi : vinb i n = true) (hv : kF v 7 j = some q) : saR (mk L S) a i v = some (mk L (stP S a i.toNatClampNeg (some v))) := by
  obtain ⟨ks, h1, h2⟩ := kF_at hv L
  unfold saR
  rw [mk_at (kA_at h L), mk_at h1]
  show (if 5 = 5 ∧ vinb i n = true then some ((mk L S).set a (.inl (5, n, .inr (.inr (.inr (.inr (va_up (S.2.2 a) i.toNatClampNeg (some v)))))))) else none) = _
  rw [if_pos ⟨rfl, hi⟩, ← mk_set (kA_at h L) stP_o]
  congr 3
  rw [if_neg (by decide), if_pos rfl]
  congr 7
  funext z
  show _ = if a = a ∧ z = i.toNatClampNeg then some v else S.2.2 a z
  unfold va_up
  by_cases q : z = i.toNatClampNeg
  · rw [if_pos q, if_pos ⟨rfl, q⟩]
  · rw [if_neg q, if_neg (fun z => q z.2)]
theorem vinb_nI {j n : Nat} (h : j < n) (hn : n < 2 ^ 31) : vinb (nI j) n = true := by
  unfold vinb
  have h1 : ¬ nI j < 0 := nI_pos (by omega)
  have h2 : ¬ n ≤ (nI j).toNatClampNeg := by rw [nI_clamp (by omega)]; omega
  rw [decide_eq_false h1, decide_eq_false h2]
  rfl
end MKR
