/-! EVERY CELL'S READING AND WRITING. z: cells that stand alone (c: the kind, i r: an int, a reference read, s: a field written, g p: an element read, written, n: how long), q: of a State a, y: of a Rule a; rd: what is read behind a writing. -/
theorem rdI {S : gS} {a k b j : Nat} {v : Int32} : (stI S a k v).1 b j = if b = a ∧ j = k then v else S.1 b j := rfl
theorem rdI2 {S : gS} {a k : Nat} {v : Int32} : (stI S a k v).2 = S.2 := rfl
theorem rdL {S : gS} {a k b j : Nat} {v : Int64} : (stL S a k v).2.1 b j = if b = a ∧ j = k then v else S.2.1 b j := rfl
theorem rdL1 {S : gS} {a k : Nat} {v : Int64} : (stL S a k v).1 = S.1 := rfl
theorem rdL2 {S : gS} {a k : Nat} {v : Int64} : (stL S a k v).2.2 = S.2.2 := rfl
theorem rdP {S : gS} {a k b j : Nat} {v : Option Nat} : (stP S a k v).2.2 b j = if b = a ∧ j = k then v else S.2.2 b j := rfl
theorem rdP1 {S : gS} {a k : Nat} {v : Option Nat} : (stP S a k v).1 = S.1 := rfl
theorem rdP2 {S : gS} {a k : Nat} {v : Option Nat} : (stP S a k v).2.1 = S.2.1 := rfl
theorem nI_lit (a n : Nat) : nI a + (OfNat.ofNat n : Int32) = nI (a + n) := nI_add a n
theorem lit_nI (a n : Nat) : (OfNat.ofNat n : Int32) + nI a = nI (n + a) := nI_add n a
section GEN
variable {L : Nat} {S : gS} {a n t j r q : Nat} {v : Int32} {w : Int64}
theorem ga_nI (h : kA a = some (t, n)) (ht : t ≠ 4 ∧ t ≠ 5) (hj : j < n) (hn : n < 2 ^ 31) : ga t (mk L S) a (nI j) = some (S.1 a j) := by
  rw [ga_mk h ht (vinb_nI hj hn), nI_clamp (Nat.lt_trans hj hn)]
theorem sa_nI (h : kA a = some (t, n)) (ht : t ≠ 4 ∧ t ≠ 5) (hj : j < n) (hn : n < 2 ^ 31) : sa t (mk L S) a (nI j) v = some (mk L (stI S a j v)) := by
  rw [sa_mk h ht (vinb_nI hj hn), nI_clamp (Nat.lt_trans hj hn)]
theorem gaL_nI (h : kA a = some (4, n)) (hj : j < n) (hn : n < 2 ^ 31) : gaL (mk L S) a (nI j) = some (S.2.1 a j) := by
  rw [gaL_mk h (vinb_nI hj hn), nI_clamp (Nat.lt_trans hj hn)]
theorem saL_nI (h : kA a = some (4, n)) (hj : j < n) (hn : n < 2 ^ 31) : saL (mk L S) a (nI j) w = some (mk L (stL S a j w)) := by
  rw [saL_mk h (vinb_nI hj hn), nI_clamp (Nat.lt_trans hj hn)]
theorem gaR_nI (h : kA a = some (5, n)) (hj : j < n) (hn : n < 2 ^ 31) : gaR (mk L S) a (nI j) = S.2.2 a j := by
  rw [gaR_mk h (vinb_nI hj hn), nI_clamp (Nat.lt_trans hj hn)]
theorem saR_nI (h : kA a = some (5, n)) (hj : j < n) (hn : n < 2 ^ 31) (hr : kF r 7 0 = some q) : saR (mk L S) a (nI j) r = some (mk L (stP S a j (some r))) := by
  rw [saR_mk h (vinb_nI hj hn) hr, nI_clamp (Nat.lt_trans hj hn)]
theorem ga_no {t' : Nat} {i : Int32} (h : kA a = some (t, n)) (ht : t ≠ 4 ∧ t ≠ 5) (hne : t ≠ t') : ga t' (mk L S) a i = none := by
  unfold ga
  rw [mk_at (kA_at h L)]
  show (match some (Sum.inl (t, n, if t = 4 then Sum.inr (.inl (S.2.1 a)) else if t = 5 then Sum.inr (.inr (.inr (.inr (S.2.2 a)))) else Sum.inl (S.1 a)) : gMC) with | some (.inl (t'', n, .inl f)) => if t'' = t' ∧ vinb i n = true then some (f i.toNatClampNeg) else none | _ => none) = _
  rw [if_neg ht.1, if_neg ht.2]
  show (if t = t' ∧ vinb i n = true then _ else _) = _
  rw [if_neg (fun z => hne z.1)]
theorem sa_no {t' : Nat} {i : Int32} (h : kA a = some (t, n)) (ht : t ≠ 4 ∧ t ≠ 5) (hne : t ≠ t') : sa t' (mk L S) a i v = none := by
  unfold sa
  rw [mk_at (kA_at h L)]
  show (match some (Sum.inl (t, n, if t = 4 then Sum.inr (.inl (S.2.1 a)) else if t = 5 then Sum.inr (.inr (.inr (.inr (S.2.2 a)))) else Sum.inl (S.1 a)) : gMC) with | some (.inl (t'', n, .inl f)) => if t'' = t' ∧ vinb i n = true then some ((mk L S).set a (.inl (t', n, .inl (upd f i.toNatClampNeg v)))) else none | _ => none) = _
  rw [if_neg ht.1, if_neg ht.2]
  show (if t = t' ∧ vinb i n = true then _ else _) = _
  rw [if_neg (fun z => hne z.1)]
theorem gaB_nI1 (h : kA a = some (1, n)) (hj : j < n) (hn : n < 2 ^ 31) : gaB (mk L S) a (nI j) = some (S.1 a j) := by
  unfold gaB
  rw [ga_nI h (by decide) hj hn]
theorem gaB_nI2 (h : kA a = some (2, n)) (hj : j < n) (hn : n < 2 ^ 31) : gaB (mk L S) a (nI j) = some (S.1 a j) := by
  unfold gaB
  rw [ga_no h (by decide) (by decide), ga_nI h (by decide) hj hn]
theorem gaB_nI8 (h : kA a = some (8, n)) (hj : j < n) (hn : n < 2 ^ 31) (h6 : 6 ≤ a ∧ a < 10) : gaB (mk L S) a (nI j) = some (S.1 a j) := by
  unfold gaB
  rw [ga_no h (by decide) (by decide), ga_no h (by decide) (by decide), if_pos h6, ga_nI h (by decide) hj hn]
theorem saB_nI1 (h : kA a = some (1, n)) (hj : j < n) (hn : n < 2 ^ 31) : saB (mk L S) a (nI j) v = some (mk L (stI S a j (vp_nar .byte v))) := by
  unfold saB
  rw [sa_nI h (by decide) hj hn]
theorem saB_nI2 (h : kA a = some (2, n)) (hj : j < n) (hn : n < 2 ^ 31) : saB (mk L S) a (nI j) v = some (mk L (stI S a j (vp_nar .boolean v))) := by
  unfold saB
  rw [sa_no h (by decide) (by decide), sa_nI h (by decide) hj hn]
theorem gaC_nI (h : kA a = some (3, n)) (hj : j < n) (hn : n < 2 ^ 31) : gaC (mk L S) a (nI j) = some (S.1 a j) := by
  unfold gaC
  rw [ga_nI h (by decide) hj hn]
theorem gaC_nI7 (h : kA 1 = some (7, n)) (hj : j < n) (hn : n < 2 ^ 31) : gaC (mk L S) 1 (nI j) = some (S.1 1 j) := by
  unfold gaC
  rw [ga_no h (by decide) (by decide), if_pos rfl, ga_nI h (by decide) hj hn]
end GEN
section ACC
variable {L : Nat} {S : gS} {j r : Nat} {v : Int32} {w : Int64}
theorem zg1 (hj : j < 5) : gaC (mk L S) 1 (nI j) = some (S.1 1 j) := gaC_nI7 (by rfl) hj (by decide)
theorem zn1 : gn (mk L S) 1 = some (nI 5) := gn_mk (t := 7) (by rfl) (Or.inr (Or.inl ⟨rfl, rfl⟩))
theorem zg6 (hj : j < 1) : gaB (mk L S) 6 (nI j) = some (S.1 6 j) := gaB_nI8 (by rfl) hj (by decide) (by decide)
theorem zn6 : gn (mk L S) 6 = some (nI 1) := gn_mk (t := 8) (by rfl) (Or.inr (Or.inr ⟨rfl, by decide, by decide⟩))
theorem zg7 (hj : j < 4) : gaB (mk L S) 7 (nI j) = some (S.1 7 j) := gaB_nI8 (by rfl) hj (by decide) (by decide)
theorem zn7 : gn (mk L S) 7 = some (nI 4) := gn_mk (t := 8) (by rfl) (Or.inr (Or.inr ⟨rfl, by decide, by decide⟩))
theorem zg8 (hj : j < 2) : gaB (mk L S) 8 (nI j) = some (S.1 8 j) := gaB_nI8 (by rfl) hj (by decide) (by decide)
theorem zn8 : gn (mk L S) 8 = some (nI 2) := gn_mk (t := 8) (by rfl) (Or.inr (Or.inr ⟨rfl, by decide, by decide⟩))
theorem zg9 (hj : j < 0) : gaB (mk L S) 9 (nI j) = some (S.1 9 j) := gaB_nI8 (by rfl) hj (by decide) (by decide)
theorem zn9 : gn (mk L S) 9 = some (nI 0) := gn_mk (t := 8) (by rfl) (Or.inr (Or.inr ⟨rfl, by decide, by decide⟩))
theorem zc10 : gcl (mk L S) 10 10 = some () := gcl_mk (k := 0) (by rfl)
theorem zr10_0 : gfR (mk L S) 10 10 0 = some 11 := gfR_mk (by rfl)
theorem zr10_1 : gfR (mk L S) 10 10 1 = some 13 := gfR_mk (by rfl)
theorem zr10_2 : gfR (mk L S) 10 10 2 = some 15 := gfR_mk (by rfl)
theorem zr10_3 : gfR (mk L S) 10 10 3 = some 19 := gfR_mk (by rfl)
theorem zr10_4 : gfR (mk L S) 10 10 4 = some 25 := gfR_mk (by rfl)
theorem zr10_5 : gfR (mk L S) 10 10 5 = some 31 := gfR_mk (by rfl)
theorem zr10_6 : gfR (mk L S) 10 10 6 = some 37 := gfR_mk (by rfl)
theorem zr10_7 : gfR (mk L S) 10 10 7 = some 40 := gfR_mk (by rfl)
theorem zr10_8 : gfR (mk L S) 10 10 8 = some 128 := gfR_mk (by rfl)
theorem zr10_9 : gfR (mk L S) 10 10 9 = some 131 := gfR_mk (by rfl)
theorem zr10_10 : gfR (mk L S) 10 10 10 = some 135 := gfR_mk (by rfl)
theorem zr10_11 (h : S.2.2 10 11 = some r) : gfR (mk L S) 10 10 11 = some r := gfP_mk (by rfl) h
theorem zs10_11 : sf (mk L S) 10 10 11 (.ref r) = some (mk L (stP S 10 11 (some r))) := sfP_mk (by rfl)
theorem zr10_12 (h : S.2.2 10 12 = some r) : gfR (mk L S) 10 10 12 = some r := gfP_mk (by rfl) h
theorem zs10_12 : sf (mk L S) 10 10 12 (.ref r) = some (mk L (stP S 10 12 (some r))) := sfP_mk (by rfl)
theorem zc11 : gcl (mk L S) 11 8 = some () := gcl_mk (k := 0) (by rfl)
theorem zr11_0 : gfR (mk L S) 11 8 0 = some 12 := gfR_mk (by rfl)
theorem zi11_1 : gfI (mk L S) 11 8 1 = some (S.1 11 1) := gfI_mk (by rfl)
theorem zs11_1 : sf (mk L S) 11 8 1 (.int v) = some (mk L (stI S 11 1 v)) := sf_mk (by rfl)
theorem zg12 (hj : j < 80) : gaC (mk L S) 12 (nI j) = some (S.1 12 j) := gaC_nI (by rfl) hj (by decide)
theorem zp12 (hj : j < 80) : sa 3 (mk L S) 12 (nI j) v = some (mk L (stI S 12 j v)) := sa_nI (by rfl) (by decide) hj (by decide)
theorem zn12 : gn (mk L S) 12 = some (nI 80) := gn_mk (t := 3) (by rfl) (Or.inl (by decide))
theorem zc13 : gcl (mk L S) 13 4 = some () := gcl_mk (k := 0) (by rfl)
theorem zr13_0 : gfR (mk L S) 13 4 0 = some 14 := gfR_mk (by rfl)
theorem zi13_1 : gfI (mk L S) 13 4 1 = some (S.1 13 1) := gfI_mk (by rfl)
theorem zs13_1 : sf (mk L S) 13 4 1 (.int v) = some (mk L (stI S 13 1 v)) := sf_mk (by rfl)
theorem zg14 (hj : j < 8) : gaL (mk L S) 14 (nI j) = some (S.2.1 14 j) := gaL_nI (by rfl) hj (by decide)
theorem zp14 (hj : j < 8) : saL (mk L S) 14 (nI j) w = some (mk L (stL S 14 j w)) := saL_nI (by rfl) hj (by decide)
theorem zn14 : gn (mk L S) 14 = some (nI 8) := gn_mk (t := 4) (by rfl) (Or.inl (by decide))
theorem zc15 : gcl (mk L S) 15 1 = some () := gcl_mk (k := 0) (by rfl)
theorem zi15_0 : gfI (mk L S) 15 1 0 = some (S.1 15 0) := gfI_mk (by rfl)
theorem zs15_0 : sf (mk L S) 15 1 0 (.int v) = some (mk L (stI S 15 0 v)) := sf_mk (by rfl)
theorem zi15_1 : gfI (mk L S) 15 1 1 = some (S.1 15 1) := gfI_mk (by rfl)
theorem zs15_1 : sf (mk L S) 15 1 1 (.int v) = some (mk L (stI S 15 1 v)) := sf_mk (by rfl)
theorem zi15_2 : gfI (mk L S) 15 1 2 = some (S.1 15 2) := gfI_mk (by rfl)
theorem zs15_2 : sf (mk L S) 15 1 2 (.int v) = some (mk L (stI S 15 2 v)) := sf_mk (by rfl)
theorem zr15_3 : gfR (mk L S) 15 1 3 = some 16 := gfR_mk (by rfl)
theorem zr15_4 : gfR (mk L S) 15 1 4 = some 17 := gfR_mk (by rfl)
theorem zr15_5 : gfR (mk L S) 15 1 5 = some 18 := gfR_mk (by rfl)
theorem zg16 (hj : j < 6) : ga 0 (mk L S) 16 (nI j) = some (S.1 16 j) := ga_nI (by rfl) (by decide) hj (by decide)
theorem zp16 (hj : j < 6) : sa 0 (mk L S) 16 (nI j) v = some (mk L (stI S 16 j v)) := sa_nI (by rfl) (by decide) hj (by decide)
theorem zn16 : gn (mk L S) 16 = some (nI 6) := gn_mk (t := 0) (by rfl) (Or.inl (by decide))
theorem zg17 (hj : j < 6) : ga 0 (mk L S) 17 (nI j) = some (S.1 17 j) := ga_nI (by rfl) (by decide) hj (by decide)
theorem zp17 (hj : j < 6) : sa 0 (mk L S) 17 (nI j) v = some (mk L (stI S 17 j v)) := sa_nI (by rfl) (by decide) hj (by decide)
theorem zn17 : gn (mk L S) 17 = some (nI 6) := gn_mk (t := 0) (by rfl) (Or.inl (by decide))
theorem zg18 (hj : j < 36) : ga 0 (mk L S) 18 (nI j) = some (S.1 18 j) := ga_nI (by rfl) (by decide) hj (by decide)
theorem zp18 (hj : j < 36) : sa 0 (mk L S) 18 (nI j) v = some (mk L (stI S 18 j v)) := sa_nI (by rfl) (by decide) hj (by decide)
theorem zn18 : gn (mk L S) 18 = some (nI 36) := gn_mk (t := 0) (by rfl) (Or.inl (by decide))
theorem zc37 : gcl (mk L S) 37 0 = some () := gcl_mk (k := 0) (by rfl)
theorem zr37_0 : gfR (mk L S) 37 0 0 = some 38 := gfR_mk (by rfl)
theorem zr37_1 : gfR (mk L S) 37 0 1 = some 39 := gfR_mk (by rfl)
theorem zg38 (hj : j < 6) : ga 0 (mk L S) 38 (nI j) = some (S.1 38 j) := ga_nI (by rfl) (by decide) hj (by decide)
theorem zp38 (hj : j < 6) : sa 0 (mk L S) 38 (nI j) v = some (mk L (stI S 38 j v)) := sa_nI (by rfl) (by decide) hj (by decide)
theorem zn38 : gn (mk L S) 38 = some (nI 6) := gn_mk (t := 0) (by rfl) (Or.inl (by decide))
theorem zg39 (hj : j < 6) : ga 0 (mk L S) 39 (nI j) = some (S.1 39 j) := ga_nI (by rfl) (by decide) hj (by decide)
theorem zp39 (hj : j < 6) : sa 0 (mk L S) 39 (nI j) v = some (mk L (stI S 39 j v)) := sa_nI (by rfl) (by decide) hj (by decide)
theorem zn39 : gn (mk L S) 39 = some (nI 6) := gn_mk (t := 0) (by rfl) (Or.inl (by decide))
theorem zc40 : gcl (mk L S) 40 5 = some () := gcl_mk (k := 0) (by rfl)
theorem zr40_0 : gfR (mk L S) 40 5 0 = some 41 := gfR_mk (by rfl)
theorem zr40_1 : gfR (mk L S) 40 5 1 = some 42 := gfR_mk (by rfl)
theorem zr40_2 : gfR (mk L S) 40 5 2 = some 43 := gfR_mk (by rfl)
theorem zi40_3 : gfI (mk L S) 40 5 3 = some (S.1 40 3) := gfI_mk (by rfl)
theorem zs40_3 : sf (mk L S) 40 5 3 (.int v) = some (mk L (stI S 40 3 v)) := sf_mk (by rfl)
theorem zg41 (hj : j < 12) : gaR (mk L S) 41 (nI j) = S.2.2 41 j := gaR_nI (by rfl) hj (by decide)
theorem zp41 (hj : j < 12) {q : Nat} (hr : kF r 7 0 = some q) : saR (mk L S) 41 (nI j) r = some (mk L (stP S 41 j (some r))) := saR_nI (by rfl) hj (by decide) hr
theorem zn41 : gn (mk L S) 41 = some (nI 12) := gn_mk (t := 5) (by rfl) (Or.inl (by decide))
theorem zg42 (hj : j < 2) : gaR (mk L S) 42 (nI j) = S.2.2 42 j := gaR_nI (by rfl) hj (by decide)
theorem zp42 (hj : j < 2) {q : Nat} (hr : kF r 7 0 = some q) : saR (mk L S) 42 (nI j) r = some (mk L (stP S 42 j (some r))) := saR_nI (by rfl) hj (by decide) hr
theorem zn42 : gn (mk L S) 42 = some (nI 2) := gn_mk (t := 5) (by rfl) (Or.inl (by decide))
theorem zg43 (hj : j < 2) : gaB (mk L S) 43 (nI j) = some (S.1 43 j) := gaB_nI2 (by rfl) hj (by decide)
theorem zp43 (hj : j < 2) : saB (mk L S) 43 (nI j) v = some (mk L (stI S 43 j (vp_nar .boolean v))) := saB_nI2 (by rfl) hj (by decide)
theorem zn43 : gn (mk L S) 43 = some (nI 2) := gn_mk (t := 2) (by rfl) (Or.inl (by decide))
theorem zc128 : gcl (mk L S) 128 2 = some () := gcl_mk (k := 0) (by rfl)
theorem zr128_0 : gfR (mk L S) 128 2 0 = some 129 := gfR_mk (by rfl)
theorem zr128_1 : gfR (mk L S) 128 2 1 = some 130 := gfR_mk (by rfl)
theorem zi128_2 : gfI (mk L S) 128 2 2 = some (S.1 128 2) := gfI_mk (by rfl)
theorem zs128_2 : sf (mk L S) 128 2 2 (.int v) = some (mk L (stI S 128 2 v)) := sf_mk (by rfl)
theorem zg129 (hj : j < 12) : ga 0 (mk L S) 129 (nI j) = some (S.1 129 j) := ga_nI (by rfl) (by decide) hj (by decide)
theorem zp129 (hj : j < 12) : sa 0 (mk L S) 129 (nI j) v = some (mk L (stI S 129 j v)) := sa_nI (by rfl) (by decide) hj (by decide)
theorem zn129 : gn (mk L S) 129 = some (nI 12) := gn_mk (t := 0) (by rfl) (Or.inl (by decide))
theorem zg130 (hj : j < 12) : ga 0 (mk L S) 130 (nI j) = some (S.1 130 j) := ga_nI (by rfl) (by decide) hj (by decide)
theorem zp130 (hj : j < 12) : sa 0 (mk L S) 130 (nI j) v = some (mk L (stI S 130 j v)) := sa_nI (by rfl) (by decide) hj (by decide)
theorem zn130 : gn (mk L S) 130 = some (nI 12) := gn_mk (t := 0) (by rfl) (Or.inl (by decide))
theorem zc131 : gcl (mk L S) 131 9 = some () := gcl_mk (k := 0) (by rfl)
theorem zr131_0 : gfR (mk L S) 131 9 0 = some 132 := gfR_mk (by rfl)
theorem zr131_1 : gfR (mk L S) 131 9 1 = some 133 := gfR_mk (by rfl)
theorem zr131_2 : gfR (mk L S) 131 9 2 = some 134 := gfR_mk (by rfl)
theorem zg132 (hj : j < 8) : ga 0 (mk L S) 132 (nI j) = some (S.1 132 j) := ga_nI (by rfl) (by decide) hj (by decide)
theorem zp132 (hj : j < 8) : sa 0 (mk L S) 132 (nI j) v = some (mk L (stI S 132 j v)) := sa_nI (by rfl) (by decide) hj (by decide)
theorem zn132 : gn (mk L S) 132 = some (nI 8) := gn_mk (t := 0) (by rfl) (Or.inl (by decide))
theorem zg133 (hj : j < 36) : ga 0 (mk L S) 133 (nI j) = some (S.1 133 j) := ga_nI (by rfl) (by decide) hj (by decide)
theorem zp133 (hj : j < 36) : sa 0 (mk L S) 133 (nI j) v = some (mk L (stI S 133 j v)) := sa_nI (by rfl) (by decide) hj (by decide)
theorem zn133 : gn (mk L S) 133 = some (nI 36) := gn_mk (t := 0) (by rfl) (Or.inl (by decide))
theorem zg134 (hj : j < 2368) : ga 0 (mk L S) 134 (nI j) = some (S.1 134 j) := ga_nI (by rfl) (by decide) hj (by decide)
theorem zp134 (hj : j < 2368) : sa 0 (mk L S) 134 (nI j) v = some (mk L (stI S 134 j v)) := sa_nI (by rfl) (by decide) hj (by decide)
theorem zn134 : gn (mk L S) 134 = some (nI 2368) := gn_mk (t := 0) (by rfl) (Or.inl (by decide))
theorem zc135 : gcl (mk L S) 135 3 = some () := gcl_mk (k := 0) (by rfl)
theorem zi135_0 : gfI (mk L S) 135 3 0 = some (S.1 135 0) := gfI_mk (by rfl)
theorem zs135_0 : sf (mk L S) 135 3 0 (.int v) = some (mk L (stI S 135 0 v)) := sf_mk (by rfl)
theorem zc144 : gcl (mk L S) 144 11 = some () := gcl_mk (k := 0) (by rfl)
theorem zr144_0 : gfR (mk L S) 144 11 0 = some 145 := gfR_mk (by rfl)
theorem zi144_1 : gfI (mk L S) 144 11 1 = some (S.1 144 1) := gfI_mk (by rfl)
theorem zs144_1 : sf (mk L S) 144 11 1 (.int v) = some (mk L (stI S 144 1 v)) := sf_mk (by rfl)
theorem zi144_2 : gfI (mk L S) 144 11 2 = some (S.1 144 2) := gfI_mk (by rfl)
theorem zs144_2 : sf (mk L S) 144 11 2 (.int v) = some (mk L (stI S 144 2 v)) := sf_mk (by rfl)
theorem zi144_3 : gfI (mk L S) 144 11 3 = some (S.1 144 3) := gfI_mk (by rfl)
theorem zs144_3 : sf (mk L S) 144 11 3 (.int v) = some (mk L (stI S 144 3 v)) := sf_mk (by rfl)
theorem zr144_4 : gfR (mk L S) 144 11 4 = some 146 := gfR_mk (by rfl)
theorem zr144_5 : gfR (mk L S) 144 11 5 = some 147 := gfR_mk (by rfl)
theorem zr144_6 : gfR (mk L S) 144 11 6 = some 148 := gfR_mk (by rfl)
theorem zi144_7 : gfI (mk L S) 144 11 7 = some (S.1 144 7) := gfI_mk (by rfl)
theorem zs144_7 : sf (mk L S) 144 11 7 (.int v) = some (mk L (stI S 144 7 v)) := sf_mk (by rfl)
theorem zr144_8 : gfR (mk L S) 144 11 8 = some 149 := gfR_mk (by rfl)
theorem zi144_9 : gfI (mk L S) 144 11 9 = some (S.1 144 9) := gfI_mk (by rfl)
theorem zs144_9 : sf (mk L S) 144 11 9 (.int v) = some (mk L (stI S 144 9 v)) := sf_mk (by rfl)
theorem zi144_10 : gfI (mk L S) 144 11 10 = some (S.1 144 10) := gfI_mk (by rfl)
theorem zs144_10 : sf (mk L S) 144 11 10 (.int v) = some (mk L (stI S 144 10 v)) := sf_mk (by rfl)
theorem zr144_11 (h : S.2.2 144 11 = some r) : gfR (mk L S) 144 11 11 = some r := gfP_mk (by rfl) h
theorem zs144_11 : sf (mk L S) 144 11 11 (.ref r) = some (mk L (stP S 144 11 (some r))) := sfP_mk (by rfl)
theorem zi144_12 : gfI (mk L S) 144 11 12 = some (S.1 144 12) := gfI_mk (by rfl)
theorem zs144_12 : sf (mk L S) 144 11 12 (.int v) = some (mk L (stI S 144 12 v)) := sf_mk (by rfl)
theorem zi144_13 : gfI (mk L S) 144 11 13 = some (S.1 144 13) := gfI_mk (by rfl)
theorem zs144_13 : sf (mk L S) 144 11 13 (.int v) = some (mk L (stI S 144 13 v)) := sf_mk (by rfl)
theorem zi144_14 : gfI (mk L S) 144 11 14 = some (S.1 144 14) := gfI_mk (by rfl)
theorem zs144_14 : sf (mk L S) 144 11 14 (.int v) = some (mk L (stI S 144 14 v)) := sf_mk (by rfl)
theorem zi144_15 : gfI (mk L S) 144 11 15 = some (S.1 144 15) := gfI_mk (by rfl)
theorem zs144_15 : sf (mk L S) 144 11 15 (.int v) = some (mk L (stI S 144 15 v)) := sf_mk (by rfl)
theorem zr144_16 : gfR (mk L S) 144 11 16 = some 150 := gfR_mk (by rfl)
theorem zr144_17 (h : S.2.2 144 17 = some r) : gfR (mk L S) 144 11 17 = some r := gfP_mk (by rfl) h
theorem zs144_17 : sf (mk L S) 144 11 17 (.ref r) = some (mk L (stP S 144 17 (some r))) := sfP_mk (by rfl)
theorem zr144_18 : gfR (mk L S) 144 11 18 = some 152 := gfR_mk (by rfl)
theorem zi144_19 : gfI (mk L S) 144 11 19 = some (S.1 144 19) := gfI_mk (by rfl)
theorem zs144_19 : sf (mk L S) 144 11 19 (.int v) = some (mk L (stI S 144 19 v)) := sf_mk (by rfl)
theorem zi144_20 : gfI (mk L S) 144 11 20 = some (S.1 144 20) := gfI_mk (by rfl)
theorem zs144_20 : sf (mk L S) 144 11 20 (.int v) = some (mk L (stI S 144 20 v)) := sf_mk (by rfl)
theorem zr144_21 : gfR (mk L S) 144 11 21 = some 153 := gfR_mk (by rfl)
theorem zr144_22 : gfR (mk L S) 144 11 22 = some 154 := gfR_mk (by rfl)
theorem zi144_23 : gfI (mk L S) 144 11 23 = some (S.1 144 23) := gfI_mk (by rfl)
theorem zs144_23 : sf (mk L S) 144 11 23 (.int v) = some (mk L (stI S 144 23 v)) := sf_mk (by rfl)
theorem zr144_24 : gfR (mk L S) 144 11 24 = some 155 := gfR_mk (by rfl)
theorem zr144_25 : gfR (mk L S) 144 11 25 = some 156 := gfR_mk (by rfl)
theorem zr144_26 : gfR (mk L S) 144 11 26 = some 157 := gfR_mk (by rfl)
theorem zr144_27 : gfR (mk L S) 144 11 27 = some 158 := gfR_mk (by rfl)
theorem zr144_28 : gfR (mk L S) 144 11 28 = some 159 := gfR_mk (by rfl)
theorem zr144_29 : gfR (mk L S) 144 11 29 = some 160 := gfR_mk (by rfl)
theorem zr144_30 : gfR (mk L S) 144 11 30 = some 161 := gfR_mk (by rfl)
theorem zr144_31 : gfR (mk L S) 144 11 31 = some 162 := gfR_mk (by rfl)
theorem zr144_32 : gfR (mk L S) 144 11 32 = some 163 := gfR_mk (by rfl)
theorem zr144_33 : gfR (mk L S) 144 11 33 = some 164 := gfR_mk (by rfl)
theorem zi144_34 : gfI (mk L S) 144 11 34 = some (S.1 144 34) := gfI_mk (by rfl)
theorem zs144_34 : sf (mk L S) 144 11 34 (.int v) = some (mk L (stI S 144 34 v)) := sf_mk (by rfl)
theorem zr144_35 : gfR (mk L S) 144 11 35 = some 165 := gfR_mk (by rfl)
theorem zr144_36 : gfR (mk L S) 144 11 36 = some 166 := gfR_mk (by rfl)
theorem zi144_37 : gfI (mk L S) 144 11 37 = some (S.1 144 37) := gfI_mk (by rfl)
theorem zs144_37 : sf (mk L S) 144 11 37 (.int v) = some (mk L (stI S 144 37 v)) := sf_mk (by rfl)
theorem zi144_38 : gfI (mk L S) 144 11 38 = some (S.1 144 38) := gfI_mk (by rfl)
theorem zs144_38 : sf (mk L S) 144 11 38 (.int v) = some (mk L (stI S 144 38 v)) := sf_mk (by rfl)
theorem zr144_39 : gfR (mk L S) 144 11 39 = some 167 := gfR_mk (by rfl)
theorem zr144_40 : gfR (mk L S) 144 11 40 = some 168 := gfR_mk (by rfl)
theorem zr144_41 : gfR (mk L S) 144 11 41 = some 169 := gfR_mk (by rfl)
theorem zg145 (hj : j < 43) : ga 0 (mk L S) 145 (nI j) = some (S.1 145 j) := ga_nI (by rfl) (by decide) hj (by decide)
theorem zp145 (hj : j < 43) : sa 0 (mk L S) 145 (nI j) v = some (mk L (stI S 145 j v)) := sa_nI (by rfl) (by decide) hj (by decide)
theorem zn145 : gn (mk L S) 145 = some (nI 43) := gn_mk (t := 0) (by rfl) (Or.inl (by decide))
theorem zg146 (hj : j < 6) : ga 0 (mk L S) 146 (nI j) = some (S.1 146 j) := ga_nI (by rfl) (by decide) hj (by decide)
theorem zp146 (hj : j < 6) : sa 0 (mk L S) 146 (nI j) v = some (mk L (stI S 146 j v)) := sa_nI (by rfl) (by decide) hj (by decide)
theorem zn146 : gn (mk L S) 146 = some (nI 6) := gn_mk (t := 0) (by rfl) (Or.inl (by decide))
theorem zg147 (hj : j < 6) : ga 0 (mk L S) 147 (nI j) = some (S.1 147 j) := ga_nI (by rfl) (by decide) hj (by decide)
theorem zp147 (hj : j < 6) : sa 0 (mk L S) 147 (nI j) v = some (mk L (stI S 147 j v)) := sa_nI (by rfl) (by decide) hj (by decide)
theorem zn147 : gn (mk L S) 147 = some (nI 6) := gn_mk (t := 0) (by rfl) (Or.inl (by decide))
theorem zg148 (hj : j < 80) : gaB (mk L S) 148 (nI j) = some (S.1 148 j) := gaB_nI1 (by rfl) hj (by decide)
theorem zp148 (hj : j < 80) : saB (mk L S) 148 (nI j) v = some (mk L (stI S 148 j (vp_nar .byte v))) := saB_nI1 (by rfl) hj (by decide)
theorem zn148 : gn (mk L S) 148 = some (nI 80) := gn_mk (t := 1) (by rfl) (Or.inl (by decide))
theorem zg149 (hj : j < 16) : gaL (mk L S) 149 (nI j) = some (S.2.1 149 j) := gaL_nI (by rfl) hj (by decide)
theorem zp149 (hj : j < 16) : saL (mk L S) 149 (nI j) w = some (mk L (stL S 149 j w)) := saL_nI (by rfl) hj (by decide)
theorem zn149 : gn (mk L S) 149 = some (nI 16) := gn_mk (t := 4) (by rfl) (Or.inl (by decide))
theorem zg150 (hj : j < 36) : ga 0 (mk L S) 150 (nI j) = some (S.1 150 j) := ga_nI (by rfl) (by decide) hj (by decide)
theorem zp150 (hj : j < 36) : sa 0 (mk L S) 150 (nI j) v = some (mk L (stI S 150 j v)) := sa_nI (by rfl) (by decide) hj (by decide)
theorem zn150 : gn (mk L S) 150 = some (nI 36) := gn_mk (t := 0) (by rfl) (Or.inl (by decide))
theorem zg151 (hj : j < 40) : gaB (mk L S) 151 (nI j) = some (S.1 151 j) := gaB_nI1 (by rfl) hj (by decide)
theorem zp151 (hj : j < 40) : saB (mk L S) 151 (nI j) v = some (mk L (stI S 151 j (vp_nar .byte v))) := saB_nI1 (by rfl) hj (by decide)
theorem zn151 : gn (mk L S) 151 = some (nI 40) := gn_mk (t := 1) (by rfl) (Or.inl (by decide))
theorem zg152 (hj : j < 40) : gaB (mk L S) 152 (nI j) = some (S.1 152 j) := gaB_nI1 (by rfl) hj (by decide)
theorem zp152 (hj : j < 40) : saB (mk L S) 152 (nI j) v = some (mk L (stI S 152 j (vp_nar .byte v))) := saB_nI1 (by rfl) hj (by decide)
theorem zn152 : gn (mk L S) 152 = some (nI 40) := gn_mk (t := 1) (by rfl) (Or.inl (by decide))
theorem zg153 (hj : j < 7) : ga 0 (mk L S) 153 (nI j) = some (S.1 153 j) := ga_nI (by rfl) (by decide) hj (by decide)
theorem zp153 (hj : j < 7) : sa 0 (mk L S) 153 (nI j) v = some (mk L (stI S 153 j v)) := sa_nI (by rfl) (by decide) hj (by decide)
theorem zn153 : gn (mk L S) 153 = some (nI 7) := gn_mk (t := 0) (by rfl) (Or.inl (by decide))
theorem zg154 (hj : j < 516) : ga 0 (mk L S) 154 (nI j) = some (S.1 154 j) := ga_nI (by rfl) (by decide) hj (by decide)
theorem zp154 (hj : j < 516) : sa 0 (mk L S) 154 (nI j) v = some (mk L (stI S 154 j v)) := sa_nI (by rfl) (by decide) hj (by decide)
theorem zn154 : gn (mk L S) 154 = some (nI 516) := gn_mk (t := 0) (by rfl) (Or.inl (by decide))
theorem zg155 (hj : j < 43) : ga 0 (mk L S) 155 (nI j) = some (S.1 155 j) := ga_nI (by rfl) (by decide) hj (by decide)
theorem zp155 (hj : j < 43) : sa 0 (mk L S) 155 (nI j) v = some (mk L (stI S 155 j v)) := sa_nI (by rfl) (by decide) hj (by decide)
theorem zn155 : gn (mk L S) 155 = some (nI 43) := gn_mk (t := 0) (by rfl) (Or.inl (by decide))
theorem zg156 (hj : j < 43) : ga 0 (mk L S) 156 (nI j) = some (S.1 156 j) := ga_nI (by rfl) (by decide) hj (by decide)
theorem zp156 (hj : j < 43) : sa 0 (mk L S) 156 (nI j) v = some (mk L (stI S 156 j v)) := sa_nI (by rfl) (by decide) hj (by decide)
theorem zn156 : gn (mk L S) 156 = some (nI 43) := gn_mk (t := 0) (by rfl) (Or.inl (by decide))
theorem zg157 (hj : j < 8) : ga 0 (mk L S) 157 (nI j) = some (S.1 157 j) := ga_nI (by rfl) (by decide) hj (by decide)
theorem zp157 (hj : j < 8) : sa 0 (mk L S) 157 (nI j) v = some (mk L (stI S 157 j v)) := sa_nI (by rfl) (by decide) hj (by decide)
theorem zn157 : gn (mk L S) 157 = some (nI 8) := gn_mk (t := 0) (by rfl) (Or.inl (by decide))
theorem zg158 (hj : j < 6) : ga 0 (mk L S) 158 (nI j) = some (S.1 158 j) := ga_nI (by rfl) (by decide) hj (by decide)
theorem zp158 (hj : j < 6) : sa 0 (mk L S) 158 (nI j) v = some (mk L (stI S 158 j v)) := sa_nI (by rfl) (by decide) hj (by decide)
theorem zn158 : gn (mk L S) 158 = some (nI 6) := gn_mk (t := 0) (by rfl) (Or.inl (by decide))
theorem zg159 (hj : j < 6) : ga 0 (mk L S) 159 (nI j) = some (S.1 159 j) := ga_nI (by rfl) (by decide) hj (by decide)
theorem zp159 (hj : j < 6) : sa 0 (mk L S) 159 (nI j) v = some (mk L (stI S 159 j v)) := sa_nI (by rfl) (by decide) hj (by decide)
theorem zn159 : gn (mk L S) 159 = some (nI 6) := gn_mk (t := 0) (by rfl) (Or.inl (by decide))
theorem zg160 (hj : j < 320) : ga 0 (mk L S) 160 (nI j) = some (S.1 160 j) := ga_nI (by rfl) (by decide) hj (by decide)
theorem zp160 (hj : j < 320) : sa 0 (mk L S) 160 (nI j) v = some (mk L (stI S 160 j v)) := sa_nI (by rfl) (by decide) hj (by decide)
theorem zn160 : gn (mk L S) 160 = some (nI 320) := gn_mk (t := 0) (by rfl) (Or.inl (by decide))
theorem zg161 (hj : j < 2368) : ga 0 (mk L S) 161 (nI j) = some (S.1 161 j) := ga_nI (by rfl) (by decide) hj (by decide)
theorem zp161 (hj : j < 2368) : sa 0 (mk L S) 161 (nI j) v = some (mk L (stI S 161 j v)) := sa_nI (by rfl) (by decide) hj (by decide)
theorem zn161 : gn (mk L S) 161 = some (nI 2368) := gn_mk (t := 0) (by rfl) (Or.inl (by decide))
theorem zg162 (hj : j < 8) : ga 0 (mk L S) 162 (nI j) = some (S.1 162 j) := ga_nI (by rfl) (by decide) hj (by decide)
theorem zp162 (hj : j < 8) : sa 0 (mk L S) 162 (nI j) v = some (mk L (stI S 162 j v)) := sa_nI (by rfl) (by decide) hj (by decide)
theorem zn162 : gn (mk L S) 162 = some (nI 8) := gn_mk (t := 0) (by rfl) (Or.inl (by decide))
theorem zg163 (hj : j < 12) : ga 0 (mk L S) 163 (nI j) = some (S.1 163 j) := ga_nI (by rfl) (by decide) hj (by decide)
theorem zp163 (hj : j < 12) : sa 0 (mk L S) 163 (nI j) v = some (mk L (stI S 163 j v)) := sa_nI (by rfl) (by decide) hj (by decide)
theorem zn163 : gn (mk L S) 163 = some (nI 12) := gn_mk (t := 0) (by rfl) (Or.inl (by decide))
theorem zg164 (hj : j < 12) : ga 0 (mk L S) 164 (nI j) = some (S.1 164 j) := ga_nI (by rfl) (by decide) hj (by decide)
theorem zp164 (hj : j < 12) : sa 0 (mk L S) 164 (nI j) v = some (mk L (stI S 164 j v)) := sa_nI (by rfl) (by decide) hj (by decide)
theorem zn164 : gn (mk L S) 164 = some (nI 12) := gn_mk (t := 0) (by rfl) (Or.inl (by decide))
theorem zg165 (hj : j < 6) : ga 0 (mk L S) 165 (nI j) = some (S.1 165 j) := ga_nI (by rfl) (by decide) hj (by decide)
theorem zp165 (hj : j < 6) : sa 0 (mk L S) 165 (nI j) v = some (mk L (stI S 165 j v)) := sa_nI (by rfl) (by decide) hj (by decide)
theorem zn165 : gn (mk L S) 165 = some (nI 6) := gn_mk (t := 0) (by rfl) (Or.inl (by decide))
theorem zg166 (hj : j < 61) : gaB (mk L S) 166 (nI j) = some (S.1 166 j) := gaB_nI2 (by rfl) hj (by decide)
theorem zp166 (hj : j < 61) : saB (mk L S) 166 (nI j) v = some (mk L (stI S 166 j (vp_nar .boolean v))) := saB_nI2 (by rfl) hj (by decide)
theorem zn166 : gn (mk L S) 166 = some (nI 61) := gn_mk (t := 2) (by rfl) (Or.inl (by decide))
theorem zg167 (hj : j < 86) : ga 0 (mk L S) 167 (nI j) = some (S.1 167 j) := ga_nI (by rfl) (by decide) hj (by decide)
theorem zp167 (hj : j < 86) : sa 0 (mk L S) 167 (nI j) v = some (mk L (stI S 167 j v)) := sa_nI (by rfl) (by decide) hj (by decide)
theorem zn167 : gn (mk L S) 167 = some (nI 86) := gn_mk (t := 0) (by rfl) (Or.inl (by decide))
theorem zg168 (hj : j < 2) : gaB (mk L S) 168 (nI j) = some (S.1 168 j) := gaB_nI2 (by rfl) hj (by decide)
theorem zp168 (hj : j < 2) : saB (mk L S) 168 (nI j) v = some (mk L (stI S 168 j (vp_nar .boolean v))) := saB_nI2 (by rfl) hj (by decide)
theorem zn168 : gn (mk L S) 168 = some (nI 2) := gn_mk (t := 2) (by rfl) (Or.inl (by decide))
theorem zg169 (hj : j < 2) : ga 0 (mk L S) 169 (nI j) = some (S.1 169 j) := ga_nI (by rfl) (by decide) hj (by decide)
theorem zp169 (hj : j < 2) : sa 0 (mk L S) 169 (nI j) v = some (mk L (stI S 169 j v)) := sa_nI (by rfl) (by decide) hj (by decide)
theorem zn169 : gn (mk L S) 169 = some (nI 2) := gn_mk (t := 0) (by rfl) (Or.inl (by decide))
theorem zg170 (hj : j < 1) : gaL (mk L S) 170 (nI j) = some (S.2.1 170 j) := gaL_nI (by rfl) hj (by decide)
theorem zp170 (hj : j < 1) : saL (mk L S) 170 (nI j) w = some (mk L (stL S 170 j w)) := saL_nI (by rfl) hj (by decide)
theorem zn170 : gn (mk L S) 170 = some (nI 1) := gn_mk (t := 4) (by rfl) (Or.inl (by decide))
def SA (a : Nat) : Prop := kF a 7 0 = some 0 ∧ kF a 7 1 = some (a + 3) ∧ kF a 7 2 = some (a + 4) ∧ kF a 7 3 = some (a + 5) ∧ kF a 7 4 = some (a + 6) ∧ kF a 7 5 = some (a + 7) ∧ kF a 7 6 = some 0 ∧ kF a 7 7 = some 0 ∧ kA (a + 1) = some (0, 8) ∧ kA (a + 2) = some (0, 8) ∧ kA (a + 3) = some (0, 8) ∧ kA (a + 4) = some (0, 8) ∧ kA (a + 5) = some (0, 8)
variable {a : Nat}
theorem qc (ha : SA a) : gcl (mk L S) a 7 = some () := gcl_mk (k := 0) ha.1
theorem qi0 (ha : SA a) : gfI (mk L S) a 7 0 = some (S.1 a 0) := gfI_mk (ha.1)
theorem qs0 (ha : SA a) : sf (mk L S) a 7 0 (.int v) = some (mk L (stI S a 0 v)) := sf_mk (ha.1)
theorem qr1 (ha : SA a) : gfR (mk L S) a 7 1 = some (a + 1) := gfR_mk (ha.2.1)
theorem qr2 (ha : SA a) : gfR (mk L S) a 7 2 = some (a + 2) := gfR_mk (ha.2.2.1)
theorem qr3 (ha : SA a) : gfR (mk L S) a 7 3 = some (a + 3) := gfR_mk (ha.2.2.2.1)
theorem qr4 (ha : SA a) : gfR (mk L S) a 7 4 = some (a + 4) := gfR_mk (ha.2.2.2.2.1)
theorem qr5 (ha : SA a) : gfR (mk L S) a 7 5 = some (a + 5) := gfR_mk (ha.2.2.2.2.2.1)
theorem qi6 (ha : SA a) : gfI (mk L S) a 7 6 = some (S.1 a 6) := gfI_mk (ha.2.2.2.2.2.2.1)
theorem qs6 (ha : SA a) : sf (mk L S) a 7 6 (.int v) = some (mk L (stI S a 6 v)) := sf_mk (ha.2.2.2.2.2.2.1)
theorem qi7 (ha : SA a) : gfI (mk L S) a 7 7 = some (S.1 a 7) := gfI_mk (ha.2.2.2.2.2.2.2.1)
theorem qs7 (ha : SA a) : sf (mk L S) a 7 7 (.int v) = some (mk L (stI S a 7 v)) := sf_mk (ha.2.2.2.2.2.2.2.1)
theorem qg1 (ha : SA a) (hj : j < 8) : ga 0 (mk L S) (a + 1) (nI j) = some (S.1 (a + 1) j) := ga_nI (ha.2.2.2.2.2.2.2.2.1) (by decide) hj (by decide)
theorem qp1 (ha : SA a) (hj : j < 8) : sa 0 (mk L S) (a + 1) (nI j) v = some (mk L (stI S (a + 1) j v)) := sa_nI (ha.2.2.2.2.2.2.2.2.1) (by decide) hj (by decide)
theorem qn1 (ha : SA a) : gn (mk L S) (a + 1) = some (nI 8) := gn_mk (t := 0) (ha.2.2.2.2.2.2.2.2.1) (Or.inl (by decide))
theorem qg2 (ha : SA a) (hj : j < 8) : ga 0 (mk L S) (a + 2) (nI j) = some (S.1 (a + 2) j) := ga_nI (ha.2.2.2.2.2.2.2.2.2.1) (by decide) hj (by decide)
theorem qp2 (ha : SA a) (hj : j < 8) : sa 0 (mk L S) (a + 2) (nI j) v = some (mk L (stI S (a + 2) j v)) := sa_nI (ha.2.2.2.2.2.2.2.2.2.1) (by decide) hj (by decide)
theorem qn2 (ha : SA a) : gn (mk L S) (a + 2) = some (nI 8) := gn_mk (t := 0) (ha.2.2.2.2.2.2.2.2.2.1) (Or.inl (by decide))
theorem qg3 (ha : SA a) (hj : j < 8) : ga 0 (mk L S) (a + 3) (nI j) = some (S.1 (a + 3) j) := ga_nI (ha.2.2.2.2.2.2.2.2.2.2.1) (by decide) hj (by decide)
theorem qp3 (ha : SA a) (hj : j < 8) : sa 0 (mk L S) (a + 3) (nI j) v = some (mk L (stI S (a + 3) j v)) := sa_nI (ha.2.2.2.2.2.2.2.2.2.2.1) (by decide) hj (by decide)
theorem qn3 (ha : SA a) : gn (mk L S) (a + 3) = some (nI 8) := gn_mk (t := 0) (ha.2.2.2.2.2.2.2.2.2.2.1) (Or.inl (by decide))
theorem qg4 (ha : SA a) (hj : j < 8) : ga 0 (mk L S) (a + 4) (nI j) = some (S.1 (a + 4) j) := ga_nI (ha.2.2.2.2.2.2.2.2.2.2.2.1) (by decide) hj (by decide)
theorem qp4 (ha : SA a) (hj : j < 8) : sa 0 (mk L S) (a + 4) (nI j) v = some (mk L (stI S (a + 4) j v)) := sa_nI (ha.2.2.2.2.2.2.2.2.2.2.2.1) (by decide) hj (by decide)
theorem qn4 (ha : SA a) : gn (mk L S) (a + 4) = some (nI 8) := gn_mk (t := 0) (ha.2.2.2.2.2.2.2.2.2.2.2.1) (Or.inl (by decide))
theorem qg5 (ha : SA a) (hj : j < 8) : ga 0 (mk L S) (a + 5) (nI j) = some (S.1 (a + 5) j) := ga_nI (ha.2.2.2.2.2.2.2.2.2.2.2.2) (by decide) hj (by decide)
theorem qp5 (ha : SA a) (hj : j < 8) : sa 0 (mk L S) (a + 5) (nI j) v = some (mk L (stI S (a + 5) j v)) := sa_nI (ha.2.2.2.2.2.2.2.2.2.2.2.2) (by decide) hj (by decide)
theorem qn5 (ha : SA a) : gn (mk L S) (a + 5) = some (nI 8) := gn_mk (t := 0) (ha.2.2.2.2.2.2.2.2.2.2.2.2) (Or.inl (by decide))
theorem SA_19 : SA 19 := by unfold SA; decide
theorem SA_25 : SA 25 := by unfold SA; decide
theorem SA_31 : SA 31 := by unfold SA; decide
theorem SA_116 : SA 116 := by unfold SA; decide
theorem SA_122 : SA 122 := by unfold SA; decide
theorem SA_u : ∀ p, p < 12 → SA (44 + 6 * p) := by unfold SA; decide
def RA (a : Nat) : Prop := kF a 6 0 = some (a + 3) ∧ kF a 6 1 = some (a + 4) ∧ kF a 6 2 = some (a + 5) ∧ kF a 6 3 = some 0 ∧ kF a 6 4 = some 0 ∧ kF a 6 5 = some 0 ∧ kF a 6 6 = some 0 ∧ kF a 6 7 = some 0 ∧ kF a 6 8 = some 0 ∧ kA (a + 1) = some (0, 40) ∧ kA (a + 2) = some (0, 40) ∧ kA (a + 3) = some (0, 40)
variable {a : Nat}
theorem yc (ha : RA a) : gcl (mk L S) a 6 = some () := gcl_mk (k := 0) ha.1
theorem yr0 (ha : RA a) : gfR (mk L S) a 6 0 = some (a + 1) := gfR_mk (ha.1)
theorem yr1 (ha : RA a) : gfR (mk L S) a 6 1 = some (a + 2) := gfR_mk (ha.2.1)
theorem yr2 (ha : RA a) : gfR (mk L S) a 6 2 = some (a + 3) := gfR_mk (ha.2.2.1)
theorem yi3 (ha : RA a) : gfI (mk L S) a 6 3 = some (S.1 a 3) := gfI_mk (ha.2.2.2.1)
theorem ys3 (ha : RA a) : sf (mk L S) a 6 3 (.int v) = some (mk L (stI S a 3 v)) := sf_mk (ha.2.2.2.1)
theorem yi4 (ha : RA a) : gfI (mk L S) a 6 4 = some (S.1 a 4) := gfI_mk (ha.2.2.2.2.1)
theorem ys4 (ha : RA a) : sf (mk L S) a 6 4 (.int v) = some (mk L (stI S a 4 v)) := sf_mk (ha.2.2.2.2.1)
theorem yi5 (ha : RA a) : gfI (mk L S) a 6 5 = some (S.1 a 5) := gfI_mk (ha.2.2.2.2.2.1)
theorem ys5 (ha : RA a) : sf (mk L S) a 6 5 (.int v) = some (mk L (stI S a 5 v)) := sf_mk (ha.2.2.2.2.2.1)
theorem yi6 (ha : RA a) : gfI (mk L S) a 6 6 = some (S.1 a 6) := gfI_mk (ha.2.2.2.2.2.2.1)
theorem ys6 (ha : RA a) : sf (mk L S) a 6 6 (.int v) = some (mk L (stI S a 6 v)) := sf_mk (ha.2.2.2.2.2.2.1)
theorem yi7 (ha : RA a) : gfI (mk L S) a 6 7 = some (S.1 a 7) := gfI_mk (ha.2.2.2.2.2.2.2.1)
theorem ys7 (ha : RA a) : sf (mk L S) a 6 7 (.int v) = some (mk L (stI S a 7 v)) := sf_mk (ha.2.2.2.2.2.2.2.1)
theorem yi8 (ha : RA a) : gfI (mk L S) a 6 8 = some (S.1 a 8) := gfI_mk (ha.2.2.2.2.2.2.2.2.1)
theorem ys8 (ha : RA a) : sf (mk L S) a 6 8 (.int v) = some (mk L (stI S a 8 v)) := sf_mk (ha.2.2.2.2.2.2.2.2.1)
theorem yg1 (ha : RA a) (hj : j < 40) : ga 0 (mk L S) (a + 1) (nI j) = some (S.1 (a + 1) j) := ga_nI (ha.2.2.2.2.2.2.2.2.2.1) (by decide) hj (by decide)
theorem yp1 (ha : RA a) (hj : j < 40) : sa 0 (mk L S) (a + 1) (nI j) v = some (mk L (stI S (a + 1) j v)) := sa_nI (ha.2.2.2.2.2.2.2.2.2.1) (by decide) hj (by decide)
theorem yn1 (ha : RA a) : gn (mk L S) (a + 1) = some (nI 40) := gn_mk (t := 0) (ha.2.2.2.2.2.2.2.2.2.1) (Or.inl (by decide))
theorem yg2 (ha : RA a) (hj : j < 40) : ga 0 (mk L S) (a + 2) (nI j) = some (S.1 (a + 2) j) := ga_nI (ha.2.2.2.2.2.2.2.2.2.2.1) (by decide) hj (by decide)
theorem yp2 (ha : RA a) (hj : j < 40) : sa 0 (mk L S) (a + 2) (nI j) v = some (mk L (stI S (a + 2) j v)) := sa_nI (ha.2.2.2.2.2.2.2.2.2.2.1) (by decide) hj (by decide)
theorem yn2 (ha : RA a) : gn (mk L S) (a + 2) = some (nI 40) := gn_mk (t := 0) (ha.2.2.2.2.2.2.2.2.2.2.1) (Or.inl (by decide))
theorem yg3 (ha : RA a) (hj : j < 40) : ga 0 (mk L S) (a + 3) (nI j) = some (S.1 (a + 3) j) := ga_nI (ha.2.2.2.2.2.2.2.2.2.2.2) (by decide) hj (by decide)
theorem yp3 (ha : RA a) (hj : j < 40) : sa 0 (mk L S) (a + 3) (nI j) v = some (mk L (stI S (a + 3) j v)) := sa_nI (ha.2.2.2.2.2.2.2.2.2.2.2) (by decide) hj (by decide)
theorem yn3 (ha : RA a) : gn (mk L S) (a + 3) = some (nI 40) := gn_mk (t := 0) (ha.2.2.2.2.2.2.2.2.2.2.2) (Or.inl (by decide))
theorem RA_136 : RA 136 := by unfold RA; decide
theorem RA_140 : RA 140 := by unfold RA; decide
end ACC
