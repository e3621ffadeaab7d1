section GMISC
variable {M : gM} {X : gX} {own : String} {cc : ByteArray} {nL : Nat} {R : Room} {cs sl pc pc' idx : Nat} {ls : List (Nat × Value)} {rest : List Value} {h : gH} {d mc0 ms0 : Nat}
-- ===== switches: the value a written one, or none of these =====
theorem g_tabIn {dflt lo hi : Int} {offs : Array Int} {len tgt : Nat} {x v : Int32} {off : Int} (K : gC M X own cc nL R) (hd : decode cc pc = .ok (.tableswitch dflt lo hi offs, len)) (hx : x = v) (h1 : decide (v.toInt < lo) = false) (h2 : decide (hi < v.toInt) = false) (ho : offs[(v.toInt - lo).toNat]? = some off) (ht : (pc : Int) + off = (tgt : Int)) (k : gG M X nL cs sl tgt ls rest h) : gG M X nL cs sl pc ls (.int x :: rest) h := by
  subst hx
  exact fun H locs ls' hR hl => lv_tableIn K.1 K.2.1 hd (of_decide_eq_false h1) (of_decide_eq_false h2) ho ht (k H locs ls' hR hl)
theorem g_tabD {dflt lo hi : Int} {offs : Array Int} {len tgt : Nat} {x : Int32} (cv : List Int32) (K : gC M X own cc nL R) (hd : decode cc pc = .ok (.tableswitch dflt lo hi offs, len)) (hne : ∀ v ∈ cv, ¬ x = v) (hck : (List.range (hi - lo + 1).toNat).all (fun j => decide (offs[j]? = some dflt) || cv.any (fun v => decide (v.toInt = lo + (j : Int)))) = true) (ht : (pc : Int) + dflt = (tgt : Int)) (k : gG M X nL cs sl tgt ls rest h) : gG M X nL cs sl pc ls (.int x :: rest) h := by
  intro H locs ls' hR hl
  by_cases q1 : x.toInt < lo
  · exact lv_tableOut K.1 K.2.1 hd (Or.inl q1) ht (k H locs ls' hR hl)
  by_cases q2 : hi < x.toInt
  · exact lv_tableOut K.1 K.2.1 hd (Or.inr q2) ht (k H locs ls' hR hl)
  have hj : (x.toInt - lo).toNat ∈ List.range (hi - lo + 1).toNat := List.mem_range.mpr (by omega)
  have h3 := List.all_eq_true.mp hck _ hj
  rw [Bool.or_eq_true] at h3
  rcases h3 with h3 | h3
  · exact lv_tableIn K.1 K.2.1 hd q1 q2 (of_decide_eq_true h3) ht (k H locs ls' hR hl)
  · obtain ⟨v, hv, h4⟩ := List.any_eq_true.mp h3
    have h5 : v.toInt = lo + ((x.toInt - lo).toNat : Int) := of_decide_eq_true h4
    exact absurd (Int32.toInt_inj.mp (by omega : x.toInt = v.toInt)) (hne v hv)
theorem g_lkIn {dflt : Int} {ps : Array (Int × Int)} {len tgt : Nat} {x v : Int32} {off : Int} (K : gC M X own cc nL R) (hd : decode cc pc = .ok (.lookupswitch dflt ps, len)) (hp : (ps.toList.zip (ps.toList.drop 1)).all (fun (a, next) => a.1 < next.1) = true) (hx : x = v) (ho : Op.lookupswitch.offset ps.toList dflt v.toInt = off) (ht : (pc : Int) + off = (tgt : Int)) (k : gG M X nL cs sl tgt ls rest h) : gG M X nL cs sl pc ls (.int x :: rest) h := by
  subst hx
  exact fun H locs ls' hR hl => lv_lookup K.1 K.2.1 hd hp ho ht (k H locs ls' hR hl)
theorem lk_dflt {dflt k : Int} : ∀ (ps : List (Int × Int)), (∀ q ∈ ps, ¬ k = q.1) → Op.lookupswitch.offset ps dflt k = dflt
  | [], _ => by rw [Op.lookupswitch.offset_nil]
  | (a, o) :: r, hq => by
    rw [Op.lookupswitch.offset_cons, if_neg (fun z => hq (a, o) List.mem_cons_self (by first | exact z | exact z.symm))]
    exact lk_dflt r (fun q h => hq q (List.mem_cons_of_mem _ h))
theorem g_lkD {dflt : Int} {ps : Array (Int × Int)} {len tgt : Nat} {x : Int32} (cv : List Int32) (K : gC M X own cc nL R) (hd : decode cc pc = .ok (.lookupswitch dflt ps, len)) (hp : (ps.toList.zip (ps.toList.drop 1)).all (fun (a, next) => a.1 < next.1) = true) (hne : ∀ v ∈ cv, ¬ x = v) (hck : ps.toList.all (fun q => cv.any (fun v => decide (v.toInt = q.1))) = true) (ht : (pc : Int) + dflt = (tgt : Int)) (k : gG M X nL cs sl tgt ls rest h) : gG M X nL cs sl pc ls (.int x :: rest) h := by
  refine fun H locs ls' hR hl => lv_lookup K.1 K.2.1 hd hp (lk_dflt _ (fun q hq z => ?_)) ht (k H locs ls' hR hl)
  obtain ⟨v, hv, h4⟩ := List.any_eq_true.mp (List.all_eq_true.mp hck q hq)
  have h5 : v.toInt = q.1 := of_decide_eq_true h4
  exact absurd (Int32.toInt_inj.mp (by rw [z, h5] : x.toInt = v.toInt)) (hne v hv)
-- ===== Math =====
def gmin (x y : Int32) : Int32 := if y < x then y else x
def gmax (x y : Int32) : Int32 := if x < y then y else x
def gabs (x : Int32) : Int32 := if 0 ≤ x then x else 0 - x
theorem g_mmax {x y : Int32} (K : gC M X own cc nL (gRm d mc0 ms0)) (hd : gD cc pc (.invokestatic idx) 3 pc') (h1 : Cond.methodLink own idx Lib.Math.max.name ∈ gTk) (h2 : Cond.static Lib.Math.max.name ∈ gTk) (h3 : Cond.initialized "java/lang/Math" ∈ gTk) (h4 : Cond.code Lib.Math.max.name Lib.Math.max.code 2 (some .int) ∈ gTk) (hdp : 1 ≤ d) (hcat : (rest.map fun v => v.category).sum ≤ 8) (hf : cs ≤ mc0 ∧ sl ≤ ms0) (kk : gG M X nL cs sl pc' ls (.int (gmax x y) :: rest) h) : gG M X nL cs sl pc ls (.int y :: .int x :: rest) h := by
  obtain ⟨hd, rfl⟩ := hd
  intro H locs ls' hR hl
  have hRR := K.2.2.2.2.2.2.2.2.1
  exact va_mmax K.1 K.2.1 (K.2.2.1.trans hl.1.symm) K.2.2.2.1 (K.2.2.2.2.1 _ h1) (K.2.2.2.2.1 _ h2) (K.2.2.2.2.1 _ h3) (K.2.2.2.2.1 _ h4) (by rw [hRR]; exact hdp) (by rw [hRR]; show ((gVs X rest).map _).sum + 13 ≤ 41 * d; rw [gVs_cat]; omega) (by rw [hRR]; exact hf.1) (by rw [hRR]; exact hf.2) hd (kk H locs ls' hR hl)
theorem g_mmin {x y : Int32} (K : gC M X own cc nL (gRm d mc0 ms0)) (hd : gD cc pc (.invokestatic idx) 3 pc') (h1 : Cond.methodLink own idx Lib.Math.min.name ∈ gTk) (h2 : Cond.static Lib.Math.min.name ∈ gTk) (h3 : Cond.initialized "java/lang/Math" ∈ gTk) (h4 : Cond.code Lib.Math.min.name Lib.Math.min.code 2 (some .int) ∈ gTk) (hdp : 1 ≤ d) (hcat : (rest.map fun v => v.category).sum ≤ 8) (hf : cs ≤ mc0 ∧ sl ≤ ms0) (kk : gG M X nL cs sl pc' ls (.int (gmin x y) :: rest) h) : gG M X nL cs sl pc ls (.int y :: .int x :: rest) h := by
  obtain ⟨hd, rfl⟩ := hd
  intro H locs ls' hR hl
  have hRR := K.2.2.2.2.2.2.2.2.1
  exact va_mmin K.1 K.2.1 (K.2.2.1.trans hl.1.symm) K.2.2.2.1 (K.2.2.2.2.1 _ h1) (K.2.2.2.2.1 _ h2) (K.2.2.2.2.1 _ h3) (K.2.2.2.2.1 _ h4) (by rw [hRR]; exact hdp) (by rw [hRR]; show ((gVs X rest).map _).sum + 13 ≤ 41 * d; rw [gVs_cat]; omega) (by rw [hRR]; exact hf.1) (by rw [hRR]; exact hf.2) hd (kk H locs ls' hR hl)
theorem g_mabs {x : Int32} (K : gC M X own cc nL (gRm d mc0 ms0)) (hd : gD cc pc (.invokestatic idx) 3 pc') (h1 : Cond.methodLink own idx Lib.Math.abs.name ∈ gTk) (h2 : Cond.static Lib.Math.abs.name ∈ gTk) (h3 : Cond.initialized "java/lang/Math" ∈ gTk) (h4 : Cond.code Lib.Math.abs.name Lib.Math.abs.code 1 (some .int) ∈ gTk) (hdp : 1 ≤ d) (hcat : (rest.map fun v => v.category).sum ≤ 8) (hf : cs ≤ mc0 ∧ sl ≤ ms0) (kk : gG M X nL cs sl pc' ls (.int (gabs x) :: rest) h) : gG M X nL cs sl pc ls (.int x :: rest) h := by
  obtain ⟨hd, rfl⟩ := hd
  intro H locs ls' hR hl
  have hRR := K.2.2.2.2.2.2.2.2.1
  exact va_mabs K.1 K.2.1 (K.2.2.1.trans hl.1.symm) K.2.2.2.1 (K.2.2.2.2.1 _ h1) (K.2.2.2.2.1 _ h2) (K.2.2.2.2.1 _ h3) (K.2.2.2.2.1 _ h4) (by rw [hRR]; exact hdp) (by rw [hRR]; show ((gVs X rest).map _).sum + 13 ≤ 41 * d; rw [gVs_cat]; omega) (by rw [hRR]; exact hf.1) (by rw [hRR]; exact hf.2) hd (kk H locs ls' hR hl)
theorem gDep {a b N : Nat} (h : Nat.ble (a + 1) b = true) : a + N + 1 ≤ b + N := by have := Nat.le_of_ble_eq_true h; omega
theorem gDep1 {b N : Nat} (h : Nat.ble 1 b = true) : 1 ≤ b + N := by have := Nat.le_of_ble_eq_true h; omega
theorem gNar_spec {ty : FieldType} {v w : Int32} (e : gNar ty v = some w) : v = w ∧ vp_nar ty w = w := by
  unfold gNar at e
  split at e
  · rename_i q; cases e; exact ⟨rfl, q⟩
  · cases e
theorem gNar_b {w : Int32} (h : vp_nar .byte w = w) : narrow .byte (.int w) = .int w := by
  have : narrow .byte (.int w) = .int (vp_nar .byte w) := rfl
  rw [this, h]
theorem gNar_c {w : Int32} (h : vp_nar .char w = w) : narrow .char (.int w) = .int w := by
  have : narrow .char (.int w) = .int (vp_nar .char w) := rfl
  rw [this, h]
theorem gZn {w : Int32} (h : w = 0 ∨ w = 1) : narrow .boolean (.int w) = .int w := by rcases h with rfl | rfl <;> rfl
theorem g_norule (K : gC M X own cc nL R) (hd : gD cc pc (.getstatic idx) 3 pc') (hl : Cond.fieldLink own idx "FullStopWells" "NO_RULE" "[C" ∈ gTk) (kk : gG M X nL cs sl pc' ls (.ref 1 :: rest) h) : gG M X nL cs sl pc ls rest h := by
  obtain ⟨hd, rfl⟩ := hd
  intro H locs ls' hR hl2
  exact va_gets K.1 K.2.1 K.2.2.2.2.2.2.2.2.2.2.2.2.1 hR.2.1 K.2.2.2.1 (K.2.2.2.2.1 _ hl) (fun _ h => h) hd (kk H locs ls' hR hl2)
end GMISC
