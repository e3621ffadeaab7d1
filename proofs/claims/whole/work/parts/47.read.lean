/-! THE REFERENCE READS A TEXT -/
/-- the reading place and the fault set -/
def ms (S : gS) (p w : Int32) : gS := (fun a j => if a = 144 ∧ j = 14 then p else if a = 144 ∧ j = 15 then w else S.1 a j, S.2)
theorem ms_14 {S : gS} {p w x : Int32} : stI (ms S p w) 144 14 x = ms S x w := by
  refine Prod.ext (funext fun a => funext fun j => ?_) rfl
  show (if a = 144 ∧ j = 14 then x else if a = 144 ∧ j = 14 then p else if a = 144 ∧ j = 15 then w else S.1 a j) = if a = 144 ∧ j = 14 then x else if a = 144 ∧ j = 15 then w else S.1 a j
  by_cases q : a = 144 ∧ j = 14
  · rw [if_pos q, if_pos q]
  · rw [if_neg q, if_neg q, if_neg q]
theorem ms_15 {S : gS} {p w x : Int32} : stI (ms S p w) 144 15 x = ms S p x := by
  refine Prod.ext (funext fun a => funext fun j => ?_) rfl
  show (if a = 144 ∧ j = 15 then x else if a = 144 ∧ j = 14 then p else if a = 144 ∧ j = 15 then w else S.1 a j) = if a = 144 ∧ j = 14 then p else if a = 144 ∧ j = 15 then x else S.1 a j
  by_cases q : a = 144 ∧ j = 15
  · rw [if_pos q, if_neg (by omega), if_pos q]
  · rw [if_neg q, if_neg q, if_neg q]
theorem ms_ms {S : gS} {p w x y : Int32} : ms (ms S p w) x y = ms S x y := by
  refine Prod.ext (funext fun a => funext fun j => ?_) rfl
  show (if a = 144 ∧ j = 14 then x else if a = 144 ∧ j = 15 then y else if a = 144 ∧ j = 14 then p else if a = 144 ∧ j = 15 then w else S.1 a j) = if a = 144 ∧ j = 14 then x else if a = 144 ∧ j = 15 then y else S.1 a j
  by_cases q : a = 144 ∧ j = 14
  · rw [if_pos q, if_pos q]
  · by_cases q2 : a = 144 ∧ j = 15
    · simp only [if_neg q, if_pos q2]
    · simp only [if_neg q, if_neg q2]
theorem ms_p {S : gS} {p w : Int32} : (ms S p w).1 144 14 = p := rfl
theorem ms_w {S : gS} {p w : Int32} : (ms S p w).1 144 15 = w := rfl
theorem ms_o {S : gS} {p w : Int32} {a j : Nat} (h : a ≠ 144 ∨ (j ≠ 14 ∧ j ≠ 15)) : (ms S p w).1 a j = S.1 a j := by
  show (if a = 144 ∧ j = 14 then p else if a = 144 ∧ j = 15 then w else S.1 a j) = _
  rw [if_neg (by omega), if_neg (by omega)]
theorem ms_2 {S : gS} {p w : Int32} : (ms S p w).2 = S.2 := rfl
theorem ms_id {S : gS} {p w : Int32} (h1 : S.1 144 14 = p) (h2 : S.1 144 15 = w) : ms S p w = S := by
  refine Prod.ext (funext fun a => funext fun j => ?_) rfl
  show (if a = 144 ∧ j = 14 then p else if a = 144 ∧ j = 15 then w else S.1 a j) = S.1 a j
  by_cases q : a = 144 ∧ j = 14
  · rw [if_pos q, q.1, q.2, h1]
  · rw [if_neg q]
    by_cases q2 : a = 144 ∧ j = 15
    · rw [if_pos q2, q2.1, q2.2, h2]
    · rw [if_neg q2]
def bI (c : Nat) : Int32 := (nI c).toInt8.toInt32
theorem bI_255 : ∀ c : Nat, c < 256 → bI c &&& 255 = nI c := by decide +kernel
theorem bI_lo : ∀ c : Nat, c < 128 → bI c = nI c := by decide +kernel
theorem bI_nar : ∀ c : Nat, c < 256 → vp_nar .byte (bI c) = bI c := by decide +kernel
/-- what is read: its cell, how long, up to where, the signs -/
def RC (S : gS) (id len top : Nat) (t : Nat → Nat) : Prop := S.2.2 144 11 = some id ∧ S.1 144 12 = nI len ∧ S.1 144 13 = nI top ∧ len ≤ 80 ∧ top ≤ 80 ∧ (∀ (L : Nat) (S : gS) (j : Nat), j < min len top → gaB (mk L S) id (nI j) = some (S.1 id j)) ∧ id ≠ 144 ∧ ∀ j, j < len → t j < 256 ∧ S.1 id j = bI (t j)
theorem RC.ms {S : gS} {id len top : Nat} {t : Nat → Nat} {p w : Int32} (h : RC S id len top t) : RC (ms S p w) id len top t := by
  obtain ⟨h1, h2, h3, h4, h5, h6, h7, h8⟩ := h
  refine ⟨h1, (ms_o (by omega)).trans h2, (ms_o (by omega)).trans h3, h4, h5, h6, h7, fun j hj => ⟨(h8 j hj).1, ?_⟩⟩
  rw [ms_o (by omega)]
  exact (h8 j hj).2
section MREAD
variable {L N id len top : Nat} {S : gS} {t : Nat → Nat} {p q : Nat} {w x : Int32}
theorem M_fine_t : f_c11_fine N 144 (mk L (ms S x (-1))) = some 1 := by
  simp (disch := omega) only [Option.bind_some, ↓ile_t, ↓ile_f, ↓ilt_t, ↓ilt_f, ↓ieq_t, ↓ieq_f, ↓iz_t, ↓iz_f, ↓iltz, ↓izle, ↓ilez_t, ↓ilez_f, ↓im1, gZ_0, gZ_1, e10, e00, ↓reduceIte, Sum.elim_inl, Sum.elim_inr, nI_1, nI_add, Int32.sub_zero, f_c11_fine, zc144, zi144_15, ms_w, eq_self_iff_true]
theorem M_fine_f (hq : q < 1000) : f_c11_fine N 144 (mk L (ms S x (nI q))) = some 0 := by
  simp (disch := omega) only [Option.bind_some, ↓ile_t, ↓ile_f, ↓ilt_t, ↓ilt_f, ↓ieq_t, ↓ieq_f, ↓iz_t, ↓iz_f, ↓iltz, ↓izle, ↓ilez_t, ↓ilez_f, ↓im1, gZ_0, gZ_1, e10, e00, ↓reduceIte, Sum.elim_inl, Sum.elim_inr, nI_1, nI_add, Int32.sub_zero, f_c11_fine, zc144, zi144_15, ms_w]
theorem M_here_t (h : RC S id len top t) (hp : p < min len top) : f_c11_here N 144 (mk L (ms S (nI p) w)) = some (nI (t p)) := by
  obtain ⟨h1, h2, h3, h4, h5, h6, h7, h8⟩ := h
  have e := h6 L (ms S (nI p) w) p hp
  have e2 := (h8 p (by omega)).2
  have e3 := bI_255 _ (h8 p (by omega)).1
  simp (disch := omega) only [Option.bind_some, ↓ile_t, ↓ile_f, ↓ilt_t, ↓ilt_f, ↓ieq_t, ↓ieq_f, ↓iz_t, ↓iz_f, ↓iltz, ↓izle, ↓ilez_t, ↓ilez_f, ↓im1, gZ_0, gZ_1, e10, e00, ↓reduceIte, Sum.elim_inl, Sum.elim_inr, nI_1, nI_add, Int32.sub_zero, f_c11_here, zc144, zi144_14, zi144_12, zi144_13, ms_p, ms_o, h2, h3, zr144_11 (r := id) (S := ms S (nI p) w) h1, e, e2, e3]
theorem M_here_f (h : RC S id len top t) (hp : min len top ≤ p) (hp2 : p < 1000) : f_c11_here N 144 (mk L (ms S (nI p) w)) = some (-1) := by
  obtain ⟨h1, h2, h3, h4, h5, h6, h7, h8⟩ := h
  by_cases z : len ≤ p
  · simp (disch := omega) only [Option.bind_some, ↓ile_t, ↓ile_f, ↓ilt_t, ↓ilt_f, ↓ieq_t, ↓ieq_f, ↓iz_t, ↓iz_f, ↓iltz, ↓izle, ↓ilez_t, ↓ilez_f, ↓im1, gZ_0, gZ_1, e10, e00, ↓reduceIte, Sum.elim_inl, Sum.elim_inr, nI_1, nI_add, Int32.sub_zero, f_c11_here, zc144, zi144_14, zi144_12, zi144_13, ms_p, ms_o, h2, h3]
  · simp (disch := omega) only [Option.bind_some, ↓ile_t, ↓ile_f, ↓ilt_t, ↓ilt_f, ↓ieq_t, ↓ieq_f, ↓iz_t, ↓iz_f, ↓iltz, ↓izle, ↓ilez_t, ↓ilez_f, ↓im1, gZ_0, gZ_1, e10, e00, ↓reduceIte, Sum.elim_inl, Sum.elim_inr, nI_1, nI_add, Int32.sub_zero, f_c11_here, zc144, zi144_14, zi144_12, zi144_13, ms_p, ms_o, h2, h3]
theorem M_fault_t : f_c11_fault N 144 x (mk L (ms S (nI p) (-1))) = some (mk L (ms S (nI p) x)) := by
  simp (disch := omega) only [Option.bind_some, ↓ile_t, ↓ile_f, ↓ilt_t, ↓ilt_f, ↓ieq_t, ↓ieq_f, ↓iz_t, ↓iz_f, ↓iltz, ↓izle, ↓ilez_t, ↓ilez_f, ↓im1, gZ_0, gZ_1, e10, e00, ↓reduceIte, Sum.elim_inl, Sum.elim_inr, nI_1, nI_add, Int32.sub_zero, f_c11_fault, zc144, M_fine_t, zs144_15, ms_15]
theorem M_fault_f (hq : q < 1000) : f_c11_fault N 144 x (mk L (ms S w (nI q))) = some (mk L (ms S w (nI q))) := by
  simp (disch := omega) only [Option.bind_some, ↓ile_t, ↓ile_f, ↓ilt_t, ↓ilt_f, ↓ieq_t, ↓ieq_f, ↓iz_t, ↓iz_f, ↓iltz, ↓izle, ↓ilez_t, ↓ilez_f, ↓im1, gZ_0, gZ_1, e10, e00, ↓reduceIte, Sum.elim_inl, Sum.elim_inr, nI_1, nI_add, Int32.sub_zero, f_c11_fault, zc144, M_fine_f hq]
theorem M_passes_f (hq : q < 1000) : f_c11_passes N 144 x (mk L (ms S w (nI q))) = some (0, mk L (ms S w (nI q))) := by
  simp (disch := omega) only [Option.bind_some, ↓ile_t, ↓ile_f, ↓ilt_t, ↓ilt_f, ↓ieq_t, ↓ieq_f, ↓iz_t, ↓iz_f, ↓iltz, ↓izle, ↓ilez_t, ↓ilez_f, ↓im1, gZ_0, gZ_1, e10, e00, ↓reduceIte, Sum.elim_inl, Sum.elim_inr, nI_1, nI_add, Int32.sub_zero, f_c11_passes, zc144, M_fine_f hq]
theorem M_passes_t {c : Nat} (h : RC S id len top t) (hp : p < min len top) (hc : t p = c) : f_c11_passes N 144 (nI c) (mk L (ms S (nI p) (-1))) = some (1, mk L (ms S (nI (p + 1)) (-1))) := by
  simp (disch := omega) only [Option.bind_some, ↓ile_t, ↓ile_f, ↓ilt_t, ↓ilt_f, ↓ieq_t, ↓ieq_f, ↓iz_t, ↓iz_f, ↓iltz, ↓izle, ↓ilez_t, ↓ilez_f, ↓im1, gZ_0, gZ_1, e10, e00, ↓reduceIte, Sum.elim_inl, Sum.elim_inr, nI_1, nI_add, Int32.sub_zero, f_c11_passes, zc144, M_fine_t, M_here_t h hp, hc, zi144_14, zs144_14, ms_p, ms_14]
theorem M_passes_n {c : Nat} (h : RC S id len top t) (hp : p < 1000) (hc : p < min len top → t p ≠ c) (hc2 : c < 256) : f_c11_passes N 144 (nI c) (mk L (ms S (nI p) (-1))) = some (0, mk L (ms S (nI p) (-1))) := by
  by_cases z : p < min len top
  · have h1 := hc z
    have h2 := (h.2.2.2.2.2.2.2 p (by omega)).1
    simp (disch := omega) only [Option.bind_some, ↓ile_t, ↓ile_f, ↓ilt_t, ↓ilt_f, ↓ieq_t, ↓ieq_f, ↓iz_t, ↓iz_f, ↓iltz, ↓izle, ↓ilez_t, ↓ilez_f, ↓im1, gZ_0, gZ_1, e10, e00, ↓reduceIte, Sum.elim_inl, Sum.elim_inr, nI_1, nI_add, Int32.sub_zero, f_c11_passes, zc144, M_fine_t, M_here_t h z]
  · have h3 : ¬ (-1 : Int32) = nI c := fun e => nI_m1 (by omega) e.symm
    simp (disch := omega) only [Option.bind_some, ↓ile_t, ↓ile_f, ↓ilt_t, ↓ilt_f, ↓ieq_t, ↓ieq_f, ↓iz_t, ↓iz_f, ↓iltz, ↓izle, ↓ilez_t, ↓ilez_f, ↓im1, gZ_0, gZ_1, e10, e00, ↓reduceIte, Sum.elim_inl, Sum.elim_inr, nI_1, nI_add, Int32.sub_zero, f_c11_passes, zc144, M_fine_t, M_here_f h (by omega) hp, if_neg h3]
theorem M_need_t {c : Nat} (h : RC S id len top t) (hp : p < min len top) (hc : t p = c) : f_c11_need N 144 (nI c) (mk L (ms S (nI p) (-1))) = some (mk L (ms S (nI (p + 1)) (-1))) := by
  simp (disch := omega) only [Option.bind_some, ↓ile_t, ↓ile_f, ↓ilt_t, ↓ilt_f, ↓ieq_t, ↓ieq_f, ↓iz_t, ↓iz_f, ↓iltz, ↓izle, ↓ilez_t, ↓ilez_f, ↓im1, gZ_0, gZ_1, e10, e00, ↓reduceIte, Sum.elim_inl, Sum.elim_inr, nI_1, nI_add, Int32.sub_zero, f_c11_need, zc144, M_passes_t h hp hc]
theorem M_need_n {c : Nat} (h : RC S id len top t) (hp : p < 1000) (hc : p < min len top → t p ≠ c) (hc2 : c < 256) : f_c11_need N 144 (nI c) (mk L (ms S (nI p) (-1))) = some (mk L (ms S (nI p) (nI p))) := by
  simp (disch := omega) only [Option.bind_some, ↓ile_t, ↓ile_f, ↓ilt_t, ↓ilt_f, ↓ieq_t, ↓ieq_f, ↓iz_t, ↓iz_f, ↓iltz, ↓izle, ↓ilez_t, ↓ilez_f, ↓im1, gZ_0, gZ_1, e10, e00, ↓reduceIte, Sum.elim_inl, Sum.elim_inr, nI_1, nI_add, Int32.sub_zero, f_c11_need, zc144, M_passes_n h hp hc hc2, zi144_14, ms_p, M_fault_t]
theorem M_need_f {c : Nat} (hq : q < 1000) : f_c11_need N 144 (nI c) (mk L (ms S (nI p) (nI q))) = some (mk L (ms S (nI p) (nI q))) := by
  simp (disch := omega) only [Option.bind_some, ↓ile_t, ↓ile_f, ↓ilt_t, ↓ilt_f, ↓ieq_t, ↓ieq_f, ↓iz_t, ↓iz_f, ↓iltz, ↓izle, ↓ilez_t, ↓ilez_f, ↓im1, gZ_0, gZ_1, e10, e00, ↓reduceIte, Sum.elim_inl, Sum.elim_inr, nI_1, nI_add, Int32.sub_zero, f_c11_need, zc144, M_passes_f hq, zi144_14, ms_p, M_fault_f hq]
theorem M_oneOf_t {f m : Nat} (h : RC S id len top t) (hp : p < min len top) (h1 : f ≤ t p) (h2 : t p < f + m) (hm : f + m ≤ 128) : f_c11_oneOf N 144 (nI f) (nI m) (mk L (ms S (nI p) (-1))) = some (nI (t p - f), mk L (ms S (nI (p + 1)) (-1))) := by
  have h3 : f_c11_in N (nI (t p)) (nI f) (nI (f + m) - 1) (mk L (ms S (nI p) (-1))) = some 1 := by
    rw [nI_sub1 (by omega)]
    exact M_in_t (nI_nlt (by omega) (by omega)) (nI_nlt (by omega) (by omega))
  have e := h.2.2.2.2.2.1 L (ms S (nI (p + 1)) (-1)) p hp
  have e2 := (h.2.2.2.2.2.2.2 p (by omega)).2
  have e3 := (h.2.2.2.2.2.2.2 p (by omega)).1
  have h4 := h3
  rw [nI_sub1 (by omega)] at h4
  have e4 := bI_lo (t p) (by omega)
  have e5 := h.2.2.2.2.2.2.1
  simp (disch := omega) only [Option.bind_some, ↓ile_t, ↓ile_f, ↓ilt_t, ↓ilt_f, ↓ieq_t, ↓ieq_f, ↓iz_t, ↓iz_f, ↓iltz, ↓izle, ↓ilez_t, ↓ilez_f, ↓im1, gZ_0, gZ_1, e10, e00, ↓reduceIte, Sum.elim_inl, Sum.elim_inr, nI_1, nI_add, Int32.sub_zero, f_c11_oneOf, zc144, M_fine_t, M_here_t h hp, h3, h4, zi144_14, zs144_14, ms_p, ms_14, zr144_11 (r := id) (S := ms S (nI (p + 1)) (-1)) h.1, nI_sub1, Nat.add_sub_cancel, e, ms_o, e2, e4, nI_sub]
theorem M_oneOf_n {f m : Nat} (h : RC S id len top t) (hp : p < 1000) (h1 : p < min len top → t p < f ∨ f + m ≤ t p) (h0 : 0 < f) (hm : f + m < 1000) (hm0 : 0 < m) : f_c11_oneOf N 144 (nI f) (nI m) (mk L (ms S (nI p) (-1))) = some (0, mk L (ms S (nI p) (nI p))) := by
  by_cases z : p < min len top
  · have h2 := h1 z
    have h4 := (h.2.2.2.2.2.2.2 p (by omega)).1
    have h3 : f_c11_in N (nI (t p)) (nI f) (nI (f + m) - 1) (mk L (ms S (nI p) (-1))) = some 0 := by
      rw [nI_sub1 (by omega)]
      exact M_in_n (h2.elim (fun q => Or.inl (nI_lt q (by omega))) (fun q => Or.inr (nI_lt (by omega) (by omega))))
    simp (disch := omega) only [Option.bind_some, ↓ile_t, ↓ile_f, ↓ilt_t, ↓ilt_f, ↓ieq_t, ↓ieq_f, ↓iz_t, ↓iz_f, ↓iltz, ↓izle, ↓ilez_t, ↓ilez_f, ↓im1, gZ_0, gZ_1, e10, e00, ↓reduceIte, Sum.elim_inl, Sum.elim_inr, nI_1, nI_add, Int32.sub_zero, f_c11_oneOf, zc144, M_fine_t, M_here_t h z, h3, zi144_14, ms_p, M_fault_t]
  · have h3 : f_c11_in N (-1) (nI f) (nI (f + m) - 1) (mk L (ms S (nI p) (-1))) = some 0 := by
      refine M_in_l ?_
      rw [i32_lt, nI_toInt (by omega)]
      have : (-1 : Int32).toInt = -1 := by decide
      omega
    simp (disch := omega) only [Option.bind_some, ↓ile_t, ↓ile_f, ↓ilt_t, ↓ilt_f, ↓ieq_t, ↓ieq_f, ↓iz_t, ↓iz_f, ↓iltz, ↓izle, ↓ilez_t, ↓ilez_f, ↓im1, gZ_0, gZ_1, e10, e00, ↓reduceIte, Sum.elim_inl, Sum.elim_inr, nI_1, nI_add, Int32.sub_zero, f_c11_oneOf, zc144, M_fine_t, M_here_f h (by omega) hp, h3, zi144_14, ms_p, M_fault_t]
theorem M_oneOf_f {x y : Int32} (hq : q < 1000) : f_c11_oneOf N 144 x y (mk L (ms S w (nI q))) = some (0, mk L (ms S w (nI q))) := by
  simp (disch := omega) only [Option.bind_some, ↓ile_t, ↓ile_f, ↓ilt_t, ↓ilt_f, ↓ieq_t, ↓ieq_f, ↓iz_t, ↓iz_f, ↓iltz, ↓izle, ↓ilez_t, ↓ilez_f, ↓im1, gZ_0, gZ_1, e10, e00, ↓reduceIte, Sum.elim_inl, Sum.elim_inr, nI_1, nI_add, Int32.sub_zero, f_c11_oneOf, zc144, M_fine_f hq]
end MREAD
