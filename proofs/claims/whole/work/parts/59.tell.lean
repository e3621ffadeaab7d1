/-! ROWS told, what is remembered -/
section TELLS
variable {L N : Nat} {S : gS} {l : List Int64}
theorem getE_app {l : List Int64} {y : Int64} {j : Nat} {z : Int64} (h : (l ++ [y])[j]? = some z) : (j < l.length ∧ l[j]? = some z) ∨ (j = l.length ∧ z = y) := by
  by_cases q : j < l.length
  · rw [List.getElem?_append_left q] at h
    exact Or.inl ⟨q, h⟩
  · rw [List.getElem?_append_right (by omega)] at h
    by_cases q2 : j = l.length
    · rw [q2, Nat.sub_self] at h
      exact Or.inr ⟨q2, (Option.some.inj h).symm⟩
    · obtain ⟨d, hd⟩ : ∃ d, j - l.length = d + 1 := ⟨j - l.length - 1, by omega⟩
      rw [hd] at h
      cases h
abbrev pRow : Nat → Prop := fun x => x = 13 ∨ x = 14
theorem C_clear : ∃ S', f_c4_clear N 13 (mk L S) = some (mk L S') ∧ Fr pRow S S' ∧ CR S' [] :=
  ⟨stI S 13 1 0, by simp (disch := omega) only [Option.bind_some, ↓ile_t, ↓ile_f, ↓ilt_t, ↓ilt_f, ↓ieq_t, ↓ieq_f, ↓iz_t, ↓iz_f, ↓iltz, ↓izle, ↓ilez_t, ↓ilez_f, ↓im1, ile_t, ile_f, ilt_t, ilt_f, ieq_t, ieq_f, iz_t, iz_f, iltz, izle, ilez_t, ilez_f, im1, gZ_0, gZ_1, e10, e00, ↓reduceIte, Sum.elim_inl, Sum.elim_inr, nI_1, nI_add, Int32.sub_zero, f_c4_clear, zc13, zr13_0, zi13_1, zs13_1], Fr.stI (Or.inl rfl), rdI_eq, fun j y h => by cases h⟩
theorem C_addR {y : Int64} (h : CR S l) (hl : l.length < 8) : ∃ S', f_c4_add N 13 y (mk L S) = some (mk L S') ∧ Fr pRow S S' ∧ CR S' (l ++ [y]) := by
  have e1 := h.1
  refine ⟨stI (stL S 14 l.length y) 13 1 (nI (l.length + 1)), ?_, (Fr.stL (A := pRow) (Or.inr rfl)).trans (Fr.stI (A := pRow) (Or.inl rfl)) (fun _ z => z) (fun _ z => z), ?_, fun j z hz => ?_⟩
  · simp (disch := omega) only [Option.bind_some, ↓ile_t, ↓ile_f, ↓ilt_t, ↓ilt_f, ↓ieq_t, ↓ieq_f, ↓iz_t, ↓iz_f, ↓iltz, ↓izle, ↓ilez_t, ↓ilez_f, ↓im1, ile_t, ile_f, ilt_t, ilt_f, ieq_t, ieq_f, iz_t, iz_f, iltz, izle, ilez_t, ilez_f, im1, gZ_0, gZ_1, e10, e00, ↓reduceIte, Sum.elim_inl, Sum.elim_inr, nI_1, nI_add, Int32.sub_zero, f_c4_add, zc13, zr13_0, zi13_1, zs13_1, e1, zn14, zp14, rdL1]
  · rw [rdI_eq, List.length_append]; rfl
  · show (stL S 14 l.length y).2.1 14 j = z
    rcases getE_app hz with ⟨h1, h2⟩ | ⟨rfl, rfl⟩
    · rw [rdL_ne (by omega)]; exact h.2 j z h2
    · exact rdL_eq
theorem pRow_tr {S1 S2 : gS} (h : Fr pRow S S1) (k : Fr pRow S1 S2) : Fr pRow S S2 := h.trans k (fun _ z => z) (fun _ z => z)
theorem C_tell1 {r : Int32} {y : Int64} : ∃ S', f_c10_tellOne N 10 r y (mk L S) = some (r, mk L S') ∧ Fr pRow S S' ∧ CR S' [y] := by
  obtain ⟨S1, e1, e2, e3⟩ := C_clear (L := L) (N := N) (S := S)
  obtain ⟨S2, f1, f2, f3⟩ := C_addR (L := L) (N := N) (y := y) e3 (by show 0 < 8; omega)
  refine ⟨S2, ?_, pRow_tr e2 f2, f3⟩
  simp (disch := omega) only [Option.bind_some, ↓ile_t, ↓ile_f, ↓ilt_t, ↓ilt_f, ↓ieq_t, ↓ieq_f, ↓iz_t, ↓iz_f, ↓iltz, ↓izle, ↓ilez_t, ↓ilez_f, ↓im1, ile_t, ile_f, ilt_t, ilt_f, ieq_t, ieq_f, iz_t, iz_f, iltz, izle, ilez_t, ilez_f, im1, gZ_0, gZ_1, e10, e00, ↓reduceIte, Sum.elim_inl, Sum.elim_inr, nI_1, nI_add, Int32.sub_zero, f_c10_tellOne, zc10, zr10_0, zr10_1, zr10_2, zr10_3, zr10_4, zr10_5, zr10_6, zr10_7, zr10_8, zr10_9, zr10_10, zs10_11, zs10_12, e1, f1]
theorem C_tell2 {r : Int32} {y z : Int64} : ∃ S', f_c10_tellTwo N 10 r y z (mk L S) = some (r, mk L S') ∧ Fr pRow S S' ∧ CR S' [y, z] := by
  obtain ⟨S1, e1, e2, e3⟩ := C_tell1 (L := L) (N := N) (S := S) (r := r) (y := y)
  obtain ⟨S2, f1, f2, f3⟩ := C_addR (L := L) (N := N) (y := z) e3 (by show 1 < 8; omega)
  refine ⟨S2, ?_, pRow_tr e2 f2, f3⟩
  simp (disch := omega) only [Option.bind_some, ↓ile_t, ↓ile_f, ↓ilt_t, ↓ilt_f, ↓ieq_t, ↓ieq_f, ↓iz_t, ↓iz_f, ↓iltz, ↓izle, ↓ilez_t, ↓ilez_f, ↓im1, ile_t, ile_f, ilt_t, ilt_f, ieq_t, ieq_f, iz_t, iz_f, iltz, izle, ilez_t, ilez_f, im1, gZ_0, gZ_1, e10, e00, ↓reduceIte, Sum.elim_inl, Sum.elim_inr, nI_1, nI_add, Int32.sub_zero, f_c10_tellTwo, zc10, zr10_0, zr10_1, zr10_2, zr10_3, zr10_4, zr10_5, zr10_6, zr10_7, zr10_8, zr10_9, zr10_10, zs10_11, zs10_12, e1, f1]
theorem C_tell3 {r : Int32} {y z w : Int64} : ∃ S', f_c10_tellThree N 10 r y z w (mk L S) = some (r, mk L S') ∧ Fr pRow S S' ∧ CR S' [y, z, w] := by
  obtain ⟨S1, e1, e2, e3⟩ := C_tell2 (L := L) (N := N) (S := S) (r := r) (y := y) (z := z)
  obtain ⟨S2, f1, f2, f3⟩ := C_addR (L := L) (N := N) (y := w) e3 (by show 2 < 8; omega)
  refine ⟨S2, ?_, pRow_tr e2 f2, f3⟩
  simp (disch := omega) only [Option.bind_some, ↓ile_t, ↓ile_f, ↓ilt_t, ↓ilt_f, ↓ieq_t, ↓ieq_f, ↓iz_t, ↓iz_f, ↓iltz, ↓izle, ↓ilez_t, ↓ilez_f, ↓im1, ile_t, ile_f, ilt_t, ilt_f, ieq_t, ieq_f, iz_t, iz_f, iltz, izle, ilez_t, ilez_f, im1, gZ_0, gZ_1, e10, e00, ↓reduceIte, Sum.elim_inl, Sum.elim_inr, nI_1, nI_add, Int32.sub_zero, f_c10_tellThree, zc10, zr10_0, zr10_1, zr10_2, zr10_3, zr10_4, zr10_5, zr10_6, zr10_7, zr10_8, zr10_9, zr10_10, zs10_11, zs10_12, e1, f1]
abbrev mRow : Nat → Prop := fun x => x = 149
abbrev kRow : Nat → Prop := fun x => x = 9
theorem M_tell {y : Int64} (h : MR S l) (hl : l.length < 8) : ∃ S', f_c11_tell N 144 y (mk L S) = some (mk L S') ∧ FM mRow kRow S S' ∧ MR S' (l ++ [y]) := by
  have e1 := h.1
  refine ⟨stI (stL S 149 l.length y) 144 9 (nI (l.length + 1)), ?_, (FM.stL (A := mRow) (K := kRow) rfl (by omega)).tr (FM.stK (K := kRow) rfl), ?_, fun j z hz => ?_⟩
  · simp (disch := omega) only [Option.bind_some, ↓ile_t, ↓ile_f, ↓ilt_t, ↓ilt_f, ↓ieq_t, ↓ieq_f, ↓iz_t, ↓iz_f, ↓iltz, ↓izle, ↓ilez_t, ↓ilez_f, ↓im1, ile_t, ile_f, ilt_t, ilt_f, ieq_t, ieq_f, iz_t, iz_f, iltz, izle, ilez_t, ilez_f, im1, gZ_0, gZ_1, e10, e00, ↓reduceIte, Sum.elim_inl, Sum.elim_inr, nI_1, nI_add, Int32.sub_zero, f_c11_tell, zc144, zr144_8, zi144_9, zs144_9, e1, zp149, rdL1]
  · rw [rdI_eq, List.length_append]; rfl
  · show (stL S 149 l.length y).2.1 149 j = z
    rcases getE_app hz with ⟨h1, h2⟩ | ⟨rfl, rfl⟩
    · rw [rdL_ne (by omega)]; exact h.2 j z h2
    · exact rdL_eq
/-- the row emptied -/
theorem MR_0 : MR (stI S 144 9 0) [] := ⟨rdI_eq, fun j y h => by cases h⟩
theorem M_tell1 {y : Int64} : ∃ S', (f_c11_tell N 144 y (mk L (stI S 144 9 0))) = some (mk L S') ∧ FM mRow kRow S S' ∧ MR S' [y] := by
  obtain ⟨S1, e1, e2, e3⟩ := M_tell (L := L) (N := N) (y := y) (MR_0 (S := S)) (by show 0 < 8; omega)
  exact ⟨S1, e1, (FM.stK (A := mRow) (K := kRow) rfl).tr e2, e3⟩
end TELLS
theorem MV.cp {S S' : gS} {r r' o o' : Nat} {v : pV} (h8 : vN v ≤ 8) (h : ∀ k, k < 43 → S'.1 r' (o' + k) = S.1 r (o + k)) (q : MV S r o v) : MV S' r' o' v := by
  refine ⟨(h 40 (by omega)).trans q.1, (h 41 (by omega)).trans q.2.1, (h 42 (by omega)).trans q.2.2.1, fun w hw => ?_⟩
  have z := q.2.2.2 w hw
  exact ⟨(h w (by omega)).trans z.1, (h (8 + w) (by omega)).trans z.2.1, (h (16 + w) (by omega)).trans z.2.2.1, (h (24 + w) (by omega)).trans z.2.2.2.1, (h (32 + w) (by omega)).trans z.2.2.2.2⟩
theorem MV.of {S S' : gS} {r r' o' : Nat} {v : pV} (h8 : vN v ≤ 8) (h : ∀ k, k < 43 → S'.1 r' (o' + k) = S.1 r k) (q : MW S r v) : MV S' r' o' v := by
  refine ⟨(h 40 (by omega)).trans q.1, (h 41 (by omega)).trans q.2.1, (h 42 (by omega)).trans q.2.2.1, fun w hw => ?_⟩
  have z := q.2.2.2 w hw
  exact ⟨(h w (by omega)).trans z.1, (h (8 + w) (by omega)).trans z.2.1, (h (16 + w) (by omega)).trans z.2.2.1, (h (24 + w) (by omega)).trans z.2.2.2.1, (h (32 + w) (by omega)).trans z.2.2.2.2⟩
theorem MW.of {S S' : gS} {r r' o : Nat} {v : pV} (h8 : vN v ≤ 8) (h : ∀ k, k < 43 → S'.1 r' k = S.1 r (o + k)) (q : MV S r o v) : MW S' r' v := by
  refine ⟨(h 40 (by omega)).trans q.1, (h 41 (by omega)).trans q.2.1, (h 42 (by omega)).trans q.2.2.1, fun w hw => ?_⟩
  have z := q.2.2.2 w hw
  exact ⟨(h w (by omega)).trans z.1, (h (8 + w) (by omega)).trans z.2.1, (h (16 + w) (by omega)).trans z.2.2.1, (h (24 + w) (by omega)).trans z.2.2.2.1, (h (32 + w) (by omega)).trans z.2.2.2.2⟩
theorem MW.cp {S S' : gS} {r r' : Nat} {v : pV} (h8 : vN v ≤ 8) (h : ∀ k, k < 43 → S'.1 r' k = S.1 r k) (q : MW S r v) : MW S' r' v := by
  refine ⟨(h 40 (by omega)).trans q.1, (h 41 (by omega)).trans q.2.1, (h 42 (by omega)).trans q.2.2.1, fun w hw => ?_⟩
  have z := q.2.2.2 w hw
  exact ⟨(h w (by omega)).trans z.1, (h (8 + w) (by omega)).trans z.2.1, (h (16 + w) (by omega)).trans z.2.2.1, (h (24 + w) (by omega)).trans z.2.2.2.1, (h (32 + w) (by omega)).trans z.2.2.2.2⟩
def uPush (u : pN) (v : pV) : pN := if u.1 < 12 then (u.1 + 1, fun i => if i = u.1 then v else u.2 i) else (12, fun i => if i = 11 then v else u.2 (i + 1))
theorem NOk.push {g : pG} {u : pN} {v : pV} (h : NOk g u) (hv : WV g v) : NOk g (uPush u v) := by
  unfold uPush
  split
  · rename_i q
    refine ⟨q, fun i hi => ?_⟩
    show WV g (if i = u.1 then v else u.2 i)
    have hi2 : i < u.1 + 1 := hi
    split
    · exact hv
    · exact h.2 i (by omega)
  · refine ⟨Nat.le_refl _, fun i hi => ?_⟩
    have := h.1
    show WV g (if i = 11 then v else u.2 (i + 1))
    have hi2 : i < 12 := hi
    split
    · exact hv
    · exact h.2 (i + 1) (by omega)
section LAYS
variable {L N r d m o : Nat} {S : gS} {v : pV} {u : pN}
theorem M_lay (hr : kA r = some (0, 43)) (hd : kA d = some (0, m)) (hrd : r ≠ d) (h144 : d ≠ 144) (ho : o + 43 ≤ m) (hm : m < 2000000) (hN : 900 ≤ N) : ∃ S', f_c11_lay N r d (nI o) (mk L S) = some (mk L S') ∧ FM (fun x => x = d) (fun _ => False) S S' ∧ (∀ j, j < 43 → S'.1 d (o + j) = S.1 r j) ∧ ∀ j, (j < o ∨ o + 43 ≤ j) → S'.1 d j = S.1 d j := by
  have h00 : ∃ q, lp_c11_lay_2 N r d (nI o) N (nI 0) (mk L S) = some q ∧ ∃ S', q = mk L S' ∧ FM (fun x => x = d) (fun _ => False) S S' ∧ (∀ j, j < 43 → S'.1 d (o + j) = S.1 r j) ∧ ∀ j, (j < o ∨ o + 43 ≤ j) → S'.1 d j = S.1 d j := by
    refine lp_inv (Lp := fun k (s : gS) i => lp_c11_lay_2 N r d (nI o) k (nI i) (mk L s)) (n := 43) (P := fun i s => FM (fun x => x = d) (fun _ => False) S s ∧ (∀ j, j < i → s.1 d (o + j) = S.1 r j) ∧ ∀ j, (j < o ∨ o + i ≤ j) → s.1 d j = S.1 d j) (fun k i s hi hs => Or.inr ?_) (fun k s hs => ?_) 43 N 0 S (by omega) (by omega) ⟨FM.refl, fun j hj => by omega, fun j hj => rfl⟩
    · obtain ⟨hF, h1, h2⟩ := hs
      by_cases hr144 : r = 144
      · rw [hr144] at hr; exact absurd hr (by decide)
      have er : s.1 r i = S.1 r i := hF.i hr144 hrd i
      refine ⟨stI s d (o + i) (S.1 r i), ?_, hF.tr (FM.stA rfl h144), fun j hj => ?_, fun j hj => ?_⟩
      · show lp_c11_lay_2 N r d (nI o) (k + 1) _ _ = _
        rw [lp_c11_lay_2.eq_2]
        simp (disch := omega) only [Option.bind_some, ↓ile_t, ↓ile_f, ↓ilt_t, ↓ilt_f, ↓ieq_t, ↓ieq_f, ↓iz_t, ↓iz_f, ↓iltz, ↓izle, ↓ilez_t, ↓ilez_f, ↓im1, ile_t, ile_f, ilt_t, ilt_f, ieq_t, ieq_f, iz_t, iz_f, iltz, izle, ilez_t, ilez_f, im1, gZ_0, gZ_1, e10, e00, ↓reduceIte, Sum.elim_inl, Sum.elim_inr, nI_1, nI_add, Int32.sub_zero, k43, ga_nI (L := L) (S := s) (j := i) hr (by decide) hi (by omega), er, sa_nI (L := L) (S := s) (j := o + i) hd (by decide) (by omega) (by omega)]
      · by_cases q : j = i
        · subst q; exact rdI_eq
        · rw [rdI_ne (by omega)]; exact h1 j (by omega)
      · rw [rdI_ne (by omega)]; exact h2 j (by omega)
    · obtain ⟨hF, h1, h2⟩ := hs
      refine ⟨mk L s, ?_, s, rfl, hF, h1, h2⟩
      show lp_c11_lay_2 N r d (nI o) (k + 1) _ _ = _
      rw [lp_c11_lay_2.eq_2]
      simp (disch := omega) only [Option.bind_some, ↓ile_t, ↓ile_f, ↓ilt_t, ↓ilt_f, ↓ieq_t, ↓ieq_f, ↓iz_t, ↓iz_f, ↓iltz, ↓izle, ↓ilez_t, ↓ilez_f, ↓im1, ile_t, ile_f, ilt_t, ilt_f, ieq_t, ieq_f, iz_t, iz_f, iltz, izle, ilez_t, ilez_f, im1, gZ_0, gZ_1, e10, e00, ↓reduceIte, Sum.elim_inl, Sum.elim_inr, nI_1, nI_add, Int32.sub_zero, k43]
  obtain ⟨q, e, S', er, h1⟩ := h00
  rw [er] at e
  rw [nI_0] at e
  exact ⟨S', by simp (disch := omega) only [Option.bind_some, ↓ile_t, ↓ile_f, ↓ilt_t, ↓ilt_f, ↓ieq_t, ↓ieq_f, ↓iz_t, ↓iz_f, ↓iltz, ↓izle, ↓ilez_t, ↓ilez_f, ↓im1, ile_t, ile_f, ilt_t, ilt_f, ieq_t, ieq_f, iz_t, iz_f, iltz, izle, ilez_t, ilez_f, im1, gZ_0, gZ_1, e10, e00, ↓reduceIte, Sum.elim_inl, Sum.elim_inr, nI_1, nI_add, Int32.sub_zero, f_c11_lay, e], h1⟩
/-- the row laid aside, or for what is to come -/
theorem M_aside (hr : kA r = some (0, 43)) (hd : d = 155 ∨ d = 156) (hrd : r ≠ d) (hm : MW S r v) (h8 : vN v ≤ 8) (hN : 900 ≤ N) : ∃ S', f_c11_lay N r d 0 (mk L S) = some (mk L S') ∧ FM (fun x => x = d) (fun _ => False) S S' ∧ MW S' d v := by
  have hk : kA d = some (0, 43) := by rcases hd with rfl | rfl; exact MA_155; exact MA_156
  obtain ⟨S', e1, e2, e3, e4⟩ := M_lay (L := L) (N := N) (S := S) (o := 0) hr hk hrd (by omega) (by omega) (by omega) hN
  exact ⟨S', e1, e2, hm.cp h8 (fun k hk => by have := e3 k hk; rw [Nat.zero_add] at this; exact this)⟩
theorem M_remember (hr : kA r = some (0, 43)) (hr2 : r = 145 ∨ r = 155 ∨ r = 156) (hu : MN S u) (hu2 : u.1 ≤ 12) (hw8 : ∀ i, i < u.1 → vN (u.2 i) ≤ 8) (hm : MW S r v) (h8 : vN v ≤ 8) (hN : 900 ≤ N) :
    ∃ S', f_c11_remember N 144 r (mk L S) = some (mk L S') ∧ FM (fun x => x = 154) (fun k => k = 23) S S' ∧ MN S' (uPush u v) := by
  have h154 : kA 154 = some (0, 516) := by rfl
  by_cases z : u.1 = 12
  · -- full: the eldest goes
    have h00 : ∃ q, lp_c11_remember_11 N 144 N (nI 0) (mk L S) = some q ∧ ∃ S', q = mk L S' ∧ FM (fun x => x = 154) (fun _ => False) S S' ∧ ∀ j, j < 473 → S'.1 154 j = S.1 154 (j + 43) := by
      refine lp_inv (Lp := fun k (s : gS) i => lp_c11_remember_11 N 144 k (nI i) (mk L s)) (n := 473) (P := fun i s => FM (fun x => x = 154) (fun _ => False) S s ∧ (∀ j, j < i → s.1 154 j = S.1 154 (j + 43)) ∧ ∀ j, i ≤ j → s.1 154 j = S.1 154 j) (fun k i s hi hs => Or.inr ?_) (fun k s hs => ?_) 473 N 0 S (by omega) (by omega) ⟨FM.refl, fun j hj => by omega, fun j hj => rfl⟩
      · obtain ⟨hF, h1, h2⟩ := hs
        have e := h2 (i + 43) (by omega)
        refine ⟨stI s 154 i (S.1 154 (i + 43)), ?_, hF.tr (FM.stA rfl (by omega)), fun j hj => ?_, fun j hj => ?_⟩
        · show lp_c11_remember_11 N 144 (k + 1) _ _ = _
          rw [lp_c11_remember_11.eq_2]
          simp (disch := omega) only [Option.bind_some, ↓ile_t, ↓ile_f, ↓ilt_t, ↓ilt_f, ↓ieq_t, ↓ieq_f, ↓iz_t, ↓iz_f, ↓iltz, ↓izle, ↓ilez_t, ↓ilez_f, ↓im1, ile_t, ile_f, ilt_t, ilt_f, ieq_t, ieq_f, iz_t, iz_f, iltz, izle, ilez_t, ilez_f, im1, gZ_0, gZ_1, e10, e00, ↓reduceIte, Sum.elim_inl, Sum.elim_inr, nI_1, nI_add, Int32.sub_zero, k473, zr144_22, k43, zg154, zp154, e]
        · by_cases q : j = i
          · subst q; exact rdI_eq
          · rw [rdI_ne (by omega)]; exact h1 j (by omega)
        · rw [rdI_ne (by omega)]; exact h2 j (by omega)
      · obtain ⟨hF, h1, h2⟩ := hs
        refine ⟨mk L s, ?_, s, rfl, hF, h1⟩
        show lp_c11_remember_11 N 144 (k + 1) _ _ = _
        rw [lp_c11_remember_11.eq_2]
        simp (disch := omega) only [Option.bind_some, ↓ile_t, ↓ile_f, ↓ilt_t, ↓ilt_f, ↓ieq_t, ↓ieq_f, ↓iz_t, ↓iz_f, ↓iltz, ↓izle, ↓ilez_t, ↓ilez_f, ↓im1, ile_t, ile_f, ilt_t, ilt_f, ieq_t, ieq_f, iz_t, iz_f, iltz, izle, ilez_t, ilez_f, im1, gZ_0, gZ_1, e10, e00, ↓reduceIte, Sum.elim_inl, Sum.elim_inr, nI_1, nI_add, Int32.sub_zero, k473]
    obtain ⟨q, e, S1, er, h1, h2⟩ := h00
    rw [er] at e
    rw [nI_0] at e
    have e23 : S.1 144 23 = nI 12 := by rw [hu.1, z]
    have e23' : S1.1 144 23 = nI 12 := (h1.k (fun z => z)).trans e23
    have hm1 : MW (stI S1 144 23 (nI 11)) r v := (hm.fm h1 (by omega) (by omega)).fr (Fr.stI (A := fun x => x = 144) rfl) (by omega)
    obtain ⟨S2, f1, f2, f3, f4⟩ := M_lay (L := L) (N := N) (S := stI S1 144 23 (nI 11)) (o := 43 * 11) hr h154 (by omega) (by omega) (by omega) (by omega) hN
    have e23'' : S2.1 144 23 = nI 11 := (f2.k (fun z => z)).trans rdI_eq
    refine ⟨stI S2 144 23 (nI 12), ?_, ?_, ?_⟩
    · have t12 : nI 12 = (12 : Int32) := rfl
      simp (disch := omega) only [Option.bind_some, ↓ile_t, ↓ile_f, ↓ilt_t, ↓ilt_f, ↓ieq_t, ↓ieq_f, ↓iz_t, ↓iz_f, ↓iltz, ↓izle, ↓ilez_t, ↓ilez_f, ↓im1, ile_t, ile_f, ilt_t, ilt_f, ieq_t, ieq_f, iz_t, iz_f, iltz, izle, ilez_t, ilez_f, im1, gZ_0, gZ_1, e10, e00, ↓reduceIte, Sum.elim_inl, Sum.elim_inr, nI_1, nI_add, Int32.sub_zero, f_c11_remember, zc144, zr144_0, zi144_1, zs144_1, zi144_2, zs144_2, zi144_3, zs144_3, zr144_4, zr144_5, zr144_6, zi144_7, zs144_7, zr144_8, zi144_9, zs144_9, zi144_10, zs144_10, zs144_11, zi144_12, zs144_12, zi144_13, zs144_13, zi144_14, zs144_14, zi144_15, zs144_15, zr144_16, zs144_17, zr144_18, zi144_19, zs144_19, zi144_20, zs144_20, zr144_21, zr144_22, zi144_23, zs144_23, zr144_24, zr144_25, zr144_26, zr144_27, zr144_28, zr144_29, zr144_30, zr144_31, zr144_32, zr144_33, zi144_34, zs144_34, zr144_35, zr144_36, zi144_37, zs144_37, zi144_38, zs144_38, zr144_39, zr144_40, zr144_41, e23, k12, e, e23', nI_sub1, k43, nI_mul, rdI_eq, f1, e23'']
    · exact ((h1.mono (fun _ z => z) (fun _ z => z.elim)).tr (FM.stK (K := fun k => k = 23) rfl)).tr ((f2.mono (fun _ z => z) (fun _ z => z.elim)).tr (FM.stK rfl))
    · unfold uPush
      rw [if_neg (by omega)]
      refine ⟨rdI_eq, fun i hi => ?_⟩
      have hi2 : i < 12 := hi
      show MV _ 154 (43 * i) (if i = 11 then v else u.2 (i + 1))
      by_cases q : i = 11
      · subst q
        rw [if_pos rfl]
        refine MV.of h8 (fun k hk => ?_) hm1
        rw [rdI_ne (by omega)]
        exact f3 k hk
      · rw [if_neg q]
        refine MV.cp (hw8 (i + 1) (by omega)) (fun k hk => ?_) (hu.2 (i + 1) (by omega))
        rw [rdI_ne (by omega), f4 _ (by omega), rdI_ne (by omega), h2 _ (by omega)]
        rw [show 43 * i + k + 43 = 43 * (i + 1) + k by omega]
  · have e23 : S.1 144 23 = nI u.1 := hu.1
    obtain ⟨S2, f1, f2, f3, f4⟩ := M_lay (L := L) (N := N) (S := S) (o := 43 * u.1) hr h154 (by omega) (by omega) (by omega) (by omega) hN
    have e23' : S2.1 144 23 = nI u.1 := (f2.k (fun z => z)).trans e23
    refine ⟨stI S2 144 23 (nI (u.1 + 1)), ?_, (f2.mono (fun _ z => z) (fun _ z => z.elim)).tr (FM.stK rfl), ?_⟩
    · have n12 : ¬ nI u.1 = 12 := fun e => z ((nI_eq (b := 12) (by omega) (by omega)).mp e)
      simp (disch := omega) only [Option.bind_some, ↓ile_t, ↓ile_f, ↓ilt_t, ↓ilt_f, ↓ieq_t, ↓ieq_f, ↓iz_t, ↓iz_f, ↓iltz, ↓izle, ↓ilez_t, ↓ilez_f, ↓im1, ile_t, ile_f, ilt_t, ilt_f, ieq_t, ieq_f, iz_t, iz_f, iltz, izle, ilez_t, ilez_f, im1, gZ_0, gZ_1, e10, e00, ↓reduceIte, Sum.elim_inl, Sum.elim_inr, nI_1, nI_add, Int32.sub_zero, f_c11_remember, zc144, zr144_0, zi144_1, zs144_1, zi144_2, zs144_2, zi144_3, zs144_3, zr144_4, zr144_5, zr144_6, zi144_7, zs144_7, zr144_8, zi144_9, zs144_9, zi144_10, zs144_10, zs144_11, zi144_12, zs144_12, zi144_13, zs144_13, zi144_14, zs144_14, zi144_15, zs144_15, zr144_16, zs144_17, zr144_18, zi144_19, zs144_19, zi144_20, zs144_20, zr144_21, zr144_22, zi144_23, zs144_23, zr144_24, zr144_25, zr144_26, zr144_27, zr144_28, zr144_29, zr144_30, zr144_31, zr144_32, zr144_33, zi144_34, zs144_34, zr144_35, zr144_36, zi144_37, zs144_37, zi144_38, zs144_38, zr144_39, zr144_40, zr144_41, e23, if_neg n12, k43, nI_mul, f1, e23']
    · unfold uPush
      rw [if_pos (by omega)]
      refine ⟨rdI_eq, fun i hi => ?_⟩
      have hi2 : i < u.1 + 1 := hi
      show MV _ 154 (43 * i) (if i = u.1 then v else u.2 i)
      by_cases q : i = u.1
      · subst q
        rw [if_pos rfl]
        refine MV.of h8 (fun k hk => ?_) hm
        rw [rdI_ne (by omega)]
        exact f3 k hk
      · rw [if_neg q]
        refine MV.cp (hw8 i (by omega)) (fun k hk => ?_) (hu.2 i (by omega))
        rw [rdI_ne (by omega), f4 _ (by omega)]
end LAYS
section PUSHES
variable {L N : Nat} {S : gS} {v : pV} {u : pN}
abbrev pUn : Nat → Prop := fun x => x = 40 ∨ x = 41 ∨ (44 ≤ x ∧ x ≤ 115)
theorem C_push (hu : CN S u) (hv : CV S 25 v) (h8 : vN v ≤ 8) (hN : 900 ≤ N) : ∃ S', f_c5_push N 40 25 (mk L S) = some (mk L S') ∧ Fr pUn S S' ∧ CN S' (uPush u v) := by
  obtain ⟨⟨u0, u12⟩, π, u1, u2, u3⟩ := hu
  by_cases z : u.1 < 12
  · obtain ⟨p1, p2⟩ := u1 u.1 z
    obtain ⟨S1, e1, e2, e3⟩ := C_take (L := L) (N := N) (SA_u (π u.1) p1) SA_25 (by omega) hv h8 hN
    have e40 : S1.1 40 3 = nI u.1 := (e2.i (by omega) 3).trans u0
    refine ⟨stI S1 40 3 (nI (u.1 + 1)), ?_, (e2.mono (fun x hx => by show _ ∨ _; omega)).trans (Fr.stI (A := pUn) (Or.inl rfl)) (fun _ z => z) (fun _ z => z), ?_⟩
    · simp (disch := omega) only [Option.bind_some, ↓ile_t, ↓ile_f, ↓ilt_t, ↓ilt_f, ↓ieq_t, ↓ieq_f, ↓iz_t, ↓iz_f, ↓iltz, ↓izle, ↓ilez_t, ↓ilez_f, ↓im1, ile_t, ile_f, ilt_t, ilt_f, ieq_t, ieq_f, iz_t, iz_f, iltz, izle, ilez_t, ilez_f, im1, gZ_0, gZ_1, e10, e00, ↓reduceIte, Sum.elim_inl, Sum.elim_inr, nI_1, nI_add, Int32.sub_zero, f_c5_push, zc40, zr40_0, zr40_1, zr40_2, zi40_3, zs40_3, u0, k12, zg41, p2, e1, e40]
    · unfold uPush
      rw [if_pos z]
      refine ⟨⟨rdI_eq, z⟩, π, fun i hi => ⟨(u1 i hi).1, (e2.p (by omega) i).trans (u1 i hi).2⟩, u2, fun i hi => ?_⟩
      have hi2 : i < u.1 + 1 := hi
      have hi3 := (u1 i (by omega)).1
      show CV _ (44 + 6 * π i) (if i = u.1 then v else u.2 i)
      refine CV.fr (Fr.stI (A := fun x => x = 40) rfl) (fun x h1 h2 => by omega) ?_
      by_cases q : i = u.1
      · rw [if_pos q, q]; exact e3
      · rw [if_neg q]
        have hne : π i ≠ π u.1 := fun e => q (u2 i u.1 (by omega) z e)
        exact (u3 i (by omega)).fr e2 (fun x h1 h2 => by omega)
  · -- full: the eldest's object is used again
    have z12 : u.1 = 12 := by omega
    have h00 : ∃ q, lp_c5_push_18 N 40 N (nI 1) (mk L S) = some q ∧ ∃ S', q = mk L S' ∧ Fr (fun x => x = 41) S S' ∧ S'.1 = S.1 ∧ (∀ j, j < 11 → S'.2.2 41 j = S.2.2 41 (j + 1)) := by
      refine lp_inv (Lp := fun k (s : gS) i => lp_c5_push_18 N 40 k (nI i) (mk L s)) (n := 12) (P := fun i s => 1 ≤ i ∧ Fr (fun x => x = 41) S s ∧ s.1 = S.1 ∧ (∀ j, j + 1 < i → s.2.2 41 j = S.2.2 41 (j + 1)) ∧ ∀ j, i ≤ j + 1 → j ≠ i - 1 → s.2.2 41 j = S.2.2 41 j) (fun k i s hi hs => Or.inr ?_) (fun k s hs => ?_) 11 N 1 S (by omega) (by omega) ⟨Nat.le_refl _, Fr.refl, rfl, fun j hj => by omega, fun j hj _ => rfl⟩
      · obtain ⟨hi1, hF, h0, h1, h2⟩ := hs
        have e := h2 i (by omega) (by omega)
        obtain ⟨p1, p2⟩ := u1 i hi
        refine ⟨stP s 41 (i - 1) (some (44 + 6 * π i)), ?_, by omega, hF.trans (Fr.stP (A := fun x => x = 41) rfl) (fun _ z => z) (fun _ z => z), h0, fun j hj => ?_, fun j hj1 hj2 => ?_⟩
        · show lp_c5_push_18 N 40 (k + 1) _ _ = _
          rw [lp_c5_push_18.eq_2]
          have eg : gaR (mk L s) 41 (nI i) = some (44 + 6 * π i) := by rw [zg41 hi, e]; exact p2
          have ep := zp41 (L := L) (S := s) (j := i - 1) (r := 44 + 6 * π i) (by omega) (SA_u (π i) p1).1
          simp (disch := omega) only [Option.bind_some, ↓ile_t, ↓ile_f, ↓ilt_t, ↓ilt_f, ↓ieq_t, ↓ieq_f, ↓iz_t, ↓iz_f, ↓iltz, ↓izle, ↓ilez_t, ↓ilez_f, ↓im1, ile_t, ile_f, ilt_t, ilt_f, ieq_t, ieq_f, iz_t, iz_f, iltz, izle, ilez_t, ilez_f, im1, gZ_0, gZ_1, e10, e00, ↓reduceIte, Sum.elim_inl, Sum.elim_inr, nI_1, nI_add, Int32.sub_zero, k12, zc40, zr40_0, zr40_1, zr40_2, zi40_3, zs40_3, eg, nI_sub1, ep]
        · by_cases q : j = i - 1
          · subst q
            rw [rdP_eq, show i - 1 + 1 = i by omega]
            exact p2.symm
          · rw [rdP_ne (by omega)]; exact h1 j (by omega)
        · rw [rdP_ne (by omega)]; exact h2 j (by omega) (by omega)
      · obtain ⟨hi1, hF, h0, h1, h2⟩ := hs
        refine ⟨mk L s, ?_, s, rfl, hF, h0, fun j hj => h1 j (by omega)⟩
        show lp_c5_push_18 N 40 (k + 1) _ _ = _
        rw [lp_c5_push_18.eq_2]
        simp (disch := omega) only [Option.bind_some, ↓ile_t, ↓ile_f, ↓ilt_t, ↓ilt_f, ↓ieq_t, ↓ieq_f, ↓iz_t, ↓iz_f, ↓iltz, ↓izle, ↓ilez_t, ↓ilez_f, ↓im1, ile_t, ile_f, ilt_t, ilt_f, ieq_t, ieq_f, iz_t, iz_f, iltz, izle, ilez_t, ilez_f, im1, gZ_0, gZ_1, e10, e00, ↓reduceIte, Sum.elim_inl, Sum.elim_inr, nI_1, nI_add, Int32.sub_zero, k12]
    obtain ⟨q, e, S1, er, h1, h0, h2⟩ := h00
    rw [er] at e
    rw [← k1] at e
    obtain ⟨p1, p2⟩ := u1 0 (by omega)
    have eg : gaR (mk L S) 41 0 = some (44 + 6 * π 0) := by
      have := zg41 (L := L) (S := S) (j := 0) (by omega)
      rw [p2] at this
      exact this
    have ep : ∀ X : gS, saR (mk L X) 41 (11 : Int32) (44 + 6 * π 0) = some (mk L (stP X 41 11 (some (44 + 6 * π 0)))) := fun X => zp41 (L := L) (S := X) (j := 11) (by omega) (SA_u (π 0) p1).1
    have hv1 : CV (stI (stP S1 41 11 (some (44 + 6 * π 0))) 40 3 11) 25 v := (hv.fr h1 (fun x _ _ => by omega)).fr ((Fr.stP (A := fun x => x = 40 ∨ x = 41) (Or.inr rfl)).trans (Fr.stI (A := fun x => x = 40 ∨ x = 41) (Or.inl rfl)) (fun _ z => z) (fun _ z => z)) (fun x _ _ => by omega)
    obtain ⟨S2, f1, f2, f3⟩ := C_take (L := L) (N := N) (SA_u (π 0) p1) SA_25 (by omega) hv1 h8 hN
    have e40 : S2.1 40 3 = nI 11 := (f2.i (by omega) 3).trans rdI_eq
    have eg2 : gaR (mk L (stI (stP S1 41 11 (some (44 + 6 * π 0))) 40 3 11)) 41 11 = some (44 + 6 * π 0) := by
      have := zg41 (L := L) (S := stI (stP S1 41 11 (some (44 + 6 * π 0))) 40 3 11) (j := 11) (by omega)
      rw [show (stI (stP S1 41 11 (some (44 + 6 * π 0))) 40 3 11).2.2 41 11 = some (44 + 6 * π 0) from rdP_eq] at this
      exact this
    refine ⟨stI S2 40 3 (nI 12), ?_, ?_, ?_⟩
    · have n12 : ¬ nI 12 < (12 : Int32) := by decide
      rw [z12] at u0
      simp (disch := omega) only [Option.bind_some, ↓ile_t, ↓ile_f, ↓ilt_t, ↓ilt_f, ↓ieq_t, ↓ieq_f, ↓iz_t, ↓iz_f, ↓iltz, ↓izle, ↓ilez_t, ↓ilez_f, ↓im1, ile_t, ile_f, ilt_t, ilt_f, ieq_t, ieq_f, iz_t, iz_f, iltz, izle, ilez_t, ilez_f, im1, gZ_0, gZ_1, e10, e00, ↓reduceIte, Sum.elim_inl, Sum.elim_inr, nI_1, nI_add, Int32.sub_zero, f_c5_push, zc40, zr40_0, zr40_1, zr40_2, zi40_3, zs40_3, u0, if_neg n12, eg, e, ep, rdI_eq, eg2, f1, e40]
    · refine Fr.trans (C := pUn) (h1.mono (fun x hx => by show _ ∨ _; omega)) (Fr.trans (C := pUn) ((Fr.stP (A := pUn) (Or.inr (Or.inl rfl))).trans (Fr.stI (A := pUn) (Or.inl rfl)) (fun _ z => z) (fun _ z => z)) (Fr.trans (C := pUn) (f2.mono (fun x hx => by show _ ∨ _; omega)) (Fr.stI (A := pUn) (Or.inl rfl)) (fun _ z => z) (fun _ z => z)) (fun _ z => z) (fun _ z => z)) (fun _ z => z) (fun _ z => z)
    · unfold uPush
      rw [if_neg z]
      refine ⟨⟨rdI_eq, Nat.le_refl _⟩, fun i => if i = 11 then π 0 else π (i + 1), fun i hi => ?_, fun i j hi hj he => ?_, fun i hi => ?_⟩
      · refine ⟨?_, ?_⟩
        · show (if i = 11 then π 0 else π (i + 1)) < 12
          split
          · exact p1
          · exact (u1 (i + 1) (by omega)).1
        · show S2.2.2 41 i = some (44 + 6 * (if i = 11 then π 0 else π (i + 1)))
          rw [f2.p (by omega) i]
          show (stP S1 41 11 (some (44 + 6 * π 0))).2.2 41 i = _
          by_cases q : i = 11
          · rw [if_pos q, q, rdP_eq]
          · rw [if_neg q, rdP_ne (by omega), h2 i (by omega)]
            exact (u1 (i + 1) (by omega)).2
      · have he2 : (if i = 11 then π 0 else π (i + 1)) = (if j = 11 then π 0 else π (j + 1)) := he
        split at he2
        · split at he2
          · omega
          · have := u2 0 (j + 1) (by omega) (by omega) he2
            omega
        · split at he2
          · have := u2 (i + 1) 0 (by omega) (by omega) he2
            omega
          · have := u2 (i + 1) (j + 1) (by omega) (by omega) he2
            omega
      · have hi2 : i < 12 := hi
        show CV _ (44 + 6 * (if i = 11 then π 0 else π (i + 1))) (if i = 11 then v else u.2 (i + 1))
        by_cases q : i = 11
        · rw [if_pos q, if_pos q]
          exact f3.fr (Fr.stI (A := fun x => x = 40) rfl) (fun x h1 h2 => by omega)
        · rw [if_neg q, if_neg q]
          have hb := (u1 (i + 1) (by omega)).1
          have hne : π (i + 1) ≠ π 0 := fun e => by have := u2 (i + 1) 0 (by omega) (by omega) e; omega
          refine CV.fr (Fr.stI (A := fun x => x = 40) rfl) (fun x h1 h2 => by omega) ?_
          refine CV.fr f2 (fun x h1 h2 => by omega) ?_
          refine CV.fr ((Fr.stP (A := fun x => x = 40 ∨ x = 41) (Or.inr rfl)).trans (Fr.stI (A := fun x => x = 40 ∨ x = 41) (Or.inl rfl)) (fun _ z => z) (fun _ z => z)) (fun x _ _ => by omega) ?_
          exact (u3 (i + 1) (by omega)).fr h1 (fun x _ _ => by omega)
theorem C_pid {r : Int32} (h : r < 0) : f_c10_pushIfDone N 10 r (mk L S) = some (r, mk L S) := by
  simp (disch := omega) only [Option.bind_some, ↓ile_t, ↓ile_f, ↓ilt_t, ↓ilt_f, ↓ieq_t, ↓ieq_f, ↓iz_t, ↓iz_f, ↓iltz, ↓izle, ↓ilez_t, ↓ilez_f, ↓im1, ile_t, ile_f, ilt_t, ilt_f, ieq_t, ieq_f, iz_t, iz_f, iltz, izle, ilez_t, ilez_f, im1, gZ_0, gZ_1, e10, e00, ↓reduceIte, Sum.elim_inl, Sum.elim_inr, nI_1, nI_add, Int32.sub_zero, f_c10_pushIfDone, zc10, zr10_0, zr10_1, zr10_2, zr10_3, zr10_4, zr10_5, zr10_6, zr10_7, zr10_8, zr10_9, zr10_10, zs10_11, zs10_12, if_pos h]
theorem C_pid_t {r : Int32} (h : ¬ r < 0) (hu : CN S u) (hv : CV S 25 v) (h8 : vN v ≤ 8) (hN : 900 ≤ N) : ∃ S', f_c10_pushIfDone N 10 r (mk L S) = some (r, mk L S') ∧ Fr pUn S S' ∧ CN S' (uPush u v) := by
  obtain ⟨S', e1, e2⟩ := C_push (L := L) (N := N) hu hv h8 hN
  exact ⟨S', by simp (disch := omega) only [Option.bind_some, ↓ile_t, ↓ile_f, ↓ilt_t, ↓ilt_f, ↓ieq_t, ↓ieq_f, ↓iz_t, ↓iz_f, ↓iltz, ↓izle, ↓ilez_t, ↓ilez_f, ↓im1, ile_t, ile_f, ilt_t, ilt_f, ieq_t, ieq_f, iz_t, iz_f, iltz, izle, ilez_t, ilez_f, im1, gZ_0, gZ_1, e10, e00, ↓reduceIte, Sum.elim_inl, Sum.elim_inr, nI_1, nI_add, Int32.sub_zero, f_c10_pushIfDone, zc10, zr10_0, zr10_1, zr10_2, zr10_3, zr10_4, zr10_5, zr10_6, zr10_7, zr10_8, zr10_9, zr10_10, zs10_11, zs10_12, if_neg h, e1], e2⟩
end PUSHES
