/-! CALLS: shares -/
def rowF (f : Nat → Nat) : Nat → List Int64
  | 0 => []
  | i + 1 => rowF f i ++ [(nI (f i)).toInt64]
theorem rowF_len {f : Nat → Nat} : ∀ n, (rowF f n).length = n := by
  intro n
  induction n with
  | zero => rfl
  | succ n ih => rw [rowF, List.length_append, ih]; rfl
theorem rowF_get {f : Nat → Nat} {j : Nat} {y : Int64} : ∀ n, (rowF f n)[j]? = some y → j < n ∧ y = (nI (f j)).toInt64 := by
  intro n
  induction n with
  | zero => intro h; cases h
  | succ n ih =>
    intro h
    rcases getE_app h with ⟨_, h2⟩ | ⟨h1, h2⟩
    · have := ih h2
      exact ⟨by omega, this.2⟩
    · rw [rowF_len] at h1
      rw [h1]
      exact ⟨by omega, h2⟩
theorem rowF_ext {f f' : Nat → Nat} : ∀ n, (∀ j, j < n → f j = f' j) → rowF f n = rowF f' n := by
  intro n
  induction n with
  | zero => exact fun _ => rfl
  | succ n ih => intro h; rw [rowF, rowF, ih (fun j hj => h j (by omega)), h n (by omega)]
def hS (th : Nat → Nat) (d r i : Nat) (st : (Nat → Nat) × Nat) : (Nat → Nat) × Nat := if st.2 < d ∧ r ≤ th i then (nup st.1 i r, st.2 + 1) else st
def hI (th : Nat → Nat) (d r : Nat) (st : (Nat → Nat) × Nat) : Nat → (Nat → Nat) × Nat
  | 0 => st
  | i + 1 => hS th d r i (hI th d r st i)
def hO (th : Nat → Nat) (d m : Nat) : Nat → (Nat → Nat) × Nat
  | 0 => (fun _ => 0, 0)
  | r + 1 => hI th d (r + 1) (hO th d m r) m
/-- how it stands in a round (r + 1), ahead of a village: as long as there is water -/
def hK (th : Nat → Nat) (d m r i : Nat) (st : (Nat → Nat) × Nat) : Prop := st.2 ≤ d ∧ (st.2 < d → ∀ j, j < m → st.1 j = if j < i then min (th j) (r + 1) else min (th j) r)
theorem hS_ok {th : Nat → Nat} {d m r i : Nat} {st : (Nat → Nat) × Nat} (h : hK th d m r i st) : hK th d m r (i + 1) (hS th d (r + 1) i st) := by
  obtain ⟨h1, h2⟩ := h
  unfold hS
  by_cases z : st.2 < d ∧ r + 1 ≤ th i
  · rw [if_pos z]
    refine ⟨by show st.2 + 1 ≤ d; omega, fun _ j hj => ?_⟩
    show nup st.1 i (r + 1) j = _
    have := h2 z.1 j hj
    by_cases y : j = i
    · rw [y, nup_eq, if_pos (by omega)]; omega
    · rw [nup_ne y, this]
      by_cases t : j < i
      · rw [if_pos t, if_pos (by omega)]
      · rw [if_neg t, if_neg (by omega)]
  · rw [if_neg z]
    refine ⟨h1, fun hd j hj => ?_⟩
    have := h2 hd j hj
    rw [this]
    by_cases t : j < i
    · rw [if_pos t, if_pos (by omega)]
    · rw [if_neg t]
      by_cases y : j = i
      · rw [if_pos (by omega), y]; omega
      · rw [if_neg (by omega)]
theorem hI_ok {th : Nat → Nat} {d m r : Nat} {st : (Nat → Nat) × Nat} (h : hK th d m r 0 st) : ∀ i, hK th d m r i (hI th d (r + 1) st i) := by
  intro i
  induction i with
  | zero => exact h
  | succ i ih => exact hS_ok ih
theorem hO_ok {th : Nat → Nat} {d m : Nat} : ∀ r, hK th d m r 0 (hO th d m r) := by
  intro r
  induction r with
  | zero => exact ⟨Nat.zero_le _, fun _ j _ => by rw [if_neg (by omega)]; show 0 = min (th j) 0; omega⟩
  | succ r ih =>
    obtain ⟨h1, h2⟩ := hI_ok ih m
    refine ⟨h1, fun hd j hj => ?_⟩
    have := h2 hd j hj
    rw [if_pos hj] at this
    rw [if_neg (by omega)]
    exact this
theorem hI_stop {th : Nat → Nat} {d r : Nat} {st : (Nat → Nat) × Nat} {i : Nat} (h : ¬ (hI th d r st i).2 < d) : ∀ e, hI th d r st (i + e) = hI th d r st i := by
  intro e
  induction e with
  | zero => rfl
  | succ e ih =>
    show hS th d r (i + e) (hI th d r st (i + e)) = _
    rw [ih]
    unfold hS
    rw [if_neg (fun z => h z.1)]
section SHARES
variable {L N : Nat} {S T : gS} {c : Nat} {g : pG} {v : pV} {x : pX} {l : List Int64} {u : pX} {n : pN} {k : Nat → Option pV} {h : pH} {A : pA}
theorem C_setA {f : Nat → Nat} {m i r : Nat} (q : CA S (g, v, x, rowF f m, u, n, k, h)) (hi : i < m) (hm : m ≤ 8) : ∃ S1, f_c4_set N 13 (nI i) (nI r).toInt64 (mk L S) = some (mk L S1) ∧ CA S1 (g, v, x, rowF (nup f i r) m, u, n, k, h) ∧ Fr lowC S S1 := by
  have e1 : S.1 13 1 = nI m := by
    have := q.2.2.2.1.1
    rw [this]
    show nI (rowF f m).length = _
    rw [rowF_len]
  have e2 : ∀ j, j < m → S.2.1 14 j = (nI (f j)).toInt64 := fun j hj => by
    obtain ⟨y, hy⟩ : ∃ y, (rowF f m)[j]? = some y := ⟨(rowF f m)[j]'(by rw [rowF_len]; exact hj), List.getElem?_eq_getElem _⟩
    have a := q.2.2.2.1.2 j y hy
    rw [a, (rowF_get m hy).2]
  refine ⟨stL S 14 i (nI r).toInt64, ?_, q.row (Fr.stL (by show _ ∨ _; omega)) ⟨?_, fun j y hy => ?_⟩, Fr.stL (by unfold lowC; omega)⟩
  · unfold f_c4_set
    rw [zc13, Option.bind_some, iltz (by omega), zi13_1, Option.bind_some, e1, ile_f hi (by omega), zr13_0, Option.bind_some, zp14 (by omega), Option.bind_some, Option.bind_some]
  · show S.1 13 1 = _
    rw [e1, rowF_len]
  · obtain ⟨h1, h2⟩ := rowF_get m hy
    rw [h2]
    by_cases z : j = i
    · rw [z, rdL_eq, nup_eq]
    · rw [rdL_ne (by omega), nup_ne z, e2 j h1]
theorem C_sh21 (q : CA S (g, v, x, [], u, n, k, h)) (wg : WG g) (hN : 900 ≤ N) : ∃ S1, lp_c10_shares_21 N 10 N 0 (mk L S) = some (mk L S1) ∧ CA S1 (g, v, x, rowF (fun _ => 0) (gVm g), u, n, k, h) ∧ Fr lowC S S1 := by
  have h6 := wg.2.2.2.2.1
  have e : ∃ z, lp_c10_shares_21 N 10 N (nI 0) (mk L S) = some z ∧ ∃ S1, z = mk L S1 ∧ CA S1 (g, v, x, rowF (fun _ => 0) (gVm g), u, n, k, h) ∧ Fr lowC S S1 := by
    refine lp_inv (Lp := fun kk (s : gS) i => lp_c10_shares_21 N 10 kk (nI i) (mk L s)) (n := gVm g) (P := fun i s => CA s (g, v, x, rowF (fun _ => 0) i, u, n, k, h) ∧ Fr lowC S s) (fun kk i s hi hs => Or.inr ?_) (fun kk s hs => ?_) (gVm g) N 0 S (by omega) (by omega) ⟨q, Fr.refl⟩
    · obtain ⟨qs, fs⟩ := hs
      have cg : CG s g := qs.1
      obtain ⟨s2, e2, q2, f2⟩ := C_addA (L := L) (N := N) (y := (0 : Int64)) qs (by rw [rowF_len]; omega)
      refine ⟨s2, ?_, q2, lowTr fs f2⟩
      show lp_c10_shares_21 N 10 (kk + 1) (nI i) (mk L s) = lp_c10_shares_21 N 10 kk (nI (i + 1)) (mk L s2)
      rw [lp_c10_shares_21.eq_2, zr10_2, Option.bind_some, zi15_2, Option.bind_some, cg.2.2.1, ile_f hi (by omega), zr10_1, Option.bind_some, e2, Option.bind_some, nI_1]
    · have cg : CG s g := hs.1.1
      exact ⟨mk L s, by show lp_c10_shares_21 N 10 (kk + 1) _ _ = _; rw [lp_c10_shares_21.eq_2, zr10_2, Option.bind_some, zi15_2, Option.bind_some, cg.2.2.1, ile_t (Nat.le_refl _) (by omega)], s, rfl, hs.1, hs.2⟩
  obtain ⟨z, e, S1, er, e2, e3⟩ := e
  rw [er] at e
  exact ⟨S1, e, e2, e3⟩
theorem C_sh59 {d r : Nat} {st : (Nat → Nat) × Nat} (q : CA S (g, v, x, rowF st.1 (gVm g), u, n, k, h)) (wg : WG g) (hd : d ≤ 99) (hr : r < 6) (hK : hK (gTh g) d (gVm g) r 0 st) (hN : 900 ≤ N) :
    ∃ S1, lp_c10_shares_59 N 10 (nI (r + 1)) N (nI (d - st.2)) 0 (mk L S) = some (nI (d - (hI (gTh g) d (r + 1) st (gVm g)).2), mk L S1) ∧ CA S1 (g, v, x, rowF (hI (gTh g) d (r + 1) st (gVm g)).1 (gVm g), u, n, k, h) ∧ Fr lowC S S1 := by
  have h6 := wg.2.2.2.2.1
  have e : ∃ z, lp_c10_shares_59 N 10 (nI (r + 1)) N (nI (d - st.2)) (nI 0) (mk L S) = some z ∧ ∃ S1, z = (nI (d - (hI (gTh g) d (r + 1) st (gVm g)).2), mk L S1) ∧ CA S1 (g, v, x, rowF (hI (gTh g) d (r + 1) st (gVm g)).1 (gVm g), u, n, k, h) ∧ Fr lowC S S1 := by
    refine lp_inv (Lp := fun kk (s : Int32 × gS) i => lp_c10_shares_59 N 10 (nI (r + 1)) kk s.1 (nI i) (mk L s.2)) (n := gVm g) (P := fun i s => s.1 = nI (d - (hI (gTh g) d (r + 1) st i).2) ∧ CA s.2 (g, v, x, rowF (hI (gTh g) d (r + 1) st i).1 (gVm g), u, n, k, h) ∧ Fr lowC S s.2) (fun kk i s hi hs => ?_) (fun kk s hs => ?_) (gVm g) N 0 (nI (d - st.2), S) (by omega) (by omega) ⟨rfl, q, Fr.refl⟩
    · obtain ⟨s1, s⟩ := s
      obtain ⟨rfl, qs, fs⟩ := hs
      dsimp only at qs fs
      have cg : CG s g := qs.1
      obtain ⟨o1, o2⟩ := hI_ok hK i
      have hT := wg.2.2.2.2.2 i hi
      by_cases z : (hI (gTh g) d (r + 1) st i).2 < d
      · right
        show ∃ s' : Int32 × gS, lp_c10_shares_59 N 10 (nI (r + 1)) (kk + 1) (nI (d - (hI (gTh g) d (r + 1) st i).2)) (nI i) (mk L s) = lp_c10_shares_59 N 10 (nI (r + 1)) kk s'.1 (nI (i + 1)) (mk L s'.2) ∧ s'.1 = nI (d - (hS (gTh g) d (r + 1) i (hI (gTh g) d (r + 1) st i)).2) ∧ CA s'.2 (g, v, x, rowF (hS (gTh g) d (r + 1) i (hI (gTh g) d (r + 1) st i)).1 (gVm g), u, n, k, h) ∧ Fr lowC S s'.2
        rw [lp_c10_shares_59.eq_2, zr10_2, Option.bind_some, zi15_2, Option.bind_some, cg.2.2.1, ile_f hi (by omega), ilez_f (by omega) (by omega), Option.bind_some, zr15_4, Option.bind_some, zg17 (by omega), Option.bind_some, (cg.2.2.2.1 i hi).2]
        unfold hS
        by_cases y : r + 1 ≤ gTh g i
        · obtain ⟨s2, e2, q2, f2⟩ := C_setA (L := L) (N := N) (i := i) (r := r + 1) qs hi (by omega)
          rw [ilt_f y (by omega), zr10_1, Option.bind_some, e2, Option.bind_some, Option.bind_some, if_pos (show (hI (gTh g) d (r + 1) st i).2 < d ∧ r + 1 ≤ gTh g i from ⟨z, y⟩), nI_1]
          refine ⟨(nI (d - ((hI (gTh g) d (r + 1) st i).2 + 1)), s2), ?_, rfl, q2, lowTr fs f2⟩
          show lp_c10_shares_59 N 10 (nI (r + 1)) kk (nI (d - (hI (gTh g) d (r + 1) st i).2) + -1) _ _ = _
          rw [show d - (hI (gTh g) d (r + 1) st i).2 = d - ((hI (gTh g) d (r + 1) st i).2 + 1) + 1 by omega, nI_dec]
        · rw [ilt_t (by omega) (by omega), if_neg (show ¬ ((hI (gTh g) d (r + 1) st i).2 < d ∧ r + 1 ≤ gTh g i) from fun t => y t.2)]
          exact ⟨(nI (d - (hI (gTh g) d (r + 1) st i).2), s), by rw [Option.bind_some, nI_1], rfl, qs, fs⟩
      · left
        have es := hI_stop (th := gTh g) (d := d) (r := r + 1) (st := st) (i := i) z (gVm g - i)
        rw [show i + (gVm g - i) = gVm g by omega] at es
        rw [es]
        refine ⟨_, ?_, s, rfl, qs, fs⟩
        show lp_c10_shares_59 N 10 (nI (r + 1)) (kk + 1) (nI (d - (hI (gTh g) d (r + 1) st i).2)) (nI i) (mk L s) = _
        rw [lp_c10_shares_59.eq_2, zr10_2, Option.bind_some, zi15_2, Option.bind_some, cg.2.2.1, ile_f hi (by omega), ilez_t (by omega)]
    · obtain ⟨s1, s⟩ := s
      obtain ⟨rfl, qs, fs⟩ := hs
      have cg : CG s g := qs.1
      refine ⟨_, ?_, s, rfl, qs, fs⟩
      show lp_c10_shares_59 N 10 (nI (r + 1)) (kk + 1) _ _ _ = _
      rw [lp_c10_shares_59.eq_2, zr10_2, Option.bind_some, zi15_2, Option.bind_some, cg.2.2.1, ile_t (Nat.le_refl _) (by omega)]
  obtain ⟨z, e, S1, er, e2, e3⟩ := e
  rw [er] at e
  exact ⟨S1, e, e2, e3⟩
theorem C_sh50 {d : Nat} (q : CA S (g, v, x, rowF (fun _ => 0) (gVm g), u, n, k, h)) (wg : WG g) (hd : d ≤ 99) (hN : 900 ≤ N) :
    ∃ S1, lp_c10_shares_50 N 10 N (nI d) 1 (mk L S) = some (nI (d - (hO (gTh g) d (gVm g) 6).2), mk L S1) ∧ CA S1 (g, v, x, rowF (hO (gTh g) d (gVm g) 6).1 (gVm g), u, n, k, h) ∧ Fr lowC S S1 := by
  have e : ∃ z, lp_c10_shares_50 N 10 N (nI d) (nI (0 + 1)) (mk L S) = some z ∧ ∃ S1, z = (nI (d - (hO (gTh g) d (gVm g) 6).2), mk L S1) ∧ CA S1 (g, v, x, rowF (hO (gTh g) d (gVm g) 6).1 (gVm g), u, n, k, h) ∧ Fr lowC S S1 := by
    refine lp_inv (Lp := fun kk (s : Int32 × gS) i => lp_c10_shares_50 N 10 kk s.1 (nI (i + 1)) (mk L s.2)) (n := 6) (P := fun i s => s.1 = nI (d - (hO (gTh g) d (gVm g) i).2) ∧ CA s.2 (g, v, x, rowF (hO (gTh g) d (gVm g) i).1 (gVm g), u, n, k, h) ∧ Fr lowC S s.2) (fun kk i s hi hs => Or.inr ?_) (fun kk s hs => ?_) 6 N 0 (nI d, S) (by omega) (by omega) ⟨rfl, q, Fr.refl⟩
    · obtain ⟨s1, s⟩ := s
      obtain ⟨rfl, qs, fs⟩ := hs
      dsimp only at qs fs
      obtain ⟨s2, e2, q2, f2⟩ := C_sh59 (L := L) (N := N) (r := i) qs wg hd hi (hO_ok i) hN
      refine ⟨(nI (d - (hO (gTh g) d (gVm g) (i + 1)).2), s2), ?_, rfl, q2, lowTr fs f2⟩
      show lp_c10_shares_50 N 10 (kk + 1) (nI (d - (hO (gTh g) d (gVm g) i).2)) (nI (i + 1)) (mk L s) = lp_c10_shares_50 N 10 kk (nI (d - (hI (gTh g) d (i + 1) (hO (gTh g) d (gVm g) i) (gVm g)).2)) (nI (i + 1 + 1)) (mk L s2)
      rw [lp_c10_shares_50.eq_2, k6, ilt_f (by omega) (by omega), e2, Option.bind_some, nI_1]
    · obtain ⟨s1, s⟩ := s
      obtain ⟨rfl, qs, fs⟩ := hs
      refine ⟨_, ?_, s, rfl, qs, fs⟩
      show lp_c10_shares_50 N 10 (kk + 1) _ _ _ = _
      rw [lp_c10_shares_50.eq_2, k6, ilt_t (by omega) (by omega)]
  obtain ⟨z, e, S1, er, e2, e3⟩ := e
  rw [er] at e
  exact ⟨S1, e, e2, e3⟩
def shC (T : gS) (m : Nat) (f : Nat → Nat) : Prop := ∀ j, j < m → T.1 165 j = nI (f j)
theorem M_sh21 (cg : MG T g) (wg : WG g) (hN : 900 ≤ N) : ∃ T1, lp_c11_shares_21 N 144 N 0 (mk L T) = some (mk L T1) ∧ FM (fun y => y = 165) (fun _ => False) T T1 ∧ shC T1 (gVm g) (fun _ => 0) := by
  have h6 := wg.2.2.2.2.1
  have e : ∃ z, lp_c11_shares_21 N 144 N (nI 0) (mk L T) = some z ∧ ∃ T1, z = mk L T1 ∧ FM (fun y => y = 165) (fun _ => False) T T1 ∧ shC T1 (gVm g) (fun _ => 0) := by
    refine lp_inv (Lp := fun kk (s : gS) i => lp_c11_shares_21 N 144 kk (nI i) (mk L s)) (n := gVm g) (P := fun i s => FM (fun y => y = 165) (fun _ => False) T s ∧ shC s i (fun _ => 0)) (fun kk i s hi hs => Or.inr ?_) (fun kk s hs => ?_) (gVm g) N 0 T (by omega) (by omega) ⟨FM.refl, fun j hj => by omega⟩
    · obtain ⟨f, hQ⟩ := hs
      have e3 : s.1 144 3 = nI (gVm g) := (f.k (fun z => z)).trans cg.2.2.1
      refine ⟨stI s 165 i 0, ?_, f.tr (FM.stA rfl (by omega)), fun j hj => ?_⟩
      · show lp_c11_shares_21 N 144 (kk + 1) (nI i) _ = lp_c11_shares_21 N 144 kk (nI (i + 1)) _
        rw [lp_c11_shares_21.eq_2, zi144_3, Option.bind_some, e3, ile_f hi (by omega), zr144_35, Option.bind_some, zp165 (by omega), Option.bind_some, nI_1]
      · by_cases z : j = i
        · rw [z, rdI_eq]; rfl
        · rw [rdI_ne (by omega)]; exact hQ j (by omega)
    · have e3 : s.1 144 3 = nI (gVm g) := (hs.1.k (fun z => z)).trans cg.2.2.1
      exact ⟨mk L s, by show lp_c11_shares_21 N 144 (kk + 1) _ _ = _; rw [lp_c11_shares_21.eq_2, zi144_3, Option.bind_some, e3, ile_t (Nat.le_refl _) (by omega)], s, rfl, hs.1, hs.2⟩
  obtain ⟨z, e, S1, er, e2, e3⟩ := e
  rw [er] at e
  exact ⟨S1, e, e2, e3⟩
theorem M_sh53 {d r : Nat} {st : (Nat → Nat) × Nat} (cg : MG T g) (wg : WG g) (hd : d ≤ 99) (hr : r < 6) (hK : hK (gTh g) d (gVm g) r 0 st) (h0 : shC T (gVm g) st.1) (hN : 900 ≤ N) :
    ∃ T1, lp_c11_shares_53 N 144 (nI d) N (nI st.2) 0 (mk L T) = some (nI (hI (gTh g) d (r + 1) st (gVm g)).2, mk L T1) ∧ FM (fun y => y = 165) (fun _ => False) T T1 ∧ shC T1 (gVm g) (hI (gTh g) d (r + 1) st (gVm g)).1 := by
  have h6 := wg.2.2.2.2.1
  have e : ∃ z, lp_c11_shares_53 N 144 (nI d) N (nI st.2) (nI 0) (mk L T) = some z ∧ ∃ T1, z = (nI (hI (gTh g) d (r + 1) st (gVm g)).2, mk L T1) ∧ FM (fun y => y = 165) (fun _ => False) T T1 ∧ shC T1 (gVm g) (hI (gTh g) d (r + 1) st (gVm g)).1 := by
    refine lp_inv (Lp := fun kk (s : Int32 × gS) i => lp_c11_shares_53 N 144 (nI d) kk s.1 (nI i) (mk L s.2)) (n := gVm g) (P := fun i s => s.1 = nI (hI (gTh g) d (r + 1) st i).2 ∧ FM (fun y => y = 165) (fun _ => False) T s.2 ∧ shC s.2 (gVm g) (hI (gTh g) d (r + 1) st i).1) (fun kk i s hi hs => Or.inr ?_) (fun kk s hs => ?_) (gVm g) N 0 (nI st.2, T) (by omega) (by omega) ⟨rfl, FM.refl, h0⟩
    · obtain ⟨s1, s⟩ := s
      obtain ⟨rfl, f, hQ⟩ := hs
      dsimp only at f hQ
      obtain ⟨o1, o2⟩ := hI_ok hK i
      have hT := wg.2.2.2.2.2 i hi
      have mg : MG s g := cg.fm f ⟨fun z => z, fun z => z, fun z => z⟩ ⟨by omega, by omega⟩
      show ∃ s' : Int32 × gS, lp_c11_shares_53 N 144 (nI d) (kk + 1) (nI (hI (gTh g) d (r + 1) st i).2) (nI i) (mk L s) = lp_c11_shares_53 N 144 (nI d) kk s'.1 (nI (i + 1)) (mk L s'.2) ∧ s'.1 = nI (hS (gTh g) d (r + 1) i (hI (gTh g) d (r + 1) st i)).2 ∧ FM (fun y => y = 165) (fun _ => False) T s'.2 ∧ shC s'.2 (gVm g) (hS (gTh g) d (r + 1) i (hI (gTh g) d (r + 1) st i)).1
      generalize hst : hI (gTh g) d (r + 1) st i = st1 at *
      rw [lp_c11_shares_53.eq_2, zi144_3, Option.bind_some, mg.2.2.1, ile_f hi (by omega)]
      unfold hS
      by_cases z : st1.2 < d
      · have e5 := o2 z i hi
        rw [if_neg (by omega)] at e5
        have q5 := hQ i hi
        rw [ieq_f (by omega) (by omega) (by omega), zr144_35, Option.bind_some, zg165 (by omega), Option.bind_some, q5, zr144_5, Option.bind_some, zg147 (by omega), Option.bind_some, (mg.2.2.2 i hi).2]
        by_cases y : r + 1 ≤ gTh g i
        · rw [ieq_f (by omega) (by omega) (by omega), Option.bind_some, zg165 (by omega), Option.bind_some, q5, nI_1, zp165 (by omega), Option.bind_some, if_pos (show st1.2 < d ∧ r + 1 ≤ gTh g i from ⟨z, y⟩), show st1.1 i + 1 = r + 1 by omega]
          refine ⟨(nI (st1.2 + 1), stI s 165 i (nI (r + 1))), by rw [Option.bind_some, nI_1, nI_1], rfl, f.tr (FM.stA rfl (by omega)), fun j hj => ?_⟩
          show _ = nI (nup st1.1 i (r + 1) j)
          by_cases t : j = i
          · rw [t, rdI_eq, nup_eq]
          · rw [rdI_ne (by omega), nup_ne t]; exact hQ j hj
        · rw [ieq_t (by omega), if_neg (show ¬ (st1.2 < d ∧ r + 1 ≤ gTh g i) from fun t => y t.2)]
          exact ⟨(nI st1.2, s), by rw [Option.bind_some, nI_1], rfl, f, hQ⟩
      · rw [ieq_t (by omega), if_neg (show ¬ (st1.2 < d ∧ r + 1 ≤ gTh g i) from fun t => z t.1)]
        exact ⟨(nI st1.2, s), by rw [Option.bind_some, nI_1], rfl, f, hQ⟩
    · obtain ⟨s1, s⟩ := s
      obtain ⟨rfl, f, hQ⟩ := hs
      have mg : MG s g := cg.fm f ⟨fun z => z, fun z => z, fun z => z⟩ ⟨by omega, by omega⟩
      refine ⟨_, ?_, s, rfl, f, hQ⟩
      show lp_c11_shares_53 N 144 (nI d) (kk + 1) _ _ _ = _
      rw [lp_c11_shares_53.eq_2, zi144_3, Option.bind_some, mg.2.2.1, ile_t (Nat.le_refl _) (by omega)]
  obtain ⟨z, e, S1, er, e2, e3⟩ := e
  rw [er] at e
  exact ⟨S1, e, e2, e3⟩
theorem M_sh44 {d : Nat} (cg : MG T g) (wg : WG g) (hd : d ≤ 99) (h0 : shC T (gVm g) (fun _ => 0)) (hN : 900 ≤ N) :
    ∃ T1, lp_c11_shares_44 N 144 (nI d) N 0 0 (mk L T) = some (nI (hO (gTh g) d (gVm g) 6).2, mk L T1) ∧ FM (fun y => y = 165) (fun _ => False) T T1 ∧ shC T1 (gVm g) (hO (gTh g) d (gVm g) 6).1 := by
  have e : ∃ z, lp_c11_shares_44 N 144 (nI d) N (nI 0) (nI 0) (mk L T) = some z ∧ ∃ T1, z = (nI (hO (gTh g) d (gVm g) 6).2, mk L T1) ∧ FM (fun y => y = 165) (fun _ => False) T T1 ∧ shC T1 (gVm g) (hO (gTh g) d (gVm g) 6).1 := by
    refine lp_inv (Lp := fun kk (s : Int32 × gS) i => lp_c11_shares_44 N 144 (nI d) kk s.1 (nI i) (mk L s.2)) (n := 6) (P := fun i s => s.1 = nI (hO (gTh g) d (gVm g) i).2 ∧ FM (fun y => y = 165) (fun _ => False) T s.2 ∧ shC s.2 (gVm g) (hO (gTh g) d (gVm g) i).1) (fun kk i s hi hs => Or.inr ?_) (fun kk s hs => ?_) 6 N 0 (nI 0, T) (by omega) (by omega) ⟨rfl, FM.refl, h0⟩
    · obtain ⟨s1, s⟩ := s
      obtain ⟨rfl, f, hQ⟩ := hs
      dsimp only at f hQ
      have mg : MG s g := cg.fm f ⟨fun z => z, fun z => z, fun z => z⟩ ⟨by omega, by omega⟩
      obtain ⟨s2, e2, f2, q2⟩ := M_sh53 (L := L) (N := N) (r := i) mg wg hd hi (hO_ok i) hQ hN
      refine ⟨(nI (hO (gTh g) d (gVm g) (i + 1)).2, s2), ?_, rfl, f.tr f2, q2⟩
      show lp_c11_shares_44 N 144 (nI d) (kk + 1) (nI (hO (gTh g) d (gVm g) i).2) (nI i) (mk L s) = lp_c11_shares_44 N 144 (nI d) kk (nI (hI (gTh g) d (i + 1) (hO (gTh g) d (gVm g) i) (gVm g)).2) (nI (i + 1)) (mk L s2)
      rw [lp_c11_shares_44.eq_2, k6, ile_f (by omega) (by omega), e2, Option.bind_some, nI_1]
    · obtain ⟨s1, s⟩ := s
      obtain ⟨rfl, f, hQ⟩ := hs
      refine ⟨_, ?_, s, rfl, f, hQ⟩
      show lp_c11_shares_44 N 144 (nI d) (kk + 1) _ _ _ = _
      rw [lp_c11_shares_44.eq_2, k6, ile_t (by omega) (by omega)]
  obtain ⟨z, e, S1, er, e2, e3⟩ := e
  rw [er] at e
  exact ⟨S1, e, e2, e3⟩
theorem M_sh120 {f : Nat → Nat} (q : MA T (g, v, x, [], u, n, k, h) c) (wg : WG g) (h0 : shC T (gVm g) f) (hN : 900 ≤ N) :
    ∃ T1, lp_c11_shares_120 N 144 N 0 (mk L T) = some (mk L T1) ∧ MA T1 (g, v, x, rowF f (gVm g), u, n, k, h) c ∧ Fr highM T T1 := by
  have h6 := wg.2.2.2.2.1
  have e : ∃ z, lp_c11_shares_120 N 144 N (nI 0) (mk L T) = some z ∧ ∃ T1, z = mk L T1 ∧ MA T1 (g, v, x, rowF f (gVm g), u, n, k, h) c ∧ Fr highM T T1 := by
    refine lp_inv (Lp := fun kk (s : gS) i => lp_c11_shares_120 N 144 kk (nI i) (mk L s)) (n := gVm g) (P := fun i s => MA s (g, v, x, rowF f i, u, n, k, h) c ∧ FM mRow kRow T s ∧ Fr highM T s) (fun kk i s hi hs => Or.inr ?_) (fun kk s hs => ?_) (gVm g) N 0 T (by omega) (by omega) ⟨q, FM.refl, Fr.refl⟩
    · obtain ⟨qs, fs, hs⟩ := hs
      obtain ⟨s2, e2, q2, m2, f2⟩ := M_tellA (L := L) (N := N) (y := (nI (f i)).toInt64) qs (by rw [rowF_len]; omega)
      refine ⟨s2, ?_, q2, fs.tr m2, highTr hs f2⟩
      have cg : MG s g := qs.1
      have e5 : s.1 165 i = nI (f i) := (fs.i (by omega) (by show ¬ (165 = 149); omega) i).trans (h0 i hi)
      show lp_c11_shares_120 N 144 (kk + 1) (nI i) (mk L s) = lp_c11_shares_120 N 144 kk (nI (i + 1)) (mk L s2)
      rw [lp_c11_shares_120.eq_2, zi144_3, Option.bind_some, cg.2.2.1, ile_f hi (by omega), zr144_35, Option.bind_some, zg165 (by omega), Option.bind_some, e5, e2, Option.bind_some, nI_1]
    · have cg : MG s g := hs.1.1
      exact ⟨mk L s, by show lp_c11_shares_120 N 144 (kk + 1) _ _ = _; rw [lp_c11_shares_120.eq_2, zi144_3, Option.bind_some, cg.2.2.1, ile_t (Nat.le_refl _) (by omega)], s, rfl, hs.1, hs.2.2⟩
  obtain ⟨z, e, S1, er, e2, e3⟩ := e
  rw [er] at e
  exact ⟨S1, e, e2, e3⟩
theorem A_shares {y : Int32} (w : WA A) (q : CA S A) (m : MA S A c) (hN : 900 ≤ N) : Agr L S c (f_c10_shares N 10 y) (f_c11_shares N 144 y) := by
  obtain ⟨g, v, x, l, u, n, k, h⟩ := A
  have wg : WG g := w.1
  have h6 := wg.2.2.2.2.1
  rcases (show (y < 0 ∨ (¬ y < 0 ∧ ¬ y ≤ 99)) ∨ ∃ d, 0 ≤ d ∧ d ≤ 99 ∧ y = nI d from cas y 0 99 (by omega) (by omega)) with hy | ⟨d, -, d2, rfl⟩
  · refine AgrR w q m (r := -1) ?_ (fun T _ t1 => ?_)
    · unfold f_c10_shares
      rcases hy with hy | ⟨h1, hy⟩
      · rw [zc10, Option.bind_some, if_pos hy]
      · rw [zc10, Option.bind_some, if_neg h1, if_neg hy]
    · unfold f_c11_shares
      rw [zc144, Option.bind_some, zs144_10, Option.bind_some, M_inF (N := N) hy, Option.bind_some, if_pos rfl]
  · have c1 : ¬ nI d < 0 := nI_pos (by omega)
    have c2 : nI d ≤ 99 := nI_le (b := 99) d2 (by omega)
    have ei : ∀ T : gS, f_c11_in N (nI d) 0 99 (mk L T) = some 1 := fun T => M_inT (lo := 0) (hi := 99) (by omega) d2 (by omega)
    obtain ⟨S1, e1, q1, f1⟩ := C_clearA (L := L) (N := N) q
    obtain ⟨S2, e2, q2, f2⟩ := C_sh21 (L := L) (N := N) q1 wg hN
    obtain ⟨S3, e3, q3, f3⟩ := C_sh50 (L := L) (N := N) q2 wg d2 hN
    have o1 := (hO_ok (th := gTh g) (d := d) (m := gVm g) 6).1
    refine AgrI (c' := c) m (r := nI (hO (gTh g) d (gVm g) 6).2) (S1 := S3) ?_ (lowTr f1 (lowTr f2 f3)) q3 (w.rw (by rw [rowF_len]; omega)) (by omega) (fun T mt => ?_)
    · unfold f_c10_shares
      rw [zc10, Option.bind_some, if_neg c1, if_pos c2, zr10_1, Option.bind_some, e1, Option.bind_some, e2, Option.bind_some, e3, Option.bind_some, nI_sub (by omega), show d - (d - (hO (gTh g) d (gVm g) 6).2) = (hO (gTh g) d (gVm g) 6).2 by omega]
    · have t1 := mt.thr
      obtain ⟨T1, g1, g2, g3⟩ := M_sh21 (L := L) (N := N) t1.1 wg hN
      have mg1 : MG T1 g := MG.fm g2 ⟨fun z => z, fun z => z, fun z => z⟩ ⟨by omega, by omega⟩ t1.1
      obtain ⟨T2, g4, g5, g6⟩ := M_sh44 (L := L) (N := N) mg1 wg d2 g3 hN
      have t2 : MA T1 (g, v, x, l, u, n, k, h) c := t1.fm g2 (fun y hy => by unfold sM; omega) (fun _ z => z.elim)
      have t3 : MA T2 (g, v, x, l, u, n, k, h) c := t2.fm g5 (fun y hy => by unfold sM; omega) (fun _ z => z.elim)
      have g7 : shC (stI T2 144 9 0) (gVm g) (hO (gTh g) d (gVm g) 6).1 := fun j hj => by rw [rdI_ne (by omega)]; exact g6 j hj
      obtain ⟨T3, g8, t4, h3⟩ := M_sh120 (L := L) (N := N) t3.clr wg g7 hN
      refine ⟨T3, ?_, highTr thrH (highTr (g2.high (fun y hy => by omega)) (highTr (g5.high (fun y hy => by omega)) (highTr clrH h3))), t4⟩
      unfold f_c11_shares
      rw [zc144, Option.bind_some, zs144_10, Option.bind_some, ei, Option.bind_some, if_neg (show ¬ (1 : Int32) = 0 by decide), g1, Option.bind_some, g4, Option.bind_some, zs144_9, Option.bind_some, g8, Option.bind_some]
end SHARES
