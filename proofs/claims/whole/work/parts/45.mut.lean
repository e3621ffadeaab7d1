/-! A State of the class CHANGED -/
def nup (f : Nat → Nat) (i x : Nat) : Nat → Nat := fun j => if j = i then x else f j
theorem nup_eq {f : Nat → Nat} {i x : Nat} : nup f i x i = x := if_pos rfl
theorem nup_ne {f : Nat → Nat} {i x j : Nat} (h : j ≠ i) : nup f i x j = f j := if_neg h
def nsh (f : Nat → Nat) (i : Nat) : Nat → Nat := fun j => if j < i then f j else f (j + 1)
def vAdd (v : pV) (f w m : Nat) : pV := (vN v + 1, nup (vF v) (vN v) f, nup (vW v) (vN v) w, nup (vM v) (vN v) m, nup (vA v) (vN v) 0, nup (vT v) (vN v) 0, vS v, vP v)
def vSetM (v : pV) (w x : Nat) : pV := (vN v, vF v, vW v, nup (vM v) w x, vA v, vT v, vS v, vP v)
def vSetA (v : pV) (w x : Nat) : pV := (vN v, vF v, vW v, vM v, nup (vA v) w x, vT v, vS v, vP v)
def vSetT (v : pV) (w x : Nat) : pV := (vN v, vF v, vW v, vM v, vA v, nup (vT v) w x, vS v, vP v)
def vWat (v : pV) (f : Nat → Nat) : pV := (vN v, vF v, vW v, vM v, vA v, f, vS v, vP v)
def vEmp (v : pV) : pV := (0, vF v, vW v, vM v, vA v, vT v, 0, 0)
def vDrop (v : pV) (i : Nat) : pV := (vN v - 1, nsh (vF v) i, nsh (vW v) i, nsh (vM v) i, nsh (vA v) i, nsh (vT v) i, vS v, vP v)
theorem WV.add {g : pG} {v : pV} {f w m : Nat} (h : WV g v) (h8 : vN v < 8) (hf : f < gRw g * gCo g) (hw : 1 ≤ w ∧ w ≤ 9) (hm : m ≤ 1) (ho : sOn v f = none) : WV g (vAdd v f w m) := by
  have hd : VD (vAdd v f w m) := by
    intro i j hij hj
    have hj2 : j < vN v + 1 := hj
    show nup (vF v) (vN v) f i ≠ nup (vF v) (vN v) f j
    rw [nup_ne (show i ≠ vN v by omega)]
    by_cases q : j = vN v
    · rw [q, nup_eq]
      exact of_decide_eq_false (fstN_none _ _ ho i (by omega) (by omega))
    · rw [nup_ne q]
      exact h.2.1.2 i j hij (by omega)
  refine ⟨by show vN v + 1 ≤ 8; omega, ⟨h.2.1.1, hd⟩, fun u hu => ?_⟩
  by_cases q : u = vN v
  · subst q
    show nup _ _ _ _ < _ ∧ 1 ≤ nup _ _ _ _ ∧ nup _ _ _ _ ≤ 9 ∧ nup _ _ _ _ ≤ 1 ∧ nup _ _ _ _ ≤ 9 ∧ nup _ _ _ _ ≤ 99
    simp only [nup_eq]
    omega
  · have hu2 : u < vN v := by
      have : u < vN v + 1 := hu
      omega
    show nup _ _ _ _ < _ ∧ 1 ≤ nup _ _ _ _ ∧ nup _ _ _ _ ≤ 9 ∧ nup _ _ _ _ ≤ 1 ∧ nup _ _ _ _ ≤ 9 ∧ nup _ _ _ _ ≤ 99
    simp only [nup_ne q]
    exact h.2.2 u hu2
theorem WV.setM {g : pG} {v : pV} {w x : Nat} (h : WV g v) (hx : x ≤ 1) : WV g (vSetM v w x) := by
  refine ⟨h.1, h.2.1, fun u hu => ?_⟩
  have z := h.2.2 u hu
  refine ⟨z.1, z.2.1, z.2.2.1, ?_, z.2.2.2.2⟩
  show nup _ _ _ _ ≤ 1
  by_cases q : u = w
  · subst q; rw [nup_eq]; exact hx
  · rw [nup_ne q]; exact z.2.2.2.1
theorem WV.setA {g : pG} {v : pV} {w x : Nat} (h : WV g v) (hx : x ≤ 9) : WV g (vSetA v w x) := by
  refine ⟨h.1, h.2.1, fun u hu => ?_⟩
  have z := h.2.2 u hu
  refine ⟨z.1, z.2.1, z.2.2.1, z.2.2.2.1, ?_, z.2.2.2.2.2⟩
  show nup _ _ _ _ ≤ 9
  by_cases q : u = w
  · subst q; rw [nup_eq]; exact hx
  · rw [nup_ne q]; exact z.2.2.2.2.1
theorem WV.setT {g : pG} {v : pV} {w x : Nat} (h : WV g v) (hx : x ≤ 99) : WV g (vSetT v w x) := by
  refine ⟨h.1, h.2.1, fun u hu => ?_⟩
  have z := h.2.2 u hu
  refine ⟨z.1, z.2.1, z.2.2.1, z.2.2.2.1, z.2.2.2.2.1, ?_⟩
  show nup _ _ _ _ ≤ 99
  by_cases q : u = w
  · subst q; rw [nup_eq]; exact hx
  · rw [nup_ne q]; exact z.2.2.2.2.2
theorem WV.wat {g : pG} {v : pV} {f : Nat → Nat} (h : WV g v) (hx : ∀ w, w < vN v → f w ≤ 99) : WV g (vWat v f) := by
  refine ⟨h.1, h.2.1, fun u hu => ?_⟩
  have z := h.2.2 u hu
  exact ⟨z.1, z.2.1, z.2.2.1, z.2.2.2.1, z.2.2.2.2.1, hx u hu⟩
theorem WV.emp {g : pG} {v : pV} : WV g (vEmp v) := ⟨by show 0 ≤ 8; omega, ⟨by show 0 ≤ 9999; omega, fun i j _ hj => by cases (show j < 0 from hj)⟩, fun u hu => by cases (show u < 0 from hu)⟩
theorem WV.drop {g : pG} {v : pV} {i : Nat} (h : WV g v) : WV g (vDrop v i) := by
  have hd : VD (vDrop v i) := by
    intro a b hab hb
    have hb2 : b < vN v - 1 := hb
    show nsh (vF v) i a ≠ nsh (vF v) i b
    unfold nsh
    by_cases qa : a < i
    · rw [if_pos qa]
      by_cases qb : b < i
      · rw [if_pos qb]; exact h.2.1.2 a b hab (by omega)
      · rw [if_neg qb]; exact h.2.1.2 a (b + 1) (by omega) (by omega)
    · rw [if_neg qa, if_neg (show ¬ b < i by omega)]
      exact h.2.1.2 (a + 1) (b + 1) (by omega) (by omega)
  refine ⟨by have := h.1; show vN v - 1 ≤ 8; omega, ⟨h.2.1.1, hd⟩, fun u hu => ?_⟩
  have hu2 : u < vN v - 1 := hu
  show nsh _ _ _ < _ ∧ 1 ≤ nsh _ _ _ ∧ nsh _ _ _ ≤ 9 ∧ nsh _ _ _ ≤ 1 ∧ nsh _ _ _ ≤ 9 ∧ nsh _ _ _ ≤ 99
  unfold nsh
  by_cases q : u < i
  · simp only [if_pos q]; exact h.2.2 u (by omega)
  · simp only [if_neg q]; exact h.2.2 (u + 1) (by omega)
section CMUT
variable {L N a b : Nat} {S : gS} {g : pG} {v : pV}
def xSet (S : gS) (a b i j : Nat) : gS := stI (stI (stI (stI (stI S (a + 1) j (S.1 (b + 1) i)) (a + 2) j (S.1 (b + 2) i)) (a + 3) j (S.1 (b + 3) i)) (a + 4) j (S.1 (b + 4) i)) (a + 5) j (S.1 (b + 5) i)
theorem C_setFrom {i j : Nat} (ha : SA a) (hb : SA b) (hi : i < 8) (hj : j < 8) (hab : a = b ∨ a + 6 ≤ b ∨ b + 6 ≤ a) : f_c7_setFrom N a b (nI i) (nI j) (mk L S) = some (mk L (xSet S a b i j)) := by
  simp (disch := omega) only [Option.bind_some, ↓ile_t, ↓ile_f, ↓ilt_t, ↓ilt_f, ↓ieq_t, ↓ieq_f, ↓iz_t, ↓iz_f, ↓iltz, ↓izle, ↓ilez_t, ↓ilez_f, ↓im1, gZ_0, gZ_1, e10, e00, ↓reduceIte, Sum.elim_inl, Sum.elim_inr, nI_1, nI_add, Int32.sub_zero, f_c7_setFrom, qc ha, qr1 ha, qr2 ha, qr3 ha, qr4 ha, qr5 ha, qr1 hb, qr2 hb, qr3 hb, qr4 hb, qr5 hb, qg1 hb, qg2 hb, qg3 hb, qg4 hb, qg5 hb, qp1 ha, qp2 ha, qp3 ha, qp4 ha, qp5 ha, rdI_ne, xSet]
theorem C_take (ha : SA a) (hb : SA b) (hab : a + 6 ≤ b ∨ b + 6 ≤ a) (h : CV S b v) (h8 : vN v ≤ 8) (hN : 900 ≤ N) : ∃ S', f_c7_take N a b (mk L S) = some (mk L S') ∧ Fr (fun x => a ≤ x ∧ x ≤ a + 5) S S' ∧ CV S' a v := by
  have h0 : ∃ r, lp_c7_take_26 N a b N (nI 0) (mk L (stI (stI (stI S a 0 (nI (vN v))) a 6 (nI (vS v))) a 7 (nI (vP v)))) = some r ∧ ∃ S', r = mk L S' ∧ Fr (fun x => a ≤ x ∧ x ≤ a + 5) S S' ∧ CV S' a v := by
    refine lp_inv (Lp := fun k (s : gS) i => lp_c7_take_26 N a b k (nI i) (mk L s)) (n := vN v)
      (P := fun i s => Fr (fun x => a ≤ x ∧ x ≤ a + 5) S s ∧ s.1 a 0 = nI (vN v) ∧ s.1 a 6 = nI (vS v) ∧ s.1 a 7 = nI (vP v) ∧ ∀ w, w < i → s.1 (a + 1) w = nI (vF v w) ∧ s.1 (a + 2) w = nI (vW v w) ∧ s.1 (a + 3) w = nI (vM v w) ∧ s.1 (a + 4) w = nI (vA v w) ∧ s.1 (a + 5) w = nI (vT v w))
      (fun k i s hi hs => Or.inr ?_) (fun k s hs => ?_) (vN v) N 0 _ (by omega) (by omega) ?_
    · obtain ⟨hF, h1, h2, h3, h4⟩ := hs
      show ∃ s', lp_c7_take_26 N a b (k + 1) _ _ = _ ∧ _
      rw [lp_c7_take_26.eq_2]
      refine ⟨xSet s a b i i, ?_, ?_, ?_, ?_, ?_, ?_⟩
      · simp (disch := omega) only [Option.bind_some, ↓ile_t, ↓ile_f, ↓ilt_t, ↓ilt_f, ↓ieq_t, ↓ieq_f, ↓iz_t, ↓iz_f, ↓iltz, ↓izle, ↓ilez_t, ↓ilez_f, ↓im1, gZ_0, gZ_1, e10, e00, ↓reduceIte, Sum.elim_inl, Sum.elim_inr, nI_1, nI_add, Int32.sub_zero, qi0 ha, h1, C_setFrom ha hb]
      · refine hF.trans (B := fun x => a ≤ x ∧ x ≤ a + 5) (fun x hx => ⟨funext fun k => ?_, rfl, rfl⟩) (fun x z => z) (fun x z => z)
        unfold xSet
        simp (disch := omega) only [rdI_ne]
      · unfold xSet
        simp (disch := omega) only [rdI_ne, h1]
      · unfold xSet
        simp (disch := omega) only [rdI_ne, h2]
      · unfold xSet
        simp (disch := omega) only [rdI_ne, h3]
      · intro w hw
        have z := h.2.2.2 i hi
        have f1 := hF.i (x := b + 1) (by omega) i
        have f2 := hF.i (x := b + 2) (by omega) i
        have f3 := hF.i (x := b + 3) (by omega) i
        have f4 := hF.i (x := b + 4) (by omega) i
        have f5 := hF.i (x := b + 5) (by omega) i
        by_cases q : w = i
        · subst q
          unfold xSet
          simp (disch := omega) only [rdI_ne, rdI_eq, f1, f2, f3, f4, f5]
          exact z
        · unfold xSet
          simp (disch := omega) only [rdI_ne]
          exact h4 w (by omega)
    · obtain ⟨hF, h1, h2, h3, h4⟩ := hs
      show ∃ r, lp_c7_take_26 N a b (k + 1) _ _ = _ ∧ _
      rw [lp_c7_take_26.eq_2]
      refine ⟨mk L s, ?_, s, rfl, hF, h1, h2, h3, h4⟩
      simp (disch := omega) only [Option.bind_some, ↓ile_t, ↓ile_f, ↓ilt_t, ↓ilt_f, ↓ieq_t, ↓ieq_f, ↓iz_t, ↓iz_f, ↓iltz, ↓izle, ↓ilez_t, ↓ilez_f, ↓im1, gZ_0, gZ_1, e10, e00, ↓reduceIte, Sum.elim_inl, Sum.elim_inr, nI_1, nI_add, Int32.sub_zero, qi0 ha, h1]
    · refine ⟨fun x hx => ⟨funext fun k => ?_, rfl, rfl⟩, ?_, ?_, ?_, fun w hw => by omega⟩
      all_goals simp (disch := omega) only [rdI_ne, rdI_eq]
  obtain ⟨r, e, S', er, hF, hC⟩ := h0
  rw [er] at e
  refine ⟨S', ?_, hF, hC⟩
  rw [nI_0] at e
  have e1 : S.1 b 0 = nI (vN v) := h.1
  have e2 : S.1 b 6 = nI (vS v) := h.2.1
  have e3 : S.1 b 7 = nI (vP v) := h.2.2.1
  simp (disch := omega) only [Option.bind_some, ↓ile_t, ↓ile_f, ↓ilt_t, ↓ilt_f, ↓ieq_t, ↓ieq_f, ↓iz_t, ↓iz_f, ↓iltz, ↓izle, ↓ilez_t, ↓ilez_f, ↓im1, gZ_0, gZ_1, e10, e00, ↓reduceIte, Sum.elim_inl, Sum.elim_inr, nI_1, nI_add, Int32.sub_zero, f_c7_take, qc ha, qi0 ha, qs0 ha, qr1 ha, qr2 ha, qr3 ha, qr4 ha, qr5 ha, qi6 ha, qs6 ha, qi7 ha, qs7 ha, qc hb, qi0 hb, qs0 hb, qr1 hb, qr2 hb, qr3 hb, qr4 hb, qr5 hb, qi6 hb, qs6 hb, qi7 hb, qs7 hb, rdI_ne, e1, e2, e3, e]
theorem C_sayOn_on {f w : Nat} {x y : Int32} (ha : SA a) (h : CV S a v) (hg : WG g) (hv : WV g v) (hN : 900 ≤ N) (hf : f < 1000) (ho : sOn v f = some w) : f_c7_sayOn N a (nI f) x y (mk L S) = some (-2, mk L S) := by
  have hw := fstN_some _ _ _ ho
  have h8 := hv.1
  simp (disch := omega) only [Option.bind_some, ↓ile_t, ↓ile_f, ↓ilt_t, ↓ilt_f, ↓ieq_t, ↓ieq_f, ↓iz_t, ↓iz_f, ↓iltz, ↓izle, ↓ilez_t, ↓ilez_f, ↓im1, gZ_0, gZ_1, e10, e00, ↓reduceIte, Sum.elim_inl, Sum.elim_inr, nI_1, nI_add, Int32.sub_zero, f_c7_sayOn, qc ha, qi0 ha, qs0 ha, qr1 ha, qr2 ha, qr3 ha, qr4 ha, qr5 ha, qi6 ha, qs6 ha, qi7 ha, qs7 ha, C_wellOn ha h hg hv hN hf, ho, oI]
theorem C_sayOn_full {f : Nat} {x y : Int32} (ha : SA a) (h : CV S a v) (hg : WG g) (hv : WV g v) (hN : 900 ≤ N) (hf : f < 1000) (ho : sOn v f = none) (h8 : vN v = 8) : f_c7_sayOn N a (nI f) x y (mk L S) = some (-3, mk L S) := by
  simp (disch := omega) only [Option.bind_some, ↓ile_t, ↓ile_f, ↓ilt_t, ↓ilt_f, ↓ieq_t, ↓ieq_f, ↓iz_t, ↓iz_f, ↓iltz, ↓izle, ↓ilez_t, ↓ilez_f, ↓im1, gZ_0, gZ_1, e10, e00, ↓reduceIte, Sum.elim_inl, Sum.elim_inr, nI_1, nI_add, Int32.sub_zero, f_c7_sayOn, qc ha, qi0 ha, qs0 ha, qr1 ha, qr2 ha, qr3 ha, qr4 ha, qr5 ha, qi6 ha, qs6 ha, qi7 ha, qs7 ha, C_wellOn ha h hg hv hN hf, ho, oI, m1lt, h.1, k8]
theorem C_sayOn_ok {f w m : Nat} (ha : SA a) (h : CV S a v) (hg : WG g) (hv : WV g v) (hN : 900 ≤ N) (hf : f < 1000) (ho : sOn v f = none) (h8 : vN v < 8) :
    ∃ S', f_c7_sayOn N a (nI f) (nI w) (nI m) (mk L S) = some (nI (vN v), mk L S') ∧ Fr (fun x => a ≤ x ∧ x ≤ a + 5) S S' ∧ CV S' a (vAdd v f w m) := by
  refine ⟨stI (stI (stI (stI (stI (stI S (a + 1) (vN v) (nI f)) (a + 2) (vN v) (nI w)) (a + 3) (vN v) (nI m)) (a + 4) (vN v) 0) (a + 5) (vN v) 0) a 0 (nI (vN v + 1)), ?_, ?_, ?_, ?_, ?_, ?_⟩
  · simp (disch := omega) only [Option.bind_some, ↓ile_t, ↓ile_f, ↓ilt_t, ↓ilt_f, ↓ieq_t, ↓ieq_f, ↓iz_t, ↓iz_f, ↓iltz, ↓izle, ↓ilez_t, ↓ilez_f, ↓im1, gZ_0, gZ_1, e10, e00, ↓reduceIte, Sum.elim_inl, Sum.elim_inr, nI_1, nI_add, Int32.sub_zero, f_c7_sayOn, qc ha, qi0 ha, qs0 ha, qr1 ha, qr2 ha, qr3 ha, qr4 ha, qr5 ha, qi6 ha, qs6 ha, qi7 ha, qs7 ha, C_wellOn ha h hg hv hN hf, ho, oI, m1lt, k8, rdI_ne, rdI_eq, h.1, qp1 ha, qp2 ha, qp3 ha, qp4 ha, qp5 ha, nI_sub1, Nat.add_sub_cancel]
  · exact fun x hx => ⟨funext fun k => by simp (disch := omega) only [rdI_ne], rfl, rfl⟩
  · simp (disch := omega) only [rdI_eq]; rfl
  · simp (disch := omega) only [rdI_ne]; exact h.2.1
  · simp (disch := omega) only [rdI_ne]; exact h.2.2.1
  · intro u hu
    have hu2 : u < vN v + 1 := hu
    show _ = nI (nup _ _ _ _) ∧ _ = nI (nup _ _ _ _) ∧ _ = nI (nup _ _ _ _) ∧ _ = nI (nup _ _ _ _) ∧ _ = nI (nup _ _ _ _)
    by_cases q : u = vN v
    · subst q
      refine ⟨?_, ?_, ?_, ?_, ?_⟩ <;> simp (disch := omega) only [rdI_ne, rdI_eq, nup_eq] <;> rfl
    · simp (disch := omega) only [rdI_ne, nup_ne]
      exact h.2.2.2 u (by omega)
theorem C_throwAnd_no {x : Int32} (ha : SA a) (h : CV S a v) (hx : x < 0 ∨ (¬ x < 0 ∧ nI (vN v) ≤ x)) : f_c7_throwAnd N a x (mk L S) = some (-1, mk L S) := by
  simp (disch := omega) only [Option.bind_some, ↓ile_t, ↓ile_f, ↓ilt_t, ↓ilt_f, ↓ieq_t, ↓ieq_f, ↓iz_t, ↓iz_f, ↓iltz, ↓izle, ↓ilez_t, ↓ilez_f, ↓im1, gZ_0, gZ_1, e10, e00, ↓reduceIte, Sum.elim_inl, Sum.elim_inr, nI_1, nI_add, Int32.sub_zero, f_c7_throwAnd, qc ha, qi0 ha, qs0 ha, qr1 ha, qr2 ha, qr3 ha, qr4 ha, qr5 ha, qi6 ha, qs6 ha, qi7 ha, qs7 ha, C_has_f ha h hx]
theorem C_throwAnd_full {w : Nat} (ha : SA a) (h : CV S a v) (hv : WV g v) (hw : w < vN v) (h9 : vA v w = 9) : f_c7_throwAnd N a (nI w) (mk L S) = some (-2, mk L S) := by
  have h8 := hv.1
  simp (disch := omega) only [Option.bind_some, ↓ile_t, ↓ile_f, ↓ilt_t, ↓ilt_f, ↓ieq_t, ↓ieq_f, ↓iz_t, ↓iz_f, ↓iltz, ↓izle, ↓ilez_t, ↓ilez_f, ↓im1, gZ_0, gZ_1, e10, e00, ↓reduceIte, Sum.elim_inl, Sum.elim_inr, nI_1, nI_add, Int32.sub_zero, f_c7_throwAnd, qc ha, qi0 ha, qs0 ha, qr1 ha, qr2 ha, qr3 ha, qr4 ha, qr5 ha, qi6 ha, qs6 ha, qi7 ha, qs7 ha, C_has_t ha h hw h8, qg4 ha, (h.2.2.2 w hw).2.2.2.1, k9]
theorem C_throwAnd_ok {w : Nat} (ha : SA a) (h : CV S a v) (hv : WV g v) (hw : w < vN v) (h9 : vA v w < 9) :
    ∃ S', f_c7_throwAnd N a (nI w) (mk L S) = some (nI (vA v w + 1), mk L S') ∧ Fr (fun x => a ≤ x ∧ x ≤ a + 5) S S' ∧ CV S' a (vSetA v w (vA v w + 1)) := by
  have h8 := hv.1
  refine ⟨stI S (a + 4) w (nI (vA v w + 1)), ?_, ?_, ?_, ?_, ?_, fun u hu => ?_⟩
  · simp (disch := omega) only [Option.bind_some, ↓ile_t, ↓ile_f, ↓ilt_t, ↓ilt_f, ↓ieq_t, ↓ieq_f, ↓iz_t, ↓iz_f, ↓iltz, ↓izle, ↓ilez_t, ↓ilez_f, ↓im1, gZ_0, gZ_1, e10, e00, ↓reduceIte, Sum.elim_inl, Sum.elim_inr, nI_1, nI_add, Int32.sub_zero, f_c7_throwAnd, qc ha, qi0 ha, qs0 ha, qr1 ha, qr2 ha, qr3 ha, qr4 ha, qr5 ha, qi6 ha, qs6 ha, qi7 ha, qs7 ha, C_has_t ha h hw h8, qg4 ha, qp4 ha, (h.2.2.2 w hw).2.2.2.1, k9, rdI_eq]
  · exact fun x hx => ⟨funext fun k => by simp (disch := omega) only [rdI_ne], rfl, rfl⟩
  · simp (disch := omega) only [rdI_ne]; exact h.1
  · simp (disch := omega) only [rdI_ne]; exact h.2.1
  · simp (disch := omega) only [rdI_ne]; exact h.2.2.1
  · have z := h.2.2.2 u hu
    refine ⟨by simp (disch := omega) only [rdI_ne]; exact z.1, by simp (disch := omega) only [rdI_ne]; exact z.2.1, by simp (disch := omega) only [rdI_ne]; exact z.2.2.1, ?_, by simp (disch := omega) only [rdI_ne]; exact z.2.2.2.2⟩
    show _ = nI (nup _ _ _ _)
    by_cases q : u = w
    · subst q; rw [rdI_eq, nup_eq]
    · rw [rdI_ne (by omega), nup_ne q]; exact z.2.2.2.1
theorem C_takeAnds_no {x : Int32} (ha : SA a) (h : CV S a v) (hx : x < 0 ∨ (¬ x < 0 ∧ nI (vN v) ≤ x)) : f_c7_takeAnds N a x (mk L S) = some (-1, mk L S) := by
  simp (disch := omega) only [Option.bind_some, ↓ile_t, ↓ile_f, ↓ilt_t, ↓ilt_f, ↓ieq_t, ↓ieq_f, ↓iz_t, ↓iz_f, ↓iltz, ↓izle, ↓ilez_t, ↓ilez_f, ↓im1, gZ_0, gZ_1, e10, e00, ↓reduceIte, Sum.elim_inl, Sum.elim_inr, nI_1, nI_add, Int32.sub_zero, f_c7_takeAnds, qc ha, qi0 ha, qs0 ha, qr1 ha, qr2 ha, qr3 ha, qr4 ha, qr5 ha, qi6 ha, qs6 ha, qi7 ha, qs7 ha, C_has_f ha h hx]
theorem C_takeAnds {w : Nat} (ha : SA a) (h : CV S a v) (hv : WV g v) (hw : w < vN v) :
    ∃ S', f_c7_takeAnds N a (nI w) (mk L S) = some (if vA v w = 0 then -2 else nI (vA v w), mk L S') ∧ Fr (fun x => a ≤ x ∧ x ≤ a + 5) S S' ∧ CV S' a (vSetA v w 0) := by
  have h8 := hv.1
  have h9 := (hv.2.2 w hw).2.2.2.2.1
  refine ⟨stI S (a + 4) w 0, ?_, ?_, ?_, ?_, ?_, fun u hu => ?_⟩
  · by_cases q : vA v w = 0
    · simp (disch := omega) only [Option.bind_some, ↓ile_t, ↓ile_f, ↓ilt_t, ↓ilt_f, ↓ieq_t, ↓ieq_f, ↓iz_t, ↓iz_f, ↓iltz, ↓izle, ↓ilez_t, ↓ilez_f, ↓im1, gZ_0, gZ_1, e10, e00, ↓reduceIte, Sum.elim_inl, Sum.elim_inr, nI_1, nI_add, Int32.sub_zero, f_c7_takeAnds, qc ha, qi0 ha, qs0 ha, qr1 ha, qr2 ha, qr3 ha, qr4 ha, qr5 ha, qi6 ha, qs6 ha, qi7 ha, qs7 ha, C_has_t ha h hw h8, qg4 ha, qp4 ha, (h.2.2.2 w hw).2.2.2.1, q, nI_0]
    · simp (disch := omega) only [Option.bind_some, ↓ile_t, ↓ile_f, ↓ilt_t, ↓ilt_f, ↓ieq_t, ↓ieq_f, ↓iz_t, ↓iz_f, ↓iltz, ↓izle, ↓ilez_t, ↓ilez_f, ↓im1, gZ_0, gZ_1, e10, e00, ↓reduceIte, Sum.elim_inl, Sum.elim_inr, nI_1, nI_add, Int32.sub_zero, f_c7_takeAnds, qc ha, qi0 ha, qs0 ha, qr1 ha, qr2 ha, qr3 ha, qr4 ha, qr5 ha, qi6 ha, qs6 ha, qi7 ha, qs7 ha, C_has_t ha h hw h8, qg4 ha, qp4 ha, (h.2.2.2 w hw).2.2.2.1, q]
  · exact fun x hx => ⟨funext fun k => by simp (disch := omega) only [rdI_ne], rfl, rfl⟩
  · simp (disch := omega) only [rdI_ne]; exact h.1
  · simp (disch := omega) only [rdI_ne]; exact h.2.1
  · simp (disch := omega) only [rdI_ne]; exact h.2.2.1
  · have z := h.2.2.2 u hu
    refine ⟨by simp (disch := omega) only [rdI_ne]; exact z.1, by simp (disch := omega) only [rdI_ne]; exact z.2.1, by simp (disch := omega) only [rdI_ne]; exact z.2.2.1, ?_, by simp (disch := omega) only [rdI_ne]; exact z.2.2.2.2⟩
    show _ = nI (nup _ _ _ _)
    by_cases q : u = w
    · subst q; rw [rdI_eq, nup_eq]; rfl
    · rw [rdI_ne (by omega), nup_ne q]; exact z.2.2.2.1
theorem C_drawFrom_no {x n : Int32} (ha : SA a) (h : CV S a v) (hx : x < 0 ∨ (¬ x < 0 ∧ nI (vN v) ≤ x)) : f_c7_drawFrom N a x n (mk L S) = some (-1, mk L S) := by
  simp (disch := omega) only [Option.bind_some, ↓ile_t, ↓ile_f, ↓ilt_t, ↓ilt_f, ↓ieq_t, ↓ieq_f, ↓iz_t, ↓iz_f, ↓iltz, ↓izle, ↓ilez_t, ↓ilez_f, ↓im1, gZ_0, gZ_1, e10, e00, ↓reduceIte, Sum.elim_inl, Sum.elim_inr, nI_1, nI_add, Int32.sub_zero, f_c7_drawFrom, qc ha, qi0 ha, qs0 ha, qr1 ha, qr2 ha, qr3 ha, qr4 ha, qr5 ha, qi6 ha, qs6 ha, qi7 ha, qs7 ha, C_has_f ha h hx]
theorem C_drawFrom_no2 {w : Nat} {n : Int32} (ha : SA a) (h : CV S a v) (h8 : vN v ≤ 8) (hw : w < vN v) (hn : n < 1 ∨ (¬ n < 1 ∧ ¬ n ≤ 99)) : f_c7_drawFrom N a (nI w) n (mk L S) = some (-1, mk L S) := by
  rcases hn with hn | ⟨h1, hn⟩
  · simp (disch := omega) only [Option.bind_some, ↓ile_t, ↓ile_f, ↓ilt_t, ↓ilt_f, ↓ieq_t, ↓ieq_f, ↓iz_t, ↓iz_f, ↓iltz, ↓izle, ↓ilez_t, ↓ilez_f, ↓im1, gZ_0, gZ_1, e10, e00, ↓reduceIte, Sum.elim_inl, Sum.elim_inr, nI_1, nI_add, Int32.sub_zero, f_c7_drawFrom, qc ha, qi0 ha, qs0 ha, qr1 ha, qr2 ha, qr3 ha, qr4 ha, qr5 ha, qi6 ha, qs6 ha, qi7 ha, qs7 ha, C_has_t ha h hw h8, hn]
  · simp (disch := omega) only [Option.bind_some, ↓ile_t, ↓ile_f, ↓ilt_t, ↓ilt_f, ↓ieq_t, ↓ieq_f, ↓iz_t, ↓iz_f, ↓iltz, ↓izle, ↓ilez_t, ↓ilez_f, ↓im1, gZ_0, gZ_1, e10, e00, ↓reduceIte, Sum.elim_inl, Sum.elim_inr, nI_1, nI_add, Int32.sub_zero, f_c7_drawFrom, qc ha, qi0 ha, qs0 ha, qr1 ha, qr2 ha, qr3 ha, qr4 ha, qr5 ha, qi6 ha, qs6 ha, qi7 ha, qs7 ha, C_has_t ha h hw h8, hn, h1]
theorem C_drawFrom_few {w n : Nat} (ha : SA a) (h : CV S a v) (hv : WV g v) (hw : w < vN v) (h1 : 1 ≤ n) (h2 : n ≤ 99) (hn : vT v w < n) : f_c7_drawFrom N a (nI w) (nI n) (mk L S) = some (-2, mk L S) := by
  have h8 := hv.1
  simp (disch := omega) only [Option.bind_some, ↓ile_t, ↓ile_f, ↓ilt_t, ↓ilt_f, ↓ieq_t, ↓ieq_f, ↓iz_t, ↓iz_f, ↓iltz, ↓izle, ↓ilez_t, ↓ilez_f, ↓im1, gZ_0, gZ_1, e10, e00, ↓reduceIte, Sum.elim_inl, Sum.elim_inr, nI_1, nI_add, Int32.sub_zero, f_c7_drawFrom, qc ha, qi0 ha, qs0 ha, qr1 ha, qr2 ha, qr3 ha, qr4 ha, qr5 ha, qi6 ha, qs6 ha, qi7 ha, qs7 ha, C_has_t ha h hw h8, k1, k99, qg5 ha, (h.2.2.2 w hw).2.2.2.2]
theorem C_drawFrom_ok {w n : Nat} (ha : SA a) (h : CV S a v) (hv : WV g v) (hw : w < vN v) (h1 : 1 ≤ n) (h2 : n ≤ 99) (hn : n ≤ vT v w) :
    ∃ S', f_c7_drawFrom N a (nI w) (nI n) (mk L S) = some (nI (vT v w - n), mk L S') ∧ Fr (fun x => a ≤ x ∧ x ≤ a + 5) S S' ∧ CV S' a (vSetT v w (vT v w - n)) := by
  have h8 := hv.1
  have h9 := (hv.2.2 w hw).2.2.2.2.2
  refine ⟨stI S (a + 5) w (nI (vT v w - n)), ?_, ?_, ?_, ?_, ?_, fun u hu => ?_⟩
  · simp (disch := omega) only [Option.bind_some, ↓ile_t, ↓ile_f, ↓ilt_t, ↓ilt_f, ↓ieq_t, ↓ieq_f, ↓iz_t, ↓iz_f, ↓iltz, ↓izle, ↓ilez_t, ↓ilez_f, ↓im1, gZ_0, gZ_1, e10, e00, ↓reduceIte, Sum.elim_inl, Sum.elim_inr, nI_1, nI_add, Int32.sub_zero, f_c7_drawFrom, qc ha, qi0 ha, qs0 ha, qr1 ha, qr2 ha, qr3 ha, qr4 ha, qr5 ha, qi6 ha, qs6 ha, qi7 ha, qs7 ha, C_has_t ha h hw h8, k1, k99, qg5 ha, qp5 ha, (h.2.2.2 w hw).2.2.2.2, nI_sub, rdI_eq]
  · exact fun x hx => ⟨funext fun k => by simp (disch := omega) only [rdI_ne], rfl, rfl⟩
  · simp (disch := omega) only [rdI_ne]; exact h.1
  · simp (disch := omega) only [rdI_ne]; exact h.2.1
  · simp (disch := omega) only [rdI_ne]; exact h.2.2.1
  · have z := h.2.2.2 u hu
    refine ⟨by simp (disch := omega) only [rdI_ne]; exact z.1, by simp (disch := omega) only [rdI_ne]; exact z.2.1, by simp (disch := omega) only [rdI_ne]; exact z.2.2.1, by simp (disch := omega) only [rdI_ne]; exact z.2.2.2.1, ?_⟩
    show _ = nI (nup _ _ _ _)
    by_cases q : u = w
    · subst q; rw [rdI_eq, nup_eq]
    · rw [rdI_ne (by omega), nup_ne q]; exact z.2.2.2.2
theorem C_turn_no {x : Int32} (ha : SA a) (h : CV S a v) (hx : x < 0 ∨ (¬ x < 0 ∧ nI (vN v) ≤ x)) : f_c7_turn N a x (mk L S) = some (-1, mk L S) := by
  simp (disch := omega) only [Option.bind_some, ↓ile_t, ↓ile_f, ↓ilt_t, ↓ilt_f, ↓ieq_t, ↓ieq_f, ↓iz_t, ↓iz_f, ↓iltz, ↓izle, ↓ilez_t, ↓ilez_f, ↓im1, gZ_0, gZ_1, e10, e00, ↓reduceIte, Sum.elim_inl, Sum.elim_inr, nI_1, nI_add, Int32.sub_zero, f_c7_turn, qc ha, qi0 ha, qs0 ha, qr1 ha, qr2 ha, qr3 ha, qr4 ha, qr5 ha, qi6 ha, qs6 ha, qi7 ha, qs7 ha, C_has_f ha h hx]
theorem C_turn {w : Nat} (ha : SA a) (h : CV S a v) (hv : WV g v) (hw : w < vN v) :
    ∃ S', f_c7_turn N a (nI w) (mk L S) = some (nI (sDepth (vSetM v w (1 - vM v w)) w), mk L S') ∧ Fr (fun x => a ≤ x ∧ x ≤ a + 5) S S' ∧ CV S' a (vSetM v w (1 - vM v w)) := by
  have h8 := hv.1
  have h9 := (hv.2.2 w hw).2.2.2.1
  have hC : CV (stI S (a + 3) w (nI (1 - vM v w))) a (vSetM v w (1 - vM v w)) := by
    refine ⟨?_, ?_, ?_, fun u hu => ?_⟩
    · simp (disch := omega) only [rdI_ne]; exact h.1
    · simp (disch := omega) only [rdI_ne]; exact h.2.1
    · simp (disch := omega) only [rdI_ne]; exact h.2.2.1
    · have z := h.2.2.2 u hu
      refine ⟨by simp (disch := omega) only [rdI_ne]; exact z.1, by simp (disch := omega) only [rdI_ne]; exact z.2.1, ?_, by simp (disch := omega) only [rdI_ne]; exact z.2.2.2.1, by simp (disch := omega) only [rdI_ne]; exact z.2.2.2.2⟩
      show _ = nI (nup _ _ _ _)
      by_cases q : u = w
      · subst q; rw [rdI_eq, nup_eq]
      · rw [rdI_ne (by omega), nup_ne q]; exact z.2.2.1
  have hv2 : WV g (vSetM v w (1 - vM v w)) := hv.setM (by omega)
  refine ⟨stI S (a + 3) w (nI (1 - vM v w)), ?_, ?_, hC⟩
  · simp (disch := omega) only [Option.bind_some, ↓ile_t, ↓ile_f, ↓ilt_t, ↓ilt_f, ↓ieq_t, ↓ieq_f, ↓iz_t, ↓iz_f, ↓iltz, ↓izle, ↓ilez_t, ↓ilez_f, ↓im1, gZ_0, gZ_1, e10, e00, ↓reduceIte, Sum.elim_inl, Sum.elim_inr, nI_1, nI_add, Int32.sub_zero, f_c7_turn, qc ha, qi0 ha, qs0 ha, qr1 ha, qr2 ha, qr3 ha, qr4 ha, qr5 ha, qi6 ha, qs6 ha, qi7 ha, qs7 ha, C_has_t ha h hw h8, k1, qg3 ha, qp3 ha, (h.2.2.2 w hw).2.2.1, nI_sub, C_depth ha hC hv2 hw]
  · exact fun x hx => ⟨funext fun k => by simp (disch := omega) only [rdI_ne], rfl, rfl⟩
theorem C_empty (ha : SA a) : ∃ S', f_c7_empty N a (mk L S) = some (mk L S') ∧ Fr (fun x => a ≤ x ∧ x ≤ a + 5) S S' ∧ CV S' a (vEmp v) := by
  refine ⟨stI (stI (stI S a 0 0) a 6 0) a 7 0, ?_, ?_, ?_, ?_, ?_, fun u hu => by cases (show u < 0 from hu)⟩
  · simp (disch := omega) only [Option.bind_some, ↓ile_t, ↓ile_f, ↓ilt_t, ↓ilt_f, ↓ieq_t, ↓ieq_f, ↓iz_t, ↓iz_f, ↓iltz, ↓izle, ↓ilez_t, ↓ilez_f, ↓im1, gZ_0, gZ_1, e10, e00, ↓reduceIte, Sum.elim_inl, Sum.elim_inr, nI_1, nI_add, Int32.sub_zero, f_c7_empty, qc ha, qi0 ha, qs0 ha, qr1 ha, qr2 ha, qr3 ha, qr4 ha, qr5 ha, qi6 ha, qs6 ha, qi7 ha, qs7 ha]
  · exact fun x hx => ⟨funext fun k => by simp (disch := omega) only [rdI_ne], rfl, rfl⟩
  · simp (disch := omega) only [rdI_ne, rdI_eq]; rfl
  · simp (disch := omega) only [rdI_ne, rdI_eq]; rfl
  · simp (disch := omega) only [rdI_ne, rdI_eq]; rfl
theorem C_drop {i : Nat} (ha : SA a) (h : CV S a v) (h8 : vN v ≤ 8) (hi : i < vN v) (hN : 900 ≤ N) : ∃ S', f_c7_drop N a (nI i) (mk L S) = some (mk L S') ∧ Fr (fun x => a ≤ x ∧ x ≤ a + 5) S S' ∧ CV S' a (vDrop v i) := by
  have h0 : ∃ r, lp_c7_drop_4 N a N (nI (i + 1)) (mk L S) = some r ∧ ∃ S', r = mk L S' ∧ Fr (fun x => a ≤ x ∧ x ≤ a + 5) S S' ∧ S'.1 a = S.1 a ∧ ∀ w, w < vN v - 1 → S'.1 (a + 1) w = nI (nsh (vF v) i w) ∧ S'.1 (a + 2) w = nI (nsh (vW v) i w) ∧ S'.1 (a + 3) w = nI (nsh (vM v) i w) ∧ S'.1 (a + 4) w = nI (nsh (vA v) i w) ∧ S'.1 (a + 5) w = nI (nsh (vT v) i w) := by
    refine lp_inv (Lp := fun k (s : gS) i => lp_c7_drop_4 N a k (nI i) (mk L s)) (n := vN v)
      (P := fun j s => i < j ∧ Fr (fun x => a ≤ x ∧ x ≤ a + 5) S s ∧ s.1 a = S.1 a ∧ (∀ w, w + 1 < j → s.1 (a + 1) w = nI (nsh (vF v) i w) ∧ s.1 (a + 2) w = nI (nsh (vW v) i w) ∧ s.1 (a + 3) w = nI (nsh (vM v) i w) ∧ s.1 (a + 4) w = nI (nsh (vA v) i w) ∧ s.1 (a + 5) w = nI (nsh (vT v) i w)) ∧ (∀ w, j ≤ w → s.1 (a + 1) w = S.1 (a + 1) w ∧ s.1 (a + 2) w = S.1 (a + 2) w ∧ s.1 (a + 3) w = S.1 (a + 3) w ∧ s.1 (a + 4) w = S.1 (a + 4) w ∧ s.1 (a + 5) w = S.1 (a + 5) w))
      (fun k j s hj hs => Or.inr ?_) (fun k s hs => ?_) (vN v - (i + 1)) N (i + 1) S (by omega) (by omega) ?_
    · obtain ⟨hij, hF, h1, h2, h3⟩ := hs
      show ∃ s', lp_c7_drop_4 N a (k + 1) _ _ = _ ∧ _
      rw [lp_c7_drop_4.eq_2]
      have e1 : s.1 a 0 = nI (vN v) := by rw [h1]; exact h.1
      have e2 := h3 j (Nat.le_refl j)
      have e3 := h.2.2.2 j hj
      refine ⟨xSet s a a j (j - 1), ?_, by omega, ?_, ?_, ?_, ?_⟩
      · simp (disch := omega) only [Option.bind_some, ↓ile_t, ↓ile_f, ↓ilt_t, ↓ilt_f, ↓ieq_t, ↓ieq_f, ↓iz_t, ↓iz_f, ↓iltz, ↓izle, ↓ilez_t, ↓ilez_f, ↓im1, gZ_0, gZ_1, e10, e00, ↓reduceIte, Sum.elim_inl, Sum.elim_inr, nI_1, nI_add, Int32.sub_zero, qi0 ha, e1, C_setFrom ha ha, nI_sub1]
      · refine hF.trans (B := fun x => a ≤ x ∧ x ≤ a + 5) (fun x hx => ⟨funext fun k => ?_, rfl, rfl⟩) (fun x z => z) (fun x z => z)
        unfold xSet
        simp (disch := omega) only [rdI_ne]
      · funext u
        unfold xSet
        simp (disch := omega) only [rdI_ne, h1]
      · intro w hw
        by_cases q : w = j - 1
        · subst q
          unfold xSet
          simp (disch := omega) only [rdI_ne, rdI_eq, e2]
          unfold nsh
          simp (disch := omega) only [if_neg, show j - 1 + 1 = j by omega]
          exact e3
        · unfold xSet
          simp (disch := omega) only [rdI_ne]
          exact h2 w (by omega)
      · intro w hw
        unfold xSet
        simp (disch := omega) only [rdI_ne]
        exact h3 w (by omega)
    · obtain ⟨hij, hF, h1, h2, h3⟩ := hs
      show ∃ r, lp_c7_drop_4 N a (k + 1) _ _ = _ ∧ _
      rw [lp_c7_drop_4.eq_2]
      have e1 : s.1 a 0 = nI (vN v) := by rw [h1]; exact h.1
      refine ⟨mk L s, ?_, s, rfl, hF, h1, fun w hw => h2 w (by omega)⟩
      simp (disch := omega) only [Option.bind_some, ↓ile_t, ↓ile_f, ↓ilt_t, ↓ilt_f, ↓ieq_t, ↓ieq_f, ↓iz_t, ↓iz_f, ↓iltz, ↓izle, ↓ilez_t, ↓ilez_f, ↓im1, gZ_0, gZ_1, e10, e00, ↓reduceIte, Sum.elim_inl, Sum.elim_inr, nI_1, nI_add, Int32.sub_zero, qi0 ha, e1]
    · refine ⟨by omega, Fr.refl, rfl, fun w hw => ?_, fun w hw => ⟨rfl, rfl, rfl, rfl, rfl⟩⟩
      unfold nsh
      simp (disch := omega) only [if_pos]
      exact h.2.2.2 w (by omega)
  obtain ⟨r, e, S', er, hF, h1, h2⟩ := h0
  rw [er] at e
  have e1 : S'.1 a 0 = nI (vN v) := by rw [h1]; exact h.1
  refine ⟨stI S' a 0 (nI (vN v - 1)), ?_, ?_, ?_, ?_, ?_, ?_⟩
  · simp (disch := omega) only [Option.bind_some, ↓ile_t, ↓ile_f, ↓ilt_t, ↓ilt_f, ↓ieq_t, ↓ieq_f, ↓iz_t, ↓iz_f, ↓iltz, ↓izle, ↓ilez_t, ↓ilez_f, ↓im1, gZ_0, gZ_1, e10, e00, ↓reduceIte, Sum.elim_inl, Sum.elim_inr, nI_1, nI_add, Int32.sub_zero, f_c7_drop, qc ha, qi0 ha, qs0 ha, qr1 ha, qr2 ha, qr3 ha, qr4 ha, qr5 ha, qi6 ha, qs6 ha, qi7 ha, qs7 ha, e, e1, nI_sub1]
  · exact hF.trans (B := fun x => a ≤ x ∧ x ≤ a + 5) (fun x hx => ⟨funext fun k => by simp (disch := omega) only [rdI_ne], rfl, rfl⟩) (fun x z => z) (fun x z => z)
  · simp (disch := omega) only [rdI_eq]; rfl
  · simp (disch := omega) only [rdI_ne, h1]; exact h.2.1
  · simp (disch := omega) only [rdI_ne, h1]; exact h.2.2.1
  · intro w hw
    simp (disch := omega) only [rdI_ne]
    exact h2 w hw
end CMUT
