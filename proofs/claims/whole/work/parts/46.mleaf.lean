/-! LEAVES of the reference -/
def FM (A K : Nat → Prop) (S S' : gS) : Prop := (∀ x, x ≠ 144 → ¬ A x → S'.1 x = S.1 x ∧ S'.2.1 x = S.2.1 x ∧ S'.2.2 x = S.2.2 x) ∧ ∀ k, ¬ K k → S'.1 144 k = S.1 144 k ∧ S'.2.2 144 k = S.2.2 144 k
theorem FM.refl {A K : Nat → Prop} {S : gS} : FM A K S S := ⟨fun _ _ _ => ⟨rfl, rfl, rfl⟩, fun _ _ => ⟨rfl, rfl⟩⟩
theorem FM.trans {A B C K K' K2 : Nat → Prop} {S S1 S2 : gS} (h1 : FM A K S S1) (h2 : FM B K' S1 S2) (ha : ∀ x, A x → C x) (hb : ∀ x, B x → C x) (hk : ∀ x, K x → K2 x) (hk' : ∀ x, K' x → K2 x) : FM C K2 S S2 :=
  ⟨fun x h0 hx =>
    have q1 := h1.1 x h0 (fun z => hx (ha x z))
    have q2 := h2.1 x h0 (fun z => hx (hb x z))
    ⟨q2.1.trans q1.1, q2.2.1.trans q1.2.1, q2.2.2.trans q1.2.2⟩, fun k hx =>
    have q1 := h1.2 k (fun z => hx (hk k z))
    have q2 := h2.2 k (fun z => hx (hk' k z))
    ⟨q2.1.trans q1.1, q2.2.trans q1.2⟩⟩
theorem FM.mono {A C K K2 : Nat → Prop} {S S1 : gS} (h1 : FM A K S S1) (ha : ∀ x, A x → C x) (hk : ∀ x, K x → K2 x) : FM C K2 S S1 := ⟨fun x h0 hx => h1.1 x h0 (fun z => hx (ha x z)), fun k hx => h1.2 k (fun z => hx (hk k z))⟩
theorem FM.i {A K : Nat → Prop} {S S' : gS} (h : FM A K S S') {x : Nat} (h0 : x ≠ 144) (hx : ¬ A x) (k : Nat) : S'.1 x k = S.1 x k := by rw [(h.1 x h0 hx).1]
theorem FM.l {A K : Nat → Prop} {S S' : gS} (h : FM A K S S') {x : Nat} (h0 : x ≠ 144) (hx : ¬ A x) (k : Nat) : S'.2.1 x k = S.2.1 x k := by rw [(h.1 x h0 hx).2.1]
theorem FM.k {A K : Nat → Prop} {S S' : gS} (h : FM A K S S') {k : Nat} (hx : ¬ K k) : S'.1 144 k = S.1 144 k := (h.2 k hx).1
theorem FM.p {A K : Nat → Prop} {S S' : gS} (h : FM A K S S') {k : Nat} (hx : ¬ K k) : S'.2.2 144 k = S.2.2 144 k := (h.2 k hx).2
theorem FM.fr {A K : Nat → Prop} {S S' : gS} (h : FM A K S S') : Fr (fun x => x = 144 ∨ A x) S S' := fun x hx => h.1 x (fun z => hx (Or.inl z)) (fun z => hx (Or.inr z))
theorem FM.stK {A K : Nat → Prop} {S : gS} {k : Nat} {v : Int32} (h : K k) : FM A K S (stI S 144 k v) := ⟨fun x h0 _ => ⟨stI_1 h0, rfl, rfl⟩, fun j hj => ⟨rdI_ne (Or.inr (fun z => hj (z ▸ h))), rfl⟩⟩
theorem FM.stA {A K : Nat → Prop} {S : gS} {a k : Nat} {v : Int32} (h : A a) (h0 : a ≠ 144) : FM A K S (stI S a k v) := ⟨fun x _ hx => ⟨stI_1 (fun z => hx (z ▸ h)), rfl, rfl⟩, fun j _ => ⟨rdI_ne (Or.inl (fun z => h0 z.symm)), rfl⟩⟩
theorem FM.stL {A K : Nat → Prop} {S : gS} {a k : Nat} {v : Int64} (h : A a) (h0 : a ≠ 144) : FM A K S (stL S a k v) := ⟨fun x _ hx => ⟨rfl, stL_1 (fun z => hx (z ▸ h)), rfl⟩, fun j _ => ⟨rfl, rfl⟩⟩
theorem FM.stP {A K : Nat → Prop} {S : gS} {k : Nat} {v : Option Nat} (h : K k) : FM A K S (stP S 144 k v) := ⟨fun x h0 _ => ⟨rfl, rfl, stP_1 h0⟩, fun j hj => ⟨rfl, rdP_ne (Or.inr (fun z => hj (z ▸ h)))⟩⟩
theorem MW.fm {A K : Nat → Prop} {S S' : gS} {r : Nat} {v : pV} (h : FM A K S S') (h0 : r ≠ 144) (hA : ¬ A r) (q : MW S r v) : MW S' r v := q.fr h.fr (fun z => z.elim h0 hA)
theorem MV.fm {A K : Nat → Prop} {S S' : gS} {r o : Nat} {v : pV} (h : FM A K S S') (h0 : r ≠ 144) (hA : ¬ A r) (q : MV S r o v) : MV S' r o v := q.fr h.fr (fun z => z.elim h0 hA)
theorem MG.fm {A K : Nat → Prop} {S S' : gS} {g : pG} (h : FM A K S S') (h1 : ¬ K 1 ∧ ¬ K 2 ∧ ¬ K 3) (hA : ¬ A 146 ∧ ¬ A 147) (q : MG S g) : MG S' g :=
  q.fr h.fr (fun k hk => by rcases hk with rfl | rfl | rfl; exact h.k h1.1; exact h.k h1.2.1; exact h.k h1.2.2) ⟨fun z => z.elim (by omega) hA.1, fun z => z.elim (by omega) hA.2⟩
theorem MG.frr {A : Nat → Prop} {S S' : gS} {g : pG} (h : Fr A S S') (hA : ¬ A 144 ∧ ¬ A 146 ∧ ¬ A 147) (q : MG S g) : MG S' g :=
  q.fr h (fun k _ => h.i hA.1 k) hA.2
theorem nI_m1' {n : Nat} (h : n = 0) : nI n - 1 = -1 := by rw [h]; decide
section MLEAF
variable {L N r : Nat} {S : gS} {g : pG} {v : pV} {h : gH}
theorem M_in_t {x lo hi : Int32} (h1 : ¬ x < lo) (h2 : ¬ hi < x) : f_c11_in N x lo hi h = some 1 := by
  unfold f_c11_in; rw [if_neg h1, if_neg h2]; rfl
theorem M_in_l {x lo hi : Int32} (h1 : x < lo) : f_c11_in N x lo hi h = some 0 := by
  unfold f_c11_in; rw [if_pos h1]; rfl
theorem M_in_h {x lo hi : Int32} (h1 : hi < x) : f_c11_in N x lo hi h = some 0 := by
  unfold f_c11_in
  by_cases q : x < lo
  · rw [if_pos q]; rfl
  · rw [if_neg q, if_pos h1]; rfl
theorem M_in_n {x lo hi : Int32} (h1 : x < lo ∨ hi < x) : f_c11_in N x lo hi h = some 0 := h1.elim M_in_l M_in_h
theorem M_in_nI {w n : Nat} (hw : w < n) (hn : n < 2147483648) : f_c11_in N (nI w) 0 (nI n - 1) h = some 1 := by
  rw [nI_sub1 (by omega)]
  exact M_in_t (nI_pos (by omega)) (nI_nlt (by omega) (by omega))
theorem M_in_out {n : Nat} {x : Int32} (hn : n < 2147483648) (hx : x < 0 ∨ (¬ x < 0 ∧ nI n ≤ x)) : f_c11_in N x 0 (nI n - 1) h = some 0 := by
  rcases hx with hx | ⟨h0, hx⟩
  · exact M_in_l hx
  · obtain ⟨j, hj, rfl⟩ := nI_of h0
    have h1 : n ≤ j := by
      have := (nI_leI hn hj).mp hx
      exact this
    refine M_in_h ?_
    by_cases q : n = 0
    · rw [nI_m1' q, i32_lt, nI_toInt hj]
      have : (-1 : Int32).toInt = -1 := by decide
      omega
    · rw [nI_sub1 (by omega)]
      exact nI_lt (by omega) hj
theorem M_farOf {x y : Nat} (hM : MG S g) (hg : WG g) (hx : x < 1000) (hy : y < 1000) : f_c11_farOf N 144 (nI x) (nI y) (mk L S) = some (nI (sFar g x y)) := by
  have := hg.2.2
  have h1 : x / gCo g ≤ x := Nat.div_le_self _ _
  have h2 : y / gCo g ≤ y := Nat.div_le_self _ _
  have h3 : x % gCo g ≤ x := Nat.mod_le _ _
  have h4 : y % gCo g ≤ y := Nat.mod_le _ _
  simp (disch := omega) only [Option.bind_some, ↓ile_t, ↓ile_f, ↓ilt_t, ↓ilt_f, ↓ieq_t, ↓ieq_f, ↓iz_t, ↓iz_f, ↓iltz, ↓izle, ↓ilez_t, ↓ilez_f, ↓im1, gZ_0, gZ_1, e10, e00, ↓reduceIte, Sum.elim_inl, Sum.elim_inr, nI_1, nI_add, Int32.sub_zero, f_c11_farOf, zc144, zi144_2, hM.2.1, gNZ_nI, nI_rem]
  rw [nI_div (by omega) (by omega), nI_div (by omega) (by omega), gabs_sub (by omega) (by omega), gabs_sub (by omega) (by omega), nI_add]
  rfl
theorem M_fields (hM : MG S g) : f_c11_fields N 144 (mk L S) = some (nI (gRw g * gCo g)) := by
  simp (disch := omega) only [Option.bind_some, ↓ile_t, ↓ile_f, ↓ilt_t, ↓ilt_f, ↓ieq_t, ↓ieq_f, ↓iz_t, ↓iz_f, ↓iltz, ↓izle, ↓ilez_t, ↓ilez_f, ↓im1, gZ_0, gZ_1, e10, e00, ↓reduceIte, Sum.elim_inl, Sum.elim_inr, nI_1, nI_add, Int32.sub_zero, f_c11_fields, zc144, zi144_1, zi144_2, hM.1, hM.2.1, nI_mul]
theorem M_isField_t {f : Nat} (hM : MG S g) (hg : WG g) (hf : f < gRw g * gCo g) : f_c11_isField N 144 (nI f) (mk L S) = some 1 := by
  have := hg.f
  simp (disch := omega) only [Option.bind_some, ↓ile_t, ↓ile_f, ↓ilt_t, ↓ilt_f, ↓ieq_t, ↓ieq_f, ↓iz_t, ↓iz_f, ↓iltz, ↓izle, ↓ilez_t, ↓ilez_f, ↓im1, gZ_0, gZ_1, e10, e00, ↓reduceIte, Sum.elim_inl, Sum.elim_inr, nI_1, nI_add, Int32.sub_zero, f_c11_isField, zc144, M_fields hM, M_in_nI hf]
theorem M_isField_f {x : Int32} (hM : MG S g) (hg : WG g) (hx : x < 0 ∨ (¬ x < 0 ∧ nI (gRw g * gCo g) ≤ x)) : f_c11_isField N 144 x (mk L S) = some 0 := by
  have := hg.f
  simp (disch := omega) only [Option.bind_some, ↓ile_t, ↓ile_f, ↓ilt_t, ↓ilt_f, ↓ieq_t, ↓ieq_f, ↓iz_t, ↓iz_f, ↓iltz, ↓izle, ↓ilez_t, ↓ilez_f, ↓im1, gZ_0, gZ_1, e10, e00, ↓reduceIte, Sum.elim_inl, Sum.elim_inr, nI_1, nI_add, Int32.sub_zero, f_c11_isField, zc144, M_fields hM, M_in_out (n := gRw g * gCo g) (by omega) hx]
theorem M_isVillage_t {i : Nat} (hM : MG S g) (hg : WG g) (hi : i < gVm g) : f_c11_isVillage N 144 (nI i) (mk L S) = some 1 := by
  have := hg.2.2.2.2.1
  simp (disch := omega) only [Option.bind_some, ↓ile_t, ↓ile_f, ↓ilt_t, ↓ilt_f, ↓ieq_t, ↓ieq_f, ↓iz_t, ↓iz_f, ↓iltz, ↓izle, ↓ilez_t, ↓ilez_f, ↓im1, gZ_0, gZ_1, e10, e00, ↓reduceIte, Sum.elim_inl, Sum.elim_inr, nI_1, nI_add, Int32.sub_zero, f_c11_isVillage, zc144, zi144_3, hM.2.2.1, M_in_nI hi]
theorem M_isVillage_f {x : Int32} (hM : MG S g) (hg : WG g) (hx : x < 0 ∨ (¬ x < 0 ∧ nI (gVm g) ≤ x)) : f_c11_isVillage N 144 x (mk L S) = some 0 := by
  have := hg.2.2.2.2.1
  simp (disch := omega) only [Option.bind_some, ↓ile_t, ↓ile_f, ↓ilt_t, ↓ilt_f, ↓ieq_t, ↓ieq_f, ↓iz_t, ↓iz_f, ↓iltz, ↓izle, ↓ilez_t, ↓ilez_f, ↓im1, gZ_0, gZ_1, e10, e00, ↓reduceIte, Sum.elim_inl, Sum.elim_inr, nI_1, nI_add, Int32.sub_zero, f_c11_isVillage, zc144, zi144_3, hM.2.2.1, M_in_out (n := gVm g) (by omega) hx]
theorem M_isWell_t {w : Nat} (hv : MW S 145 v) (h8 : vN v ≤ 8) (hw : w < vN v) : f_c11_isWell N 144 (nI w) (mk L S) = some 1 := by
  simp (disch := omega) only [Option.bind_some, ↓ile_t, ↓ile_f, ↓ilt_t, ↓ilt_f, ↓ieq_t, ↓ieq_f, ↓iz_t, ↓iz_f, ↓iltz, ↓izle, ↓ilez_t, ↓ilez_f, ↓im1, gZ_0, gZ_1, e10, e00, ↓reduceIte, Sum.elim_inl, Sum.elim_inr, nI_1, nI_add, Int32.sub_zero, f_c11_isWell, zc144, zr144_0, k40, zg145, hv.1, M_in_nI hw]
theorem M_isWell_f {x : Int32} (hv : MW S 145 v) (h8 : vN v ≤ 8) (hx : x < 0 ∨ (¬ x < 0 ∧ nI (vN v) ≤ x)) : f_c11_isWell N 144 x (mk L S) = some 0 := by
  simp (disch := omega) only [Option.bind_some, ↓ile_t, ↓ile_f, ↓ilt_t, ↓ilt_f, ↓ieq_t, ↓ieq_f, ↓iz_t, ↓iz_f, ↓iltz, ↓izle, ↓ilez_t, ↓ilez_f, ↓im1, gZ_0, gZ_1, e10, e00, ↓reduceIte, Sum.elim_inl, Sum.elim_inr, nI_1, nI_add, Int32.sub_zero, f_c11_isWell, zc144, zr144_0, k40, zg145, hv.1, M_in_out (n := vN v) (by omega) hx]
theorem M_thirsts (hM : MG S g) (hg : WG g) (hN : 900 ≤ N) : f_c11_thirsts N 144 (mk L S) = some (nI (sumN (gTh g) (gVm g))) := by
  have h6 := hg.2.2.2.2.1
  have e : lp_c11_thirsts_4 N 144 (mk L S) N (nI 0) (nI 0) = some (nI (sumN (gTh g) (gVm g))) := by
    refine lp_seq (Lp := fun k (s : Int32) i => lp_c11_thirsts_4 N 144 (mk L S) k s (nI i)) (sp := fun i => nI (sumN (gTh g) i)) (n := gVm g) (fun k i hi => ?_) (fun k => ?_) (by omega)
    · show lp_c11_thirsts_4 N 144 (mk L S) (k + 1) _ _ = _
      rw [lp_c11_thirsts_4.eq_2]
      simp (disch := omega) only [Option.bind_some, ↓ile_t, ↓ile_f, ↓ilt_t, ↓ilt_f, ↓ieq_t, ↓ieq_f, ↓iz_t, ↓iz_f, ↓iltz, ↓izle, ↓ilez_t, ↓ilez_f, ↓im1, gZ_0, gZ_1, e10, e00, ↓reduceIte, Sum.elim_inl, Sum.elim_inr, nI_1, nI_add, Int32.sub_zero, zi144_3, zr144_5, hM.2.2.1, zg147, (hM.2.2.2 i hi).2, sumN]
    · show lp_c11_thirsts_4 N 144 (mk L S) (k + 1) _ _ = _
      rw [lp_c11_thirsts_4.eq_2]
      simp (disch := omega) only [Option.bind_some, ↓ile_t, ↓ile_f, ↓ilt_t, ↓ilt_f, ↓ieq_t, ↓ieq_f, ↓iz_t, ↓iz_f, ↓iltz, ↓izle, ↓ilez_t, ↓ilez_f, ↓im1, gZ_0, gZ_1, e10, e00, ↓reduceIte, Sum.elim_inl, Sum.elim_inr, nI_1, nI_add, Int32.sub_zero, zi144_3, hM.2.2.1]
  simp (disch := omega) only [Option.bind_some, ↓ile_t, ↓ile_f, ↓ilt_t, ↓ilt_f, ↓ieq_t, ↓ieq_f, ↓iz_t, ↓iz_f, ↓iltz, ↓izle, ↓ilez_t, ↓ilez_f, ↓im1, gZ_0, gZ_1, e10, e00, ↓reduceIte, Sum.elim_inl, Sum.elim_inr, nI_1, nI_add, Int32.sub_zero, f_c11_thirsts, zc144, k0, e]
theorem M_waters (hr : kA r = some (0, 43)) (hm : MW S r v) (h8 : vN v ≤ 8) (hN : 900 ≤ N) : f_c11_waters N r (mk L S) = some (nI (sumN (vT v) (vN v))) := by
  have e : lp_c11_waters_4 N r (mk L S) N (nI 0) (nI 0) = some (nI (sumN (vT v) (vN v))) := by
    refine lp_seq (Lp := fun k (s : Int32) i => lp_c11_waters_4 N r (mk L S) k s (nI i)) (sp := fun i => nI (sumN (vT v) i)) (n := vN v) (fun k i hi => ?_) (fun k => ?_) (by omega)
    · show lp_c11_waters_4 N r (mk L S) (k + 1) _ _ = _
      rw [lp_c11_waters_4.eq_2]
      simp (disch := omega) only [Option.bind_some, ↓ile_t, ↓ile_f, ↓ilt_t, ↓ilt_f, ↓ieq_t, ↓ieq_f, ↓iz_t, ↓iz_f, ↓iltz, ↓izle, ↓ilez_t, ↓ilez_f, ↓im1, gZ_0, gZ_1, e10, e00, ↓reduceIte, Sum.elim_inl, Sum.elim_inr, nI_1, nI_add, Int32.sub_zero, mg hr, k40, k32, hm.1, (hm.2.2.2 i hi).2.2.2.2, sumN]
    · show lp_c11_waters_4 N r (mk L S) (k + 1) _ _ = _
      rw [lp_c11_waters_4.eq_2]
      simp (disch := omega) only [Option.bind_some, ↓ile_t, ↓ile_f, ↓ilt_t, ↓ilt_f, ↓ieq_t, ↓ieq_f, ↓iz_t, ↓iz_f, ↓iltz, ↓izle, ↓ilez_t, ↓ilez_f, ↓im1, gZ_0, gZ_1, e10, e00, ↓reduceIte, Sum.elim_inl, Sum.elim_inr, nI_1, nI_add, Int32.sub_zero, mg hr, k40, hm.1]
  simp (disch := omega) only [Option.bind_some, ↓ile_t, ↓ile_f, ↓ilt_t, ↓ilt_f, ↓ieq_t, ↓ieq_f, ↓iz_t, ↓iz_f, ↓iltz, ↓izle, ↓ilez_t, ↓ilez_f, ↓im1, gZ_0, gZ_1, e10, e00, ↓reduceIte, Sum.elim_inl, Sum.elim_inr, nI_1, nI_add, Int32.sub_zero, f_c11_waters, k0, e]
theorem M_allAnds (hm : MW S 145 v) (h8 : vN v ≤ 8) (hN : 900 ≤ N) : f_c11_allAnds N 144 (mk L S) = some (nI (sumN (vA v) (vN v))) := by
  have e : lp_c11_allAnds_4 N 144 (mk L S) N (nI 0) (nI 0) = some (nI (sumN (vA v) (vN v))) := by
    refine lp_seq (Lp := fun k (s : Int32) i => lp_c11_allAnds_4 N 144 (mk L S) k s (nI i)) (sp := fun i => nI (sumN (vA v) i)) (n := vN v) (fun k i hi => ?_) (fun k => ?_) (by omega)
    · show lp_c11_allAnds_4 N 144 (mk L S) (k + 1) _ _ = _
      rw [lp_c11_allAnds_4.eq_2]
      simp (disch := omega) only [Option.bind_some, ↓ile_t, ↓ile_f, ↓ilt_t, ↓ilt_f, ↓ieq_t, ↓ieq_f, ↓iz_t, ↓iz_f, ↓iltz, ↓izle, ↓ilez_t, ↓ilez_f, ↓im1, gZ_0, gZ_1, e10, e00, ↓reduceIte, Sum.elim_inl, Sum.elim_inr, nI_1, nI_add, Int32.sub_zero, zr144_0, zg145, k40, k24, hm.1, (hm.2.2.2 i hi).2.2.2.1, sumN]
    · show lp_c11_allAnds_4 N 144 (mk L S) (k + 1) _ _ = _
      rw [lp_c11_allAnds_4.eq_2]
      simp (disch := omega) only [Option.bind_some, ↓ile_t, ↓ile_f, ↓ilt_t, ↓ilt_f, ↓ieq_t, ↓ieq_f, ↓iz_t, ↓iz_f, ↓iltz, ↓izle, ↓ilez_t, ↓ilez_f, ↓im1, gZ_0, gZ_1, e10, e00, ↓reduceIte, Sum.elim_inl, Sum.elim_inr, nI_1, nI_add, Int32.sub_zero, zr144_0, zg145, k40, hm.1]
  simp (disch := omega) only [Option.bind_some, ↓ile_t, ↓ile_f, ↓ilt_t, ↓ilt_f, ↓ieq_t, ↓ieq_f, ↓iz_t, ↓iz_f, ↓iltz, ↓izle, ↓ilez_t, ↓ilez_f, ↓im1, gZ_0, gZ_1, e10, e00, ↓reduceIte, Sum.elim_inl, Sum.elim_inr, nI_1, nI_add, Int32.sub_zero, f_c11_allAnds, zc144, k0, e]
theorem M_dry (hr : kA r = some (0, 43)) (hm : MW S r v) (hv : WV g v) (hN : 900 ≤ N) : f_c11_dryOnes N r (mk L S) = some (sDry v (vN v)) := by
  have h8 := hv.1
  have e : lp_c11_dryOnes_4 N r (mk L S) N 0 (nI 0) = some (sDry v (vN v)) := by
    refine lp_seq (Lp := fun k (s : Int32) i => lp_c11_dryOnes_4 N r (mk L S) k s (nI i)) (sp := fun i => sDry v i) (n := vN v) (fun k i hi => ?_) (fun k => ?_) (by omega)
    · show lp_c11_dryOnes_4 N r (mk L S) (k + 1) _ _ = _
      rw [lp_c11_dryOnes_4.eq_2]
      have ht := (hv.2.2 i hi).2.2.2.2.2
      by_cases q : vT v i = 0
      · simp (disch := omega) only [Option.bind_some, ↓ile_t, ↓ile_f, ↓ilt_t, ↓ilt_f, ↓ieq_t, ↓ieq_f, ↓iz_t, ↓iz_f, ↓iltz, ↓izle, ↓ilez_t, ↓ilez_f, ↓im1, gZ_0, gZ_1, e10, e00, ↓reduceIte, Sum.elim_inl, Sum.elim_inr, nI_1, nI_add, Int32.sub_zero, mg hr, k40, k32, hm.1, (hm.2.2.2 i hi).2.2.2.2, sDry, q, nI_0, eq_self_iff_true]
      · simp (disch := omega) only [Option.bind_some, ↓ile_t, ↓ile_f, ↓ilt_t, ↓ilt_f, ↓ieq_t, ↓ieq_f, ↓iz_t, ↓iz_f, ↓iltz, ↓izle, ↓ilez_t, ↓ilez_f, ↓im1, gZ_0, gZ_1, e10, e00, ↓reduceIte, Sum.elim_inl, Sum.elim_inr, nI_1, nI_add, Int32.sub_zero, mg hr, k40, k32, hm.1, (hm.2.2.2 i hi).2.2.2.2, sDry, q, Int32.or_zero]
    · show lp_c11_dryOnes_4 N r (mk L S) (k + 1) _ _ = _
      rw [lp_c11_dryOnes_4.eq_2]
      simp (disch := omega) only [Option.bind_some, ↓ile_t, ↓ile_f, ↓ilt_t, ↓ilt_f, ↓ieq_t, ↓ieq_f, ↓iz_t, ↓iz_f, ↓iltz, ↓izle, ↓ilez_t, ↓ilez_f, ↓im1, gZ_0, gZ_1, e10, e00, ↓reduceIte, Sum.elim_inl, Sum.elim_inr, nI_1, nI_add, Int32.sub_zero, mg hr, k40, hm.1]
  rw [nI_0] at e
  simp (disch := omega) only [Option.bind_some, ↓ile_t, ↓ile_f, ↓ilt_t, ↓ilt_f, ↓ieq_t, ↓ieq_f, ↓iz_t, ↓iz_f, ↓iltz, ↓izle, ↓ilez_t, ↓ilez_f, ↓im1, gZ_0, gZ_1, e10, e00, ↓reduceIte, Sum.elim_inl, Sum.elim_inr, nI_1, nI_add, Int32.sub_zero, f_c11_dryOnes, e]
theorem M_depth {w : Nat} (hr : kA r = some (0, 43)) (hm : MW S r v) (hv : WV g v) (hw : w < vN v) : f_c11_depthOf N r (nI w) (mk L S) = some (nI (sDepth v w)) := by
  have h8 := hv.1
  have hr2 := hv.2.2 w hw
  by_cases q : vM v w = 1
  · simp (disch := omega) only [Option.bind_some, ↓ile_t, ↓ile_f, ↓ilt_t, ↓ilt_f, ↓ieq_t, ↓ieq_f, ↓iz_t, ↓iz_f, ↓iltz, ↓izle, ↓ilez_t, ↓ilez_f, ↓im1, gZ_0, gZ_1, e10, e00, ↓reduceIte, Sum.elim_inl, Sum.elim_inr, nI_1, nI_add, Int32.sub_zero, f_c11_depthOf, k16, k8, mg hr, (hm.2.2.2 w hw).2.2.1, (hm.2.2.2 w hw).2.1, k1, k10, sDepth, q, nI_sub]
  · simp (disch := omega) only [Option.bind_some, ↓ile_t, ↓ile_f, ↓ilt_t, ↓ilt_f, ↓ieq_t, ↓ieq_f, ↓iz_t, ↓iz_f, ↓iltz, ↓izle, ↓ilez_t, ↓ilez_f, ↓im1, gZ_0, gZ_1, e10, e00, ↓reduceIte, Sum.elim_inl, Sum.elim_inr, nI_1, nI_add, Int32.sub_zero, f_c11_depthOf, k16, k8, mg hr, (hm.2.2.2 w hw).2.2.1, (hm.2.2.2 w hw).2.1, k1, sDepth, q]
theorem M_wellOn {f : Nat} (hr : kA r = some (0, 43)) (hm : MW S r v) (hg : WG g) (hv : WV g v) (hN : 900 ≤ N) (hf : f < 1000) : f_c11_wellOn N r (nI f) (mk L S) = some (oI (sOn v f)) := by
  have h8 := hv.1
  have e : lp_c11_wellOn_2 N r (nI f) (mk L S) N (nI 0) = some ((fun o : Option Nat => match o with | some i => Sum.inl (nI i) | none => Sum.inr ()) (sOn v f)) := by
    refine lp_fst (Lp := fun k i => lp_c11_wellOn_2 N r (nI f) (mk L S) k (nI i)) (o := fun o => match o with | some i => Sum.inl (nI i) | none => Sum.inr ()) (n := vN v) (fun k i hi hp => ?_) (fun k i hi hp => ?_) (fun k => ?_) (vN v) N 0 (by omega) (by omega)
    · show lp_c11_wellOn_2 N r (nI f) (mk L S) (k + 1) _ = _
      rw [lp_c11_wellOn_2.eq_2]
      have hp := of_decide_eq_false hp
      have := hv.F hg hi
      simp (disch := omega) only [Option.bind_some, ↓ile_t, ↓ile_f, ↓ilt_t, ↓ilt_f, ↓ieq_t, ↓ieq_f, ↓iz_t, ↓iz_f, ↓iltz, ↓izle, ↓ilez_t, ↓ilez_f, ↓im1, gZ_0, gZ_1, e10, e00, ↓reduceIte, Sum.elim_inl, Sum.elim_inr, nI_1, nI_add, Int32.sub_zero, mg hr, k40, hm.1, (hm.2.2.2 i hi).1]
    · show lp_c11_wellOn_2 N r (nI f) (mk L S) (k + 1) _ = _
      rw [lp_c11_wellOn_2.eq_2]
      have hp := of_decide_eq_true hp
      simp (disch := omega) only [Option.bind_some, ↓ile_t, ↓ile_f, ↓ilt_t, ↓ilt_f, ↓ieq_t, ↓ieq_f, ↓iz_t, ↓iz_f, ↓iltz, ↓izle, ↓ilez_t, ↓ilez_f, ↓im1, gZ_0, gZ_1, e10, e00, ↓reduceIte, Sum.elim_inl, Sum.elim_inr, nI_1, nI_add, Int32.sub_zero, mg hr, k40, hm.1, (hm.2.2.2 i hi).1]
    · show lp_c11_wellOn_2 N r (nI f) (mk L S) (k + 1) _ = _
      rw [lp_c11_wellOn_2.eq_2]
      simp (disch := omega) only [Option.bind_some, ↓ile_t, ↓ile_f, ↓ilt_t, ↓ilt_f, ↓ieq_t, ↓ieq_f, ↓iz_t, ↓iz_f, ↓iltz, ↓izle, ↓ilez_t, ↓ilez_f, ↓im1, gZ_0, gZ_1, e10, e00, ↓reduceIte, Sum.elim_inl, Sum.elim_inr, nI_1, nI_add, Int32.sub_zero, mg hr, k40, hm.1]
  cases hs : sOn v f with
  | none =>
    rw [hs] at e
    simp (disch := omega) only [Option.bind_some, ↓ile_t, ↓ile_f, ↓ilt_t, ↓ilt_f, ↓ieq_t, ↓ieq_f, ↓iz_t, ↓iz_f, ↓iltz, ↓izle, ↓ilez_t, ↓ilez_f, ↓im1, gZ_0, gZ_1, e10, e00, ↓reduceIte, Sum.elim_inl, Sum.elim_inr, nI_1, nI_add, Int32.sub_zero, f_c11_wellOn, k0, e, oI]
  | some i =>
    rw [hs] at e
    simp (disch := omega) only [Option.bind_some, ↓ile_t, ↓ile_f, ↓ilt_t, ↓ilt_f, ↓ieq_t, ↓ieq_f, ↓iz_t, ↓iz_f, ↓iltz, ↓izle, ↓ilez_t, ↓ilez_f, ↓im1, gZ_0, gZ_1, e10, e00, ↓reduceIte, Sum.elim_inl, Sum.elim_inr, nI_1, nI_add, Int32.sub_zero, f_c11_wellOn, k0, e, oI]
theorem M_near {i0 : Nat} (hr : kA r = some (0, 43)) (hm : MW S r v) (hM : MG S g) (hg : WG g) (hv : WV g v) (hi0 : i0 < gVm g) (hN : 900 ≤ N) : f_c11_nearest N 144 r (nI i0) (mk L S) = some (oI (sNear g v (gHm g i0) (vN v))) := by
  have h8 := hv.1
  have h6 := hg.2.2.2.2.1
  have hH := hg.H hi0
  have e : ∃ q, lp_c11_nearest_5 N 144 r (nI i0) (mk L S) N (-1) (nI 0) = some q ∧ q = oI (sNear g v (gHm g i0) (vN v)) := by
    refine lp_inv (Lp := fun k (s : Int32) i => lp_c11_nearest_5 N 144 r (nI i0) (mk L S) k s (nI i)) (P := fun i s => s = oI (sNear g v (gHm g i0) i)) (n := vN v) (fun k i s hi hs => Or.inr ?_) (fun k s hs => ?_) (vN v) N 0 (-1) (by omega) (by omega) rfl
    · show ∃ s', lp_c11_nearest_5 N 144 r (nI i0) (mk L S) (k + 1) _ _ = _ ∧ _
      rw [lp_c11_nearest_5.eq_2]
      have ht := (hv.2.2 i hi).2.2.2.2.2
      have hF := hv.F hg hi
      refine ⟨oI (sNear g v (gHm g i0) (i + 1)), ?_, rfl⟩
      subst hs
      by_cases q : vT v i = 0
      · simp (disch := omega) only [Option.bind_some, ↓ile_t, ↓ile_f, ↓ilt_t, ↓ilt_f, ↓ieq_t, ↓ieq_f, ↓iz_t, ↓iz_f, ↓iltz, ↓izle, ↓ilez_t, ↓ilez_f, ↓im1, gZ_0, gZ_1, e10, e00, ↓reduceIte, Sum.elim_inl, Sum.elim_inr, nI_1, nI_add, Int32.sub_zero, mg hr, k40, k32, hm.1, (hm.2.2.2 i hi).2.2.2.2, sNear, if_pos q]
      · cases hn : sNear g v (gHm g i0) i with
        | none =>
          simp (disch := omega) only [Option.bind_some, ↓ile_t, ↓ile_f, ↓ilt_t, ↓ilt_f, ↓ieq_t, ↓ieq_f, ↓iz_t, ↓iz_f, ↓iltz, ↓izle, ↓ilez_t, ↓ilez_f, ↓im1, gZ_0, gZ_1, e10, e00, ↓reduceIte, Sum.elim_inl, Sum.elim_inr, nI_1, nI_add, Int32.sub_zero, mg hr, k40, k32, hm.1, (hm.2.2.2 i hi).2.2.2.2, sNear, if_neg q, hn, oI, eq_self_iff_true]
        | some b =>
          have hb := sNear_lt hn
          have hFb := hv.F hg (w := b) (by omega)
          have l2 := sFar_le g (vF v i) (gHm g i0)
          have l3 := sFar_le g (vF v b) (gHm g i0)
          have c1 := sFar_comm g (vF v i) (gHm g i0)
          have c2 := sFar_comm g (vF v b) (gHm g i0)
          by_cases q2 : sFar g (gHm g i0) (vF v i) < sFar g (gHm g i0) (vF v b)
          · simp (disch := omega) only [Option.bind_some, ↓ile_t, ↓ile_f, ↓ilt_t, ↓ilt_f, ↓ieq_t, ↓ieq_f, ↓iz_t, ↓iz_f, ↓iltz, ↓izle, ↓ilez_t, ↓ilez_f, ↓im1, gZ_0, gZ_1, e10, e00, ↓reduceIte, Sum.elim_inl, Sum.elim_inr, nI_1, nI_add, Int32.sub_zero, mg hr, k40, k32, hm.1, (hm.2.2.2 i hi).2.2.2.2, (hm.2.2.2 i hi).1, (hm.2.2.2 b (by omega)).1, sNear, if_neg q, hn, oI, zr144_4, zg146, (hM.2.2.2 i0 hi0).1, M_farOf hM hg, if_pos q2]
          · simp (disch := omega) only [Option.bind_some, ↓ile_t, ↓ile_f, ↓ilt_t, ↓ilt_f, ↓ieq_t, ↓ieq_f, ↓iz_t, ↓iz_f, ↓iltz, ↓izle, ↓ilez_t, ↓ilez_f, ↓im1, gZ_0, gZ_1, e10, e00, ↓reduceIte, Sum.elim_inl, Sum.elim_inr, nI_1, nI_add, Int32.sub_zero, mg hr, k40, k32, hm.1, (hm.2.2.2 i hi).2.2.2.2, (hm.2.2.2 i hi).1, (hm.2.2.2 b (by omega)).1, sNear, if_neg q, hn, oI, zr144_4, zg146, (hM.2.2.2 i0 hi0).1, M_farOf hM hg, if_neg q2]
    · show ∃ q, lp_c11_nearest_5 N 144 r (nI i0) (mk L S) (k + 1) _ _ = _ ∧ _
      rw [lp_c11_nearest_5.eq_2]
      refine ⟨s, ?_, hs⟩
      simp (disch := omega) only [Option.bind_some, ↓ile_t, ↓ile_f, ↓ilt_t, ↓ilt_f, ↓ieq_t, ↓ieq_f, ↓iz_t, ↓iz_f, ↓iltz, ↓izle, ↓ilez_t, ↓ilez_f, ↓im1, gZ_0, gZ_1, e10, e00, ↓reduceIte, Sum.elim_inl, Sum.elim_inr, nI_1, nI_add, Int32.sub_zero, mg hr, k40, hm.1]
  obtain ⟨q, e, rfl⟩ := e
  rw [nI_0] at e
  simp (disch := omega) only [Option.bind_some, ↓ile_t, ↓ile_f, ↓ilt_t, ↓ilt_f, ↓ieq_t, ↓ieq_f, ↓iz_t, ↓iz_f, ↓iltz, ↓izle, ↓ilez_t, ↓ilez_f, ↓im1, gZ_0, gZ_1, e10, e00, ↓reduceIte, Sum.elim_inl, Sum.elim_inr, nI_1, nI_add, Int32.sub_zero, f_c11_nearest, zc144, e]
theorem M_add {f w m : Nat} (hr : kA r = some (0, 43)) (h0 : r ≠ 144) (hm : MW S r v) (h8 : vN v < 8) : ∃ S', f_c11_add N r (nI f) (nI w) (nI m) (mk L S) = some (mk L S') ∧ FM (fun x => x = r) (fun _ => False) S S' ∧ MW S' r (vAdd v f w m) := by
  refine ⟨stI (stI (stI (stI (stI (stI S r (vN v) (nI f)) r (8 + vN v) (nI w)) r (16 + vN v) (nI m)) r (24 + vN v) 0) r (32 + vN v) 0) r 40 (nI (vN v + 1)), ?_, ?_, ?_, ?_, ?_, fun u hu => ?_⟩
  · simp (disch := omega) only [Option.bind_some, ↓ile_t, ↓ile_f, ↓ilt_t, ↓ilt_f, ↓ieq_t, ↓ieq_f, ↓iz_t, ↓iz_f, ↓iltz, ↓izle, ↓ilez_t, ↓ilez_f, ↓im1, gZ_0, gZ_1, e10, e00, ↓reduceIte, Sum.elim_inl, Sum.elim_inr, nI_1, nI_add, Int32.sub_zero, f_c11_add, k40, k8, k16, k24, k32, mg hr, mp hr, hm.1]
  · exact ⟨fun x h1 hx => ⟨funext fun k => by simp (disch := omega) only [rdI_ne], rfl, rfl⟩, fun k _ => ⟨by simp (disch := omega) only [rdI_ne], rfl⟩⟩
  · simp (disch := omega) only [rdI_eq]; rfl
  · simp (disch := omega) only [rdI_ne]; exact hm.2.1
  · simp (disch := omega) only [rdI_ne]; exact hm.2.2.1
  · have hu2 : u < vN v + 1 := hu
    show _ = nI (nup _ _ _ _) ∧ _ = nI (nup _ _ _ _) ∧ _ = nI (nup _ _ _ _) ∧ _ = nI (nup _ _ _ _) ∧ _ = nI (nup _ _ _ _)
    by_cases q : u = vN v
    · subst q
      refine ⟨?_, ?_, ?_, ?_, ?_⟩ <;> simp (disch := omega) only [rdI_ne, rdI_eq, nup_eq] <;> rfl
    · simp (disch := omega) only [rdI_ne, nup_ne]
      exact hm.2.2.2 u (by omega)
/-- one cell of a row changed -/
theorem MW_T {w x : Nat} (hm : MW S r v) (h8 : vN v ≤ 8) (hw : w < 8) : MW (stI S r (32 + w) (nI x)) r (vSetT v w x) := by
  refine ⟨?_, ?_, ?_, fun u hu => ?_⟩
  · simp (disch := omega) only [rdI_ne]; exact hm.1
  · simp (disch := omega) only [rdI_ne]; exact hm.2.1
  · simp (disch := omega) only [rdI_ne]; exact hm.2.2.1
  · have hu2 : u < vN v := hu
    have z := hm.2.2.2 u hu
    refine ⟨by simp (disch := omega) only [rdI_ne]; exact z.1, by simp (disch := omega) only [rdI_ne]; exact z.2.1, by simp (disch := omega) only [rdI_ne]; exact z.2.2.1, by simp (disch := omega) only [rdI_ne]; exact z.2.2.2.1, ?_⟩
    show _ = nI (nup _ _ _ _)
    by_cases q : u = w
    · subst q; rw [rdI_eq, nup_eq]
    · rw [rdI_ne (by omega), nup_ne q]; exact z.2.2.2.2
theorem MW_A {w x : Nat} (hm : MW S r v) (h8 : vN v ≤ 8) (hw : w < 8) : MW (stI S r (24 + w) (nI x)) r (vSetA v w x) := by
  refine ⟨?_, ?_, ?_, fun u hu => ?_⟩
  · simp (disch := omega) only [rdI_ne]; exact hm.1
  · simp (disch := omega) only [rdI_ne]; exact hm.2.1
  · simp (disch := omega) only [rdI_ne]; exact hm.2.2.1
  · have hu2 : u < vN v := hu
    have z := hm.2.2.2 u hu
    refine ⟨by simp (disch := omega) only [rdI_ne]; exact z.1, by simp (disch := omega) only [rdI_ne]; exact z.2.1, by simp (disch := omega) only [rdI_ne]; exact z.2.2.1, ?_, by simp (disch := omega) only [rdI_ne]; exact z.2.2.2.2⟩
    show _ = nI (nup _ _ _ _)
    by_cases q : u = w
    · subst q; rw [rdI_eq, nup_eq]
    · rw [rdI_ne (by omega), nup_ne q]; exact z.2.2.2.1
theorem MW_M {w x : Nat} (hm : MW S r v) (h8 : vN v ≤ 8) (hw : w < 8) : MW (stI S r (16 + w) (nI x)) r (vSetM v w x) := by
  refine ⟨?_, ?_, ?_, fun u hu => ?_⟩
  · simp (disch := omega) only [rdI_ne]; exact hm.1
  · simp (disch := omega) only [rdI_ne]; exact hm.2.1
  · simp (disch := omega) only [rdI_ne]; exact hm.2.2.1
  · have hu2 : u < vN v := hu
    have z := hm.2.2.2 u hu
    refine ⟨by simp (disch := omega) only [rdI_ne]; exact z.1, by simp (disch := omega) only [rdI_ne]; exact z.2.1, ?_, by simp (disch := omega) only [rdI_ne]; exact z.2.2.2.1, by simp (disch := omega) only [rdI_ne]; exact z.2.2.2.2⟩
    show _ = nI (nup _ _ _ _)
    by_cases q : u = w
    · subst q; rw [rdI_eq, nup_eq]
    · rw [rdI_ne (by omega), nup_ne q]; exact z.2.2.1
end MLEAF
