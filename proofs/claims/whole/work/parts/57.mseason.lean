/-! THE REFERENCE's FLOW and SEASON -/
theorem FM.tr {A K : Nat → Prop} {S S1 S2 : gS} (h : FM A K S S1) (k : FM A K S1 S2) : FM A K S S2 := h.trans k (fun _ z => z) (fun _ z => z) (fun _ z => z) (fun _ z => z)
/-- the reference's rule: its cell, its text -/
def MU (S : gS) (id n : Nat) (t : Nat → Nat) : Prop := S.2.2 144 17 = some id ∧ S.1 144 19 = nI n ∧ n ≤ 40 ∧ (id = 151 ∨ id = 152) ∧ ∀ j, j < n → t j < 256 ∧ S.1 id j = bI (t j)
theorem MU.fm {A K : Nat → Prop} {S S' : gS} {id n : Nat} {t : Nat → Nat} (h : FM A K S S') (hA : ¬ A 151 ∧ ¬ A 152) (hK : ¬ K 17 ∧ ¬ K 19) (q : MU S id n t) : MU S' id n t :=
  ⟨(h.p hK.1).trans q.1, (h.k hK.2).trans q.2.1, q.2.2.1, q.2.2.2.1, fun j hj => ⟨(q.2.2.2.2 j hj).1, (h.i (by have := q.2.2.2.1; omega) (by rcases q.2.2.2.1 with rfl | rfl; exact hA.1; exact hA.2) j).trans (q.2.2.2.2 j hj).2⟩⟩
abbrev aS (S : gS) (g : pG) (v : pV) (w : Nat) : gS := stI (stI (stI (stI (stI (stI (stI S 153 0 (nI (vW v w))) 153 1 (nI (sDepth v w))) 153 2 (nI (vA v w))) 153 3 (nI (vM v w))) 153 4 (nI (sCrowd g (vF v w)))) 153 5 (nI (vT v w))) 153 6 (nI (vS v) - nI (vS v) / 4 * 4)
section MSEA
variable {L N r id n : Nat} {S : gS} {g : pG} {v : pV} {t : Nat → Nat} {code : List Int32}
theorem M_begin {top : Nat} : f_c11_begin N 144 id (nI n) (nI top) (mk L S) = some (mk L (ms (mBeg S id n top) 0 (-1))) := by
  have h1 : (stI (stI (stI (stI (stP S 144 11 (some id)) 144 12 (nI n)) 144 13 (nI top)) 144 14 0) 144 15 (-1)) = ms (mBeg S id n top) 0 (-1) := ms_fold2
  simp (disch := omega) only [Option.bind_some, ↓ile_t, ↓ile_f, ↓ilt_t, ↓ilt_f, ↓ieq_t, ↓ieq_f, ↓iz_t, ↓iz_f, ↓iltz, ↓izle, ↓ilez_t, ↓ilez_f, ↓im1, ile_t, ile_f, ilt_t, ilt_f, ieq_t, ieq_f, iz_t, iz_f, iltz, izle, ilez_t, ilez_f, im1, gZ_0, gZ_1, e10, e00, ↓reduceIte, Sum.elim_inl, Sum.elim_inr, nI_1, nI_add, Int32.sub_zero, f_c11_begin, zc144, zr144_0, zi144_1, zs144_1, zi144_2, zs144_2, zi144_3, zs144_3, zr144_4, zr144_5, zr144_6, zi144_7, zs144_7, zr144_8, zi144_9, zs144_9, zi144_10, zs144_10, zs144_11, zi144_12, zs144_12, zi144_13, zs144_13, zi144_14, zs144_14, zi144_15, zs144_15, zr144_16, zs144_17, zr144_18, zi144_19, zs144_19, zi144_20, zs144_20, zr144_21, zr144_22, zi144_23, zs144_23, zr144_24, zr144_25, zr144_26, zr144_27, zr144_28, zr144_29, zr144_30, zr144_31, zr144_32, zr144_33, zi144_34, zs144_34, zr144_35, zr144_36, zi144_37, zs144_37, zi144_38, zs144_38, zr144_39, zr144_40, zr144_41, h1]
theorem if2 {x : Nat} (hx : x < 2147483648) : (if (2 : Int32) < nI x then (0 : Int32) else 1) = nI (if x ≤ 2 then 1 else 0) := by
  by_cases q : x ≤ 2
  · rw [if_neg (show ¬ (2 : Int32) < nI x from nI_nlt (a := 2) q (by omega)), if_pos q]; rfl
  · rw [if_pos (show (2 : Int32) < nI x from nI_lt (a := 2) (by omega) hx), if_neg q]; rfl
theorem M_flowOf {w : Nat} (hr : kA r = some (0, 43)) (h0 : r ≠ 144) (h153 : r ≠ 153) (hm : MW S r v) (hM : MG S g) (hg : WG g) (hv : WV g v) (hw : w < vN v) (hu : MU S id n t) (hc : ruleCode t n = .inl code) (hN : 900 ≤ N) :
    ∃ S', f_c11_flowOf N 144 r (nI w) (mk L S) = some (nI (sFlow code g v w), mk L S') ∧ FM (fun x => x = 153) (fun k => k = 20 ∨ (11 ≤ k ∧ k ≤ 15)) S S' := by
  have h8 := hv.1
  have h6 := hg.2.2.2.2.1
  have hF := hv.F hg hw
  obtain ⟨z1, z2, z3, z4, z5⟩ := hm.2.2.2 w hw
  have hd := M_depth (L := L) (N := N) hr hm hv hw
  have eR := (sFlow_nI (code := code) (g := g) (v := v) (w := w)).1
  unfold sVal at eR
  by_cases z : n = 0
  · refine ⟨S, ?_, FM.refl⟩
    have e0 : S.1 144 19 = 0 := by rw [hu.2.1, z]; rfl
    have hc' : code = noCode := by
      unfold ruleCode at hc
      rw [if_pos z] at hc
      cases hc; rfl
    have eV : pEv code (askOf g v w) = nI (sDepth v w) - nI (vA v w) * 2 := by
      unfold pEv
      rw [hc', noCode_ev]
      rfl
    rw [eV] at eR
    have le0 : (0 : Int32) ≤ 0 := by decide
    simp (disch := omega) only [Option.bind_some, ↓ile_t, ↓ile_f, ↓ilt_t, ↓ilt_f, ↓ieq_t, ↓ieq_f, ↓iz_t, ↓iz_f, ↓iltz, ↓izle, ↓ilez_t, ↓ilez_f, ↓im1, ile_t, ile_f, ilt_t, ilt_f, ieq_t, ieq_f, iz_t, iz_f, iltz, izle, ilez_t, ilez_f, im1, gZ_0, gZ_1, e10, e00, ↓reduceIte, Sum.elim_inl, Sum.elim_inr, nI_1, nI_add, Int32.sub_zero, f_c11_flowOf, zc144, hd, k24, mg hr, z4, zi144_19, e0, if_pos le0, eR]
  · have e19 := hu.2.1
    have hn := hu.2.2.1
    have e0 : ¬ nI n ≤ 0 := nI_nle (by omega) (by omega)
    -- villages near
    have eNear : lp_c11_flowOf_28 N 144 r (nI w) (mk L S) N (nI 0) (nI 0) = some (nI (sCrowd g (vF v w))) := by
      refine lp_seq (Lp := fun k (s : Int32) i => lp_c11_flowOf_28 N 144 r (nI w) (mk L S) k s (nI i)) (sp := fun i => nI (sumN (fun i => if sFar g (gHm g i) (vF v w) ≤ 2 then 1 else 0) i)) (n := gVm g) (fun k i hi => ?_) (fun k => ?_) (by omega)
      · show lp_c11_flowOf_28 N 144 r (nI w) (mk L S) (k + 1) _ _ = _
        rw [lp_c11_flowOf_28.eq_2]
        have hH := hg.H hi
        have l1 := sFar_le g (gHm g i) (vF v w)
        simp (disch := omega) only [Option.bind_some, ↓ile_t, ↓ile_f, ↓ilt_t, ↓ilt_f, ↓ieq_t, ↓ieq_f, ↓iz_t, ↓iz_f, ↓iltz, ↓izle, ↓ilez_t, ↓ilez_f, ↓im1, ile_t, ile_f, ilt_t, ilt_f, ieq_t, ieq_f, iz_t, iz_f, iltz, izle, ilez_t, ilez_f, im1, gZ_0, gZ_1, e10, e00, ↓reduceIte, Sum.elim_inl, Sum.elim_inr, nI_1, nI_add, Int32.sub_zero, zi144_3, hM.2.2.1, zr144_4, zg146, (hM.2.2.2 i hi).1, mg hr, z1, M_farOf hM hg, if2]
        show lp_c11_flowOf_28 N 144 r (nI w) (mk L S) k _ _ = lp_c11_flowOf_28 N 144 r (nI w) (mk L S) k _ _
        rfl
      · show lp_c11_flowOf_28 N 144 r (nI w) (mk L S) (k + 1) _ _ = _
        rw [lp_c11_flowOf_28.eq_2]
        simp (disch := omega) only [Option.bind_some, ↓ile_t, ↓ile_f, ↓ilt_t, ↓ilt_f, ↓ieq_t, ↓ieq_f, ↓iz_t, ↓iz_f, ↓iltz, ↓izle, ↓ilez_t, ↓ilez_f, ↓im1, ile_t, ile_f, ilt_t, ilt_f, ieq_t, ieq_f, iz_t, iz_f, iltz, izle, ilez_t, ilez_f, im1, gZ_0, gZ_1, e10, e00, ↓reduceIte, Sum.elim_inl, Sum.elim_inr, nI_1, nI_add, Int32.sub_zero, zi144_3, hM.2.2.1]
        rfl
    rw [nI_0] at eNear
    have hm1 : MW (stI S 153 0 (nI (vW v w))) r v := hm.fr (Fr.stI (A := fun x => x = 153) rfl) (by omega)
    have hd1 := M_depth (L := L) (N := N) hr hm1 hv hw
    have g4 : gNZ (4 : Int32) = some () := by decide
    have p0 : ∀ (S : gS) (x : Int32), sa 0 (mk L S) 153 (0 : Int32) x = some (mk L (stI S 153 0 x)) := fun S x => zp153 (j := 0) (by omega)
    have p1 : ∀ (S : gS) (x : Int32), sa 0 (mk L S) 153 (1 : Int32) x = some (mk L (stI S 153 1 x)) := fun S x => zp153 (j := 1) (by omega)
    have p2 : ∀ (S : gS) (x : Int32), sa 0 (mk L S) 153 (2 : Int32) x = some (mk L (stI S 153 2 x)) := fun S x => zp153 (j := 2) (by omega)
    have p3 : ∀ (S : gS) (x : Int32), sa 0 (mk L S) 153 (3 : Int32) x = some (mk L (stI S 153 3 x)) := fun S x => zp153 (j := 3) (by omega)
    have p4 : ∀ (S : gS) (x : Int32), sa 0 (mk L S) 153 (4 : Int32) x = some (mk L (stI S 153 4 x)) := fun S x => zp153 (j := 4) (by omega)
    have p5 : ∀ (S : gS) (x : Int32), sa 0 (mk L S) 153 (5 : Int32) x = some (mk L (stI S 153 5 x)) := fun S x => zp153 (j := 5) (by omega)
    have p6 : ∀ (S : gS) (x : Int32), sa 0 (mk L S) 153 (6 : Int32) x = some (mk L (stI S 153 6 x)) := fun S x => zp153 (j := 6) (by omega)
    have e17 : gfR (mk L (aS S g v w)) 144 11 17 = some id := zr144_17 hu.1
    have eSn : S.1 r 41 = nI (vS v) := hm.2.1
    have hid : id ≠ 144 ∧ id ≠ 153 := by have := hu.2.2.2.1; omega
    have hgB : ∀ (L : Nat) (S : gS) (j : Nat), j < min n 40 → gaB (mk L S) id (nI j) = some (S.1 id j) := by
      intro L S j hj
      rcases hu.2.2.2.1 with rfl | rfl
      · exact zg151 (by omega)
      · exact zg152 (by omega)
    have hRC : RC (stI (mBeg (aS S g v w) id n 40) 144 20 1) id n 40 t := by
      refine ⟨rfl, ?_, ?_, by omega, by omega, hgB, hid.1, fun j hj => ⟨(hu.2.2.2.2 j hj).1, ?_⟩⟩
      all_goals unfold mBeg
      all_goals simp (disch := omega) only [rdI_ne, rdI_eq, rdP1]
      exact (hu.2.2.2.2 j hj).2
    have hAsk : AskOk (stI (mBeg (aS S g v w) id n 40) 144 20 1) (askOf g v w) := by
      refine Or.inl ⟨rdI_eq, fun k hk => ?_⟩
      unfold mBeg
      match k, hk with
      | 0, _ => simp (disch := omega) only [rdI_ne, rdI_eq]; rfl
      | 1, _ => simp (disch := omega) only [rdI_ne, rdI_eq]; rfl
      | 2, _ => simp (disch := omega) only [rdI_ne, rdI_eq]; rfl
      | 3, _ => simp (disch := omega) only [rdI_ne, rdI_eq]; rfl
      | 4, _ => simp (disch := omega) only [rdI_ne, rdI_eq]; rfl
      | 5, _ => simp (disch := omega) only [rdI_ne, rdI_eq]; rfl
      | 6, _ => simp (disch := omega) only [rdI_ne, rdI_eq]; rfl
      | k + 7, hk => omega
    have hC : cRead t n = .inl code := by unfold ruleCode at hc; rw [if_neg z] at hc; exact hc
    rcases M_held (L := L) (N := N) hRC hAsk hN with ⟨x, y, q, e1, e2, e3⟩ | ⟨x, p, e1, e2, (⟨e3, e4⟩ | ⟨e3, code', e4, e5⟩)⟩
    · rw [e3] at hC; cases hC
    · rw [e4] at hC; cases hC
    · rw [e4] at hC
      cases hC
      have eV : pEv code (askOf g v w) = x := by
        unfold pEv
        rw [e5 []]
      rw [eV] at eR
      refine ⟨ms (stI (stI (mBeg (aS S g v w) id n 40) 144 20 1) 144 20 0) (nI p) (-1), ?_, ?_⟩
      · simp (disch := omega) only [Option.bind_some, ↓ile_t, ↓ile_f, ↓ilt_t, ↓ilt_f, ↓ieq_t, ↓ieq_f, ↓iz_t, ↓iz_f, ↓iltz, ↓izle, ↓ilez_t, ↓ilez_f, ↓im1, ile_t, ile_f, ilt_t, ilt_f, ieq_t, ieq_f, iz_t, iz_f, iltz, izle, ilez_t, ilez_f, im1, gZ_0, gZ_1, e10, e00, ↓reduceIte, Sum.elim_inl, Sum.elim_inr, nI_1, nI_add, Int32.sub_zero, f_c11_flowOf, zc144, hd, k24, mg hr, z4, zi144_19, e19, if_neg e0, eNear, zr144_21]
        simp (disch := omega) only [Option.bind_some, ↓ile_t, ↓ile_f, ↓ilt_t, ↓ilt_f, ↓ieq_t, ↓ieq_f, ↓iz_t, ↓iz_f, ↓iltz, ↓izle, ↓ilez_t, ↓ilez_f, ↓im1, ile_t, ile_f, ilt_t, ilt_f, ieq_t, ieq_f, iz_t, iz_f, iltz, izle, ilez_t, ilez_f, im1, gZ_0, gZ_1, e10, e00, ↓reduceIte, Sum.elim_inl, Sum.elim_inr, nI_1, nI_add, Int32.sub_zero, k8, mg hr, z2, p0]
        simp (disch := omega) only [Option.bind_some, ↓ile_t, ↓ile_f, ↓ilt_t, ↓ilt_f, ↓ieq_t, ↓ieq_f, ↓iz_t, ↓iz_f, ↓iltz, ↓izle, ↓ilez_t, ↓ilez_f, ↓im1, ile_t, ile_f, ilt_t, ilt_f, ieq_t, ieq_f, iz_t, iz_f, iltz, izle, ilez_t, ilez_f, im1, gZ_0, gZ_1, e10, e00, ↓reduceIte, Sum.elim_inl, Sum.elim_inr, nI_1, nI_add, Int32.sub_zero, hd1, p1, k24, k16, k32, k41, mg hr, rdI_ne, z3, z4, z5, eSn, p2, p3, p4, p5, p6, g4, zr144_21, e17, zi144_19, e19, M_begin, k40]
        simp (disch := omega) only [Option.bind_some, ↓ile_t, ↓ile_f, ↓ilt_t, ↓ilt_f, ↓ieq_t, ↓ieq_f, ↓iz_t, ↓iz_f, ↓iltz, ↓izle, ↓ilez_t, ↓ilez_f, ↓im1, ile_t, ile_f, ilt_t, ilt_f, ieq_t, ieq_f, iz_t, iz_f, iltz, izle, ilez_t, ilez_f, im1, gZ_0, gZ_1, e10, e00, ↓reduceIte, Sum.elim_inl, Sum.elim_inr, nI_1, nI_add, Int32.sub_zero, zs144_20, ms_st, e1, eR]
      · rw [← ms_fold2]
        unfold mBeg
        repeat' (first | refine FM.tr ?_ (FM.stA (A := fun x => x = 153) (K := fun k => k = 20 ∨ (11 ≤ k ∧ k ≤ 15)) rfl (by omega)) | refine FM.tr ?_ (FM.stK (A := fun x => x = 153) (K := fun k => k = 20 ∨ (11 ≤ k ∧ k ≤ 15)) (by omega)) | refine FM.tr ?_ (FM.stP (A := fun x => x = 153) (K := fun k => k = 20 ∨ (11 ≤ k ∧ k ≤ 15)) (by omega)) | exact FM.refl)
end MSEA
section MSEA2
variable {L N r id n : Nat} {S : gS} {g : pG} {v : pV} {t : Nat → Nat} {code : List Int32}
abbrev qA (r : Nat) : Nat → Prop := fun x => x = r ∨ x = 153 ∨ (157 ≤ x ∧ x ≤ 159)
abbrev qK : Nat → Prop := fun k => k = 20 ∨ (11 ≤ k ∧ k ≤ 15)
theorem M_flows (hr : kA r = some (0, 43)) (h0 : r ≠ 144) (h153 : r ≠ 153 ∧ r ≠ 157) (hm : MW S r v) (hM : MG S g) (hg : WG g) (hv : WV g v) (hu : MU S id n t) (hc : ruleCode t n = .inl code) (hN : 900 ≤ N) :
    ∃ S', lp_c11_goSeason_4 N 144 r N 0 (mk L S) = some (mk L S') ∧ FM (fun x => x = 153 ∨ x = 157) qK S S' ∧ ∀ w, w < vN v → S'.1 157 w = nI (sFlow code g v w) := by
  have h8 := hv.1
  have h0 : ∃ q, lp_c11_goSeason_4 N 144 r N (nI 0) (mk L S) = some q ∧ ∃ S', q = mk L S' ∧ FM (fun x => x = 153 ∨ x = 157) qK S S' ∧ ∀ w, w < vN v → S'.1 157 w = nI (sFlow code g v w) := by
    refine lp_inv (Lp := fun k (s : gS) i => lp_c11_goSeason_4 N 144 r k (nI i) (mk L s)) (n := vN v) (P := fun i s => FM (fun x => x = 153 ∨ x = 157) qK S s ∧ ∀ w, w < i → s.1 157 w = nI (sFlow code g v w)) (fun k i s hi hs => Or.inr ?_) (fun k s hs => ?_) (vN v) N 0 S (by omega) (by omega) ⟨FM.refl, fun w hw => by omega⟩
    · obtain ⟨hF, hs⟩ := hs
      have hm' : MW s r v := hm.fm hF h0 (by omega)
      have hM' : MG s g := hM.fm hF ⟨by show ¬ (_ ∨ _); omega, by show ¬ (_ ∨ _); omega, by show ¬ (_ ∨ _); omega⟩ ⟨by omega, by omega⟩
      have hu' : MU s id n t := hu.fm hF ⟨by omega, by omega⟩ ⟨by show ¬ (_ ∨ _); omega, by show ¬ (_ ∨ _); omega⟩
      obtain ⟨s1, e1, e2⟩ := M_flowOf (L := L) (N := N) hr h0 h153.1 hm' hM' hg hv hi hu' hc hN
      refine ⟨stI s1 157 i (nI (sFlow code g v i)), ?_, ?_, fun w hw => ?_⟩
      · show lp_c11_goSeason_4 N 144 r (k + 1) _ _ = _
        rw [lp_c11_goSeason_4.eq_2]
        simp (disch := omega) only [Option.bind_some, ↓ile_t, ↓ile_f, ↓ilt_t, ↓ilt_f, ↓ieq_t, ↓ieq_f, ↓iz_t, ↓iz_f, ↓iltz, ↓izle, ↓ilez_t, ↓ilez_f, ↓im1, ile_t, ile_f, ilt_t, ilt_f, ieq_t, ieq_f, iz_t, iz_f, iltz, izle, ilez_t, ilez_f, im1, gZ_0, gZ_1, e10, e00, ↓reduceIte, Sum.elim_inl, Sum.elim_inr, nI_1, nI_add, Int32.sub_zero, k40, mg hr, hm'.1, zr144_26, e1, zp157]
      · exact hF.tr ((e2.mono (fun x z => Or.inl z) (fun _ z => z)).tr (FM.stA (Or.inr rfl) (by omega)))
      · by_cases q : w = i
        · subst q; exact rdI_eq
        · rw [rdI_ne (by omega), e2.i (by omega) (by omega)]
          exact hs w (by omega)
    · obtain ⟨hF, hs⟩ := hs
      have hm' : MW s r v := hm.fm hF h0 (by omega)
      refine ⟨mk L s, ?_, s, rfl, hF, hs⟩
      show lp_c11_goSeason_4 N 144 r (k + 1) _ _ = _
      rw [lp_c11_goSeason_4.eq_2]
      simp (disch := omega) only [Option.bind_some, ↓ile_t, ↓ile_f, ↓ilt_t, ↓ilt_f, ↓ieq_t, ↓ieq_f, ↓iz_t, ↓iz_f, ↓iltz, ↓izle, ↓ilez_t, ↓ilez_f, ↓im1, ile_t, ile_f, ilt_t, ilt_f, ieq_t, ieq_f, iz_t, iz_f, iltz, izle, ilez_t, ilez_f, im1, gZ_0, gZ_1, e10, e00, ↓reduceIte, Sum.elim_inl, Sum.elim_inr, nI_1, nI_add, Int32.sub_zero, k40, mg hr, hm'.1]
  obtain ⟨q, e, S', er, h1, h2⟩ := h0
  rw [er] at e
  exact ⟨S', e, h1, h2⟩
theorem M_rise (hr : kA r = some (0, 43)) (h0 : r ≠ 144) (h157 : r ≠ 157) (hm : MW S r v) (hv : WV g v) (hf : ∀ w, w < vN v → S.1 157 w = nI (sFlow code g v w)) (hN : 900 ≤ N) :
    ∃ S', lp_c11_goSeason_32 N 144 r N 0 (mk L S) = some (mk L S') ∧ FM (fun x => x = r) (fun _ => False) S S' ∧ MW S' r (vWat v (sRi code g v (vN v))) := by
  have h8 := hv.1
  have h0 : ∃ q, lp_c11_goSeason_32 N 144 r N (nI 0) (mk L S) = some q ∧ ∃ S', q = mk L S' ∧ FM (fun x => x = r) (fun _ => False) S S' ∧ MW S' r (vWat v (sRi code g v (vN v))) := by
    refine lp_inv (Lp := fun k (s : gS) i => lp_c11_goSeason_32 N 144 r k (nI i) (mk L s)) (n := vN v) (P := fun i s => FM (fun x => x = r) (fun _ => False) S s ∧ MW s r (vWat v (sRi code g v i))) (fun k i s hi hs => Or.inr ?_) (fun k s hs => ?_) (vN v) N 0 S (by omega) (by omega) ⟨FM.refl, ?_⟩
    · obtain ⟨hF, hs⟩ := hs
      have hfl := (sFlow_nI (code := code) (g := g) (v := v) (w := i)).2
      have ht := (hv.2.2 i hi).2.2.2.2.2
      have eT : s.1 r (32 + i) = nI (vT v i) := by
        have := (hs.2.2.2 i hi).2.2.2.2
        rw [this]
        show nI (sRi code g v i i) = _
        rw [sRi_at]
      have eN : s.1 r 40 = nI (vN v) := hs.1
      have ef : s.1 157 i = nI (sFlow code g v i) := (hF.i (by omega) (by omega) i).trans (hf i hi)
      refine ⟨stI s r (32 + i) (nI (min 99 (vT v i + sFlow code g v i))), ?_, ?_, ?_⟩
      · show lp_c11_goSeason_32 N 144 r (k + 1) _ _ = _
        rw [lp_c11_goSeason_32.eq_2]
        simp (disch := omega) only [Option.bind_some, ↓ile_t, ↓ile_f, ↓ilt_t, ↓ilt_f, ↓ieq_t, ↓ieq_f, ↓iz_t, ↓iz_f, ↓iltz, ↓izle, ↓ilez_t, ↓ilez_f, ↓im1, ile_t, ile_f, ilt_t, ilt_f, ieq_t, ieq_f, iz_t, iz_f, iltz, izle, ilez_t, ilez_f, im1, gZ_0, gZ_1, e10, e00, ↓reduceIte, Sum.elim_inl, Sum.elim_inr, nI_1, nI_add, Int32.sub_zero, k40, k32, mg hr, mp hr, eN, eT, zr144_26, zg157, ef, k99, gmin_nI]
      · exact hF.tr (FM.stA rfl h0)
      · have := MW_T (w := i) (x := min 99 (vT v i + sFlow code g v i)) hs h8 (by omega)
        rw [← sRi_s]
        exact this
    · obtain ⟨hF, hs⟩ := hs
      have eN : s.1 r 40 = nI (vN v) := hs.1
      refine ⟨mk L s, ?_, s, rfl, hF, hs⟩
      show lp_c11_goSeason_32 N 144 r (k + 1) _ _ = _
      rw [lp_c11_goSeason_32.eq_2]
      simp (disch := omega) only [Option.bind_some, ↓ile_t, ↓ile_f, ↓ilt_t, ↓ilt_f, ↓ieq_t, ↓ieq_f, ↓iz_t, ↓iz_f, ↓iltz, ↓izle, ↓ilez_t, ↓ilez_f, ↓im1, ile_t, ile_f, ilt_t, ilt_f, ieq_t, ieq_f, iz_t, iz_f, iltz, izle, ilez_t, ilez_f, im1, gZ_0, gZ_1, e10, e00, ↓reduceIte, Sum.elim_inl, Sum.elim_inr, nI_1, nI_add, Int32.sub_zero, k40, mg hr, eN]
    · have e : sRi code g v 0 = vT v := by funext u; unfold sRi; rw [if_neg (by omega)]
      rw [e]
      exact hm
  obtain ⟨q, e, S', er, h1, h2⟩ := h0
  rw [er] at e
  exact ⟨S', e, h1, h2⟩
theorem oI_m1 {i : Nat} (h : i < 2147483648) : ¬ oI (some i) = -1 := nI_m1 h
abbrev qV (r : Nat) : Nat → Prop := fun x => x = r ∨ x = 158 ∨ x = 159
theorem M_vil {T0 : Nat → Nat} (hr : kA r = some (0, 43)) (h0 : r ≠ 144) (h1 : r ≠ 158 ∧ r ≠ 159 ∧ r ≠ 146 ∧ r ≠ 147) (hm : MW S r (vWat v T0)) (hT0 : ∀ w, w < vN v → T0 w ≤ 99) (hM : MG S g) (hg : WG g) (hv : WV g v) (hN : 900 ≤ N) :
    ∃ S', lp_c11_goSeason_72 N 144 r N 0 0 (mk L S) = some (nI (sVT g v T0 (gVm g)).2, mk L S') ∧ FM (qV r) (fun _ => False) S S' ∧ MW S' r (vWat v (sVT g v T0 (gVm g)).1) ∧ ∀ i, i < gVm g → S'.1 158 i = nI (sMu g v (sVT g v T0 i).1 i) ∧ S'.1 159 i = oI (sFr g v (sVT g v T0 i).1 i) := by
  have h8 := hv.1
  have h6 := hg.2.2.2.2.1
  have h00 : ∃ q, lp_c11_goSeason_72 N 144 r N (nI 0) (nI 0) (mk L S) = some q ∧ ∃ S', q = (nI (sVT g v T0 (gVm g)).2, mk L S') ∧ FM (qV r) (fun _ => False) S S' ∧ MW S' r (vWat v (sVT g v T0 (gVm g)).1) ∧ ∀ i, i < gVm g → S'.1 158 i = nI (sMu g v (sVT g v T0 i).1 i) ∧ S'.1 159 i = oI (sFr g v (sVT g v T0 i).1 i) := by
    refine lp_inv (Lp := fun k (s : Int32 × gS) i => lp_c11_goSeason_72 N 144 r k s.1 (nI i) (mk L s.2)) (n := gVm g) (P := fun i s => s.1 = nI (sVT g v T0 i).2 ∧ FM (qV r) (fun _ => False) S s.2 ∧ MW s.2 r (vWat v (sVT g v T0 i).1) ∧ ∀ j, j < i → s.2.1 158 j = nI (sMu g v (sVT g v T0 j).1 j) ∧ s.2.1 159 j = oI (sFr g v (sVT g v T0 j).1 j)) (fun k i s hi hs => Or.inr ?_) (fun k s hs => ?_) (gVm g) N 0 (nI 0, S) (by omega) (by omega) ⟨rfl, FM.refl, hm, fun j hj => by omega⟩
    · obtain ⟨s0, s⟩ := s
      obtain ⟨hn0, hF, hs, hD⟩ := hs
      dsimp only at hn0 hF hs hD
      subst hn0
      show ∃ s', lp_c11_goSeason_72 N 144 r (k + 1) _ _ _ = _ ∧ _
      rw [lp_c11_goSeason_72.eq_2]
      have hT := sVT_le (g := g) hT0 i
      have hn := sVT_n (g := g) (v := v) (T0 := T0) i
      have hw1 : WV g (vWat v (sVT g v T0 i).1) := hv.wat hT
      have hM' : MG s g := hM.fm hF ⟨fun z => z, fun z => z, fun z => z⟩ ⟨by show ¬ (_ ∨ _); omega, by show ¬ (_ ∨ _); omega⟩
      have eN1 := M_near (L := L) (N := N) hr hs hM' hg hw1 hi hN
      change f_c11_nearest N 144 r (nI i) (mk L s) = some (oI (sFr g v (sVT g v T0 i).1 i)) at eN1
      have hth := hg.2.2.2.2.2 i hi
      have eTh : s.1 147 i = nI (gTh g i) := (hM'.2.2.2 i hi).2
      have eV : s.1 144 3 = nI (gVm g) := hM'.2.2.1
      have eM : sMu g v (sVT g v T0 i).1 i = match sFr g v (sVT g v T0 i).1 i with | none => 0 | some b => min (gTh g i) ((sVT g v T0 i).1 b) := rfl
      have eK : sTk g v (sVT g v T0 i).1 i = match sFr g v (sVT g v T0 i).1 i with | none => (sVT g v T0 i).1 | some b => nup (sVT g v T0 i).1 b ((sVT g v T0 i).1 b - sMu g v (sVT g v T0 i).1 i) := rfl
      have hml := sMu_le (g := g) (v := v) (T := (sVT g v T0 i).1) (i := i)
      have eS : sVT g v T0 (i + 1) = (sTk g v (sVT g v T0 i).1 i, (sVT g v T0 i).2 + (if sMu g v (sVT g v T0 i).1 i < gTh g i then 1 else 0)) := rfl
      have eI : nI (sVT g v T0 i).2 + (if nI (gTh g i) ≤ nI (sMu g v (sVT g v T0 i).1 i) then (0 : Int32) else 1) = nI (sVT g v T0 (i + 1)).2 := by
        rw [eS]
        by_cases z : gTh g i ≤ sMu g v (sVT g v T0 i).1 i
        · rw [if_pos (nI_le z (by omega))]
          show _ = nI ((sVT g v T0 i).2 + (if _ then 1 else 0))
          rw [if_neg (by omega), Int32.add_zero]
          rfl
        · rw [if_neg (nI_ge (by omega) (by omega))]
          show _ = nI ((sVT g v T0 i).2 + (if _ then 1 else 0))
          rw [if_pos (by omega), nI_1]
      have fin : ∀ s1 : gS, FM (qV r) (fun _ => False) s s1 → MW s1 r (vWat v (sTk g v (sVT g v T0 i).1 i)) → (∀ j, j ≠ i → s1.1 158 j = s.1 158 j ∧ s1.1 159 j = s.1 159 j) → s1.1 158 i = nI (sMu g v (sVT g v T0 i).1 i) → s1.1 159 i = oI (sFr g v (sVT g v T0 i).1 i) →
          (nI (sVT g v T0 (i + 1)).2, s1).1 = nI (sVT g v T0 (i + 1)).2 ∧ FM (qV r) (fun _ => False) S (nI (sVT g v T0 (i + 1)).2, s1).2 ∧ MW (nI (sVT g v T0 (i + 1)).2, s1).2 r (vWat v (sVT g v T0 (i + 1)).1) ∧ ∀ j, j < i + 1 → (nI (sVT g v T0 (i + 1)).2, s1).2.1 158 j = nI (sMu g v (sVT g v T0 j).1 j) ∧ (nI (sVT g v T0 (i + 1)).2, s1).2.1 159 j = oI (sFr g v (sVT g v T0 j).1 j) := by
        intro s1 f1 f2 f3 f4 f5
        refine ⟨rfl, hF.tr f1, f2, fun j hj => ?_⟩
        by_cases q : j = i
        · subst q; exact ⟨f4, f5⟩
        · exact ⟨(f3 j q).1.trans (hD j (by omega)).1, (f3 j q).2.trans (hD j (by omega)).2⟩
      cases hf : sFr g v (sVT g v T0 i).1 i with
      | none =>
        rw [hf] at eM eK eN1
        dsimp only at eM eK
        have e158 : (stI (stI s 159 i (-1)) 158 i 0).1 158 i = 0 := rdI_eq
        rw [eM] at eI
        refine ⟨(nI (sVT g v T0 (i + 1)).2, stI (stI s 159 i (-1)) 158 i 0), ?_, fin _ ?_ ?_ ?_ ?_ ?_⟩
        · have m11 : ((-1 : Int32) = -1) = True := eq_self _
          simp (disch := omega) only [Option.bind_some, ↓ile_t, ↓ile_f, ↓ilt_t, ↓ilt_f, ↓ieq_t, ↓ieq_f, ↓iz_t, ↓iz_f, ↓iltz, ↓izle, ↓ilez_t, ↓ilez_f, ↓im1, ile_t, ile_f, ilt_t, ilt_f, ieq_t, ieq_f, iz_t, iz_f, iltz, izle, ilez_t, ilez_f, im1, gZ_0, gZ_1, e10, e00, ↓reduceIte, Sum.elim_inl, Sum.elim_inr, nI_1, nI_add, Int32.sub_zero, zi144_3, eV, eN1, oI, zr144_28, zp159, zr144_27, m11, zp158, zr144_5, zg158, zg147, rdI_eq, rdI_ne, eTh]
          have e9 : (sVT g v T0 (i + 1)).2 = (sVT g v T0 i).2 + 1 := by
            rw [eS]
            show (sVT g v T0 i).2 + (if _ then 1 else 0) = _
            rw [if_pos (by rw [eM]; omega)]
          rw [e9]
        · exact (FM.stA (Or.inr (Or.inr rfl)) (by omega)).tr (FM.stA (Or.inr (Or.inl rfl)) (by omega))
        · rw [eK]
          exact hs.fr (Fr.trans (Fr.stI (A := fun x => x = 158 ∨ x = 159) (Or.inr rfl)) (Fr.stI (A := fun x => x = 158 ∨ x = 159) (Or.inl rfl)) (fun _ z => z) (fun _ z => z)) (by show ¬ (_ ∨ _); omega)
        · intro j hj
          exact ⟨by rw [rdI_ne (by omega), rdI_ne (by omega)], by rw [rdI_ne (by omega), rdI_ne (by omega)]⟩
        · rw [rdI_eq, eM]; rfl
        · rw [rdI_ne (by omega), rdI_eq, hf]; rfl
      | some w =>
        rw [hf] at eM eK eN1
        dsimp only at eM eK
        have hw : w < vN v := sNear_lt hf
        have hTw := hT w hw
        have eT : s.1 r (32 + w) = nI ((sVT g v T0 i).1 w) := (hs.2.2.2 w hw).2.2.2.2
        have l1 : min (gTh g i) ((sVT g v T0 i).1 w) ≤ (sVT g v T0 i).1 w := Nat.min_le_right _ _
        rw [← eM] at l1
        have m1 : ¬ nI w = -1 := nI_m1 (by omega)
        refine ⟨(nI (sVT g v T0 (i + 1)).2, stI (stI (stI s 159 i (nI w)) 158 i (nI (sMu g v (sVT g v T0 i).1 i))) r (32 + w) (nI ((sVT g v T0 i).1 w - sMu g v (sVT g v T0 i).1 i))), ?_, fin _ ?_ ?_ ?_ ?_ ?_⟩
        · simp (disch := omega) only [Option.bind_some, ↓ile_t, ↓ile_f, ↓ilt_t, ↓ilt_f, ↓ieq_t, ↓ieq_f, ↓iz_t, ↓iz_f, ↓iltz, ↓izle, ↓ilez_t, ↓ilez_f, ↓im1, ile_t, ile_f, ilt_t, ilt_f, ieq_t, ieq_f, iz_t, iz_f, iltz, izle, ilez_t, ilez_f, im1, gZ_0, gZ_1, e10, e00, ↓reduceIte, Sum.elim_inl, Sum.elim_inr, nI_1, nI_add, Int32.sub_zero, zi144_3, eV, eN1, oI, zr144_28, zp159, zr144_27, if_neg m1, zp158, zr144_5, zg158, zg147, rdI_eq, rdI_ne, eTh, k32, mg hr, mp hr, eT, gmin_nI, ← eM, nI_sub]
          rw [eI]
        · exact ((FM.stA (Or.inr (Or.inr rfl)) (by omega)).tr (FM.stA (Or.inr (Or.inl rfl)) (by omega))).tr (FM.stA (Or.inl rfl) h0)
        · rw [eK]
          have h2 : MW (stI (stI s 159 i (nI w)) 158 i (nI (sMu g v (sVT g v T0 i).1 i))) r (vWat v (sVT g v T0 i).1) := hs.fr (Fr.trans (Fr.stI (A := fun x => x = 158 ∨ x = 159) (Or.inr rfl)) (Fr.stI (A := fun x => x = 158 ∨ x = 159) (Or.inl rfl)) (fun _ z => z) (fun _ z => z)) (by show ¬ (_ ∨ _); omega)
          exact MW_T h2 h8 (by omega)
        · intro j hj
          exact ⟨by rw [rdI_ne (by omega), rdI_ne (by omega), rdI_ne (by omega)], by rw [rdI_ne (by omega), rdI_ne (by omega), rdI_ne (by omega)]⟩
        · rw [rdI_ne (by omega), rdI_eq]
        · rw [rdI_ne (by omega), rdI_ne (by omega), rdI_eq, hf]; rfl
    · obtain ⟨s0, s⟩ := s
      obtain ⟨hn0, hF, hs, hD⟩ := hs
      dsimp only at hn0 hF hs hD
      have hM' : MG s g := hM.fm hF ⟨fun z => z, fun z => z, fun z => z⟩ ⟨by show ¬ (_ ∨ _); omega, by show ¬ (_ ∨ _); omega⟩
      have eV : s.1 144 3 = nI (gVm g) := hM'.2.2.1
      refine ⟨(s0, mk L s), ?_, s, by rw [hn0], hF, hs, hD⟩
      show lp_c11_goSeason_72 N 144 r (k + 1) _ _ _ = _
      rw [lp_c11_goSeason_72.eq_2]
      simp (disch := omega) only [Option.bind_some, ↓ile_t, ↓ile_f, ↓ilt_t, ↓ilt_f, ↓ieq_t, ↓ieq_f, ↓iz_t, ↓iz_f, ↓iltz, ↓izle, ↓ilez_t, ↓ilez_f, ↓im1, ile_t, ile_f, ilt_t, ilt_f, ieq_t, ieq_f, iz_t, iz_f, iltz, izle, ilez_t, ilez_f, im1, gZ_0, gZ_1, e10, e00, ↓reduceIte, Sum.elim_inl, Sum.elim_inr, nI_1, nI_add, Int32.sub_zero, zi144_3, eV]
  obtain ⟨q, e, S', er, h1, h2⟩ := h00
  rw [er] at e
  rw [nI_0] at e
  exact ⟨S', e, h1, h2⟩
theorem M_season (hr : kA r = some (0, 43)) (h0 : r ≠ 144) (h1 : r = 145 ∨ r = 156) (hm : MW S r v) (hM : MG S g) (hg : WG g) (hv : WV g v) (hu : MU S id n t) (hc : ruleCode t n = .inl code) (hN : 900 ≤ N) :
    ∃ S' x, f_c11_goSeason N 144 r (mk L S) = some (x, mk L S') ∧ FM (qA r) qK S S' ∧ MW S' r (vSea code g v) ∧ ∀ i, i < gVm g → S'.1 158 i = nI (sDrew code g v i) ∧ S'.1 159 i = oI (sDrFr code g v i) := by
  have hP := hv.2.1.1
  obtain ⟨S1, e1, e2, e3⟩ := M_flows (L := L) (N := N) hr h0 (by omega) hm hM hg hv hu hc hN
  have hm1 : MW S1 r v := hm.fm e2 h0 (by omega)
  obtain ⟨S2, f1, f2, f3⟩ := M_rise (L := L) (N := N) hr h0 (by omega) hm1 hv e3 hN
  have hM2 : MG S2 g := (hM.fm e2 ⟨by show ¬ (_ ∨ _); omega, by show ¬ (_ ∨ _); omega, by show ¬ (_ ∨ _); omega⟩ ⟨by omega, by omega⟩).fm f2 ⟨fun z => z, fun z => z, fun z => z⟩ ⟨by omega, by omega⟩
  obtain ⟨S3, g1, g2, g3, g4⟩ := M_vil (L := L) (N := N) hr h0 (by omega) f3 (fun w hw => sRi_le hv _ w hw) hM2 hg hv hN
  have hn := sVT_n (g := g) (v := v) (T0 := sRi code g v (vN v)) (gVm g)
  have h6 := hg.2.2.2.2.1
  have eP : S3.1 r 42 = nI (vP v) := g3.2.2.1
  have eS : S3.1 r 41 = nI (vS v) := g3.2.1
  refine ⟨stI (stI S3 r 42 (nI (min 9999 (vP v + (sV code g v (gVm g)).2)))) r 41 (nI (vS v + 1)), nI (sV code g v (gVm g)).2, ?_, ?_, ?_, fun i hi => ?_⟩
  · change lp_c11_goSeason_72 N 144 r N 0 0 (mk L S2) = some (nI (sV code g v (gVm g)).2, mk L S3) at g1
    change (sV code g v (gVm g)).2 ≤ gVm g at hn
    simp (disch := omega) only [Option.bind_some, ↓ile_t, ↓ile_f, ↓ilt_t, ↓ilt_f, ↓ieq_t, ↓ieq_f, ↓iz_t, ↓iz_f, ↓iltz, ↓izle, ↓ilez_t, ↓ilez_f, ↓im1, ile_t, ile_f, ilt_t, ilt_f, ieq_t, ieq_f, iz_t, iz_f, iltz, izle, ilez_t, ilez_f, im1, gZ_0, gZ_1, e10, e00, ↓reduceIte, Sum.elim_inl, Sum.elim_inr, nI_1, nI_add, Int32.sub_zero, f_c11_goSeason, zc144, e1, f1, g1, k42, k41, mg hr, mp hr, eP, k9999, gmin_nI, rdI_ne, eS]
  · have t1 : FM (qA r) qK S S1 := e2.mono (fun x z => by show _ ∨ _; omega) (fun _ z => z)
    have t2 : FM (qA r) qK S1 S2 := f2.mono (fun x z => Or.inl z) (fun _ z => z.elim)
    have t3 : FM (qA r) qK S2 S3 := g2.mono (fun x z => by change x = r ∨ x = 158 ∨ x = 159 at z; show _ ∨ _; omega) (fun _ z => z.elim)
    exact (((t1.tr t2).tr t3).tr (FM.stA (Or.inl rfl) h0)).tr (FM.stA (Or.inl rfl) h0)
  · refine ⟨?_, rdI_eq, ?_, fun u hu => ?_⟩
    · rw [rdI_ne (by omega), rdI_ne (by omega)]; exact g3.1
    · rw [rdI_ne (by omega), rdI_eq]; rfl
    · have h8 := hv.1
      have hu2 : u < vN v := hu
      have z := g3.2.2.2 u hu
      exact ⟨by rw [rdI_ne (by omega), rdI_ne (by omega)]; exact z.1, by rw [rdI_ne (by omega), rdI_ne (by omega)]; exact z.2.1, by rw [rdI_ne (by omega), rdI_ne (by omega)]; exact z.2.2.1, by rw [rdI_ne (by omega), rdI_ne (by omega)]; exact z.2.2.2.1, by rw [rdI_ne (by omega), rdI_ne (by omega)]; exact z.2.2.2.2⟩
  · rw [rdI_ne (by omega), rdI_ne (by omega), rdI_ne (by omega), rdI_ne (by omega)]
    exact g4 i hi
theorem M_seasons {k0 : Nat} (hr : kA r = some (0, 43)) (h0 : r ≠ 144) (h1 : r = 145 ∨ r = 156) (hm : MW S r v) (hM : MG S g) (hg : WG g) (hv : WV g v) (hu : MU S id n t) (hc : ruleCode t n = .inl code) (hk : k0 ≤ 800) (hN : 900 ≤ N) :
    ∃ S', f_c11_goSeasons N 144 r (nI k0) (mk L S) = some (mk L S') ∧ FM (qA r) qK S S' ∧ MW S' r (vSeas code g v k0) ∧ ∀ m, k0 = m + 1 → ∀ i, i < gVm g → S'.1 158 i = nI (sDrew code g (vSeas code g v m) i) ∧ S'.1 159 i = oI (sDrFr code g (vSeas code g v m) i) := by
  have h00 : ∃ q, lp_c11_goSeasons_2 N 144 r (nI k0) N (nI 0) (mk L S) = some q ∧ ∃ S', q = mk L S' ∧ FM (qA r) qK S S' ∧ MW S' r (vSeas code g v k0) ∧ ∀ m, k0 = m + 1 → ∀ i, i < gVm g → S'.1 158 i = nI (sDrew code g (vSeas code g v m) i) ∧ S'.1 159 i = oI (sDrFr code g (vSeas code g v m) i) := by
    refine lp_inv (Lp := fun k (s : gS) i => lp_c11_goSeasons_2 N 144 r (nI k0) k (nI i) (mk L s)) (n := k0) (P := fun i s => FM (qA r) qK S s ∧ MW s r (vSeas code g v i) ∧ ∀ m, i = m + 1 → ∀ j, j < gVm g → s.1 158 j = nI (sDrew code g (vSeas code g v m) j) ∧ s.1 159 j = oI (sDrFr code g (vSeas code g v m) j)) (fun k i s hi hs => Or.inr ?_) (fun k s hs => ?_) k0 N 0 S (by omega) (by omega) ⟨FM.refl, hm, fun m hm => by omega⟩
    · obtain ⟨hF, hs, hD⟩ := hs
      have hM' : MG s g := hM.fm hF ⟨by show ¬ (_ ∨ _); omega, by show ¬ (_ ∨ _); omega, by show ¬ (_ ∨ _); omega⟩ ⟨by show ¬ (_ ∨ _); omega, by show ¬ (_ ∨ _); omega⟩
      have hu' : MU s id n t := hu.fm hF ⟨by show ¬ (_ ∨ _); omega, by show ¬ (_ ∨ _); omega⟩ ⟨by show ¬ (_ ∨ _); omega, by show ¬ (_ ∨ _); omega⟩
      obtain ⟨s1, x, e1, e2, e3, e4⟩ := M_season (L := L) (N := N) hr h0 h1 hs hM' hg (hv.seas i) hu' hc hN
      refine ⟨s1, ?_, hF.tr e2, e3, fun m hm => ?_⟩
      · show lp_c11_goSeasons_2 N 144 r (nI k0) (k + 1) _ _ = _
        rw [lp_c11_goSeasons_2.eq_2]
        simp (disch := omega) only [Option.bind_some, ↓ile_t, ↓ile_f, ↓ilt_t, ↓ilt_f, ↓ieq_t, ↓ieq_f, ↓iz_t, ↓iz_f, ↓iltz, ↓izle, ↓ilez_t, ↓ilez_f, ↓im1, ile_t, ile_f, ilt_t, ilt_f, ieq_t, ieq_f, iz_t, iz_f, iltz, izle, ilez_t, ilez_f, im1, gZ_0, gZ_1, e10, e00, ↓reduceIte, Sum.elim_inl, Sum.elim_inr, nI_1, nI_add, Int32.sub_zero, e1]
      · obtain rfl : m = i := by omega
        exact e4
    · obtain ⟨hF, hs, hD⟩ := hs
      refine ⟨mk L s, ?_, s, rfl, hF, hs, hD⟩
      show lp_c11_goSeasons_2 N 144 r (nI k0) (k + 1) _ _ = _
      rw [lp_c11_goSeasons_2.eq_2]
      simp (disch := omega) only [Option.bind_some, ↓ile_t, ↓ile_f, ↓ilt_t, ↓ilt_f, ↓ieq_t, ↓ieq_f, ↓iz_t, ↓iz_f, ↓iltz, ↓izle, ↓ilez_t, ↓ilez_f, ↓im1, ile_t, ile_f, ilt_t, ilt_f, ieq_t, ieq_f, iz_t, iz_f, iltz, izle, ilez_t, ilez_f, im1, gZ_0, gZ_1, e10, e00, ↓reduceIte, Sum.elim_inl, Sum.elim_inr, nI_1, nI_add, Int32.sub_zero, ]
  obtain ⟨q, e, S', er, h1, h2, h3⟩ := h00
  rw [er] at e
  rw [nI_0] at e
  refine ⟨S', ?_, h1, h2, h3⟩
  simp (disch := omega) only [Option.bind_some, ↓ile_t, ↓ile_f, ↓ilt_t, ↓ilt_f, ↓ieq_t, ↓ieq_f, ↓iz_t, ↓iz_f, ↓iltz, ↓izle, ↓ilez_t, ↓ilez_f, ↓im1, ile_t, ile_f, ilt_t, ilt_f, ieq_t, ieq_f, iz_t, iz_f, iltz, izle, ilez_t, ilez_f, im1, gZ_0, gZ_1, e10, e00, ↓reduceIte, Sum.elim_inl, Sum.elim_inr, nI_1, nI_add, Int32.sub_zero, f_c11_goSeasons, zc144, e]
end MSEA2
