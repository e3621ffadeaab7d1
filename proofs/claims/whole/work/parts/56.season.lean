/-! A SEASON goes by: what it comes to -/
def vWT (v : pV) (T : Nat → Nat) : pV := vWat v T
def sRi (code : List Int32) (g : pG) (v : pV) (i : Nat) : Nat → Nat := fun u => if u < i then min 99 (vT v u + sFlow code g v u) else vT v u
def sFr (g : pG) (v : pV) (T : Nat → Nat) (i : Nat) : Option Nat := sNear g (vWat v T) (gHm g i) (vN v)
def sMu (g : pG) (v : pV) (T : Nat → Nat) (i : Nat) : Nat := match sFr g v T i with
  | none => 0
  | some b => min (gTh g i) (T b)
def sTk (g : pG) (v : pV) (T : Nat → Nat) (i : Nat) : Nat → Nat := match sFr g v T i with
  | none => T
  | some b => nup T b (T b - sMu g v T i)
def sVT (g : pG) (v : pV) (T0 : Nat → Nat) : Nat → (Nat → Nat) × Nat
  | 0 => (T0, 0)
  | i + 1 => (sTk g v (sVT g v T0 i).1 i, (sVT g v T0 i).2 + (if sMu g v (sVT g v T0 i).1 i < gTh g i then 1 else 0))
def sV (code : List Int32) (g : pG) (v : pV) (i : Nat) : (Nat → Nat) × Nat := sVT g v (sRi code g v (vN v)) i
def vSea (code : List Int32) (g : pG) (v : pV) : pV := (vN v, vF v, vW v, vM v, vA v, (sV code g v (gVm g)).1, vS v + 1, min 9999 (vP v + (sV code g v (gVm g)).2))
def sDrew (code : List Int32) (g : pG) (v : pV) (i : Nat) : Nat := sMu g v (sV code g v i).1 i
def sDrFr (code : List Int32) (g : pG) (v : pV) (i : Nat) : Option Nat := sFr g v (sV code g v i).1 i
theorem sFlow_wat {code : List Int32} {g : pG} {v : pV} {T : Nat → Nat} {w : Nat} (h : T w = vT v w) : sFlow code g (vWat v T) w = sFlow code g v w := by
  have e : askOf g (vWat v T) w = askOf g v w := by
    funext k
    unfold askOf
    show (if k = 0 then nI (vW v w) else if k = 1 then nI (sDepth v w) else if k = 2 then nI (vA v w) else if k = 3 then nI (vM v w) else if k = 4 then nI (sCrowd g (vF v w)) else if k = 5 then nI (T w) else nI (vS v) - nI (vS v) / 4 * 4) = _
    rw [h]
  unfold sFlow
  rw [e]
theorem sRi_s {code : List Int32} {g : pG} {v : pV} {i : Nat} : nup (sRi code g v i) i (min 99 (vT v i + sFlow code g v i)) = sRi code g v (i + 1) := by
  funext u
  unfold nup sRi
  by_cases q : u = i
  · subst q
    rw [if_pos rfl, if_pos (by omega)]
  · rw [if_neg q]
    by_cases q2 : u < i
    · rw [if_pos q2, if_pos (by omega)]
    · rw [if_neg q2, if_neg (by omega)]
theorem sRi_at {code : List Int32} {g : pG} {v : pV} {i : Nat} : sRi code g v i i = vT v i := by
  unfold sRi; rw [if_neg (by omega)]
theorem sRi_le {code : List Int32} {g : pG} {v : pV} (hv : WV g v) (i w : Nat) (hw : w < vN v) : sRi code g v i w ≤ 99 := by
  unfold sRi
  have := (hv.2.2 w hw).2.2.2.2.2
  split <;> omega
theorem sVT_le {g : pG} {v : pV} {T0 : Nat → Nat} (h : ∀ w, w < vN v → T0 w ≤ 99) : ∀ (i w : Nat), w < vN v → (sVT g v T0 i).1 w ≤ 99 := by
  intro i
  induction i with
  | zero => exact h
  | succ i ih =>
    intro w hw
    show sTk g v (sVT g v T0 i).1 i w ≤ 99
    unfold sTk
    cases hf : sFr g v (sVT g v T0 i).1 i with
    | none => exact ih w hw
    | some b =>
      have h1 := ih w hw
      have h2 := ih b (sNear_lt hf)
      show nup (sVT g v T0 i).1 b ((sVT g v T0 i).1 b - sMu g v (sVT g v T0 i).1 i) w ≤ 99
      unfold nup
      split <;> omega
theorem sVT_n {g : pG} {v : pV} {T0 : Nat → Nat} : ∀ i, (sVT g v T0 i).2 ≤ i := by
  intro i
  induction i with
  | zero => exact Nat.le_refl 0
  | succ i ih =>
    show (sVT g v T0 i).2 + (if _ then 1 else 0) ≤ i + 1
    split <;> omega
theorem sMu_le {g : pG} {v : pV} {T : Nat → Nat} {i : Nat} : sMu g v T i ≤ gTh g i := by
  unfold sMu
  split
  · exact Nat.zero_le _
  · exact Nat.min_le_left _ _
theorem WV.sea {code : List Int32} {g : pG} {v : pV} (h : WV g v) : WV g (vSea code g v) := by
  refine ⟨h.1, ⟨Nat.min_le_left _ _, h.2.1.2⟩, fun u hu => ?_⟩
  have z := h.2.2 u hu
  exact ⟨z.1, z.2.1, z.2.2.1, z.2.2.2.1, z.2.2.2.2.1, sVT_le (fun w hw => sRi_le h _ w hw) (gVm g) u hu⟩
theorem gmax_gmin {x m : Nat} (hx : x < 2147483648) (hm : m < 2147483648) : gmax 0 (gmin (nI m) (nI x)) = nI (min m x) := by
  rw [gmin_nI hm hx, gmax_0 (by omega)]
section CSEA
variable {L N a b : Nat} {S : gS} {g : pG} {v : pV} {code : List Int32}
theorem CV_T {w x : Nat} (h : CV S b v) : CV (stI S (b + 5) w (nI x)) b (vSetT v w x) := by
  refine ⟨?_, ?_, ?_, fun u hu => ?_⟩
  · rw [rdI_ne (by omega)]; exact h.1
  · rw [rdI_ne (by omega)]; exact h.2.1
  · rw [rdI_ne (by omega)]; exact h.2.2.1
  · have z := h.2.2.2 u hu
    refine ⟨by rw [rdI_ne (by omega)]; exact z.1, by rw [rdI_ne (by omega)]; exact z.2.1, by rw [rdI_ne (by omega)]; exact z.2.2.1, by rw [rdI_ne (by omega)]; exact z.2.2.2.1, ?_⟩
    show _ = nI (nup _ _ _ _)
    by_cases q : u = w
    · subst q; rw [rdI_eq, nup_eq]
    · rw [rdI_ne (by omega), nup_ne q]; exact z.2.2.2.2
theorem CRu.fr {A : Nat → Prop} {S' : gS} (h : Fr A S S') (h1 : ¬ A a ∧ ¬ A (a + 1)) (q : CRu S a code) : CRu S' a code :=
  ⟨(h.i h1.1 3).trans q.1, q.2.1, q.2.2.congr (fun j _ _ => h.i h1.2 j)⟩
abbrev pS (b : Nat) : Nat → Prop := fun x => (b ≤ x ∧ x ≤ b + 5) ∨ x = 38 ∨ x = 39 ∨ x = 139 ∨ x = 143
theorem pS_tr {S1 S2 : gS} (h : Fr (pS b) S S1) (k : Fr (pS b) S1 S2) : Fr (pS b) S S2 := h.trans k (fun _ z => z) (fun _ z => z)
theorem gmin_99 {x : Nat} (hx : x < 2147483648) : gmin 99 (nI x) = nI (min 99 x) := gmin_nI (a := 99) (by omega) hx
theorem C_rise (ha : a = 136 ∨ a = 140) (hb : SA b) (hb2 : 18 < b ∧ b + 5 < 38) (h : CV S b v) (hc : CG S g) (hg : WG g) (hv : WV g v) (hr : CRu S a code) (hgd : cGood code) (hN : 900 ≤ N) :
    ∃ S', lp_c0_passOne_3 N b 15 a N 0 (mk L S) = some (mk L S') ∧ Fr (pS b) S S' ∧ CV S' b (vWat v (sRi code g v (vN v))) := by
  have hra : RA a := by rcases ha with rfl | rfl; exact RA_136; exact RA_140
  have h8 := hv.1
  have h0 : ∃ r, lp_c0_passOne_3 N b 15 a N (nI 0) (mk L S) = some r ∧ ∃ S', r = mk L S' ∧ Fr (pS b) S S' ∧ CV S' b (vWat v (sRi code g v (vN v))) := by
    refine lp_inv (Lp := fun k (s : gS) i => lp_c0_passOne_3 N b 15 a k (nI i) (mk L s)) (n := vN v) (P := fun i s => Fr (pS b) S s ∧ CV s b (vWat v (sRi code g v i))) (fun k i s hi hs => Or.inr ?_) (fun k s hs => ?_) (vN v) N 0 S (by omega) (by omega) ⟨Fr.refl, ?_⟩
    · obtain ⟨hF, hs⟩ := hs
      show ∃ s', lp_c0_passOne_3 N b 15 a (k + 1) _ _ = _ ∧ _
      rw [lp_c0_passOne_3.eq_2]
      have hv' : WV g (vWat v (sRi code g v i)) := hv.wat (fun w hw => sRi_le hv i w hw)
      have hc' : CG s g := hc.fr hF (fun x h1 h2 => by show ¬ (_ ∨ _); omega)
      have hr' : CRu s a code := hr.fr hF ⟨by show ¬ (_ ∨ _); omega, by show ¬ (_ ∨ _); omega⟩
      obtain ⟨S1, e1, e2⟩ := C_flow (L := L) (N := N) (w := i) hra hb (by omega) (by omega) hs hc' hg hv' hi hr' hgd hN
      rw [sFlow_wat sRi_at] at e1
      have hfl := (sFlow_nI (code := code) (g := g) (v := v) (w := i)).2
      have ht := (hv.2.2 i hi).2.2.2.2.2
      have hs1 : CV S1 b (vWat v (sRi code g v i)) := hs.fr e2 (fun x h1 h2 => by omega)
      have eT : s.1 (b + 5) i = nI (vT v i) := by
        have := (hs.2.2.2 i hi).2.2.2.2
        rw [this]
        show nI (sRi code g v i i) = _
        rw [sRi_at]
      have eN : s.1 b 0 = nI (vN v) := hs.1
      refine ⟨stI S1 (b + 5) i (nI (min 99 (vT v i + sFlow code g v i))), ?_, ?_, ?_⟩
      · simp (disch := omega) only [Option.bind_some, ↓ile_t, ↓ile_f, ↓ilt_t, ↓ilt_f, ↓ieq_t, ↓ieq_f, ↓iz_t, ↓iz_f, ↓iltz, ↓izle, ↓ilez_t, ↓ilez_f, ↓im1, ile_t, ile_f, ilt_t, ilt_f, ieq_t, ieq_f, iz_t, iz_f, iltz, izle, ilez_t, ilez_f, im1, gZ_0, gZ_1, e10, e00, ↓reduceIte, Sum.elim_inl, Sum.elim_inr, nI_1, nI_add, Int32.sub_zero, qc hb, qi0 hb, qs0 hb, qr1 hb, qr2 hb, qr3 hb, qr4 hb, qr5 hb, qi6 hb, qs6 hb, qi7 hb, qs7 hb, qg5 hb, qp5 hb, eN, eT, e1, f_c10_put, k99, gmax_gmin]
      · refine pS_tr hF (pS_tr (e2.mono (fun x z => by show _ ∨ _; omega)) (Fr.stI (by show _ ∨ _; omega)))
      · have := CV_T (w := i) (x := min 99 (vT v i + sFlow code g v i)) hs1
        rw [← sRi_s]
        exact this
    · obtain ⟨hF, hs⟩ := hs
      have eN : s.1 b 0 = nI (vN v) := hs.1
      refine ⟨mk L s, ?_, s, rfl, hF, hs⟩
      show lp_c0_passOne_3 N b 15 a (k + 1) _ _ = _
      rw [lp_c0_passOne_3.eq_2]
      simp (disch := omega) only [Option.bind_some, ↓ile_t, ↓ile_f, ↓ilt_t, ↓ilt_f, ↓ieq_t, ↓ieq_f, ↓iz_t, ↓iz_f, ↓iltz, ↓izle, ↓ilez_t, ↓ilez_f, ↓im1, ile_t, ile_f, ilt_t, ilt_f, ieq_t, ieq_f, iz_t, iz_f, iltz, izle, ilez_t, ilez_f, im1, gZ_0, gZ_1, e10, e00, ↓reduceIte, Sum.elim_inl, Sum.elim_inr, nI_1, nI_add, Int32.sub_zero, qc hb, qi0 hb, qs0 hb, qr1 hb, qr2 hb, qr3 hb, qr4 hb, qr5 hb, qi6 hb, qs6 hb, qi7 hb, qs7 hb, eN]
    · have e : sRi code g v 0 = vT v := by funext u; unfold sRi; rw [if_neg (by omega)]
      rw [e]
      exact h
  obtain ⟨r, e, S', er, h1, h2⟩ := h0
  rw [er] at e
  exact ⟨S', e, h1, h2⟩
def vPar (v : pV) (T : Nat → Nat) (p : Nat) : pV := (vN v, vF v, vW v, vM v, vA v, T, vS v, p)
theorem CV_P {p : Nat} {T : Nat → Nat} {q : Nat} (h : CV S b (vPar v T q)) : CV (stI S b 7 (nI p)) b (vPar v T p) := by
  refine ⟨?_, ?_, rdI_eq, fun u hu => ?_⟩
  · rw [rdI_ne (by omega)]; exact h.1
  · rw [rdI_ne (by omega)]; exact h.2.1
  · have z := h.2.2.2 u hu
    exact ⟨by rw [rdI_ne (by omega)]; exact z.1, by rw [rdI_ne (by omega)]; exact z.2.1, by rw [rdI_ne (by omega)]; exact z.2.2.1, by rw [rdI_ne (by omega)]; exact z.2.2.2.1, by rw [rdI_ne (by omega)]; exact z.2.2.2.2⟩
theorem C_vil {T0 : Nat → Nat} (hb : SA b) (hb2 : 18 < b ∧ b + 5 < 38) (h : CV S b (vWat v T0)) (hT0 : ∀ w, w < vN v → T0 w ≤ 99) (hc : CG S g) (hg : WG g) (hv : WV g v) (hN : 900 ≤ N) :
    ∃ S', lp_c0_passOne_49 N 37 b 15 N 0 (mk L S) = some (mk L S') ∧ Fr (pS b) S S' ∧ CV S' b (vPar v (sVT g v T0 (gVm g)).1 (min 9999 (vP v + (sVT g v T0 (gVm g)).2))) ∧ ∀ i, i < gVm g → S'.1 38 i = nI (sMu g v (sVT g v T0 i).1 i) ∧ S'.1 39 i = oI (sFr g v (sVT g v T0 i).1 i) := by
  have h8 := hv.1
  have h6 := hg.2.2.2.2.1
  have hP := hv.2.1.1
  have h0 : ∃ r, lp_c0_passOne_49 N 37 b 15 N (nI 0) (mk L S) = some r ∧ ∃ S', r = mk L S' ∧ Fr (pS b) S S' ∧ CV S' b (vPar v (sVT g v T0 (gVm g)).1 (min 9999 (vP v + (sVT g v T0 (gVm g)).2))) ∧ ∀ i, i < gVm g → S'.1 38 i = nI (sMu g v (sVT g v T0 i).1 i) ∧ S'.1 39 i = oI (sFr g v (sVT g v T0 i).1 i) := by
    refine lp_inv (Lp := fun k (s : gS) i => lp_c0_passOne_49 N 37 b 15 k (nI i) (mk L s)) (n := gVm g) (P := fun i s => Fr (pS b) S s ∧ CV s b (vPar v (sVT g v T0 i).1 (min 9999 (vP v + (sVT g v T0 i).2))) ∧ ∀ j, j < i → s.1 38 j = nI (sMu g v (sVT g v T0 j).1 j) ∧ s.1 39 j = oI (sFr g v (sVT g v T0 j).1 j)) (fun k i s hi hs => Or.inr ?_) (fun k s hs => ?_) (gVm g) N 0 S (by omega) (by omega) ⟨Fr.refl, ?_, fun j hj => by omega⟩
    · obtain ⟨hF, hs, hD⟩ := hs
      show ∃ s', lp_c0_passOne_49 N 37 b 15 (k + 1) _ _ = _ ∧ _
      rw [lp_c0_passOne_49.eq_2]
      have hT := sVT_le (g := g) hT0 i
      have hn := sVT_n (g := g) (v := v) (T0 := T0) i
      have hw1 : WV g (vPar v (sVT g v T0 i).1 (min 9999 (vP v + (sVT g v T0 i).2))) := by
        refine ⟨h8, ⟨Nat.min_le_left _ _, hv.2.1.2⟩, fun u hu => ?_⟩
        have z := hv.2.2 u hu
        exact ⟨z.1, z.2.1, z.2.2.1, z.2.2.2.1, z.2.2.2.2.1, hT u hu⟩
      have hc' : CG s g := hc.fr hF (fun x h1 h2 => by show ¬ (_ ∨ _); omega)
      have hH := hg.H hi
      have eN1 := C_near (L := L) (N := N) (f := gHm g i) hb hs hc' hg hw1 (by omega) hN
      have eFr : sNear g (vPar v (sVT g v T0 i).1 (min 9999 (vP v + (sVT g v T0 i).2))) (gHm g i) (vN (vPar v (sVT g v T0 i).1 (min 9999 (vP v + (sVT g v T0 i).2)))) = sFr g v (sVT g v T0 i).1 i := by
        unfold sFr
        have : ∀ (q : Nat) (n : Nat), sNear g (vPar v (sVT g v T0 i).1 q) (gHm g i) n = sNear g (vWat v (sVT g v T0 i).1) (gHm g i) n := by
          intro q n
          induction n with
          | zero => rfl
          | succ n ih => unfold sNear; rw [ih]; rfl
        exact this _ _
      rw [eFr] at eN1
      have hth := hg.2.2.2.2.2 i hi
      have eH : s.1 16 i = nI (gHm g i) := (hc'.2.2.2.1 i hi).1
      have eTh : s.1 17 i = nI (gTh g i) := (hc'.2.2.2.1 i hi).2
      have eV : s.1 15 2 = nI (gVm g) := hc'.2.2.1
      have eP : s.1 b 7 = nI (min 9999 (vP v + (sVT g v T0 i).2)) := hs.2.2.1
      have eM : sMu g v (sVT g v T0 i).1 i = match sFr g v (sVT g v T0 i).1 i with | none => 0 | some b => min (gTh g i) ((sVT g v T0 i).1 b) := rfl
      have eK : sTk g v (sVT g v T0 i).1 i = match sFr g v (sVT g v T0 i).1 i with | none => (sVT g v T0 i).1 | some b => nup (sVT g v T0 i).1 b ((sVT g v T0 i).1 b - sMu g v (sVT g v T0 i).1 i) := rfl
      have hml := sMu_le (g := g) (v := v) (T := (sVT g v T0 i).1) (i := i)
      -- behind the drawing
      have key : ∃ s1, Fr (pS b) s s1 ∧ CV s1 b (vPar v (sTk g v (sVT g v T0 i).1 i) (min 9999 (vP v + (sVT g v T0 i).2))) ∧ (∀ j, s1.1 38 j = s.1 38 j ∧ s1.1 39 j = s.1 39 j) ∧
        ∀ K : Int32 → Int32 → gH → Option gH, ((some (oI (sFr g v (sVT g v T0 i).1 i))).bind fun q14 =>
    (show Option (Int32) from if 0 ≤ q14 then
    (gfR (mk L s) 15 1 4).bind fun v37 =>
    (ga 0 (mk L s) v37 (nI i)).bind fun v38 =>
    (gfR (mk L s) b 7 5).bind fun v39 =>
    (ga 0 (mk L s) v39 q14).bind fun v40 =>
    some (gmin v38 v40)
  else
    some (0 : Int32)).bind fun t16 =>
    (show Option (gH) from if q14 < 0 then
    some (mk L s)
  else
    (gfR (mk L s) b 7 5).bind fun v34 =>
    (ga 0 (mk L s) v34 q14).bind fun v35 =>
    (sa 0 (mk L s) v34 q14 (v35 - t16)).bind fun h36 =>
    some h36).bind fun t19 => K q14 t16 t19) = K (oI (sFr g v (sVT g v T0 i).1 i)) (nI (sMu g v (sVT g v T0 i).1 i)) (mk L s1) := by
        cases hf : sFr g v (sVT g v T0 i).1 i with
        | none =>
          rw [hf] at eM eK
          refine ⟨s, Fr.refl, ?_, fun j => ⟨rfl, rfl⟩, fun K => ?_⟩
          · rw [eK]; exact hs
          · rw [eM]
            rfl
        | some w =>
          rw [hf] at eM eK
          dsimp only at eM eK
          have hw : w < vN v := sNear_lt hf
          have hTw := hT w hw
          have eT : s.1 (b + 5) w = nI ((sVT g v T0 i).1 w) := (hs.2.2.2 w hw).2.2.2.2
          refine ⟨stI s (b + 5) w (nI ((sVT g v T0 i).1 w - sMu g v (sVT g v T0 i).1 i)), Fr.stI (by show _ ∨ _; omega), ?_, fun j => ⟨rdI_ne (by omega), rdI_ne (by omega)⟩, fun K => ?_⟩
          · rw [eK]
            exact CV_T hs
          · have l1 : min (gTh g i) ((sVT g v T0 i).1 w) ≤ (sVT g v T0 i).1 w := Nat.min_le_right _ _
            simp (disch := omega) only [Option.bind_some, ↓ile_t, ↓ile_f, ↓ilt_t, ↓ilt_f, ↓ieq_t, ↓ieq_f, ↓iz_t, ↓iz_f, ↓iltz, ↓izle, ↓ilez_t, ↓ilez_f, ↓im1, ile_t, ile_f, ilt_t, ilt_f, ieq_t, ieq_f, iz_t, iz_f, iltz, izle, ilez_t, ilez_f, im1, gZ_0, gZ_1, e10, e00, ↓reduceIte, Sum.elim_inl, Sum.elim_inr, nI_1, nI_add, Int32.sub_zero, oI, qc hb, qi0 hb, qs0 hb, qr1 hb, qr2 hb, qr3 hb, qr4 hb, qr5 hb, qi6 hb, qs6 hb, qi7 hb, qs7 hb, qg5 hb, qp5 hb, zc15, zi15_0, zs15_0, zi15_1, zs15_1, zi15_2, zs15_2, zr15_3, zr15_4, zr15_5, zg17, eTh, eT, gmin_nI, nI_sub, eM]
      obtain ⟨s1, k1, k2, k3, k4⟩ := key
      have e17 : s1.1 17 i = nI (gTh g i) := (k1.i (by show ¬ (_ ∨ _); omega) i).trans eTh
      have e7 : s1.1 b 7 = nI (min 9999 (vP v + (sVT g v T0 i).2)) := k2.2.2.1
      have eS : sVT g v T0 (i + 1) = (sTk g v (sVT g v T0 i).1 i, (sVT g v T0 i).2 + (if sMu g v (sVT g v T0 i).1 i < gTh g i then 1 else 0)) := rfl
      rw [zi15_2, Option.bind_some, eV, ile_f hi (by omega), zr15_3, Option.bind_some, zg16 (by omega), Option.bind_some, eH, eN1, k4]
      -- behind the counting
      have key2 : ∃ s2, Fr (pS b) s1 s2 ∧ CV s2 b (vPar v (sVT g v T0 (i + 1)).1 (min 9999 (vP v + (sVT g v T0 (i + 1)).2))) ∧ (∀ j, s2.1 38 j = s1.1 38 j ∧ s2.1 39 j = s1.1 39 j) ∧
        ∀ K : gH → Option gH, ((gfR (mk L s1) 15 1 4).bind fun v21 =>
    (ga 0 (mk L s1) v21 (nI i)).bind fun v22 =>
    (show Option (gH) from if v22 ≤ nI (sMu g v (sVT g v T0 i).1 i) then
    some (mk L s1)
  else
    (gfI (mk L s1) b 7 7).bind fun v30 =>
    if (9999 : Int32) ≤ v30 then
    some (mk L s1)
  else
    (gfI (mk L s1) b 7 7).bind fun v32 =>
    (sf (mk L s1) b 7 7 (.int (v32 + (1 : Int32)))).bind fun h33 =>
    some h33).bind fun t24 => K t24) = K (mk L s2) := by
        by_cases z : gTh g i ≤ sMu g v (sVT g v T0 i).1 i
        · refine ⟨s1, Fr.refl, ?_, fun j => ⟨rfl, rfl⟩, fun K => ?_⟩
          · rw [eS]
            show CV s1 b (vPar v _ (min 9999 (vP v + ((sVT g v T0 i).2 + (if _ then 1 else 0)))))
            rw [if_neg (by omega)]
            exact k2
          · simp (disch := omega) only [Option.bind_some, ↓ile_t, ↓ile_f, ↓ilt_t, ↓ilt_f, ↓ieq_t, ↓ieq_f, ↓iz_t, ↓iz_f, ↓iltz, ↓izle, ↓ilez_t, ↓ilez_f, ↓im1, ile_t, ile_f, ilt_t, ilt_f, ieq_t, ieq_f, iz_t, iz_f, iltz, izle, ilez_t, ilez_f, im1, gZ_0, gZ_1, e10, e00, ↓reduceIte, Sum.elim_inl, Sum.elim_inr, nI_1, nI_add, Int32.sub_zero, zc15, zi15_0, zs15_0, zi15_1, zs15_1, zi15_2, zs15_2, zr15_3, zr15_4, zr15_5, zg17, e17]
        · by_cases z2 : 9999 ≤ vP v + (sVT g v T0 i).2
          · refine ⟨s1, Fr.refl, ?_, fun j => ⟨rfl, rfl⟩, fun K => ?_⟩
            · rw [eS]
              show CV s1 b (vPar v _ (min 9999 (vP v + ((sVT g v T0 i).2 + (if _ then 1 else 0)))))
              rw [if_pos (by omega), show min 9999 (vP v + ((sVT g v T0 i).2 + 1)) = min 9999 (vP v + (sVT g v T0 i).2) by omega]
              exact k2
            · simp (disch := omega) only [Option.bind_some, ↓ile_t, ↓ile_f, ↓ilt_t, ↓ilt_f, ↓ieq_t, ↓ieq_f, ↓iz_t, ↓iz_f, ↓iltz, ↓izle, ↓ilez_t, ↓ilez_f, ↓im1, ile_t, ile_f, ilt_t, ilt_f, ieq_t, ieq_f, iz_t, iz_f, iltz, izle, ilez_t, ilez_f, im1, gZ_0, gZ_1, e10, e00, ↓reduceIte, Sum.elim_inl, Sum.elim_inr, nI_1, nI_add, Int32.sub_zero, zc15, zi15_0, zs15_0, zi15_1, zs15_1, zi15_2, zs15_2, zr15_3, zr15_4, zr15_5, qc hb, qi0 hb, qs0 hb, qr1 hb, qr2 hb, qr3 hb, qr4 hb, qr5 hb, qi6 hb, qs6 hb, qi7 hb, qs7 hb, zg17, e17, e7, k9999]
          · refine ⟨stI s1 b 7 (nI (min 9999 (vP v + (sVT g v T0 i).2) + 1)), Fr.stI (by show _ ∨ _; omega), ?_, fun j => ⟨rdI_ne (by omega), rdI_ne (by omega)⟩, fun K => ?_⟩
            · rw [eS]
              show CV _ b (vPar v _ (min 9999 (vP v + ((sVT g v T0 i).2 + (if _ then 1 else 0)))))
              rw [if_pos (by omega), show min 9999 (vP v + ((sVT g v T0 i).2 + 1)) = min 9999 (vP v + (sVT g v T0 i).2) + 1 by omega]
              exact CV_P k2
            · simp (disch := omega) only [Option.bind_some, ↓ile_t, ↓ile_f, ↓ilt_t, ↓ilt_f, ↓ieq_t, ↓ieq_f, ↓iz_t, ↓iz_f, ↓iltz, ↓izle, ↓ilez_t, ↓ilez_f, ↓im1, ile_t, ile_f, ilt_t, ilt_f, ieq_t, ieq_f, iz_t, iz_f, iltz, izle, ilez_t, ilez_f, im1, gZ_0, gZ_1, e10, e00, ↓reduceIte, Sum.elim_inl, Sum.elim_inr, nI_1, nI_add, Int32.sub_zero, zc15, zi15_0, zs15_0, zi15_1, zs15_1, zi15_2, zs15_2, zr15_3, zr15_4, zr15_5, qc hb, qi0 hb, qs0 hb, qr1 hb, qr2 hb, qr3 hb, qr4 hb, qr5 hb, qi6 hb, qs6 hb, qi7 hb, qs7 hb, zg17, e17, e7, k9999]
      obtain ⟨s2, l1, l2, l3, l4⟩ := key2
      refine ⟨stI (stI s2 38 i (nI (sMu g v (sVT g v T0 i).1 i))) 39 i (oI (sFr g v (sVT g v T0 i).1 i)), ?_, ?_, ?_, ?_⟩
      · show ((gfR (mk L s1) 15 1 4).bind fun v21 => _) = _
        rw [l4 (fun t24 => (gfR t24 37 0 0).bind fun v26 =>
    (sa 0 t24 v26 (nI i) (nI (sMu g v (sVT g v T0 i).1 i))).bind fun h27 =>
    (gfR h27 37 0 1).bind fun v28 =>
    (sa 0 h27 v28 (nI i) (oI (sFr g v (sVT g v T0 i).1 i))).bind fun h29 =>
    lp_c0_passOne_49 N 37 b 15 k (nI i + (1 : Int32)) h29)]
        simp (disch := omega) only [Option.bind_some, ↓ile_t, ↓ile_f, ↓ilt_t, ↓ilt_f, ↓ieq_t, ↓ieq_f, ↓iz_t, ↓iz_f, ↓iltz, ↓izle, ↓ilez_t, ↓ilez_f, ↓im1, ile_t, ile_f, ilt_t, ilt_f, ieq_t, ieq_f, iz_t, iz_f, iltz, izle, ilez_t, ilez_f, im1, gZ_0, gZ_1, e10, e00, ↓reduceIte, Sum.elim_inl, Sum.elim_inr, nI_1, nI_add, Int32.sub_zero, zc37, zr37_0, zr37_1, zp38, zp39]
      · exact pS_tr (pS_tr (pS_tr (pS_tr hF k1) l1) (Fr.stI (by show _ ∨ _; omega))) (Fr.stI (by show _ ∨ _; omega))
      · exact l2.fr (Fr.trans (Fr.stI (A := fun x => x = 38 ∨ x = 39) (Or.inl rfl)) (Fr.stI (A := fun x => x = 38 ∨ x = 39) (Or.inr rfl)) (fun _ z => z) (fun _ z => z)) (fun x h1 h2 => by show ¬ (_ ∨ _); omega)
      · intro j hj
        by_cases q : j = i
        · subst q
          rw [rdI_ne (by omega), rdI_eq, rdI_eq]
          exact ⟨rfl, rfl⟩
        · rw [rdI_ne (by omega), rdI_ne (by omega), rdI_ne (by omega), rdI_ne (by omega), (l3 j).1, (l3 j).2, (k3 j).1, (k3 j).2]
          exact hD j (by omega)
    · obtain ⟨hF, hs, hD⟩ := hs
      have hc' : CG s g := hc.fr hF (fun x h1 h2 => by show ¬ (_ ∨ _); omega)
      have eV : s.1 15 2 = nI (gVm g) := hc'.2.2.1
      refine ⟨mk L s, ?_, s, rfl, hF, hs, hD⟩
      show lp_c0_passOne_49 N 37 b 15 (k + 1) _ _ = _
      rw [lp_c0_passOne_49.eq_2]
      simp (disch := omega) only [Option.bind_some, ↓ile_t, ↓ile_f, ↓ilt_t, ↓ilt_f, ↓ieq_t, ↓ieq_f, ↓iz_t, ↓iz_f, ↓iltz, ↓izle, ↓ilez_t, ↓ilez_f, ↓im1, ile_t, ile_f, ilt_t, ilt_f, ieq_t, ieq_f, iz_t, iz_f, iltz, izle, ilez_t, ilez_f, im1, gZ_0, gZ_1, e10, e00, ↓reduceIte, Sum.elim_inl, Sum.elim_inr, nI_1, nI_add, Int32.sub_zero, zc15, zi15_0, zs15_0, zi15_1, zs15_1, zi15_2, zs15_2, zr15_3, zr15_4, zr15_5, eV]
    · show CV S b (vPar v T0 (min 9999 (vP v + 0)))
      rw [show min 9999 (vP v + 0) = vP v by omega]
      exact h
  obtain ⟨r, e, S', er, h1, h2⟩ := h0
  rw [er] at e
  exact ⟨S', e, h1, h2⟩
theorem C_season (ha : a = 136 ∨ a = 140) (hb : SA b) (hb2 : 18 < b ∧ b + 5 < 38) (h : CV S b v) (hc : CG S g) (hg : WG g) (hv : WV g v) (hr : CRu S a code) (hgd : cGood code) (hN : 900 ≤ N) :
    ∃ S', f_c0_passOne N 37 b 15 a (mk L S) = some (mk L S') ∧ Fr (pS b) S S' ∧ CV S' b (vSea code g v) ∧ ∀ i, i < gVm g → S'.1 38 i = nI (sDrew code g v i) ∧ S'.1 39 i = oI (sDrFr code g v i) := by
  obtain ⟨S1, e1, e2, e3⟩ := C_rise (L := L) (N := N) ha hb hb2 h hc hg hv hr hgd hN
  have hc' : CG S1 g := hc.fr e2 (fun x h1 h2 => by show ¬ (_ ∨ _); omega)
  obtain ⟨S2, f1, f2, f3, f4⟩ := C_vil (L := L) (N := N) hb hb2 e3 (fun w hw => sRi_le hv _ w hw) hc' hg hv hN
  have eS : S2.1 b 6 = nI (vS v) := f3.2.1
  refine ⟨stI S2 b 6 (nI (vS v + 1)), ?_, pS_tr (pS_tr e2 f2) (Fr.stI (by show _ ∨ _; omega)), ?_, fun i hi => ?_⟩
  · simp (disch := omega) only [Option.bind_some, ↓ile_t, ↓ile_f, ↓ilt_t, ↓ilt_f, ↓ieq_t, ↓ieq_f, ↓iz_t, ↓iz_f, ↓iltz, ↓izle, ↓ilez_t, ↓ilez_f, ↓im1, ile_t, ile_f, ilt_t, ilt_f, ieq_t, ieq_f, iz_t, iz_f, iltz, izle, ilez_t, ilez_f, im1, gZ_0, gZ_1, e10, e00, ↓reduceIte, Sum.elim_inl, Sum.elim_inr, nI_1, nI_add, Int32.sub_zero, f_c0_passOne, zc37, zr37_0, zr37_1, e1, f1, qc hb, qi0 hb, qs0 hb, qr1 hb, qr2 hb, qr3 hb, qr4 hb, qr5 hb, qi6 hb, qs6 hb, qi7 hb, qs7 hb, eS]
  · refine ⟨?_, rdI_eq, ?_, fun u hu => ?_⟩
    · rw [rdI_ne (by omega)]; exact f3.1
    · rw [rdI_ne (by omega)]; exact f3.2.2.1
    · have z := f3.2.2.2 u hu
      exact ⟨by rw [rdI_ne (by omega)]; exact z.1, by rw [rdI_ne (by omega)]; exact z.2.1, by rw [rdI_ne (by omega)]; exact z.2.2.1, by rw [rdI_ne (by omega)]; exact z.2.2.2.1, by rw [rdI_ne (by omega)]; exact z.2.2.2.2⟩
  · rw [rdI_ne (by omega), rdI_ne (by omega)]
    exact f4 i hi
-- ===== seasons =====
end CSEA
def vSeas (code : List Int32) (g : pG) (v : pV) : Nat → pV
  | 0 => v
  | n + 1 => vSea code g (vSeas code g v n)
theorem WV.seas {code : List Int32} {g : pG} {v : pV} (h : WV g v) : ∀ n, WV g (vSeas code g v n) := by
  intro n
  induction n with
  | zero => exact h
  | succ n ih => exact ih.sea
theorem vSeas_N {code : List Int32} {g : pG} {v : pV} : ∀ n, vN (vSeas code g v n) = vN v := by
  intro n
  induction n with
  | zero => rfl
  | succ n ih => exact ih
theorem vSeas_P {code : List Int32} {g : pG} {v : pV} (h : WV g v) : ∀ n, vP v ≤ vP (vSeas code g v n) := by
  intro n
  induction n with
  | zero => exact Nat.le_refl _
  | succ n ih =>
    have := (h.seas (code := code) n).2.1.1
    show vP v ≤ min 9999 (vP (vSeas code g v n) + _)
    omega
def sMore (code : List Int32) (g : pG) (v : pV) (n : Nat) : Nat := vP (vSeas code g v n) - vP v
section CSEAS
variable {L N a b : Nat} {S : gS} {g : pG} {v : pV} {code : List Int32}
theorem C_pass {n : Nat} (ha : a = 136 ∨ a = 140) (hb : SA b) (hb2 : 18 < b ∧ b + 5 < 38) (h : CV S b v) (hc : CG S g) (hg : WG g) (hv : WV g v) (hr : CRu S a code) (hgd : cGood code) (hn : n ≤ 800) (hN : 900 ≤ N) :
    ∃ S', f_c0_pass N 37 b 15 a (nI n) (mk L S) = some (nI (sMore code g v n), mk L S') ∧ Fr (pS b) S S' ∧ CV S' b (vSeas code g v n) ∧ ∀ m, n = m + 1 → ∀ i, i < gVm g → S'.1 38 i = nI (sDrew code g (vSeas code g v m) i) ∧ S'.1 39 i = oI (sDrFr code g (vSeas code g v m) i) := by
  have h0 : ∃ r, lp_c0_pass_9 N 37 b 15 a (nI n) N (nI 0) (mk L S) = some r ∧ ∃ S', r = mk L S' ∧ Fr (pS b) S S' ∧ CV S' b (vSeas code g v n) ∧ ∀ m, n = m + 1 → ∀ i, i < gVm g → S'.1 38 i = nI (sDrew code g (vSeas code g v m) i) ∧ S'.1 39 i = oI (sDrFr code g (vSeas code g v m) i) := by
    refine lp_inv (Lp := fun k (s : gS) i => lp_c0_pass_9 N 37 b 15 a (nI n) k (nI i) (mk L s)) (n := n) (P := fun i s => Fr (pS b) S s ∧ CV s b (vSeas code g v i) ∧ ∀ m, i = m + 1 → ∀ j, j < gVm g → s.1 38 j = nI (sDrew code g (vSeas code g v m) j) ∧ s.1 39 j = oI (sDrFr code g (vSeas code g v m) j)) (fun k i s hi hs => Or.inr ?_) (fun k s hs => ?_) n N 0 S (by omega) (by omega) ⟨Fr.refl, h, fun m hm => by omega⟩
    · obtain ⟨hF, hs, hD⟩ := hs
      have hc' : CG s g := hc.fr hF (fun x h1 h2 => by show ¬ (_ ∨ _); omega)
      have hr' : CRu s a code := hr.fr hF ⟨by show ¬ (_ ∨ _); omega, by show ¬ (_ ∨ _); omega⟩
      obtain ⟨s1, e1, e2, e3, e4⟩ := C_season (L := L) (N := N) ha hb hb2 hs hc' hg (hv.seas i) hr' hgd hN
      refine ⟨s1, ?_, pS_tr hF e2, e3, fun m hm => ?_⟩
      · show lp_c0_pass_9 N 37 b 15 a (nI n) (k + 1) _ _ = _
        rw [lp_c0_pass_9.eq_2]
        simp (disch := omega) only [Option.bind_some, ↓ile_t, ↓ile_f, ↓ilt_t, ↓ilt_f, ↓ieq_t, ↓ieq_f, ↓iz_t, ↓iz_f, ↓iltz, ↓izle, ↓ilez_t, ↓ilez_f, ↓im1, ile_t, ile_f, ilt_t, ilt_f, ieq_t, ieq_f, iz_t, iz_f, iltz, izle, ilez_t, ilez_f, im1, gZ_0, gZ_1, e10, e00, ↓reduceIte, Sum.elim_inl, Sum.elim_inr, nI_1, nI_add, Int32.sub_zero, e1]
      · obtain rfl : m = i := by omega
        exact e4
    · obtain ⟨hF, hs, hD⟩ := hs
      refine ⟨mk L s, ?_, s, rfl, hF, hs, hD⟩
      show lp_c0_pass_9 N 37 b 15 a (nI n) (k + 1) _ _ = _
      rw [lp_c0_pass_9.eq_2]
      simp (disch := omega) only [Option.bind_some, ↓ile_t, ↓ile_f, ↓ilt_t, ↓ilt_f, ↓ieq_t, ↓ieq_f, ↓iz_t, ↓iz_f, ↓iltz, ↓izle, ↓ilez_t, ↓ilez_f, ↓im1, ile_t, ile_f, ilt_t, ilt_f, ieq_t, ieq_f, iz_t, iz_f, iltz, izle, ilez_t, ilez_f, im1, gZ_0, gZ_1, e10, e00, ↓reduceIte, Sum.elim_inl, Sum.elim_inr, nI_1, nI_add, Int32.sub_zero, ]
  obtain ⟨r, e, S', er, h1, h2, h3⟩ := h0
  rw [er] at e
  rw [nI_0] at e
  have eP : S'.1 b 7 = nI (vP (vSeas code g v n)) := h2.2.2.1
  have eP0 : S.1 b 7 = nI (vP v) := h.2.2.1
  have hl := vSeas_P (code := code) hv n
  refine ⟨S', ?_, h1, h2, h3⟩
  simp (disch := omega) only [Option.bind_some, ↓ile_t, ↓ile_f, ↓ilt_t, ↓ilt_f, ↓ieq_t, ↓ieq_f, ↓iz_t, ↓iz_f, ↓iltz, ↓izle, ↓ilez_t, ↓ilez_f, ↓im1, ile_t, ile_f, ilt_t, ilt_f, ieq_t, ieq_f, iz_t, iz_f, iltz, izle, ilez_t, ilez_f, im1, gZ_0, gZ_1, e10, e00, ↓reduceIte, Sum.elim_inl, Sum.elim_inr, nI_1, nI_add, Int32.sub_zero, f_c0_pass, zc37, zr37_0, zr37_1, qc hb, qi0 hb, qs0 hb, qr1 hb, qr2 hb, qr3 hb, qr4 hb, qr5 hb, qi6 hb, qs6 hb, qi7 hb, qs7 hb, eP0, e, eP, nI_sub, sMore]
end CSEAS
