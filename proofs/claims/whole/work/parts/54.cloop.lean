/-! A RULE of the class read: the text through; what it comes to -/
section CLOOP
variable {L N a b : Nat} {S : gS}
theorem cFin_d {t : Nat → Nat} {over : Bool} {p d : Nat} {s : cS} : cFin t over p (d + 1) s = (match cStep s (t p) with | none => .inr p | some s' => cFin t over (p + 1) d s') := rfl
theorem C_readlp {t : Nat → Nat} {over : Bool} {n : Nat} (ha : RA a) (hn : n ≤ 40) (hN : 900 ≤ N) (ht : ∀ j, j < n → t j < 256) : ∀ (e p k : Nat) (S : gS) (s : cS), p + e = n → e < k → RS S a s → cSz s ≤ p → (∀ S' j, Fr (pR a) S S' → j < n → gaC (mk L S') b (nI j) = some (nI (t j))) →
    ∃ S', Fr (pR a) S S' ∧ ((∃ q, lp_c6_read_45 N a b (nI n) k (nI p) (mk L S) = some (.inl (nI q, mk L S')) ∧ cFin t over p e s = .inr q ∧ q < n) ∨ (∃ s', lp_c6_read_45 N a b (nI n) k (nI p) (mk L S) = some (.inr (mk L S')) ∧ RS S' a s' ∧ cSz s' ≤ n ∧ cFin t over p e s = cFin t over n 0 s')) := by
  intro e
  induction e with
  | zero =>
    intro p k S s hp hk h hs hb
    obtain ⟨k, rfl⟩ : ∃ i, k = i + 1 := ⟨k - 1, by omega⟩
    obtain rfl : p = n := by omega
    refine ⟨S, Fr.refl, Or.inr ⟨s, ?_, h, hs, rfl⟩⟩
    rw [lp_c6_read_45.eq_2, ile_t (Nat.le_refl _) (by omega)]
  | succ e ih =>
    intro p k S s hp hk h hs hb
    obtain ⟨k, rfl⟩ : ∃ i, k = i + 1 := ⟨k - 1, by omega⟩
    have eb := hb S p Fr.refl (by omega)
    have hl : s.1.length + s.2.1.length ≤ p := hs
    have h256 := ht p (by omega)
    obtain ⟨O, W, m0, m, d, w⟩ := s
    have e8 : S.1 a 8 = (if w then 1 else 0) := h.2.2.2.2.2.2
    rw [cFin_d, lp_c6_read_45.eq_2, ile_f (by omega) (by omega)]
    have key : StepR L S a (O, W, m0, m, d, w) (if w = true then f_c6_takeThing N a (nI (t p)) (mk L S) else f_c6_takeBehind N a (nI (t p)) (mk L S)) (cStep (O, W, m0, m, d, w) (t p)) := by
      cases w with
      | true => rw [if_pos rfl]; exact C_takeThing ha h (by show O.length + W.length < 40; have : O.length + W.length ≤ p := hl; omega) h256
      | false => rw [if_neg (by decide)]; exact C_takeBehind ha h (by show O.length + W.length < 40; have : O.length + W.length ≤ p := hl; omega) h256 hN
    have gl : ∀ (o : Option (Int32 × gH)), (if w = true then f_c6_takeThing N a (nI (t p)) (mk L S) else f_c6_takeBehind N a (nI (t p)) (mk L S)) = o → ((gfI (mk L S) a 6 8).bind fun v10 =>
    (show Option (Int32 × gH) from if v10 = 0 then
    (gaC (mk L S) b (nI p)).bind fun v15 =>
    (f_c6_takeBehind N a v15 (mk L S)).bind fun q16 =>
    some (q16.1, q16.2)
  else
    (gaC (mk L S) b (nI p)).bind fun v17 =>
    (f_c6_takeThing N a v17 (mk L S)).bind fun q18 =>
    some (q18.1, q18.2)).bind fun t12 =>
    if t12.1 = 0 then
    some (Sum.inl (nI p, t12.2))
  else
    lp_c6_read_45 N a b (nI n) k (nI p + (1 : Int32)) t12.2) = o.bind (fun t12 => if t12.1 = 0 then some (Sum.inl (nI p, t12.2)) else lp_c6_read_45 N a b (nI n) k (nI (p + 1)) t12.2) := by
      intro o ho
      rw [yi8 ha, Option.bind_some, e8, eb]
      cases w with
      | true =>
        rw [if_pos rfl] at ho
        rw [if_pos rfl, if_neg (by decide), Option.bind_some, ho, nI_1]
        cases o <;> rfl
      | false =>
        rw [if_neg (by decide)] at ho
        rw [show (if false = true then (1 : Int32) else 0) = 0 from rfl, if_pos rfl, Option.bind_some, ho, nI_1]
        cases o <;> rfl
    rw [gl _ rfl]
    cases hc : cStep (O, W, m0, m, d, w) (t p) with
    | none =>
      rw [hc] at key
      obtain ⟨S', e1, e2⟩ := key
      refine ⟨S', e2, Or.inl ⟨p, ?_, rfl, by omega⟩⟩
      rw [e1]
      simp only [Option.bind_some, e00, ↓reduceIte]
    | some s' =>
      rw [hc] at key
      obtain ⟨S1, e1, e2, e3, e4⟩ := key
      obtain ⟨S', f1, f2⟩ := ih (p + 1) k S1 s' (by omega) (by omega) e3 (by have : cSz (O, W, m0, m, d, w) ≤ p := hs; omega) (fun S2 j g1 g2 => hb S2 j (pR_tr e2 g1) g2)
      refine ⟨S', pR_tr e2 f1, ?_⟩
      rw [e1, show ((some ((1 : Int32), mk L S1)).bind fun t12 => if t12.1 = 0 then some (Sum.inl (nI p, t12.2)) else lp_c6_read_45 N a b (nI n) k (nI (p + 1)) t12.2) = lp_c6_read_45 N a b (nI n) k (nI (p + 1)) (mk L S1) by simp only [Option.bind_some, e10, ↓reduceIte]]
      exact f2
theorem C_read {t : Nat → Nat} {len cap : Nat} (ha : RA a) (hN : 900 ≤ N) (hlen : len ≤ 80) (hcap : min len 40 ≤ cap) (hcap2 : cap ≤ 80) (ht : ∀ j, j < len → t j < 256) (hn : ∀ S', gn (mk L S') b = some (nI cap)) (hb : ∀ S' j, Fr (pR a) S S' → j < min len 40 → gaC (mk L S') b (nI j) = some (nI (t j))) :
    match cRead t len with
    | .inr q => ∃ S', f_c6_read N a b (nI len) (mk L S) = some (nI q, mk L S') ∧ Fr (pR a) S S' ∧ q < 1000
    | .inl code => ∃ S', f_c6_read N a b (nI len) (mk L S) = some (-1, mk L S') ∧ Fr (pR a) S S' ∧ S'.1 a 3 = nI code.length ∧ code.length ≤ 40 ∧ Cod (S'.1 (a + 1)) 0 code := by
  have r0 : RS (stI (stI (stI (stI (stI (stI S a 3 0) a 4 0) a 5 0) a 6 0) a 7 0) a 8 1) a ([], [], 0, fun _ => false, 0, true) := by
    refine ⟨⟨?_, trivial, ?_, trivial, fun x hx => by cases hx⟩, ?_, by show 0 ≤ 4; omega, ?_, ?_, by show 0 ≤ 3; omega, ?_⟩
    all_goals simp (disch := omega) only [rdI_ne, rdI_eq]
    all_goals first | rfl | decide
  have f0 : Fr (pR a) S (stI (stI (stI (stI (stI (stI S a 3 0) a 4 0) a 5 0) a 6 0) a 7 0) a 8 1) := pR_tr (pR_tr (pR_tr (pR_tr (pR_tr pR_st pR_st) pR_st) pR_st) pR_st) pR_st
  have g0 : gmin (gmin (nI len) 40) (nI cap) = nI (min len 40) := by
    rw [k40, gmin_nI (by omega) (by omega), gmin_nI (by omega) (by omega)]
    congr 1
    omega
  obtain ⟨S', f1, f2⟩ := C_readlp (L := L) (N := N) (b := b) (t := t) (over := decide (40 < len)) (n := min len 40) ha (by omega) hN (fun j hj => ht j (by omega)) (min len 40) 0 N _ _ (by omega) (by omega) r0 (Nat.le_refl 0) (fun S' j h1 h2 => hb S' j (pR_tr f0 h1) h2)
  rw [nI_0] at f2
  unfold cRead
  rcases f2 with ⟨q, e1, e2, e3⟩ | ⟨s', e1, e2, e3, e4⟩
  · rw [e2]
    refine ⟨S', ?_, pR_tr f0 f1, by omega⟩
    simp (disch := omega) only [Option.bind_some, ↓ile_t, ↓ile_f, ↓ilt_t, ↓ilt_f, ↓ieq_t, ↓ieq_f, ↓iz_t, ↓iz_f, ↓iltz, ↓izle, ↓ilez_t, ↓ilez_f, ↓im1, ile_t, ile_f, ilt_t, ilt_f, ieq_t, ieq_f, iz_t, iz_f, iltz, izle, ilez_t, ilez_f, im1, gZ_0, gZ_1, e10, e00, ↓reduceIte, Sum.elim_inl, Sum.elim_inr, nI_1, nI_add, Int32.sub_zero, f_c6_read, yc ha, yr0 ha, yr1 ha, yr2 ha, yi3 ha, ys3 ha, yi4 ha, ys4 ha, yi5 ha, ys5 ha, yi6 ha, ys6 ha, yi7 ha, ys7 ha, yi8 ha, ys8 ha, hn, g0, e1]
  · rw [e4]
    obtain ⟨O, W, n, m, d, w⟩ := s'
    have hl : O.length + W.length ≤ min len 40 := e3
    have e8 : S'.1 a 8 = (if w then 1 else 0) := e2.2.2.2.2.2.2
    have e5 : S'.1 a 5 = nI n := e2.2.1
    have e6 : n ≤ 4 := e2.2.2.1
    show (match (if decide (40 < len) = true ∨ w = true ∨ 0 < n then Sum.inr (min len 40) else Sum.inl (cRel 1 W O).1.reverse : List Int32 ⊕ Nat) with | .inr q => _ | .inl code => _)
    by_cases y1 : 40 < len
    · rw [if_pos (Or.inl (decide_eq_true y1))]
      refine ⟨S', ?_, pR_tr f0 f1, by omega⟩
      have y2 : (40 : Int32) < nI len := nI_lt (a := 40) y1 (by omega)
      simp (disch := omega) only [Option.bind_some, ↓ile_t, ↓ile_f, ↓ilt_t, ↓ilt_f, ↓ieq_t, ↓ieq_f, ↓iz_t, ↓iz_f, ↓iltz, ↓izle, ↓ilez_t, ↓ilez_f, ↓im1, ile_t, ile_f, ilt_t, ilt_f, ieq_t, ieq_f, iz_t, iz_f, iltz, izle, ilez_t, ilez_f, im1, gZ_0, gZ_1, e10, e00, ↓reduceIte, Sum.elim_inl, Sum.elim_inr, nI_1, nI_add, Int32.sub_zero, f_c6_read, yc ha, yr0 ha, yr1 ha, yr2 ha, yi3 ha, ys3 ha, yi4 ha, ys4 ha, yi5 ha, ys5 ha, yi6 ha, ys6 ha, yi7 ha, ys7 ha, yi8 ha, ys8 ha, hn, g0, e1, if_pos y2]
    · have y2 : ¬ (40 : Int32) < nI len := nI_nlt (a := 40) (by omega) (by omega)
      by_cases y3 : w = true
      · rw [if_pos (Or.inr (Or.inl y3))]
        rw [y3, if_pos rfl] at e8
        refine ⟨S', ?_, pR_tr f0 f1, by omega⟩
        simp (disch := omega) only [Option.bind_some, ↓ile_t, ↓ile_f, ↓ilt_t, ↓ilt_f, ↓ieq_t, ↓ieq_f, ↓iz_t, ↓iz_f, ↓iltz, ↓izle, ↓ilez_t, ↓ilez_f, ↓im1, ile_t, ile_f, ilt_t, ilt_f, ieq_t, ieq_f, iz_t, iz_f, iltz, izle, ilez_t, ilez_f, im1, gZ_0, gZ_1, e10, e00, ↓reduceIte, Sum.elim_inl, Sum.elim_inr, nI_1, nI_add, Int32.sub_zero, f_c6_read, yc ha, yr0 ha, yr1 ha, yr2 ha, yi3 ha, ys3 ha, yi4 ha, ys4 ha, yi5 ha, ys5 ha, yi6 ha, ys6 ha, yi7 ha, ys7 ha, yi8 ha, ys8 ha, hn, g0, e1, if_neg y2, e8, e10]
      · rw [if_neg y3] at e8
        by_cases y4 : 0 < n
        · rw [if_pos (Or.inr (Or.inr y4))]
          refine ⟨S', ?_, pR_tr f0 f1, by omega⟩
          simp (disch := omega) only [Option.bind_some, ↓ile_t, ↓ile_f, ↓ilt_t, ↓ilt_f, ↓ieq_t, ↓ieq_f, ↓iz_t, ↓iz_f, ↓iltz, ↓izle, ↓ilez_t, ↓ilez_f, ↓im1, ile_t, ile_f, ilt_t, ilt_f, ieq_t, ieq_f, iz_t, iz_f, iltz, izle, ilez_t, ilez_f, im1, gZ_0, gZ_1, e10, e00, ↓reduceIte, Sum.elim_inl, Sum.elim_inr, nI_1, nI_add, Int32.sub_zero, f_c6_read, yc ha, yr0 ha, yr1 ha, yr2 ha, yi3 ha, ys3 ha, yi4 ha, ys4 ha, yi5 ha, ys5 ha, yi6 ha, ys6 ha, yi7 ha, ys7 ha, yi8 ha, ys8 ha, hn, g0, e1, if_neg y2, e8, e00, e5]
        · rw [if_neg (by rintro (z | z | z); exact y1 (of_decide_eq_true z); exact y3 z; exact y4 z)]
          obtain ⟨S2, g1, g2, g3⟩ := C_release (L := L) (N := N) (r := 1) ha e2.1 (by show O.length + W.length ≤ 40; omega) (by omega) hN
          have hlen2 := cRel_len (k := 1) W O
          refine ⟨S2, ?_, pR_tr (pR_tr f0 f1) g3.1, ?_, ?_, ?_⟩
          · rw [← k1] at g1
            have e0 : n = 0 := by omega
            simp (disch := omega) only [Option.bind_some, ↓ile_t, ↓ile_f, ↓ilt_t, ↓ilt_f, ↓ieq_t, ↓ieq_f, ↓iz_t, ↓iz_f, ↓iltz, ↓izle, ↓ilez_t, ↓ilez_f, ↓im1, ile_t, ile_f, ilt_t, ilt_f, ieq_t, ieq_f, iz_t, iz_f, iltz, izle, ilez_t, ilez_f, im1, gZ_0, gZ_1, e10, e00, ↓reduceIte, Sum.elim_inl, Sum.elim_inr, nI_1, nI_add, Int32.sub_zero, f_c6_read, yc ha, yr0 ha, yr1 ha, yr2 ha, yi3 ha, ys3 ha, yi4 ha, ys4 ha, yi5 ha, ys5 ha, yi6 ha, ys6 ha, yi7 ha, ys7 ha, yi8 ha, ys8 ha, hn, g0, e1, if_neg y2, e8, e00, e5, g1]
          · rw [List.length_reverse]; exact g2.1
          · rw [List.length_reverse]; omega
          · have := Stk.cod (cRel 1 W O).1.reverse [] (f := S2.1 (a + 1)) (by rw [List.reverse_reverse, List.append_nil]; exact g2.2.1)
            exact this
end CLOOP
/-! what a rule comes to at a well -/
def askOf (g : pG) (v : pV) (w : Nat) : Nat → Int32 := fun k => if k = 0 then nI (vW v w) else if k = 1 then nI (sDepth v w) else if k = 2 then nI (vA v w) else if k = 3 then nI (vM v w) else if k = 4 then nI (sCrowd g (vF v w)) else if k = 5 then nI (vT v w) else nI (vS v) - nI (vS v) / 4 * 4
def CRu (S : gS) (a : Nat) (code : List Int32) : Prop := S.1 a 3 = nI code.length ∧ code.length ≤ 40 ∧ Cod (S.1 (a + 1)) 0 code
section CFLOW
variable {L N a b : Nat} {S : gS} {g : pG} {v : pV}
theorem C_rank2 {x : Int32} {h : gH} : f_c6_rank N x h = some (nI (pRank x)) := by
  unfold f_c6_rank pRank
  repeat' split
  all_goals rfl
theorem C_apply {c x y : Int32} {h : gH} : f_c6_apply N c x y h = some (pApp c x y) := by
  unfold f_c6_apply pApp
  repeat' split
  all_goals first | rfl | skip
  · rename_i z
    show ((gNZ y).bind fun _ => some (x / y)).bind _ = _
    rw [gNZ_z z]
    rfl
theorem C_thing {w : Nat} {x : Int32} (hb : SA b) (h : CV S b v) (hc : CG S g) (hg : WG g) (hv : WV g v) (hw : w < vN v) : f_c6_thing N x b (nI w) 15 (mk L S) = some (pThing (askOf g v w) x) := by
  have h8 := hv.1
  have hd := C_depth (L := L) (N := N) hb h hv hw
  have hF := (hv.2.2 w hw).1
  obtain ⟨z1, z2, z3, z4, z5⟩ := h.2.2.2 w hw
  have g4 : gNZ (4 : Int32) = some () := by decide
  unfold f_c6_thing pThing
  repeat' split
  all_goals (try simp (disch := omega) only [Option.bind_some, ↓ile_t, ↓ile_f, ↓ilt_t, ↓ilt_f, ↓ieq_t, ↓ieq_f, ↓iz_t, ↓iz_f, ↓iltz, ↓izle, ↓ilez_t, ↓ilez_f, ↓im1, ile_t, ile_f, ilt_t, ilt_f, ieq_t, ieq_f, iz_t, iz_f, iltz, izle, ilez_t, ilez_f, im1, gZ_0, gZ_1, e10, e00, ↓reduceIte, Sum.elim_inl, Sum.elim_inr, nI_1, nI_add, Int32.sub_zero, qc hb, qi0 hb, qs0 hb, qr1 hb, qr2 hb, qr3 hb, qr4 hb, qr5 hb, qi6 hb, qs6 hb, qi7 hb, qs7 hb, qg1 hb, qg2 hb, qg3 hb, qg4 hb, qg5 hb, z1, z2, z3, z4, z5, hd, C_crowdAt hc hg hF, g4, h.2.1])
  all_goals rfl
theorem C_flowlp {w : Nat} (ha : RA a) (hb : SA b) (hab : a + 3 < b ∨ b + 5 < a) (ha15 : 18 < a) (h : CV S b v) (hc : CG S g) (hg : WG g) (hv : WV g v) (hw : w < vN v) {n : Nat} (hn : n ≤ 40) (h3 : S.1 a 3 = nI n) :
    ∀ (cs s : List Int32) (i k : Nat) (S1 : gS) (s' : List Int32), Fr (fun x => x = a + 3) S S1 → Stk (S1.1 (a + 3)) s → Cod (S.1 (a + 1)) i cs → s.length ≤ i → i + cs.length = n → cs.length < k → pev (askOf g v w) cs s = some s' →
      ∃ S', lp_c6_flow_6 N a b (nI w) 15 k (nI s.length) (nI i) (mk L S1) = some (mk L S') ∧ Fr (fun x => x = a + 3) S S' ∧ Stk (S'.1 (a + 3)) s' := by
  intro cs
  induction cs with
  | nil =>
    intro s i k S1 s' hF hS hC hi hn2 hk hp
    obtain ⟨k, rfl⟩ : ∃ j, k = j + 1 := ⟨k - 1, by omega⟩
    rw [List.length_nil] at hn2
    obtain rfl := Option.some.inj hp
    refine ⟨S1, ?_, hF, hS⟩
    have e3 : S1.1 a 3 = nI n := (hF.i (by omega) 3).trans h3
    rw [lp_c6_flow_6.eq_2]
    simp (disch := omega) only [Option.bind_some, ↓ile_t, ↓ile_f, ↓ilt_t, ↓ilt_f, ↓ieq_t, ↓ieq_f, ↓iz_t, ↓iz_f, ↓iltz, ↓izle, ↓ilez_t, ↓ilez_f, ↓im1, ile_t, ile_f, ilt_t, ilt_f, ieq_t, ieq_f, iz_t, iz_f, iltz, izle, ilez_t, ilez_f, im1, gZ_0, gZ_1, e10, e00, ↓reduceIte, Sum.elim_inl, Sum.elim_inr, nI_1, nI_add, Int32.sub_zero, yc ha, yr0 ha, yr1 ha, yr2 ha, yi3 ha, ys3 ha, yi4 ha, ys4 ha, yi5 ha, ys5 ha, yi6 ha, ys6 ha, yi7 ha, ys7 ha, yi8 ha, ys8 ha, e3]
  | cons x cs ih =>
    intro s i k S1 s' hF hS hC hi hn2 hk hp
    obtain ⟨k, rfl⟩ : ∃ j, k = j + 1 := ⟨k - 1, by omega⟩
    rw [List.length_cons] at hn2 hk
    have e3 : S1.1 a 3 = nI n := (hF.i (by omega) 3).trans h3
    have ex : S1.1 (a + 1) i = x := (hF.i (by omega) i).trans hC.1
    have h' : CV S1 b v := h.fr hF (fun x h1 h2 => by omega)
    have hc' : CG S1 g := hc.fr hF (fun x h1 h2 => by omega)
    have eT := fun y => C_thing (L := L) (N := N) (x := y) hb h' hc' hg hv hw
    change (pst (askOf g v w) x s).bind (pev (askOf g v w) cs) = some s' at hp
    rw [lp_c6_flow_6.eq_2]
    -- a thing pushed
    have push : ∀ y : Int32, pst (askOf g v w) x s = some (y :: s) → ∃ S', lp_c6_flow_6 N a b (nI w) 15 k (nI (s.length + 1)) (nI (i + 1)) (mk L (stI S1 (a + 3) s.length y)) = some (mk L S') ∧ Fr (fun x => x = a + 3) S S' ∧ Stk (S'.1 (a + 3)) s' := by
      intro y hy
      rw [hy] at hp
      exact ih (y :: s) (i + 1) k (stI S1 (a + 3) s.length y) s' (hF.trans (Fr.stI (A := fun x => x = a + 3) rfl) (fun _ z => z) (fun _ z => z)) ⟨rdI_eq, hS.congr (fun j hj => rdI_ne (Or.inr (by omega)))⟩ hC.2 (by rw [List.length_cons]; omega) (by omega) (by omega) hp
    by_cases y0 : 0 ≤ x
    · have hy : pst (askOf g v w) x s = some (x :: s) := by unfold pst; rw [if_pos y0]
      obtain ⟨S', e1, e2⟩ := push x hy
      refine ⟨S', ?_, e2⟩
      have n4 : ¬ (0 : Int32) = 4 := by decide
      have z0 : (0 : Int32) ≤ 0 := by decide
      simp (disch := omega) only [Option.bind_some, ↓ile_t, ↓ile_f, ↓ilt_t, ↓ilt_f, ↓ieq_t, ↓ieq_f, ↓iz_t, ↓iz_f, ↓iltz, ↓izle, ↓ilez_t, ↓ilez_f, ↓im1, ile_t, ile_f, ilt_t, ilt_f, ieq_t, ieq_f, iz_t, iz_f, iltz, izle, ilez_t, ilez_f, im1, gZ_0, gZ_1, e10, e00, ↓reduceIte, Sum.elim_inl, Sum.elim_inr, nI_1, nI_add, Int32.sub_zero, yc ha, yr0 ha, yr1 ha, yr2 ha, yi3 ha, ys3 ha, yi4 ha, ys4 ha, yi5 ha, ys5 ha, yi6 ha, ys6 ha, yi7 ha, ys7 ha, yi8 ha, ys8 ha, yg1 ha, yn3 ha, yp3 ha, e3, ex, if_pos y0, if_neg n4, if_pos z0, e1]
    · by_cases y4 : pRank (-x) = 4
      · have e4 : nI (pRank (-x)) = 4 := by rw [y4]; rfl
        cases s with
        | nil =>
          have : pst (askOf g v w) x [] = none := by unfold pst; rw [if_neg y0, if_pos y4]
          rw [this] at hp
          cases hp
        | cons y s =>
          have hy : pst (askOf g v w) x (y :: s) = some (-y :: s) := by unfold pst; rw [if_neg y0, if_pos y4]
          rw [hy] at hp
          have hl : (y :: s).length = s.length + 1 := rfl
          rw [hl] at hi ⊢
          have ey : S1.1 (a + 3) s.length = y := hS.1
          obtain ⟨S', e1, e2⟩ := ih (-y :: s) (i + 1) k (stI S1 (a + 3) s.length (-y)) s' (hF.trans (Fr.stI (A := fun x => x = a + 3) rfl) (fun _ z => z) (fun _ z => z)) ⟨rdI_eq, hS.2.congr (fun j hj => rdI_ne (Or.inr (by omega)))⟩ hC.2 (by rw [List.length_cons]; omega) (by omega) (by omega) hp
          refine ⟨S', ?_, e2⟩
          have n1 : ¬ nI (s.length + 1) < 1 := nI_nlt (b := 1) (by omega) (by omega)
          rw [List.length_cons] at e1
          simp (disch := omega) only [Option.bind_some, ↓ile_t, ↓ile_f, ↓ilt_t, ↓ilt_f, ↓ieq_t, ↓ieq_f, ↓iz_t, ↓iz_f, ↓iltz, ↓izle, ↓ilez_t, ↓ilez_f, ↓im1, ile_t, ile_f, ilt_t, ilt_f, ieq_t, ieq_f, iz_t, iz_f, iltz, izle, ilez_t, ilez_f, im1, gZ_0, gZ_1, e10, e00, ↓reduceIte, Sum.elim_inl, Sum.elim_inr, nI_1, nI_add, Int32.sub_zero, yc ha, yr0 ha, yr1 ha, yr2 ha, yi3 ha, ys3 ha, yi4 ha, ys4 ha, yi5 ha, ys5 ha, yi6 ha, ys6 ha, yi7 ha, ys7 ha, yi8 ha, ys8 ha, yg1 ha, yg3 ha, yp3 ha, e3, ex, if_neg y0, C_rank2, if_pos e4, if_neg n1, nI_sub1, Nat.add_sub_cancel, ey, e1]
      · have hpr : pRank (-x) ≤ 4 := by unfold pRank; (repeat' split) <;> omega
        have e4 : ¬ nI (pRank (-x)) = 4 := by
          exact fun z => y4 ((nI_eq (b := 4) (by omega) (by omega)).mp z)
        by_cases y1 : pRank (-x) = 0
        · have hy : pst (askOf g v w) x s = some (pThing (askOf g v w) (-x) :: s) := by unfold pst; rw [if_neg y0, if_neg y4, if_pos y1]
          obtain ⟨S', e1, e2⟩ := push _ hy
          refine ⟨S', ?_, e2⟩
          simp (disch := omega) only [Option.bind_some, ↓ile_t, ↓ile_f, ↓ilt_t, ↓ilt_f, ↓ieq_t, ↓ieq_f, ↓iz_t, ↓iz_f, ↓iltz, ↓izle, ↓ilez_t, ↓ilez_f, ↓im1, ile_t, ile_f, ilt_t, ilt_f, ieq_t, ieq_f, iz_t, iz_f, iltz, izle, ilez_t, ilez_f, im1, gZ_0, gZ_1, e10, e00, ↓reduceIte, Sum.elim_inl, Sum.elim_inr, nI_1, nI_add, Int32.sub_zero, yc ha, yr0 ha, yr1 ha, yr2 ha, yi3 ha, ys3 ha, yi4 ha, ys4 ha, yi5 ha, ys5 ha, yi6 ha, ys6 ha, yi7 ha, ys7 ha, yi8 ha, ys8 ha, yg1 ha, yn3 ha, yp3 ha, e3, ex, if_neg y0, C_rank2, if_neg e4, eT, e1]
        · match s, hi, hS, hp, push with
          | [], _, _, hp, _ =>
            have : pst (askOf g v w) x [] = none := by unfold pst; rw [if_neg y0, if_neg y4, if_neg y1]
            rw [this] at hp
            cases hp
          | [y], _, _, hp, _ =>
            have : pst (askOf g v w) x [y] = none := by unfold pst; rw [if_neg y0, if_neg y4, if_neg y1]
            rw [this] at hp
            cases hp
          | z :: y :: s, hi, hS, hp, _ =>
            have hy : pst (askOf g v w) x (z :: y :: s) = some (pApp (-x) y z :: s) := by unfold pst; rw [if_neg y0, if_neg y4, if_neg y1]
            rw [hy] at hp
            have hl : (z :: y :: s).length = s.length + 1 + 1 := rfl
            rw [hl] at hi ⊢
            have ez : S1.1 (a + 3) (s.length + 1) = z := hS.1
            have ey : S1.1 (a + 3) s.length = y := hS.2.1
            obtain ⟨S', e1, e2⟩ := ih (pApp (-x) y z :: s) (i + 1) k (stI S1 (a + 3) s.length (pApp (-x) y z)) s' (hF.trans (Fr.stI (A := fun x => x = a + 3) rfl) (fun _ z => z) (fun _ z => z)) ⟨rdI_eq, hS.2.2.congr (fun j hj => rdI_ne (Or.inr (by omega)))⟩ hC.2 (by rw [List.length_cons]; omega) (by omega) (by omega) hp
            refine ⟨S', ?_, e2⟩
            have n1 : ¬ nI (s.length + 1 + 1) < 2 := nI_nlt (b := 2) (by omega) (by omega)
            rw [List.length_cons] at e1
            simp (disch := omega) only [Option.bind_some, ↓ile_t, ↓ile_f, ↓ilt_t, ↓ilt_f, ↓ieq_t, ↓ieq_f, ↓iz_t, ↓iz_f, ↓iltz, ↓izle, ↓ilez_t, ↓ilez_f, ↓im1, ile_t, ile_f, ilt_t, ilt_f, ieq_t, ieq_f, iz_t, iz_f, iltz, izle, ilez_t, ilez_f, im1, gZ_0, gZ_1, e10, e00, ↓reduceIte, Sum.elim_inl, Sum.elim_inr, nI_1, nI_add, Int32.sub_zero, yc ha, yr0 ha, yr1 ha, yr2 ha, yi3 ha, ys3 ha, yi4 ha, ys4 ha, yi5 ha, ys5 ha, yi6 ha, ys6 ha, yi7 ha, ys7 ha, yi8 ha, ys8 ha, yg1 ha, yg3 ha, yp3 ha, e3, ex, if_neg y0, C_rank2, if_neg e4, if_neg n1, nI_dec, nI_sub1, Nat.add_sub_cancel, ey, ez, C_apply, e1]
def sVal (code : List Int32) (ask : Nat → Int32) : Int32 := gmax 0 (gmin 9 (pEv code ask))
/-- code that always comes to one number -/
def cGood (code : List Int32) : Prop := ∀ ask, ∃ x, pev ask code [] = some [x]
def sFlow (code : List Int32) (g : pG) (v : pV) (w : Nat) : Nat := (sVal code (askOf g v w)).toInt.toNat
theorem gmm9 (x : Int32) : ∃ n : Nat, n ≤ 9 ∧ gmax 0 (gmin 9 x) = nI n := by
  unfold gmin
  by_cases h : x < 9
  · rw [if_pos h]
    unfold gmax
    by_cases h2 : 0 < x
    · rw [if_pos h2]
      have h0 : ¬ x < 0 := fun z => by
        rw [i32_lt, i32_0] at z h2
        omega
      obtain ⟨j, hj, rfl⟩ := nI_of h0
      refine ⟨j, ?_, rfl⟩
      rw [k9, i32_lt, nI_toInt hj, nI_toInt (by omega)] at h
      omega
    · rw [if_neg h2]
      exact ⟨0, by omega, rfl⟩
  · rw [if_neg h]
    exact ⟨9, by omega, by decide⟩
theorem sFlow_nI {code : List Int32} {w : Nat} : sVal code (askOf g v w) = nI (sFlow code g v w) ∧ sFlow code g v w ≤ 9 := by
  obtain ⟨n, h1, h2⟩ := gmm9 (pEv code (askOf g v w))
  have e : sFlow code g v w = n := by
    unfold sFlow sVal
    rw [h2, nI_toInt (by omega)]
    rfl
  rw [e]
  exact ⟨h2, h1⟩
theorem C_flow {w : Nat} {code : List Int32} (ha : RA a) (hb : SA b) (hab : a + 3 < b ∨ b + 5 < a) (ha15 : 18 < a) (h : CV S b v) (hc : CG S g) (hg : WG g) (hv : WV g v) (hw : w < vN v) (hr : CRu S a code) (hgd : cGood code) (hN : 900 ≤ N) :
    ∃ S', f_c6_flow N a b (nI w) 15 (mk L S) = some (nI (sFlow code g v w), mk L S') ∧ Fr (fun x => x = a + 3) S S' := by
  obtain ⟨x, hx⟩ := hgd (askOf g v w)
  obtain ⟨S', e1, e2, e3⟩ := C_flowlp (L := L) (N := N) ha hb hab ha15 h hc hg hv hw hr.2.1 hr.1 code [] 0 N S [x] Fr.refl trivial hr.2.2 (Nat.le_refl 0) (by omega) (by have := hr.2.1; omega) hx
  refine ⟨S', ?_, e2⟩
  have e4 : S'.1 (a + 3) 0 = x := e3.1
  have e5 : gmax 0 (gmin 9 x) = nI (sFlow code g v w) := by
    rw [← (sFlow_nI (g := g) (v := v) (code := code) (w := w)).1]
    unfold sVal pEv
    rw [hx]
  have e6 : ga 0 (mk L S') (a + 3) 0 = some x := by
    have := yg3 (L := L) (S := S') (j := 0) ha (by omega)
    rw [e4] at this
    exact this
  rw [List.length_nil, nI_0] at e1
  simp (disch := omega) only [Option.bind_some, ↓ile_t, ↓ile_f, ↓ilt_t, ↓ilt_f, ↓ieq_t, ↓ieq_f, ↓iz_t, ↓iz_f, ↓iltz, ↓izle, ↓ilez_t, ↓ilez_f, ↓im1, ile_t, ile_f, ilt_t, ilt_f, ieq_t, ieq_f, iz_t, iz_f, iltz, izle, ilez_t, ilez_f, im1, gZ_0, gZ_1, e10, e00, ↓reduceIte, Sum.elim_inl, Sum.elim_inr, nI_1, nI_add, Int32.sub_zero, f_c6_flow, yc ha, yr0 ha, yr1 ha, yr2 ha, yi3 ha, ys3 ha, yi4 ha, ys4 ha, yi5 ha, ys5 ha, yi6 ha, ys6 ha, yi7 ha, ys7 ha, yi8 ha, ys8 ha, e1, e6, f_c10_put, e5]
end CFLOW
