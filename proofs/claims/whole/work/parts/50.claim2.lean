/-! products, sums, comparisons -/
section CLAIM2
variable {L N id len : Nat} {S : gS} {t : Nat → Nat} {over : Bool} {ask : Nat → Int32} {n : Nat}
theorem opAfter {r c0 p' deep d' : Nat} {c O : List Int32} {pend W : List Nat} {m' : Nat → Bool} (hr : cRank c0 = r) (hr1 : r = 2 ∨ r = 3) (h0 : cDig c0 = false) (h41 : c0 ≠ 41) (hW : cLow r W) (hpend : ∀ x, x ∈ pend → r ≤ cRank x) (hp : p' < n) (ht : t p' = c0) :
    cFin t over p' (n - p') (c ++ O, pend ++ W, deep, m', d', false) = cFin t over (p' + 1) (n - (p' + 1)) ((pend.map cNeg).reverse ++ (c ++ O), c0 :: W, deep, m', 0, true) := by
  refine cFin_s hp ?_
  rw [cStep_f, ht, if_neg (by rw [h0]; decide), if_neg h41, hr, if_neg (by omega), if_neg (by omega), cRel_low hW pend (c ++ O) hpend, if_neg (by omega)]
theorem opCmp {c0 p' deep d' : Nat} {c O : List Int32} {pend W : List Nat} {m' : Nat → Bool} (hc : c0 = 60 ∨ c0 = 61 ∨ c0 = 62) (hm : m' deep = false) (hW : cLow 1 W) (hpend : ∀ x, x ∈ pend → 2 ≤ cRank x) (hp : p' < n) (ht : t p' = c0) :
    cFin t over p' (n - p') (c ++ O, pend ++ W, deep, m', d', false) = cFin t over (p' + 1) (n - (p' + 1)) ((pend.map cNeg).reverse ++ (c ++ O), c0 :: W, deep, (fun j => if j = deep then true else m' j), 0, true) := by
  have hr : cRank c0 = 1 := by unfold cRank; rw [if_pos hc]
  refine cFin_s hp ?_
  rw [cStep_f, ht, if_neg (by rw [cDig_f (by omega)]; decide), if_neg (by omega), hr, if_neg (by omega), if_neg (fun z => by rw [hm] at z; exact absurd z.2 (by decide)), cRel_low hW pend (c ++ O) (fun x hx => by have := hpend x hx; omega), if_pos rfl]
theorem opPev {c0 : Nat} {c c2 : List Int32} {pend pend2 : List Nat} {v v2 : Int32} (hc : c0 = 60 ∨ c0 = 61 ∨ c0 = 62 ∨ c0 = 43 ∨ c0 = 45 ∨ c0 = 42 ∨ c0 = 47) (h1 : ∀ st, pev ask (c.reverse ++ pend.map cNeg) st = some (v :: st)) (h2 : ∀ st, pev ask (c2.reverse ++ pend2.map cNeg) st = some (v2 :: st)) (st : List Int32) :
    pev ask ((c2 ++ ((pend.map cNeg).reverse ++ c)).reverse ++ (pend2 ++ [c0]).map cNeg) st = some (pApp (nI c0) v v2 :: st) := by
  have e : (c2 ++ ((pend.map cNeg).reverse ++ c)).reverse ++ (pend2 ++ [c0]).map cNeg = (c.reverse ++ pend.map cNeg) ++ ((c2.reverse ++ pend2.map cNeg) ++ [cNeg c0]) := by
    rw [List.reverse_append, List.reverse_append, List.reverse_reverse, List.map_append]
    simp only [List.append_assoc, List.map_cons, List.map_nil]
  rw [e, pev_app, h1]
  show pev ask ((c2.reverse ++ pend2.map cNeg) ++ [cNeg c0]) (v :: st) = _
  rw [pev_app, h2]
  show pev ask [cNeg c0] (v2 :: v :: st) = _
  rw [pev_1, pOP hc]
theorem opMem {k c0 : Nat} {pend2 : List Nat} (h : ∀ x, x ∈ pend2 → k + 1 ≤ cRank x) (hc : k ≤ cRank c0) : ∀ x, x ∈ pend2 ++ [c0] → k ≤ cRank x := by
  intro x hx
  rcases List.mem_append.mp hx with hx | hx
  · have := h x hx; omega
  · rw [List.mem_singleton.mp hx]; exact hc
theorem opApp1 {c c2 O : List Int32} {pend : List Nat} : c2 ++ ((pend.map cNeg).reverse ++ (c ++ O)) = (c2 ++ ((pend.map cNeg).reverse ++ c)) ++ O := by
  simp only [List.append_assoc]
theorem opApp2 {pend2 W : List Nat} {c0 : Nat} : pend2 ++ c0 :: W = (pend2 ++ [c0]) ++ W := by
  rw [List.append_assoc]; rfl
theorem q47_42 : ((nI 47 : Int32) = 42) = False := by decide
theorem q47_47 : ((nI 47 : Int32) = 47) = True := by decide
theorem q45_43 : ((nI 45 : Int32) = 43) = False := by decide
theorem q45_45 : ((nI 45 : Int32) = 45) = True := by decide
theorem c47 : (if nI 47 = nI 42 then (1 : Int32) else 0) = 0 := by decide
theorem c45 : (if nI 45 = nI 43 then (1 : Int32) else 0) = 0 := by decide
theorem gNZ_z {v : Int32} (h : ¬ v = 0) : gNZ v = some () := by unfold gNZ; rw [if_neg h]
theorem T_prodlp {p deep : Nat} {O : List Int32} {W : List Nat} {m : Nat → Bool} {d : Nat} (h : RC S id len 40 t) (hd : deep ≤ 4) (hW : cLow 3 W) (hN : 4 * (min len 40 - p) ≤ N) (ih : Cl L S t (min len 40) over ask N) :
    ∀ (k : Nat) (v : Int32) (p' : Nat) (c : List Int32) (pend : List Nat) (m' : Nat → Bool) (d' : Nat), min len 40 - p' < k → p < p' → p' ≤ min len 40 →
      cFin t over p (min len 40 - p) (O, W, deep, m, d, true) = cFin t over p' (min len 40 - p') (c ++ O, pend ++ W, deep, m', d', false) → (∀ x, x ∈ pend → 3 ≤ cRank x) → (∀ st, pev ask (c.reverse ++ pend.map cNeg) st = some (v :: st)) → (∀ j, j ≤ deep → m' j = m j) → (d' = 0 ∨ 2 < d' ∨ ¬ (p' < min len 40 ∧ cDig (t p') = true)) →
      Res L S t (min len 40) over ask (lp_c11_product_6 N (F_rule N) 144 (nI deep) k v (mk L (ms S (nI p') (-1)))) 2 p deep O W m d := by
  have hlen := h.2.2.2.1
  intro k
  induction k with
  | zero => intro v p' c pend m' d' hk; omega
  | succ k ihk =>
    intro v p' c pend m' d' hk hpp hp' hC q1 q2 q3 q5
    rw [lp_c11_product_6.eq_2]
    by_cases z : p' < min len 40 ∧ (t p' = 42 ∨ t p' = 47)
    · have e0 : cFin t over p (min len 40 - p) (O, W, deep, m, d, true) = cFin t over (p' + 1) (min len 40 - (p' + 1)) ((pend.map cNeg).reverse ++ (c ++ O), t p' :: W, deep, m', 0, true) := by
        rw [hC]
        refine opAfter (r := 3) ?_ (Or.inr rfl) ?_ (by omega) hW q1 z.1 rfl
        · rcases z.2 with y | y <;> rw [y] <;> decide
        · rcases z.2 with y | y <;> rw [y] <;> decide
      have hop : t p' = 60 ∨ t p' = 61 ∨ t p' = 62 ∨ t p' = 43 ∨ t p' = 45 ∨ t p' = 42 ∨ t p' = 47 := by omega
      rcases ih 3 (p' + 1) deep ((pend.map cNeg).reverse ++ (c ++ O)) (t p' :: W) m' 0 (by omega) (by omega) hd (by omega) (fun q => absurd rfl q) (fun q => by omega) with ⟨v2, x, q, e1, e2, e3⟩ | ⟨v2, p2, c2, pend2, m2, d2, e1, e2, e3, e4, r1, r2, r3, r4, r5, r6⟩
      · obtain ⟨k, rfl⟩ : ∃ j, k = j + 1 := ⟨k - 1, by omega⟩
        have eF : ∀ w : Int32, lp_c11_product_6 N (F_rule N) 144 (nI deep) (k + 1) w (mk L (ms S x (nI q))) = some (w, mk L (ms S x (nI q))) := by
          intro w
          rw [lp_c11_product_6.eq_2]
          simp (disch := omega) only [Option.bind_some, ↓ile_t, ↓ile_f, ↓ilt_t, ↓ilt_f, ↓ieq_t, ↓ieq_f, ↓iz_t, ↓iz_f, ↓iltz, ↓izle, ↓ilez_t, ↓ilez_f, ↓im1, ile_t, ile_f, ilt_t, ilt_f, ieq_t, ieq_f, iz_t, iz_f, iltz, izle, ilez_t, ilez_f, im1, gZ_0, gZ_1, e10, e00, ↓reduceIte, Sum.elim_inl, Sum.elim_inr, nI_1, nI_add, Int32.sub_zero, M_fine_f (L := L) (N := N) (S := S) (x := x) (q := q) (by omega)]
        rcases z.2 with y | y
        · refine Or.inl ⟨v * v2, x, q, ?_, e2, by rw [e0]; exact e3⟩
          simp (disch := omega) only [Option.bind_some, ↓ile_t, ↓ile_f, ↓ilt_t, ↓ilt_f, ↓ieq_t, ↓ieq_f, ↓iz_t, ↓iz_f, ↓iltz, ↓izle, ↓ilez_t, ↓ilez_f, ↓im1, ile_t, ile_f, ilt_t, ilt_f, ieq_t, ieq_f, iz_t, iz_f, iltz, izle, ilez_t, ilez_f, im1, gZ_0, gZ_1, e10, e00, ↓reduceIte, Sum.elim_inl, Sum.elim_inr, nI_1, nI_add, Int32.sub_zero, M_fine_t, M_here_t h z.1, y, k42, zi144_14, zs144_14, ms_p, ms_14, e1, eF]
        · by_cases y0 : v2 = 0
          · refine Or.inl ⟨0, x, q, ?_, e2, by rw [e0]; exact e3⟩
            simp (disch := omega) only [Option.bind_some, ↓ile_t, ↓ile_f, ↓ilt_t, ↓ilt_f, ↓ieq_t, ↓ieq_f, ↓iz_t, ↓iz_f, ↓iltz, ↓izle, ↓ilez_t, ↓ilez_f, ↓im1, ile_t, ile_f, ilt_t, ilt_f, ieq_t, ieq_f, iz_t, iz_f, iltz, izle, ilez_t, ilez_f, im1, gZ_0, gZ_1, e10, e00, ↓reduceIte, Sum.elim_inl, Sum.elim_inr, nI_1, nI_add, Int32.sub_zero, M_fine_t, M_here_t h z.1, y, q47_42, q47_47, zi144_14, zs144_14, ms_p, ms_14, e1, y0, eq_self_iff_true, eF]
          · refine Or.inl ⟨v / v2, x, q, ?_, e2, by rw [e0]; exact e3⟩
            simp (disch := omega) only [Option.bind_some, ↓ile_t, ↓ile_f, ↓ilt_t, ↓ilt_f, ↓ieq_t, ↓ieq_f, ↓iz_t, ↓iz_f, ↓iltz, ↓izle, ↓ilez_t, ↓ilez_f, ↓im1, ile_t, ile_f, ilt_t, ilt_f, ieq_t, ieq_f, iz_t, iz_f, iltz, izle, ilez_t, ilez_f, im1, gZ_0, gZ_1, e10, e00, ↓reduceIte, Sum.elim_inl, Sum.elim_inr, nI_1, nI_add, Int32.sub_zero, M_fine_t, M_here_t h z.1, y, q47_42, q47_47, zi144_14, zs144_14, ms_p, ms_14, e1, if_neg y0, gNZ_z y0, eF]
      · have hC2 : cFin t over p (min len 40 - p) (O, W, deep, m, d, true) = cFin t over p2 (min len 40 - p2) ((c2 ++ ((pend.map cNeg).reverse ++ c)) ++ O, (pend2 ++ [t p']) ++ W, deep, m2, d2, false) := by
          rw [e0, e4, opApp1, opApp2]
        have hpv := opPev (ask := ask) hop q2 r2
        have hm2 : ∀ j, j ≤ deep → m2 j = m j := by
          intro j hj
          rw [← q3 j hj]
          by_cases y : j = deep
          · rw [y]; exact r4 (by omega)
          · exact r3 j (by omega)
        have hmem := opMem (k := 3) r1 (c0 := t p') (by rcases z.2 with y | y <;> rw [y] <;> decide)
        have go := fun (w : Int32) (hw : pApp (nI (t p')) v v2 = w) => ihk w p2 (c2 ++ ((pend.map cNeg).reverse ++ c)) (pend2 ++ [t p']) m2 d2 (by omega) (by omega) e3 hC2 hmem (fun st => by rw [hpv st, hw]) hm2 r5
        rcases z.2 with y | y
        · have g := go (v * v2) (by rw [y]; rfl)
          simp (disch := omega) only [Option.bind_some, ↓ile_t, ↓ile_f, ↓ilt_t, ↓ilt_f, ↓ieq_t, ↓ieq_f, ↓iz_t, ↓iz_f, ↓iltz, ↓izle, ↓ilez_t, ↓ilez_f, ↓im1, ile_t, ile_f, ilt_t, ilt_f, ieq_t, ieq_f, iz_t, iz_f, iltz, izle, ilez_t, ilez_f, im1, gZ_0, gZ_1, e10, e00, ↓reduceIte, Sum.elim_inl, Sum.elim_inr, nI_1, nI_add, Int32.sub_zero, M_fine_t, M_here_t h z.1, y, k42, zi144_14, zs144_14, ms_p, ms_14, e1]
          exact g
        · by_cases y0 : v2 = 0
          · have g := go 0 (by rw [y, y0]; unfold pApp; rw [if_neg (by decide), if_neg (by decide), if_neg (by decide), if_neg (by decide), if_neg (by decide), if_neg (by decide), if_pos rfl])
            simp (disch := omega) only [Option.bind_some, ↓ile_t, ↓ile_f, ↓ilt_t, ↓ilt_f, ↓ieq_t, ↓ieq_f, ↓iz_t, ↓iz_f, ↓iltz, ↓izle, ↓ilez_t, ↓ilez_f, ↓im1, ile_t, ile_f, ilt_t, ilt_f, ieq_t, ieq_f, iz_t, iz_f, iltz, izle, ilez_t, ilez_f, im1, gZ_0, gZ_1, e10, e00, ↓reduceIte, Sum.elim_inl, Sum.elim_inr, nI_1, nI_add, Int32.sub_zero, M_fine_t, M_here_t h z.1, y, k42, k47, c47, zi144_14, zs144_14, ms_p, ms_14, e1, y0, eq_self_iff_true]
            rw [y0] at e1
            exact g
          · have g := go (v / v2) (by rw [y]; unfold pApp; rw [if_neg (by decide), if_neg (by decide), if_neg (by decide), if_neg (by decide), if_neg (by decide), if_neg (by decide), if_neg y0])
            simp (disch := omega) only [Option.bind_some, ↓ile_t, ↓ile_f, ↓ilt_t, ↓ilt_f, ↓ieq_t, ↓ieq_f, ↓iz_t, ↓iz_f, ↓iltz, ↓izle, ↓ilez_t, ↓ilez_f, ↓im1, ile_t, ile_f, ilt_t, ilt_f, ieq_t, ieq_f, iz_t, iz_f, iltz, izle, ilez_t, ilez_f, im1, gZ_0, gZ_1, e10, e00, ↓reduceIte, Sum.elim_inl, Sum.elim_inr, nI_1, nI_add, Int32.sub_zero, M_fine_t, M_here_t h z.1, y, k42, k47, c47, zi144_14, zs144_14, ms_p, ms_14, e1, if_neg y0, gNZ_z y0]
            exact g
    · refine Or.inr ⟨v, p', c, pend, m', d', ?_, hpp, hp', hC, q1, q2, fun j hj => q3 j (by omega), fun _ => q3 deep (Nat.le_refl _), q5, fun _ z1 => ⟨fun y => z ⟨z1, Or.inl y⟩, fun y => z ⟨z1, Or.inr y⟩⟩, fun q => by omega, fun q => by omega⟩
      by_cases z1 : p' < min len 40
      · have ht := (h.2.2.2.2.2.2.2 p' (by omega)).1
        simp (disch := omega) only [Option.bind_some, ↓ile_t, ↓ile_f, ↓ilt_t, ↓ilt_f, ↓ieq_t, ↓ieq_f, ↓iz_t, ↓iz_f, ↓iltz, ↓izle, ↓ilez_t, ↓ilez_f, ↓im1, ile_t, ile_f, ilt_t, ilt_f, ieq_t, ieq_f, iz_t, iz_f, iltz, izle, ilez_t, ilez_f, im1, gZ_0, gZ_1, e10, e00, ↓reduceIte, Sum.elim_inl, Sum.elim_inr, nI_1, nI_add, Int32.sub_zero, M_fine_t, M_here_t h z1, k42, k47]
      · have n1 : ¬ (-1 : Int32) = nI 42 := by decide
        have n2 : ¬ (-1 : Int32) = nI 47 := by decide
        simp (disch := omega) only [Option.bind_some, ↓ile_t, ↓ile_f, ↓ilt_t, ↓ilt_f, ↓ieq_t, ↓ieq_f, ↓iz_t, ↓iz_f, ↓iltz, ↓izle, ↓ilez_t, ↓ilez_f, ↓im1, ile_t, ile_f, ilt_t, ilt_f, ieq_t, ieq_f, iz_t, iz_f, iltz, izle, ilez_t, ilez_f, im1, gZ_0, gZ_1, e10, e00, ↓reduceIte, Sum.elim_inl, Sum.elim_inr, nI_1, nI_add, Int32.sub_zero, M_fine_t, M_here_f (p := p') h (by omega) (by omega), k42, k47, if_neg n1, if_neg n2]
theorem T_product {p deep : Nat} {O : List Int32} {W : List Nat} {m : Nat → Bool} {d : Nat} (h : RC S id len 40 t) (hp : p ≤ min len 40) (hd : deep ≤ 4) (hW : cLow 3 W) (hN : 4 * (min len 40 - p) + 1 ≤ N) (ih : Cl L S t (min len 40) over ask N) :
    Res L S t (min len 40) over ask (b_fn_c11_product N (F_rule N) 144 (nI deep) (mk L (ms S (nI p) (-1)))) 2 p deep O W m d := by
  have hlen := h.2.2.2.1
  unfold b_fn_c11_product
  rcases ih 3 p deep O W m d (by omega) hp hd (by omega) (fun q => absurd rfl q) (fun q => by omega) with ⟨v2, x, q, e1, e2, e3⟩ | ⟨v2, p2, c2, pend2, m2, d2, e1, e2, e3, e4, r1, r2, r3, r4, r5, r6⟩
  · obtain ⟨k, rfl⟩ : ∃ j, N = j + 1 := ⟨N - 1, by omega⟩
    refine Or.inl ⟨v2, x, q, ?_, e2, e3⟩
    have eF : lp_c11_product_6 (k + 1) (F_rule (k + 1)) 144 (nI deep) (k + 1) v2 (mk L (ms S x (nI q))) = some (v2, mk L (ms S x (nI q))) := by
      rw [lp_c11_product_6.eq_2]
      simp (disch := omega) only [Option.bind_some, ↓ile_t, ↓ile_f, ↓ilt_t, ↓ilt_f, ↓ieq_t, ↓ieq_f, ↓iz_t, ↓iz_f, ↓iltz, ↓izle, ↓ilez_t, ↓ilez_f, ↓im1, ile_t, ile_f, ilt_t, ilt_f, ieq_t, ieq_f, iz_t, iz_f, iltz, izle, ilez_t, ilez_f, im1, gZ_0, gZ_1, e10, e00, ↓reduceIte, Sum.elim_inl, Sum.elim_inr, nI_1, nI_add, Int32.sub_zero, M_fine_f (L := L) (N := k + 1) (S := S) (x := x) (q := q) (by omega)]
    simp (disch := omega) only [Option.bind_some, ↓ile_t, ↓ile_f, ↓ilt_t, ↓ilt_f, ↓ieq_t, ↓ieq_f, ↓iz_t, ↓iz_f, ↓iltz, ↓izle, ↓ilez_t, ↓ilez_f, ↓im1, ile_t, ile_f, ilt_t, ilt_f, ieq_t, ieq_f, iz_t, iz_f, iltz, izle, ilez_t, ilez_f, im1, gZ_0, gZ_1, e10, e00, ↓reduceIte, Sum.elim_inl, Sum.elim_inr, nI_1, nI_add, Int32.sub_zero, zc144, e1, eF]
  · have g := T_prodlp (d := d) h hd hW (p := p) (N := N) (over := over) (ask := ask) (O := O) (m := m) (by omega) ih N v2 p2 c2 pend2 m2 d2 (by omega) e2 e3 e4 (fun x hx => by have := r1 x hx; omega) r2 (fun j hj => by
      by_cases y : j = deep
      · rw [y]; exact r4 (by omega)
      · exact r3 j (by omega)) r5
    have e5 : ((gcl (mk L (ms S (nI p) (-1))) 144 11).bind fun _ => (F_rule N 3 144 (nI deep) (mk L (ms S (nI p) (-1)))).bind fun q1 => (lp_c11_product_6 N (F_rule N) 144 (nI deep) N q1.1 q1.2).bind fun o32 => some (o32.1, o32.2)) = lp_c11_product_6 N (F_rule N) 144 (nI deep) N v2 (mk L (ms S (nI p2) (-1))) := by
      simp (disch := omega) only [Option.bind_some, ↓ile_t, ↓ile_f, ↓ilt_t, ↓ilt_f, ↓ieq_t, ↓ieq_f, ↓iz_t, ↓iz_f, ↓iltz, ↓izle, ↓ilez_t, ↓ilez_f, ↓im1, ile_t, ile_f, ilt_t, ilt_f, ieq_t, ieq_f, iz_t, iz_f, iltz, izle, ilez_t, ilez_f, im1, gZ_0, gZ_1, e10, e00, ↓reduceIte, Sum.elim_inl, Sum.elim_inr, nI_1, nI_add, Int32.sub_zero, zc144, e1]
      cases lp_c11_product_6 N (F_rule N) 144 (nI deep) N v2 (mk L (ms S (nI p2) (-1))) <;> rfl
    rw [e5]
    exact g
theorem T_sumlp {p deep : Nat} {O : List Int32} {W : List Nat} {m : Nat → Bool} {d : Nat} (h : RC S id len 40 t) (hd : deep ≤ 4) (hW : cLow 2 W) (hN : 4 * (min len 40 - p) ≤ N) (ih : Cl L S t (min len 40) over ask N) :
    ∀ (k : Nat) (v : Int32) (p' : Nat) (c : List Int32) (pend : List Nat) (m' : Nat → Bool) (d' : Nat), min len 40 - p' < k → p < p' → p' ≤ min len 40 →
      cFin t over p (min len 40 - p) (O, W, deep, m, d, true) = cFin t over p' (min len 40 - p') (c ++ O, pend ++ W, deep, m', d', false) → (∀ x, x ∈ pend → 2 ≤ cRank x) → (∀ st, pev ask (c.reverse ++ pend.map cNeg) st = some (v :: st)) → (∀ j, j ≤ deep → m' j = m j) → (d' = 0 ∨ 2 < d' ∨ ¬ (p' < min len 40 ∧ cDig (t p') = true)) → (p' < min len 40 → t p' ≠ 42 ∧ t p' ≠ 47) →
      Res L S t (min len 40) over ask (lp_c11_sum_6 N (F_rule N) 144 (nI deep) k v (mk L (ms S (nI p') (-1)))) 1 p deep O W m d := by
  have hlen := h.2.2.2.1
  intro k
  induction k with
  | zero => intro v p' c pend m' d' hk; omega
  | succ k ihk =>
    intro v p' c pend m' d' hk hpp hp' hC q1 q2 q3 q5 q6
    rw [lp_c11_sum_6.eq_2]
    by_cases z : p' < min len 40 ∧ (t p' = 43 ∨ t p' = 45)
    · have e0 : cFin t over p (min len 40 - p) (O, W, deep, m, d, true) = cFin t over (p' + 1) (min len 40 - (p' + 1)) ((pend.map cNeg).reverse ++ (c ++ O), t p' :: W, deep, m', 0, true) := by
        rw [hC]
        refine opAfter (r := 2) ?_ (Or.inl rfl) ?_ (by omega) hW q1 z.1 rfl
        · rcases z.2 with y | y <;> rw [y] <;> decide
        · rcases z.2 with y | y <;> rw [y] <;> decide
      have hop : t p' = 60 ∨ t p' = 61 ∨ t p' = 62 ∨ t p' = 43 ∨ t p' = 45 ∨ t p' = 42 ∨ t p' = 47 := by omega
      have hlow : cLow (2 + 1) (t p' :: W) := by
        show cRank (t p') < 3
        rcases z.2 with y | y <;> rw [y] <;> decide
      rcases ih 2 (p' + 1) deep ((pend.map cNeg).reverse ++ (c ++ O)) (t p' :: W) m' 0 (by omega) (by omega) hd (by omega) (fun _ => hlow) (fun q => by omega) with ⟨v2, x, q, e1, e2, e3⟩ | ⟨v2, p2, c2, pend2, m2, d2, e1, e2, e3, e4, r1, r2, r3, r4, r5, r6, r7, r8⟩
      · obtain ⟨k, rfl⟩ : ∃ j, k = j + 1 := ⟨k - 1, by omega⟩
        have eF : ∀ w : Int32, lp_c11_sum_6 N (F_rule N) 144 (nI deep) (k + 1) w (mk L (ms S x (nI q))) = some (w, mk L (ms S x (nI q))) := by
          intro w
          rw [lp_c11_sum_6.eq_2]
          simp (disch := omega) only [Option.bind_some, ↓ile_t, ↓ile_f, ↓ilt_t, ↓ilt_f, ↓ieq_t, ↓ieq_f, ↓iz_t, ↓iz_f, ↓iltz, ↓izle, ↓ilez_t, ↓ilez_f, ↓im1, ile_t, ile_f, ilt_t, ilt_f, ieq_t, ieq_f, iz_t, iz_f, iltz, izle, ilez_t, ilez_f, im1, gZ_0, gZ_1, e10, e00, ↓reduceIte, Sum.elim_inl, Sum.elim_inr, nI_1, nI_add, Int32.sub_zero, M_fine_f (L := L) (N := N) (S := S) (x := x) (q := q) (by omega)]
        rcases z.2 with y | y
        · refine Or.inl ⟨v + v2, x, q, ?_, e2, by rw [e0]; exact e3⟩
          simp (disch := omega) only [Option.bind_some, ↓ile_t, ↓ile_f, ↓ilt_t, ↓ilt_f, ↓ieq_t, ↓ieq_f, ↓iz_t, ↓iz_f, ↓iltz, ↓izle, ↓ilez_t, ↓ilez_f, ↓im1, ile_t, ile_f, ilt_t, ilt_f, ieq_t, ieq_f, iz_t, iz_f, iltz, izle, ilez_t, ilez_f, im1, gZ_0, gZ_1, e10, e00, ↓reduceIte, Sum.elim_inl, Sum.elim_inr, nI_1, nI_add, Int32.sub_zero, M_fine_t, M_here_t h z.1, y, k43, zi144_14, zs144_14, ms_p, ms_14, e1, eF]
        · refine Or.inl ⟨v - v2, x, q, ?_, e2, by rw [e0]; exact e3⟩
          simp (disch := omega) only [Option.bind_some, ↓ile_t, ↓ile_f, ↓ilt_t, ↓ilt_f, ↓ieq_t, ↓ieq_f, ↓iz_t, ↓iz_f, ↓iltz, ↓izle, ↓ilez_t, ↓ilez_f, ↓im1, ile_t, ile_f, ilt_t, ilt_f, ieq_t, ieq_f, iz_t, iz_f, iltz, izle, ilez_t, ilez_f, im1, gZ_0, gZ_1, e10, e00, ↓reduceIte, Sum.elim_inl, Sum.elim_inr, nI_1, nI_add, Int32.sub_zero, M_fine_t, M_here_t h z.1, y, q45_43, q45_45, zi144_14, zs144_14, ms_p, ms_14, e1, eF]
      · have hC2 : cFin t over p (min len 40 - p) (O, W, deep, m, d, true) = cFin t over p2 (min len 40 - p2) ((c2 ++ ((pend.map cNeg).reverse ++ c)) ++ O, (pend2 ++ [t p']) ++ W, deep, m2, d2, false) := by
          rw [e0, e4, opApp1, opApp2]
        have hpv := opPev (ask := ask) hop q2 r2
        have hm2 : ∀ j, j ≤ deep → m2 j = m j := by
          intro j hj
          rw [← q3 j hj]
          by_cases y : j = deep
          · rw [y]; exact r4 (by omega)
          · exact r3 j (by omega)
        have hmem := opMem (k := 2) r1 (c0 := t p') (by rcases z.2 with y | y <;> rw [y] <;> decide)
        have go := fun (w : Int32) (hw : pApp (nI (t p')) v v2 = w) => ihk w p2 (c2 ++ ((pend.map cNeg).reverse ++ c)) (pend2 ++ [t p']) m2 d2 (by omega) (by omega) e3 hC2 hmem (fun st => by rw [hpv st, hw]) hm2 r5 (r6 (by omega))
        rcases z.2 with y | y
        · have g := go (v + v2) (by rw [y]; rfl)
          simp (disch := omega) only [Option.bind_some, ↓ile_t, ↓ile_f, ↓ilt_t, ↓ilt_f, ↓ieq_t, ↓ieq_f, ↓iz_t, ↓iz_f, ↓iltz, ↓izle, ↓ilez_t, ↓ilez_f, ↓im1, ile_t, ile_f, ilt_t, ilt_f, ieq_t, ieq_f, iz_t, iz_f, iltz, izle, ilez_t, ilez_f, im1, gZ_0, gZ_1, e10, e00, ↓reduceIte, Sum.elim_inl, Sum.elim_inr, nI_1, nI_add, Int32.sub_zero, M_fine_t, M_here_t h z.1, y, k43, zi144_14, zs144_14, ms_p, ms_14, e1]
          exact g
        · have g := go (v - v2) (by rw [y]; rfl)
          simp (disch := omega) only [Option.bind_some, ↓ile_t, ↓ile_f, ↓ilt_t, ↓ilt_f, ↓ieq_t, ↓ieq_f, ↓iz_t, ↓iz_f, ↓iltz, ↓izle, ↓ilez_t, ↓ilez_f, ↓im1, ile_t, ile_f, ilt_t, ilt_f, ieq_t, ieq_f, iz_t, iz_f, iltz, izle, ilez_t, ilez_f, im1, gZ_0, gZ_1, e10, e00, ↓reduceIte, Sum.elim_inl, Sum.elim_inr, nI_1, nI_add, Int32.sub_zero, M_fine_t, M_here_t h z.1, y, k43, k45, c45, zi144_14, zs144_14, ms_p, ms_14, e1]
          exact g
    · refine Or.inr ⟨v, p', c, pend, m', d', ?_, hpp, hp', hC, q1, q2, fun j hj => q3 j (by omega), fun _ => q3 deep (Nat.le_refl _), q5, fun _ => q6, fun _ z1 => ⟨fun y => z ⟨z1, Or.inl y⟩, fun y => z ⟨z1, Or.inr y⟩⟩, fun q => by omega⟩
      by_cases z1 : p' < min len 40
      · have ht := (h.2.2.2.2.2.2.2 p' (by omega)).1
        simp (disch := omega) only [Option.bind_some, ↓ile_t, ↓ile_f, ↓ilt_t, ↓ilt_f, ↓ieq_t, ↓ieq_f, ↓iz_t, ↓iz_f, ↓iltz, ↓izle, ↓ilez_t, ↓ilez_f, ↓im1, ile_t, ile_f, ilt_t, ilt_f, ieq_t, ieq_f, iz_t, iz_f, iltz, izle, ilez_t, ilez_f, im1, gZ_0, gZ_1, e10, e00, ↓reduceIte, Sum.elim_inl, Sum.elim_inr, nI_1, nI_add, Int32.sub_zero, M_fine_t, M_here_t h z1, k43, k45]
      · have n1 : ¬ (-1 : Int32) = nI 43 := by decide
        have n2 : ¬ (-1 : Int32) = nI 45 := by decide
        simp (disch := omega) only [Option.bind_some, ↓ile_t, ↓ile_f, ↓ilt_t, ↓ilt_f, ↓ieq_t, ↓ieq_f, ↓iz_t, ↓iz_f, ↓iltz, ↓izle, ↓ilez_t, ↓ilez_f, ↓im1, ile_t, ile_f, ilt_t, ilt_f, ieq_t, ieq_f, iz_t, iz_f, iltz, izle, ilez_t, ilez_f, im1, gZ_0, gZ_1, e10, e00, ↓reduceIte, Sum.elim_inl, Sum.elim_inr, nI_1, nI_add, Int32.sub_zero, M_fine_t, M_here_f (p := p') h (by omega) (by omega), k43, k45, if_neg n1, if_neg n2]
theorem T_sum {p deep : Nat} {O : List Int32} {W : List Nat} {m : Nat → Bool} {d : Nat} (h : RC S id len 40 t) (hp : p ≤ min len 40) (hd : deep ≤ 4) (hW : cLow 2 W) (hN : 4 * (min len 40 - p) + 2 ≤ N) (ih : Cl L S t (min len 40) over ask N) :
    Res L S t (min len 40) over ask (b_fn_c11_sum N (F_rule N) 144 (nI deep) (mk L (ms S (nI p) (-1)))) 1 p deep O W m d := by
  have hlen := h.2.2.2.1
  have hW3 : cLow 3 W := by
    cases W with
    | nil => trivial
    | cons c W => have : cRank c < 2 := hW; show cRank c < 3; omega
  unfold b_fn_c11_sum
  rcases ih 2 p deep O W m d (by omega) hp hd (by omega) (fun _ => hW3) (fun q => by omega) with ⟨v2, x, q, e1, e2, e3⟩ | ⟨v2, p2, c2, pend2, m2, d2, e1, e2, e3, e4, r1, r2, r3, r4, r5, r6, r7, r8⟩
  · obtain ⟨k, rfl⟩ : ∃ j, N = j + 1 := ⟨N - 1, by omega⟩
    refine Or.inl ⟨v2, x, q, ?_, e2, e3⟩
    have eF : lp_c11_sum_6 (k + 1) (F_rule (k + 1)) 144 (nI deep) (k + 1) v2 (mk L (ms S x (nI q))) = some (v2, mk L (ms S x (nI q))) := by
      rw [lp_c11_sum_6.eq_2]
      simp (disch := omega) only [Option.bind_some, ↓ile_t, ↓ile_f, ↓ilt_t, ↓ilt_f, ↓ieq_t, ↓ieq_f, ↓iz_t, ↓iz_f, ↓iltz, ↓izle, ↓ilez_t, ↓ilez_f, ↓im1, ile_t, ile_f, ilt_t, ilt_f, ieq_t, ieq_f, iz_t, iz_f, iltz, izle, ilez_t, ilez_f, im1, gZ_0, gZ_1, e10, e00, ↓reduceIte, Sum.elim_inl, Sum.elim_inr, nI_1, nI_add, Int32.sub_zero, M_fine_f (L := L) (N := k + 1) (S := S) (x := x) (q := q) (by omega)]
    simp (disch := omega) only [Option.bind_some, ↓ile_t, ↓ile_f, ↓ilt_t, ↓ilt_f, ↓ieq_t, ↓ieq_f, ↓iz_t, ↓iz_f, ↓iltz, ↓izle, ↓ilez_t, ↓ilez_f, ↓im1, ile_t, ile_f, ilt_t, ilt_f, ieq_t, ieq_f, iz_t, iz_f, iltz, izle, ilez_t, ilez_f, im1, gZ_0, gZ_1, e10, e00, ↓reduceIte, Sum.elim_inl, Sum.elim_inr, nI_1, nI_add, Int32.sub_zero, zc144, e1, eF]
  · have g := T_sumlp (d := d) h hd hW (p := p) (N := N) (over := over) (ask := ask) (O := O) (m := m) (by omega) ih N v2 p2 c2 pend2 m2 d2 (by omega) e2 e3 e4 (fun x hx => by have := r1 x hx; omega) r2 (fun j hj => by
      by_cases y : j = deep
      · rw [y]; exact r4 (by omega)
      · exact r3 j (by omega)) r5 (r6 (by omega))
    have e5 : ((gcl (mk L (ms S (nI p) (-1))) 144 11).bind fun _ => (F_rule N 2 144 (nI deep) (mk L (ms S (nI p) (-1)))).bind fun q1 => (lp_c11_sum_6 N (F_rule N) 144 (nI deep) N q1.1 q1.2).bind fun o28 => some (o28.1, o28.2)) = lp_c11_sum_6 N (F_rule N) 144 (nI deep) N v2 (mk L (ms S (nI p2) (-1))) := by
      simp (disch := omega) only [Option.bind_some, ↓ile_t, ↓ile_f, ↓ilt_t, ↓ilt_f, ↓ieq_t, ↓ieq_f, ↓iz_t, ↓iz_f, ↓iltz, ↓izle, ↓ilez_t, ↓ilez_f, ↓im1, ile_t, ile_f, ilt_t, ilt_f, ieq_t, ieq_f, iz_t, iz_f, iltz, izle, ilez_t, ilez_f, im1, gZ_0, gZ_1, e10, e00, ↓reduceIte, Sum.elim_inl, Sum.elim_inr, nI_1, nI_add, Int32.sub_zero, zc144, e1]
      cases lp_c11_sum_6 N (F_rule N) 144 (nI deep) N v2 (mk L (ms S (nI p2) (-1))) <;> rfl
    rw [e5]
    exact g
end CLAIM2
