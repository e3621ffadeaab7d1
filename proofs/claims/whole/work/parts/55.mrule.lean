/-! THE REFERENCE reads a rule, and asks it at a well -/
def noCode : List Int32 := [cNeg 100, cNeg 97, nI 2, cNeg 42, cNeg 45]
def ruleCode (t : Nat → Nat) (len : Nat) : List Int32 ⊕ Nat := if len = 0 then .inl noCode else cRead t len
theorem noCode_ev {ask : Nat → Int32} {s : List Int32} : pev ask noCode s = some ((ask 1 - ask 2 * 2) :: s) := by
  unfold noCode
  show (pst ask (cNeg 100) s).bind (fun s => (pst ask (cNeg 97) s).bind (fun s => (pst ask (nI 2) s).bind (fun s => (pst ask (cNeg 42) s).bind (fun s => (pst ask (cNeg 45) s).bind (fun s => some s))))) = _
  rw [pTH (by decide), Option.bind_some, pTH (by decide), Option.bind_some, pNum (by omega), Option.bind_some, pOP (by omega), Option.bind_some, pOP (by omega), Option.bind_some]
  rfl
theorem noCode_good : cGood noCode := fun _ => ⟨_, noCode_ev⟩
section MRULE
variable {L N id len : Nat} {S : gS} {t : Nat → Nat} {ask : Nat → Int32}
theorem M_held (h : RC S id len 40 t) (ha : AskOk S ask) (hN : 900 ≤ N) :
    (∃ (v x : Int32) (q : Nat), f_c11_held N 144 0 (mk L (ms S 0 (-1))) = some (v, mk L (ms S x (nI q))) ∧ q ≤ 40 ∧ cRead t len = .inr q) ∨
    (∃ (v : Int32) (p : Nat), f_c11_held N 144 0 (mk L (ms S 0 (-1))) = some (v, mk L (ms S (nI p) (-1))) ∧ p ≤ min len 40 ∧ ((p < len ∧ cRead t len = .inr p) ∨ (p = len ∧ ∃ code, cRead t len = .inl code ∧ ∀ st, pev ask code st = some (v :: st)))) := by
  have hlen := h.2.2.2.1
  unfold f_c11_held
  rcases T_all (L := L) (over := decide (40 < len)) h ha N 0 0 0 [] [] (fun _ => false) 0 (by omega) (by omega) (by omega) (by omega) (fun _ => trivial) (fun _ => rfl) with ⟨v, x, q, e1, e2, e3⟩ | ⟨v, p', c, pend, m', d', e1, e2, e3, e4, q1, q2, q3, q4, q5, q6, q7, q8⟩
  · exact Or.inl ⟨v, x, q, e1, by omega, e3⟩
  · refine Or.inr ⟨v, p', e1, e3, ?_⟩
    have eC : cRead t len = cFin t (decide (40 < len)) p' (min len 40 - p') (c ++ [], pend ++ [], 0, m', d', false) := e4
    by_cases z' : p' < min len 40
    · refine Or.inl ⟨by omega, ?_⟩
      rw [eC]
      refine cFin_n z' ?_
      have h6 := q6 (by omega) z'
      have h7 := q7 (by omega) z'
      have h8 := q8 rfl
      rw [cStep_f]
      by_cases yd : cDig (t p') = true
      · rw [if_pos yd, if_pos (by rcases q5 with q5 | q5 | q5; exact Or.inl (by omega); exact Or.inr q5; exact absurd ⟨z', yd⟩ q5)]
      · rw [if_neg yd]
        by_cases n41 : t p' = 41
        · rw [if_pos n41, if_pos (by omega)]
        · rw [if_neg n41]
          by_cases yr : t p' = 60 ∨ t p' = 61 ∨ t p' = 62
          · have hm : m' 0 = true := h8.resolve_right (fun q => by have := q z'; omega)
            have hr : cRank (t p') = 1 := by unfold cRank; rw [if_pos yr]
            rw [hr, if_neg (by decide), if_pos ⟨rfl, hm⟩]
          · by_cases y256 : t p' = 256
            · have := (h.2.2.2.2.2.2.2 p' (by omega)).1
              omega
            · have hr : cRank (t p') = 0 := by unfold cRank; rw [if_neg yr, if_neg (by omega), if_neg (by omega), if_neg y256]
              rw [if_pos hr]
    · obtain rfl : p' = min len 40 := by omega
      rw [Nat.sub_self] at eC
      change cRead t len = (if decide (40 < len) = true ∨ false = true ∨ 0 < 0 then .inr (min len 40) else .inl (cRel 1 (pend ++ []) (c ++ [])).1.reverse) at eC
      by_cases yo : 40 < len
      · rw [if_pos (Or.inl (decide_eq_true yo))] at eC
        exact Or.inl ⟨by omega, eC⟩
      · rw [if_neg (by rintro (z | z | z); exact yo (of_decide_eq_true z); cases z; omega)] at eC
        refine Or.inr ⟨by omega, _, eC, fun st => ?_⟩
        rw [cRel_low (k := 1) (W := []) trivial pend (c ++ []) (fun x hx => q1 x hx)]
        rw [List.append_nil, List.reverse_append, List.reverse_reverse]
        exact q2 st
/-- code that a text tells always comes to one number -/
theorem cRead_good {code : List Int32} (hl : len ≤ 80) (ht : ∀ j, j < len → t j < 256) (h : cRead t len = .inl code) : cGood code := by
  intro ask
  have hR : RC ((fun a j => if a = 144 ∧ j = 12 then nI len else if a = 144 ∧ j = 13 then 40 else if a = 144 ∧ j = 20 then 1 else if a = 148 then bI (t j) else if a = 153 then ask j else 0, fun _ _ => 0, fun a j => if a = 144 ∧ j = 11 then some 148 else none) : gS) 148 len 40 t := by
    refine ⟨rfl, rfl, rfl, hl, by omega, fun L S j hj => zg148 (by omega), by omega, fun j hj => ⟨ht j hj, ?_⟩⟩
    dsimp only
    rw [if_neg (by omega), if_neg (by omega), if_neg (by omega), if_pos rfl]
  rcases M_held (L := 0) (N := 900) (ask := ask) hR (Or.inl ⟨rfl, fun k hk => by
    dsimp only
    rw [if_neg (by omega), if_neg (by omega), if_neg (by omega), if_neg (by omega), if_pos rfl]⟩) (by omega) with ⟨v, x, q, e1, e2, e3⟩ | ⟨v, p, e1, e2, (⟨e3, e4⟩ | ⟨e3, code', e4, e5⟩)⟩
  · rw [e3] at h; cases h
  · rw [e4] at h; cases h
  · rw [e4] at h
    cases h
    exact ⟨v, e5 []⟩
theorem ruleCode_good {code : List Int32} (hl : len ≤ 80) (ht : ∀ j, j < len → t j < 256) (h : ruleCode t len = .inl code) : cGood code := by
  unfold ruleCode at h
  split at h
  · cases h; exact noCode_good
  · exact cRead_good hl ht h
-- ===== beginning to read =====
theorem ms_fold {X : gS} {p w y : Int32} : stI (stI (stI X 144 14 p) 144 15 w) 144 7 y = ms (stI X 144 7 y) p w := by
  refine Prod.ext (funext fun a => funext fun j => ?_) rfl
  show (if a = 144 ∧ j = 7 then y else if a = 144 ∧ j = 15 then w else if a = 144 ∧ j = 14 then p else X.1 a j) = (if a = 144 ∧ j = 14 then p else if a = 144 ∧ j = 15 then w else if a = 144 ∧ j = 7 then y else X.1 a j)
  by_cases q1 : a = 144 ∧ j = 7
  · rw [if_pos q1, if_neg (by omega), if_neg (by omega), if_pos q1]
  · by_cases q2 : a = 144 ∧ j = 15
    · rw [if_neg q1, if_pos q2, if_neg (by omega), if_pos q2]
    · by_cases q3 : a = 144 ∧ j = 14
      · rw [if_neg q1, if_neg q2, if_pos q3, if_pos q3]
      · rw [if_neg q1, if_neg q2, if_neg q3, if_neg q3, if_neg q2, if_neg q1]
theorem ms_st {X : gS} {a k : Nat} {p w v : Int32} (h : a ≠ 144 ∨ (k ≠ 14 ∧ k ≠ 15)) : stI (ms X p w) a k v = ms (stI X a k v) p w := by
  refine Prod.ext (funext fun b => funext fun j => ?_) rfl
  show (if b = a ∧ j = k then v else if b = 144 ∧ j = 14 then p else if b = 144 ∧ j = 15 then w else X.1 b j) = (if b = 144 ∧ j = 14 then p else if b = 144 ∧ j = 15 then w else if b = a ∧ j = k then v else X.1 b j)
  by_cases q1 : b = a ∧ j = k
  · rw [if_pos q1, if_neg (by omega), if_neg (by omega), if_pos q1]
  · rw [if_neg q1, if_neg q1]
theorem ms_fold2 {X : gS} {p w : Int32} : stI (stI X 144 14 p) 144 15 w = ms X p w := by
  refine Prod.ext (funext fun a => funext fun j => ?_) rfl
  show (if a = 144 ∧ j = 15 then w else if a = 144 ∧ j = 14 then p else X.1 a j) = (if a = 144 ∧ j = 14 then p else if a = 144 ∧ j = 15 then w else X.1 a j)
  by_cases q2 : a = 144 ∧ j = 15
  · rw [if_pos q2, if_neg (by omega), if_pos q2]
  · rw [if_neg q2, if_neg q2]
def mBeg (S : gS) (id len top : Nat) : gS := stI (stI (stP S 144 11 (some id)) 144 12 (nI len)) 144 13 (nI top)
theorem mBeg_RC {top : Nat} {y : Int32} (hl : len ≤ 80) (htop : top ≤ 80) (hid : id ≠ 144) (hg : ∀ (L : Nat) (S : gS) (j : Nat), j < min len top → gaB (mk L S) id (nI j) = some (S.1 id j)) (ht : ∀ j, j < len → t j < 256 ∧ S.1 id j = bI (t j)) : RC (stI (mBeg S id len top) 144 7 y) id len top t := by
  refine ⟨rfl, ?_, ?_, hl, htop, hg, hid, fun j hj => ⟨(ht j hj).1, ?_⟩⟩
  all_goals unfold mBeg
  all_goals simp (disch := omega) only [rdI_ne, rdI_eq]
  exact (ht j hj).2
theorem RC.st {top a k : Nat} {v : Int32} (h : RC S id len top t) (ha : a ≠ id) (hk : a ≠ 144 ∨ (k ≠ 12 ∧ k ≠ 13)) : RC (stI S a k v) id len top t := by
  obtain ⟨h1, h2, h3, h4, h5, h6, h7, h8⟩ := h
  refine ⟨h1, ?_, ?_, h4, h5, h6, h7, fun j hj => ⟨(h8 j hj).1, ?_⟩⟩
  · rw [rdI_ne (by omega)]; exact h2
  · rw [rdI_ne (by omega)]; exact h3
  · rw [rdI_ne (by omega)]; exact (h8 j hj).2
/-- the reference's text -/
def MT (S : gS) (len : Nat) (t : Nat → Nat) : Prop := S.1 144 7 = nI len ∧ ∀ j, j < len → t j < 256 ∧ S.1 148 j = bI (t j)
theorem M_beginText {top : Nat} (hm : MT S len t) : f_c11_beginText N 144 (nI top) (mk L S) = some (mk L (ms (stI (mBeg S 148 len top) 144 7 0) 0 (-1))) := by
  have h1 : (stI (stI (stI (stI (stP S 144 11 (some 148)) 144 12 (nI len)) 144 13 (nI top)) 144 14 0) 144 15 (-1)) = ms (mBeg S 148 len top) 0 (-1) := ms_fold2
  have e1 := hm.1
  simp (disch := omega) only [Option.bind_some, ↓ile_t, ↓ile_f, ↓ilt_t, ↓ilt_f, ↓ieq_t, ↓ieq_f, ↓iz_t, ↓iz_f, ↓iltz, ↓izle, ↓ilez_t, ↓ilez_f, ↓im1, ile_t, ile_f, ilt_t, ilt_f, ieq_t, ieq_f, iz_t, iz_f, iltz, izle, ilez_t, ilez_f, im1, gZ_0, gZ_1, e10, e00, ↓reduceIte, Sum.elim_inl, Sum.elim_inr, nI_1, nI_add, Int32.sub_zero, f_c11_beginText, f_c11_begin, zc144, zr144_0, zi144_1, zs144_1, zi144_2, zs144_2, zi144_3, zs144_3, zr144_4, zr144_5, zr144_6, zi144_7, zs144_7, zr144_8, zi144_9, zs144_9, zi144_10, zs144_10, zs144_11, zi144_12, zs144_12, zi144_13, zs144_13, zi144_14, zs144_14, zi144_15, zs144_15, zr144_16, zs144_17, zr144_18, zi144_19, zs144_19, zi144_20, zs144_20, zr144_21, zr144_22, zi144_23, zs144_23, zr144_24, zr144_25, zr144_26, zr144_27, zr144_28, zr144_29, zr144_30, zr144_31, zr144_32, zr144_33, zi144_34, zs144_34, zr144_35, zr144_36, zi144_37, zs144_37, zi144_38, zs144_38, zr144_39, zr144_40, zr144_41, e1, h1, ms_st]
theorem mBeg_FM {top : Nat} {p w y : Int32} : FM (fun _ => False) (fun k => k = 7 ∨ (11 ≤ k ∧ k ≤ 15)) S (ms (stI (mBeg S id len top) 144 7 y) p w) := by
  rw [← ms_fold2]
  unfold mBeg
  refine FM.trans (FM.trans (FM.trans (FM.trans (FM.trans (FM.stP (K := fun k => k = 7 ∨ (11 ≤ k ∧ k ≤ 15)) (by omega)) (FM.stK (K := fun k => k = 7 ∨ (11 ≤ k ∧ k ≤ 15)) (by omega)) (fun _ z => z) (fun _ z => z) (fun _ z => z) (fun _ z => z)) (FM.stK (K := fun k => k = 7 ∨ (11 ≤ k ∧ k ≤ 15)) (by omega)) (fun _ z => z) (fun _ z => z) (fun _ z => z) (fun _ z => z)) (FM.stK (K := fun k => k = 7 ∨ (11 ≤ k ∧ k ≤ 15)) (by omega)) (fun _ z => z) (fun _ z => z) (fun _ z => z) (fun _ z => z)) (FM.stK (K := fun k => k = 7 ∨ (11 ≤ k ∧ k ≤ 15)) (by omega)) (fun _ z => z) (fun _ z => z) (fun _ z => z) (fun _ z => z)) (FM.stK (K := fun k => k = 7 ∨ (11 ≤ k ∧ k ≤ 15)) (by omega)) (fun _ z => z) (fun _ z => z) (fun _ z => z) (fun _ z => z)
theorem ms_FM {K : Nat → Prop} {X : gS} {p w p' w' : Int32} (h14 : K 14) (h15 : K 15) : FM (fun _ => False) K (ms X p w) (ms X p' w') := by
  have e : ms X p' w' = stI (stI (ms X p w) 144 14 p') 144 15 w' := by rw [ms_fold2, ms_ms]
  rw [e]
  exact FM.trans (FM.stK (K := K) h14) (FM.stK (K := K) h15) (fun _ z => z) (fun _ z => z) (fun _ z => z) (fun _ z => z)
theorem M_right_f {p q : Nat} {X : gS} {x : Int32} (hx : X.1 144 12 = nI len) (hl : len ≤ 80) (hq : q < 1000) : f_c11_wasRight N 144 (mk L (ms X x (nI q))) = some (0, mk L (ms X x (nI q))) := by
  have e1 : (ms X x (nI q)).1 144 12 = nI len := (ms_o (by omega)).trans hx
  have e2 := M_fine_f (L := L) (N := N) (S := X) (x := x) (q := q) hq
  by_cases z : nI len ≤ x
  · simp (disch := omega) only [Option.bind_some, ↓ile_t, ↓ile_f, ↓ilt_t, ↓ilt_f, ↓ieq_t, ↓ieq_f, ↓iz_t, ↓iz_f, ↓iltz, ↓izle, ↓ilez_t, ↓ilez_f, ↓im1, ile_t, ile_f, ilt_t, ilt_f, ieq_t, ieq_f, iz_t, iz_f, iltz, izle, ilez_t, ilez_f, im1, gZ_0, gZ_1, e10, e00, ↓reduceIte, Sum.elim_inl, Sum.elim_inr, nI_1, nI_add, Int32.sub_zero, f_c11_wasRight, zc144, zi144_14, zi144_12, ms_p, e1, if_pos z, e2]
  · simp (disch := omega) only [Option.bind_some, ↓ile_t, ↓ile_f, ↓ilt_t, ↓ilt_f, ↓ieq_t, ↓ieq_f, ↓iz_t, ↓iz_f, ↓iltz, ↓izle, ↓ilez_t, ↓ilez_f, ↓im1, ile_t, ile_f, ilt_t, ilt_f, ieq_t, ieq_f, iz_t, iz_f, iltz, izle, ilez_t, ilez_f, im1, gZ_0, gZ_1, e10, e00, ↓reduceIte, Sum.elim_inl, Sum.elim_inr, nI_1, nI_add, Int32.sub_zero, f_c11_wasRight, zc144, zi144_14, zi144_12, ms_p, e1, if_neg z, M_fault_f (L := L) (N := N) (S := X) (w := x) (q := q) hq, e2]
theorem M_right_t {X : gS} {p : Nat} (hx : X.1 144 12 = nI len) (hl : len ≤ 80) (hp : len ≤ p) (hp2 : p < 1000) : f_c11_wasRight N 144 (mk L (ms X (nI p) (-1))) = some (1, mk L (ms X (nI p) (-1))) := by
  have e1 : (ms X (nI p) (-1)).1 144 12 = nI len := (ms_o (by omega)).trans hx
  simp (disch := omega) only [Option.bind_some, ↓ile_t, ↓ile_f, ↓ilt_t, ↓ilt_f, ↓ieq_t, ↓ieq_f, ↓iz_t, ↓iz_f, ↓iltz, ↓izle, ↓ilez_t, ↓ilez_f, ↓im1, ile_t, ile_f, ilt_t, ilt_f, ieq_t, ieq_f, iz_t, iz_f, iltz, izle, ilez_t, ilez_f, im1, gZ_0, gZ_1, e10, e00, ↓reduceIte, Sum.elim_inl, Sum.elim_inr, nI_1, nI_add, Int32.sub_zero, f_c11_wasRight, zc144, zi144_14, zi144_12, ms_p, e1, M_fine_t]
theorem M_right_n {X : gS} {p : Nat} (hx : X.1 144 12 = nI len) (hl : len ≤ 80) (hp : p < len) : f_c11_wasRight N 144 (mk L (ms X (nI p) (-1))) = some (0, mk L (ms X (nI p) (nI p))) := by
  have e1 : (ms X (nI p) (-1)).1 144 12 = nI len := (ms_o (by omega)).trans hx
  simp (disch := omega) only [Option.bind_some, ↓ile_t, ↓ile_f, ↓ilt_t, ↓ilt_f, ↓ieq_t, ↓ieq_f, ↓iz_t, ↓iz_f, ↓iltz, ↓izle, ↓ilez_t, ↓ilez_f, ↓im1, ile_t, ile_f, ilt_t, ilt_f, ieq_t, ieq_f, iz_t, iz_f, iltz, izle, ilez_t, ilez_f, im1, gZ_0, gZ_1, e10, e00, ↓reduceIte, Sum.elim_inl, Sum.elim_inr, nI_1, nI_add, Int32.sub_zero, f_c11_wasRight, zc144, zi144_14, zi144_12, ms_p, e1, M_fault_t, M_fine_f (L := L) (N := N) (S := X) (x := nI p) (q := p) (by omega)]
theorem M_readRule (hm : MT S len t) (hl : len ≤ 80) (hN : 900 ≤ N) : ∃ S', FM (fun _ => False) (fun k => k = 7 ∨ (11 ≤ k ∧ k ≤ 15) ∨ k = 20) S S' ∧ S'.1 144 7 = 0 ∧ S'.1 144 20 = 0 ∧
    match ruleCode t len with
    | .inr q => f_c11_readRule N 144 (mk L S) = some (0, mk L S') ∧ S'.1 144 15 = nI q ∧ q < 1000
    | .inl _ => f_c11_readRule N 144 (mk L S) = some (1, mk L S') := by
  have eb := M_beginText (L := L) (N := N) (top := 40) hm
  have hR : RC (stI (stI (mBeg S 148 len 40) 144 7 0) 144 20 0) 148 len 40 t := RC.st (mBeg_RC (y := 0) hl (by omega) (by omega) (fun L S j hj => zg148 (by omega)) hm.2) (by omega) (by omega)
  have hA : AskOk (stI (stI (mBeg S 148 len 40) 144 7 0) 144 20 0) (fun _ => 0) := Or.inr ⟨rdI_eq, rfl⟩
  have hF0 : FM (fun _ => False) (fun k => k = 7 ∨ (11 ≤ k ∧ k ≤ 15) ∨ k = 20) S (ms (stI (stI (mBeg S 148 len 40) 144 7 0) 144 20 0) 0 (-1)) := by
    rw [← ms_st (by omega)]
    exact mBeg_FM.trans (FM.stK (K := fun k => k = 20) rfl) (fun _ z => z) (fun _ z => z) (fun _ z => by omega) (fun _ z => by omega)
  have hx : (stI (stI (mBeg S 148 len 40) 144 7 0) 144 20 0).1 144 12 = nI len := hR.2.1
  have e7 : ∀ p w : Int32, (ms (stI (stI (mBeg S 148 len 40) 144 7 0) 144 20 0) p w).1 144 7 = 0 := fun p w => by
    rw [ms_o (by omega), rdI_ne (by omega), rdI_eq]
  have e20 : ∀ p w : Int32, (ms (stI (stI (mBeg S 148 len 40) 144 7 0) 144 20 0) p w).1 144 20 = 0 := fun p w => by
    rw [ms_o (by omega), rdI_eq]
  have eC : ∀ p w : Int32, (ms (stI (stI (mBeg S 148 len 40) 144 7 0) 144 20 0) p w).1 144 12 = nI len := fun p w => (ms_o (by omega)).trans hx
  by_cases z : len = 0
  · refine ⟨ms (stI (stI (mBeg S 148 len 40) 144 7 0) 144 20 0) 0 (-1), hF0, e7 _ _, e20 _ _, ?_⟩
    unfold ruleCode
    rw [if_pos z]
    have e1 := M_right_t (L := L) (N := N) (X := stI (stI (mBeg S 148 len 40) 144 7 0) 144 20 0) (p := 0) hx hl (by omega) (by omega)
    rw [nI_0] at e1
    show f_c11_readRule N 144 (mk L S) = _
    have e0 : nI len ≤ 0 := by rw [z]; decide
    simp (disch := omega) only [Option.bind_some, ↓ile_t, ↓ile_f, ↓ilt_t, ↓ilt_f, ↓ieq_t, ↓ieq_f, ↓iz_t, ↓iz_f, ↓iltz, ↓izle, ↓ilez_t, ↓ilez_f, ↓im1, ile_t, ile_f, ilt_t, ilt_f, ieq_t, ieq_f, iz_t, iz_f, iltz, izle, ilez_t, ilez_f, im1, gZ_0, gZ_1, e10, e00, ↓reduceIte, Sum.elim_inl, Sum.elim_inr, nI_1, nI_add, Int32.sub_zero, f_c11_readRule, zc144, k40, eb, zs144_20, ms_st, zi144_12, eC, if_pos e0, e1]
  · have e0 : ¬ nI len ≤ 0 := nI_nle (by omega) (by omega)
    unfold ruleCode
    rw [if_neg z]
    rcases M_held (L := L) (N := N) hR hA hN with ⟨v, x, q, e1, e2, e3⟩ | ⟨v, p, e1, e2, (⟨e3, e4⟩ | ⟨e3, code', e4, e5⟩)⟩
    · refine ⟨ms (stI (stI (mBeg S 148 len 40) 144 7 0) 144 20 0) x (nI q), hF0.trans (ms_FM (K := fun k => k = 7 ∨ (11 ≤ k ∧ k ≤ 15) ∨ k = 20) (by omega) (by omega)) (fun _ z => z) (fun _ z => z) (fun _ z => z) (fun _ z => z), e7 _ _, e20 _ _, ?_⟩
      rw [e3]
      refine ⟨?_, ms_w, by omega⟩
      simp (disch := omega) only [Option.bind_some, ↓ile_t, ↓ile_f, ↓ilt_t, ↓ilt_f, ↓ieq_t, ↓ieq_f, ↓iz_t, ↓iz_f, ↓iltz, ↓izle, ↓ilez_t, ↓ilez_f, ↓im1, ile_t, ile_f, ilt_t, ilt_f, ieq_t, ieq_f, iz_t, iz_f, iltz, izle, ilez_t, ilez_f, im1, gZ_0, gZ_1, e10, e00, ↓reduceIte, Sum.elim_inl, Sum.elim_inr, nI_1, nI_add, Int32.sub_zero, f_c11_readRule, zc144, k40, eb, zs144_20, ms_st, zi144_12, eC, if_neg e0, e1, M_right_f (L := L) (N := N) (p := 0) (x := x) (q := q) hx hl (by omega)]
    · refine ⟨ms (stI (stI (mBeg S 148 len 40) 144 7 0) 144 20 0) (nI p) (nI p), hF0.trans (ms_FM (K := fun k => k = 7 ∨ (11 ≤ k ∧ k ≤ 15) ∨ k = 20) (by omega) (by omega)) (fun _ z => z) (fun _ z => z) (fun _ z => z) (fun _ z => z), e7 _ _, e20 _ _, ?_⟩
      rw [e4]
      refine ⟨?_, ms_w, by omega⟩
      simp (disch := omega) only [Option.bind_some, ↓ile_t, ↓ile_f, ↓ilt_t, ↓ilt_f, ↓ieq_t, ↓ieq_f, ↓iz_t, ↓iz_f, ↓iltz, ↓izle, ↓ilez_t, ↓ilez_f, ↓im1, ile_t, ile_f, ilt_t, ilt_f, ieq_t, ieq_f, iz_t, iz_f, iltz, izle, ilez_t, ilez_f, im1, gZ_0, gZ_1, e10, e00, ↓reduceIte, Sum.elim_inl, Sum.elim_inr, nI_1, nI_add, Int32.sub_zero, f_c11_readRule, zc144, k40, eb, zs144_20, ms_st, zi144_12, eC, if_neg e0, e1, M_right_n (L := L) (N := N) (p := p) hx hl e3]
    · refine ⟨ms (stI (stI (mBeg S 148 len 40) 144 7 0) 144 20 0) (nI p) (-1), hF0.trans (ms_FM (K := fun k => k = 7 ∨ (11 ≤ k ∧ k ≤ 15) ∨ k = 20) (by omega) (by omega)) (fun _ z => z) (fun _ z => z) (fun _ z => z) (fun _ z => z), e7 _ _, e20 _ _, ?_⟩
      rw [e4]
      show f_c11_readRule N 144 (mk L S) = _
      simp (disch := omega) only [Option.bind_some, ↓ile_t, ↓ile_f, ↓ilt_t, ↓ilt_f, ↓ieq_t, ↓ieq_f, ↓iz_t, ↓iz_f, ↓iltz, ↓izle, ↓ilez_t, ↓ilez_f, ↓im1, ile_t, ile_f, ilt_t, ilt_f, ieq_t, ieq_f, iz_t, iz_f, iltz, izle, ilez_t, ilez_f, im1, gZ_0, gZ_1, e10, e00, ↓reduceIte, Sum.elim_inl, Sum.elim_inr, nI_1, nI_add, Int32.sub_zero, f_c11_readRule, zc144, k40, eb, zs144_20, ms_st, zi144_12, eC, if_neg e0, e1, M_right_t (L := L) (N := N) (p := p) hx hl (by omega) (by omega)]
end MRULE
