/-! CALLS: plain: the reference -/
def plC (t : Nat → Nat) (j : Nat) : Nat := if plV t j then t (2 + j) - 48 else 0
section PLAINM
variable {L N : Nat} {S T T' X : gS} {c : Nat} {g g' : pG} {v v' : pV} {x : pX} {l : List Int64} {u : pX} {n : pN} {k : Nat → Option pV} {h : pH} {A : pA}
def pmA (y : Nat) : Prop := sM y ∨ (145 ≤ y ∧ y ≤ 148)
def pmK (y : Nat) : Prop := sK y ∨ (1 ≤ y ∧ y ≤ 3) ∨ y = 7 ∨ y = 23 ∨ y = 38
theorem M_newMA (q : MA T (g, v, x, l, u, n, k, h) c) (f : FM pmA pmK T T') (hg : MG T' g') (hv : MW T' 145 v') (h7 : T'.1 144 7 = 0) (h23 : T'.1 144 23 = 0) (h38 : T'.1 144 38 = nI (c + 1)) : MA T' (g', v', (0, x.2), l, u, (0, n.2), kNo, h) (c + 1) := by
  obtain ⟨q1, q2, q3, q4, ⟨q5, q0⟩, q6, q7, q8⟩ := q
  have na : ∀ y, (y = 149 ∨ y = 151 ∨ y = 163 ∨ y = 164 ∨ y = 167 ∨ y = 168 ∨ y = 169) → ¬ pmA y := fun y hy => by unfold pmA sM; omega
  have nk : ∀ y, (y = 9 ∨ y = 17 ∨ y = 18 ∨ y = 19 ∨ y = 34) → ¬ pmK y := fun y hy => by unfold pmK sK; omega
  refine ⟨hg, hv, ⟨h7, fun j hj => by cases (show j < 0 from hj)⟩, q4.fm f (na _ (by omega)) (nk _ (by omega)), ⟨⟨(f.p (nk _ (by omega))).trans q5.1, (f.k (nk _ (by omega))).trans q5.2.1, q5.2.2.1, q5.2.2.2.1, fun j hj => ⟨(q5.2.2.2.2 j hj).1, (f.i (by omega) (na _ (by omega)) j).trans (q5.2.2.2.2 j hj).2⟩⟩, (f.p (nk _ (by omega))).trans q0⟩, ⟨h23, fun i hi => by cases (show i < 0 from hi)⟩, ⟨h38, fun i hi => ⟨fun _ => ?_, fun w hw => by cases hw⟩⟩, q8.fm f ⟨na _ (by omega), na _ (by omega)⟩ (nk _ (by omega))⟩
  have e1 : T'.1 168 i = T.1 168 i := f.i (by omega) (na _ (by omega)) i
  have e2 : T'.1 169 i = T.1 169 i := f.i (by omega) (na _ (by omega)) i
  rw [e1, e2]
  obtain ⟨p1, p2⟩ := q7.2 i hi
  cases hk : k i with
  | none =>
    rcases p1 hk with z | ⟨z1, d, hd, z2⟩
    · exact Or.inl z
    · exact Or.inr ⟨z1, d, by omega, z2⟩
  | some w =>
    obtain ⟨z1, z2, -⟩ := p2 w hk
    exact Or.inr ⟨z1, c, by omega, z2⟩
theorem M_plOk {i m kk : Nat} {a b : Nat} (hab : a * b = m) (hR : RC X 148 x.1 38 x.2) (hm : m ≤ 36) (ha : a ≤ 6 ∧ b ≤ 6) (hi : i < m) (hok : plOk x i) (hn : plN x.2 i ≤ 6) (hb : ∀ j, j < x.1 → x.2 j < 256) :
    lp_c11_plain_36 N 144 (nI a) (nI b) (kk + 1) (nI (plN x.2 i)) (nI i) (mk L (ms X (nI (2 + i)) (-1))) = lp_c11_plain_36 N 144 (nI a) (nI b) kk (nI (plN x.2 (i + 1))) (nI (i + 1)) (mk L (ms (stI X 150 i (nI (plC x.2 i))) (nI (2 + (i + 1))) (-1))) := by
  have hl := hok.1
  have hmin : 2 + i < min x.1 38 := by omega
  have eH := M_here_t (L := L) (N := N) (w := -1) hR hmin
  have hR2 : RC (stI X 150 i (nI (plC x.2 i))) 148 x.1 38 x.2 := hR.st (by omega) (by omega)
  have eH2 := M_here_t (L := L) (N := N) (w := -1) hR2 hmin
  have hb2 := hb _ hl
  rw [lp_c11_plain_36.eq_2, nI_mul, hab, ile_f hi (by omega), M_fine_t, Option.bind_some, if_neg (show ¬ (1 : Int32) = 0 by decide), zr144_16, Option.bind_some, eH, Option.bind_some]
  by_cases z : plV x.2 i
  · have z1 := z.1
    have z2 := z.2
    have hn2 : plN x.2 i < 6 := by
      rcases hok.2 with y | y
      · exact y.2
      · omega
    have eI : f_c11_in N (nI (x.2 (2 + i))) 49 54 (mk L (ms X (nI (2 + i)) (-1))) = some 1 := M_inT (lo := 49) (hi := 54) z1 z2 (by omega)
    have eC : plC x.2 i = x.2 (2 + i) - 48 := if_pos z
    have e48 : nI (x.2 (2 + i)) - 48 = nI (plC x.2 i) := by rw [k48, nI_sub (by omega), eC]
    have n6 : ¬ nI (plN x.2 i) = 6 := fun e => by have := (nI_eq (b := 6) (by omega) (by omega)).mp e; omega
    rw [eI, Option.bind_some, if_neg (show ¬ (1 : Int32) = 0 by decide), Option.bind_some, e48]
    dsimp only
    rw [Option.bind_some, zp150 (by omega), Option.bind_some, ms_st (by omega)]
    have e150 : (ms (stI X 150 i (nI (plC x.2 i))) (nI (2 + i)) (-1)).1 150 i = nI (plC x.2 i) := (ms_o (by omega)).trans rdI_eq
    simp (disch := omega) only [Option.bind_some, ↓ile_t, ↓ile_f, ↓ilt_t, ↓ilt_f, ↓ieq_t, ↓ieq_f, ↓iz_t, ↓iz_f, ↓iltz, ↓izle, ↓ilez_t, ↓ilez_f, ↓im1, ile_t, ile_f, ilt_t, ilt_f, ieq_t, ieq_f, iz_t, iz_f, iltz, izle, ilez_t, ilez_f, im1, gZ_0, gZ_1, e10, e00, ↓reduceIte, Sum.elim_inl, Sum.elim_inr, nI_1, nI_add, Int32.sub_zero, zr144_16, zg150, e150, if_neg n6, zi144_14, zs144_14, ms_p, ms_14]
    rw [plN_t z]
    rfl
  · have h46 : x.2 (2 + i) = 46 := hok.2.elim (fun y => absurd y.1 z) id
    have eI : f_c11_in N (nI (x.2 (2 + i))) 49 54 (mk L (ms X (nI (2 + i)) (-1))) = some 0 := M_in_l (nI_lt (b := 49) (by omega) (by omega))
    have eC : plC x.2 i = 0 := if_neg z
    have e4 : nI (x.2 (2 + i)) = 46 := by rw [h46]; rfl
    rw [eC, nI_0] at eH2
    rw [eI, Option.bind_some, if_pos (show (0 : Int32) = 0 from rfl), Option.bind_some, zp150 (by omega), Option.bind_some, ms_st (by omega), eC, nI_0]
    have e150 : (ms (stI X 150 i 0) (nI (2 + i)) (-1)).1 150 i = 0 := (ms_o (by omega)).trans rdI_eq
    have c00 : (0 : Int32) ≤ 0 := by decide
    simp (disch := omega) only [Option.bind_some, ↓ile_t, ↓ile_f, ↓ilt_t, ↓ilt_f, ↓ieq_t, ↓ieq_f, ↓iz_t, ↓iz_f, ↓iltz, ↓izle, ↓ilez_t, ↓ilez_f, ↓im1, ile_t, ile_f, ilt_t, ilt_f, ieq_t, ieq_f, iz_t, iz_f, iltz, izle, ilez_t, ilez_f, im1, gZ_0, gZ_1, e10, e00, ↓reduceIte, Sum.elim_inl, Sum.elim_inr, nI_1, nI_add, Int32.sub_zero, zr144_16, zg150, e150, eq_self_iff_true, eH2, if_pos e4, if_pos c00, zi144_14, zs144_14, ms_p, ms_14]
    rw [show plN x.2 (i + 1) = plN x.2 i by unfold plN; rw [plN_f z], Int32.add_zero]
    rfl
theorem M_plBad {i m kk : Nat} {a b : Nat} (hab : a * b = m) (hR : RC X 148 x.1 38 x.2) (hm : m ≤ 36) (ha : a ≤ 6 ∧ b ≤ 6) (hi : i < m) (hok : ¬ plOk x i) (hn : plN x.2 i ≤ 6) (hb : ∀ j, j < x.1 → x.2 j < 256) :
    ∃ X', lp_c11_plain_36 N 144 (nI a) (nI b) (kk + 2) (nI (plN x.2 i)) (nI i) (mk L (ms X (nI (2 + i)) (-1))) = some (mk L (ms X' (nI (2 + (i + 1))) (nI (2 + i)))) ∧ FM (fun y => y = 150) (fun _ => False) X X' := by
  have hE : ∀ (s : gS) (y : Int32), lp_c11_plain_36 N 144 (nI a) (nI b) (kk + 1) y (nI (i + 1)) (mk L (ms s (nI (2 + (i + 1))) (nI (2 + i)))) = some (mk L (ms s (nI (2 + (i + 1))) (nI (2 + i)))) := by
    intro s y
    rw [lp_c11_plain_36.eq_2, nI_mul, hab]
    by_cases z : m ≤ i + 1
    · rw [ile_t z (by omega)]
    · rw [ile_f (by omega) (by omega), M_fine_f (by omega), Option.bind_some, if_pos rfl]
  rw [lp_c11_plain_36.eq_2, nI_mul, hab, ile_f hi (by omega), M_fine_t, Option.bind_some, if_neg (show ¬ (1 : Int32) = 0 by decide), zr144_16, Option.bind_some]
  by_cases z : 2 + i < x.1 ∧ plV x.2 i
  · have z1 := z.2.1
    have z2 := z.2.2
    have hmin : 2 + i < min x.1 38 := by have := z.1; omega
    have eH := M_here_t (L := L) (N := N) (w := -1) hR hmin
    have hn2 : plN x.2 i = 6 := by
      by_cases y : plN x.2 i < 6
      · exact absurd ⟨z.1, Or.inl ⟨z.2, y⟩⟩ hok
      · omega
    have eI : f_c11_in N (nI (x.2 (2 + i))) 49 54 (mk L (ms X (nI (2 + i)) (-1))) = some 1 := M_inT (lo := 49) (hi := 54) z1 z2 (by omega)
    have e48 : nI (x.2 (2 + i)) - 48 = nI (x.2 (2 + i) - 48) := by rw [k48, nI_sub (by omega)]
    have e6 : nI (plN x.2 i) = 6 := by rw [hn2]; rfl
    refine ⟨stI X 150 i (nI (x.2 (2 + i) - 48)), ?_, FM.stA rfl (by omega)⟩
    rw [eH, Option.bind_some, eI, Option.bind_some, if_neg (show ¬ (1 : Int32) = 0 by decide), Option.bind_some, e48]
    dsimp only
    rw [Option.bind_some, zp150 (by omega), Option.bind_some, ms_st (by omega)]
    have e150 : (ms (stI X 150 i (nI (x.2 (2 + i) - 48))) (nI (2 + i)) (-1)).1 150 i = nI (x.2 (2 + i) - 48) := (ms_o (by omega)).trans rdI_eq
    have e150' : (ms (stI X 150 i (nI (x.2 (2 + i) - 48))) (nI (2 + i)) (nI (2 + i))).1 150 i = nI (x.2 (2 + i) - 48) := (ms_o (by omega)).trans rdI_eq
    simp (disch := omega) only [Option.bind_some, ↓ile_t, ↓ile_f, ↓ilt_t, ↓ilt_f, ↓ieq_t, ↓ieq_f, ↓iz_t, ↓iz_f, ↓iltz, ↓izle, ↓ilez_t, ↓ilez_f, ↓im1, ile_t, ile_f, ilt_t, ilt_f, ieq_t, ieq_f, iz_t, iz_f, iltz, izle, ilez_t, ilez_f, im1, gZ_0, gZ_1, e10, e00, ↓reduceIte, Sum.elim_inl, Sum.elim_inr, nI_1, nI_add, Int32.sub_zero, zr144_16, zg150, e150, e150', if_pos e6, zi144_14, zs144_14, ms_p, ms_14, M_fault_t]
    exact hE _ _
  · have hA : ∃ y, f_c11_here N 144 (mk L (ms X (nI (2 + i)) (-1))) = some y ∧ f_c11_in N y 49 54 (mk L (ms X (nI (2 + i)) (-1))) = some 0 ∧ ¬ y = 46 ∧ f_c11_here N 144 (mk L (ms (stI X 150 i 0) (nI (2 + i)) (-1))) = some y := by
      have hR2 : RC (stI X 150 i 0) 148 x.1 38 x.2 := hR.st (by omega) (by omega)
      by_cases y : 2 + i < x.1
      · have hmin : 2 + i < min x.1 38 := by omega
        have hb2 := hb _ y
        refine ⟨_, M_here_t hR hmin, ?_, fun e => hok ⟨y, Or.inr ((nI_eq (b := 46) (by omega) (by omega)).mp e)⟩, M_here_t hR2 hmin⟩
        by_cases y1 : x.2 (2 + i) < 49
        · exact M_in_l (nI_lt (b := 49) y1 (by omega))
        · have y2 : 54 < x.2 (2 + i) := by
            by_cases y2 : 54 < x.2 (2 + i)
            · exact y2
            · exact absurd ⟨y, by omega, by omega⟩ z
          exact M_in_h (nI_lt (a := 54) y2 (by omega))
      · exact ⟨-1, M_here_f hR (by omega) (by omega), M_in_l (by decide), by decide, M_here_f hR2 (by omega) (by omega)⟩
    obtain ⟨y, eH, eI, ey, eH2⟩ := hA
    refine ⟨stI X 150 i 0, ?_, FM.stA rfl (by omega)⟩
    rw [eH, Option.bind_some, eI, Option.bind_some, if_pos (show (0 : Int32) = 0 from rfl), Option.bind_some, zp150 (by omega), Option.bind_some, ms_st (by omega)]
    have e150 : (ms (stI X 150 i 0) (nI (2 + i)) (-1)).1 150 i = 0 := (ms_o (by omega)).trans rdI_eq
    have e150' : (ms (stI X 150 i 0) (nI (2 + i)) (nI (2 + i))).1 150 i = 0 := (ms_o (by omega)).trans rdI_eq
    have c00 : (0 : Int32) ≤ 0 := by decide
    simp (disch := omega) only [Option.bind_some, ↓ile_t, ↓ile_f, ↓ilt_t, ↓ilt_f, ↓ieq_t, ↓ieq_f, ↓iz_t, ↓iz_f, ↓iltz, ↓izle, ↓ilez_t, ↓ilez_f, ↓im1, ile_t, ile_f, ilt_t, ilt_f, ieq_t, ieq_f, iz_t, iz_f, iltz, izle, ilez_t, ilez_f, im1, gZ_0, gZ_1, e10, e00, ↓reduceIte, Sum.elim_inl, Sum.elim_inr, nI_1, nI_add, Int32.sub_zero, zr144_16, zg150, e150, e150', eq_self_iff_true, eH2, if_neg ey, if_pos c00, zi144_14, zs144_14, ms_p, ms_14, M_fault_t]
    exact hE _ _
end PLAINM
