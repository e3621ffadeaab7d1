/-! CALLS: wells: the reference reads a line -/
section WELLSM
variable {L N : Nat} {S T X : gS} {c : Nat} {g : pG} {v v0 v' : pV} {x : pX} {l : List Int64} {u : pX} {n : pN} {k : Nat → Option pV} {h : pH} {A : pA}
/-- a line from its field on -/
def rwT (N : Nat) (x1 : Int32) (fv : Int32) (h : gH) : Option (gH) :=
    (gfR h 144 11 16).bind fun v23 =>
    (sa 0 h v23 ((3 : Int32) * x1) fv).bind fun h24 =>
    (gfR h24 144 11 16).bind fun v25 =>
    (f_c11_oneOf N 144 (49 : Int32) (9 : Int32) h24).bind fun q26 =>
    (sa 0 q26.2 v25 (((3 : Int32) * x1) + (1 : Int32)) (q26.1 + (1 : Int32))).bind fun h27 =>
    (gfR h27 144 11 16).bind fun v28 =>
    (f_c11_here N 144 h27).bind fun q29 =>
    (sa 0 h27 v28 (((3 : Int32) * x1) + (2 : Int32)) (if q29 = (46 : Int32) then (1 : Int32) else (0 : Int32))).bind fun h33 =>
    (f_c11_fine N 144 h33).bind fun q34 =>
    (show Option (gH) from if q34 = 0 then
    some h33
  else
    (f_c11_here N 144 h33).bind fun q40 =>
    if q40 = (46 : Int32) then
    some h33
  else
    (f_c11_here N 144 h33).bind fun q42 =>
    if q42 = (44 : Int32) then
    some h33
  else
    (gfI h33 144 11 14).bind fun v44 =>
    (f_c11_fault N 144 v44 h33).bind fun q45 =>
    some q45).bind fun t36 =>
    (gfI t36 144 11 14).bind fun v38 =>
    (sf t36 144 11 14 (.int (v38 + (1 : Int32)))).bind fun h39 =>
    some h39
theorem rw_head {N : Nat} {x1 : Int32} {h : gH} : f_c11_readWell N 144 x1 h = (
  (gcl h 144 11).bind fun _ =>
  (gfI h 144 11 1).bind fun v1 =>
    (f_c11_oneOf N 144 (48 : Int32) v1 h).bind fun q2 =>
    (gfI q2.2 144 11 2).bind fun v3 =>
    (gfI q2.2 144 11 2).bind fun v4 =>
    (f_c11_oneOf N 144 (48 : Int32) v4 q2.2).bind fun q5 =>
    (gfR q5.2 144 11 0).bind fun v6 =>
    (f_c11_wellOn N v6 ((v3 * q2.1) + q5.1) q5.2).bind fun q7 =>
    (lp_c11_readWell_51 N 144 x1 ((v3 * q2.1) + q5.1) q5.2 N (if q7 = (-1 : Int32) then (1 : Int32) else (0 : Int32)) (0 : Int32)).bind fun o18 =>
    (f_c11_fine N 144 q5.2).bind fun q19 =>
    (show Option (gH) from if q19 = 0 then
    some q5.2
  else
    if o18 = 0 then
    (gfI q5.2 144 11 14).bind fun v47 =>
    (f_c11_fault N 144 (v47 - (1 : Int32)) q5.2).bind fun q48 =>
    some q48
  else
    some q5.2).bind fun t21 =>
    rwT N x1 ((v3 * q2.1) + q5.1) t21) := rfl

theorem fm150 {k : Nat} {y : Int32} : FM (fun y => y = 150) (fun _ => False) X (stI X 150 k y) := FM.stA rfl (by omega)
def vEx (v0 v : pV) (n : Nat) : Prop := vN v = vN v0 + n ∧ vS v = vS v0 ∧ vP v = vP v0 ∧ (∀ j, j < vN v0 → vF v j = vF v0 j ∧ vW v j = vW v0 j ∧ vM v j = vM v0 j ∧ vA v j = vA v0 j ∧ vT v j = vT v0 j) ∧ ∀ k, k < n → vA v (vN v0 + k) = 0 ∧ vT v (vN v0 + k) = 0
theorem vEx.add {n : Nat} {f w m : Nat} (h : vEx v0 v n) : vEx v0 (vAdd v f w m) (n + 1) := by
  obtain ⟨h1, h2, h3, h4, h5⟩ := h
  refine ⟨by show vN v + 1 = _; omega, h2, h3, fun j hj => ?_, fun k hk => ?_⟩
  · show nup (vF v) (vN v) f j = _ ∧ nup (vW v) (vN v) w j = _ ∧ nup (vM v) (vN v) m j = _ ∧ nup (vA v) (vN v) 0 j = _ ∧ nup (vT v) (vN v) 0 j = _
    rw [nup_ne (by omega), nup_ne (by omega), nup_ne (by omega), nup_ne (by omega), nup_ne (by omega)]
    exact h4 j hj
  · show nup (vA v) (vN v) 0 (vN v0 + k) = 0 ∧ nup (vT v) (vN v) 0 (vN v0 + k) = 0
    by_cases z : k = n
    · rw [z, ← h1, nup_eq, nup_eq]
      exact ⟨rfl, rfl⟩
    · rw [nup_ne (by omega), nup_ne (by omega)]
      exact h5 k (by omega)
def cmC (X : gS) (v0 v : pV) (n : Nat) : Prop := ∀ k, k < n → X.1 150 (3 * k) = nI (vF v (vN v0 + k)) ∧ X.1 150 (3 * k + 1) = nI (vW v (vN v0 + k)) ∧ X.1 150 (3 * k + 2) = nI (vM v (vN v0 + k))
theorem cmC.add {n f w m : Nat} (h : cmC X v0 v n) (hn : vN v = vN v0 + n) : cmC (stI (stI (stI X 150 (3 * n) (nI f)) 150 (3 * n + 1) (nI w)) 150 (3 * n + 2) (nI m)) v0 (vAdd v f w m) (n + 1) := by
  intro k hk
  show _ = nI (nup (vF v) (vN v) f (vN v0 + k)) ∧ _ = nI (nup (vW v) (vN v) w (vN v0 + k)) ∧ _ = nI (nup (vM v) (vN v) m (vN v0 + k))
  by_cases z : k = n
  · rw [z, ← hn, nup_eq, nup_eq, nup_eq]
    exact ⟨by rw [rdI_ne (by omega), rdI_ne (by omega), rdI_eq], by rw [rdI_ne (by omega), rdI_eq], rdI_eq⟩
  · have := h k (by omega)
    rw [nup_ne (by omega), nup_ne (by omega), nup_ne (by omega)]
    exact ⟨by rw [rdI_ne (by omega), rdI_ne (by omega), rdI_ne (by omega)]; exact this.1, by rw [rdI_ne (by omega), rdI_ne (by omega), rdI_ne (by omega)]; exact this.2.1, by rw [rdI_ne (by omega), rdI_ne (by omega), rdI_ne (by omega)]; exact this.2.2⟩
theorem sOn_ex {n f : Nat} (h : vEx v0 v n) : sOn v f = none ↔ (sOn v0 f = none ∧ ∀ k, k < n → vF v (vN v0 + k) ≠ f) := by
  obtain ⟨h1, -, -, h4, -⟩ := h
  constructor
  · intro z
    refine ⟨fstN_all _ _ (fun u _ hu => decide_eq_false (fun e => ?_)), fun k hk => of_decide_eq_false (fstN_none _ _ z (vN v0 + k) (by omega) (by omega))⟩
    have := of_decide_eq_false (fstN_none _ _ z u (by omega) (by omega))
    rw [(h4 u (by omega)).1] at this
    exact this e
  · intro ⟨z1, z2⟩
    refine fstN_all _ _ (fun u _ hu => decide_eq_false (fun e => ?_))
    by_cases y : u < vN v0
    · have := of_decide_eq_false (fstN_none _ _ z1 u (by omega) (by omega))
      rw [(h4 u y).1] at e
      exact this e
    · have := z2 (u - vN v0) (by omega)
      rw [show vN v0 + (u - vN v0) = u by omega] at this
      exact this e
theorem M_here_ex {p : Nat} {w : Int32} (hR : RC X 148 x.1 39 x.2) (hp : p < 1000) : ∃ z, f_c11_here N 144 (mk L (ms X (nI p) w)) = some z := by
  by_cases y : p < min x.1 39
  · exact ⟨_, M_here_t hR y⟩
  · exact ⟨_, M_here_f hR (by omega) hp⟩
/-- where it is wrong already -/
theorem rwT_f {n p q : Nat} {fv : Int32} (hR : RC X 148 x.1 39 x.2) (hn : n < 8) (hp : p < 900) (hq : q < 900) : ∃ X', rwT N (nI n) fv (mk L (ms X (nI p) (nI q))) = some (mk L (ms X' (nI (p + 1)) (nI q))) ∧ FM (fun y => y = 150) (fun _ => False) X X' := by
  have r1 : RC (stI X 150 (3 * n) fv) 148 x.1 39 x.2 := hR.st (by omega) (by omega)
  have r2 : RC (stI (stI X 150 (3 * n) fv) 150 (3 * n + 1) (0 + 1)) 148 x.1 39 x.2 := r1.st (by omega) (by omega)
  obtain ⟨z, ez⟩ := M_here_ex (L := L) (N := N) (w := nI q) r2 (show p < 1000 by omega)
  refine ⟨stI (stI (stI X 150 (3 * n) fv) 150 (3 * n + 1) (0 + 1)) 150 (3 * n + 2) (if z = 46 then 1 else 0), ?_, (fm150.tr fm150).tr fm150⟩
  unfold rwT
  rw [zr144_16, Option.bind_some, k3, nI_mul, zp150 (by omega), Option.bind_some, ms_st (by omega), zr144_16, Option.bind_some, M_oneOf_f (by omega), Option.bind_some, nI_1, zp150 (by omega), Option.bind_some, ms_st (by omega), zr144_16, Option.bind_some, ez, Option.bind_some, k2, nI_add, zp150 (by omega), Option.bind_some, ms_st (by omega), M_fine_f (by omega), Option.bind_some, i00, Option.bind_some, zi144_14, Option.bind_some, ms_p, nI_1, zs144_14, Option.bind_some, ms_14]
theorem rwT_w {n p fv : Nat} (hR : RC X 148 x.1 39 x.2) (hn : n < 8) (hp : p ≤ 50) (hw : ¬ lnW x p) : ∃ X' y, rwT N (nI n) (nI fv) (mk L (ms X (nI (p + 2)) (-1))) = some (mk L (ms X' y (nI (p + 2)))) ∧ FM (fun y => y = 150) (fun _ => False) X X' := by
  have r1 : RC (stI X 150 (3 * n) (nI fv)) 148 x.1 39 x.2 := hR.st (by omega) (by omega)
  have r2 : RC (stI (stI X 150 (3 * n) (nI fv)) 150 (3 * n + 1) (0 + 1)) 148 x.1 39 x.2 := r1.st (by omega) (by omega)
  obtain ⟨z, ez⟩ := M_here_ex (L := L) (N := N) (w := nI (p + 2)) r2 (show p + 2 < 1000 by omega)
  have e1 : f_c11_oneOf N 144 49 9 (mk L (ms (stI X 150 (3 * n) (nI fv)) (nI (p + 2)) (-1))) = some (0, mk L (ms (stI X 150 (3 * n) (nI fv)) (nI (p + 2)) (nI (p + 2)))) := M_oneOf_n (f := 49) (m := 9) r1 (by omega) (fun y => by
    by_cases y2 : x.2 (p + 2) < 49
    · exact Or.inl y2
    · refine Or.inr ?_
      by_cases y3 : x.2 (p + 2) ≤ 57
      · exact absurd ⟨y, by omega, y3⟩ hw
      · omega) (by omega) (by omega) (by omega)
  refine ⟨stI (stI (stI X 150 (3 * n) (nI fv)) 150 (3 * n + 1) (0 + 1)) 150 (3 * n + 2) (if z = 46 then 1 else 0), nI (p + 2 + 1), ?_, (fm150.tr fm150).tr fm150⟩
  unfold rwT
  rw [zr144_16, Option.bind_some, k3, nI_mul, zp150 (by omega), Option.bind_some, ms_st (by omega), zr144_16, Option.bind_some, e1, Option.bind_some, nI_1, zp150 (by omega), Option.bind_some, ms_st (by omega), zr144_16, Option.bind_some, ez, Option.bind_some, k2, nI_add, zp150 (by omega), Option.bind_some, ms_st (by omega), M_fine_f (by omega), Option.bind_some, i00, Option.bind_some, zi144_14, Option.bind_some, ms_p, nI_1, zs144_14, Option.bind_some, ms_14]
theorem rwT_m {n p fv : Nat} (hR : RC X 148 x.1 39 x.2) (hn : n < 8) (hp : p ≤ 50) (hw : lnW x p) (hm : ¬ lnM x p) (hb : ∀ j, j < x.1 → x.2 j < 256) : ∃ X' y, rwT N (nI n) (nI fv) (mk L (ms X (nI (p + 2)) (-1))) = some (mk L (ms X' y (nI (p + 3)))) ∧ FM (fun y => y = 150) (fun _ => False) X X' := by
  have r1 : RC (stI X 150 (3 * n) (nI fv)) 148 x.1 39 x.2 := hR.st (by omega) (by omega)
  have w2 := hw.2.1
  have w3 := hw.2.2
  have e1 : f_c11_oneOf N 144 49 9 (mk L (ms (stI X 150 (3 * n) (nI fv)) (nI (p + 2)) (-1))) = some (nI (x.2 (p + 2) - 49), mk L (ms (stI X 150 (3 * n) (nI fv)) (nI (p + 3)) (-1))) := M_oneOf_t (f := 49) (m := 9) r1 hw.1 w2 (by omega) (by omega)
  have e2 : ∃ z, (∀ (Y : gS), RC Y 148 x.1 39 x.2 → f_c11_here N 144 (mk L (ms Y (nI (p + 3)) (-1))) = some z) ∧ ¬ z = 46 ∧ ¬ z = 44 := by
    by_cases y : p + 3 < min x.1 39
    · have hb3 := hb (p + 3) (by omega)
      exact ⟨_, fun Y hY => M_here_t hY y, fun e => hm ⟨y, Or.inl ((nI_eq (b := 46) (by omega) (by omega)).mp e)⟩, fun e => hm ⟨y, Or.inr ((nI_eq (b := 44) (by omega) (by omega)).mp e)⟩⟩
    · exact ⟨_, fun Y hY => M_here_f hY (by omega) (by omega), by decide, by decide⟩
  obtain ⟨z, ez, z1, z2⟩ := e2
  have r2 : RC (stI (stI X 150 (3 * n) (nI fv)) 150 (3 * n + 1) (nI (x.2 (p + 2) - 49 + 1))) 148 x.1 39 x.2 := r1.st (by omega) (by omega)
  have r3 : RC (stI (stI (stI X 150 (3 * n) (nI fv)) 150 (3 * n + 1) (nI (x.2 (p + 2) - 49 + 1))) 150 (3 * n + 2) 0) 148 x.1 39 x.2 := r2.st (by omega) (by omega)
  refine ⟨stI (stI (stI X 150 (3 * n) (nI fv)) 150 (3 * n + 1) (nI (x.2 (p + 2) - 49 + 1))) 150 (3 * n + 2) 0, nI (p + 3 + 1), ?_, (fm150.tr fm150).tr fm150⟩
  unfold rwT
  rw [zr144_16, Option.bind_some, k3, nI_mul, zp150 (by omega), Option.bind_some, ms_st (by omega), zr144_16, Option.bind_some, e1, Option.bind_some, nI_1, nI_1, zp150 (by omega), Option.bind_some, ms_st (by omega), zr144_16, Option.bind_some, ez _ r2, Option.bind_some, if_neg z1, k2, nI_add, zp150 (by omega), Option.bind_some, ms_st (by omega), M_fine_t, Option.bind_some, i10, ez _ r3, Option.bind_some, if_neg z1, Option.bind_some, if_neg z2, zi144_14, Option.bind_some, ms_p, M_fault_t, Option.bind_some, Option.bind_some, zi144_14, Option.bind_some, ms_p, nI_1, zs144_14, Option.bind_some, ms_14]
theorem rwT_t {n p fv : Nat} (hR : RC X 148 x.1 39 x.2) (hn : n < 8) (hp : p ≤ 50) (hw : lnW x p) (hm : lnM x p) (hb : ∀ j, j < x.1 → x.2 j < 256) : rwT N (nI n) (nI fv) (mk L (ms X (nI (p + 2)) (-1))) = some (mk L (ms (stI (stI (stI X 150 (3 * n) (nI fv)) 150 (3 * n + 1) (nI (x.2 (p + 2) - 48))) 150 (3 * n + 2) (nI (lnMe x p))) (nI (p + 4)) (-1))) := by
  have r1 : RC (stI X 150 (3 * n) (nI fv)) 148 x.1 39 x.2 := hR.st (by omega) (by omega)
  have w2 := hw.2.1
  have w3 := hw.2.2
  have m1 := hm.1
  have hb3 := hb (p + 3) (by omega)
  have e1 : f_c11_oneOf N 144 49 9 (mk L (ms (stI X 150 (3 * n) (nI fv)) (nI (p + 2)) (-1))) = some (nI (x.2 (p + 2) - 49), mk L (ms (stI X 150 (3 * n) (nI fv)) (nI (p + 3)) (-1))) := M_oneOf_t (f := 49) (m := 9) r1 hw.1 w2 (by omega) (by omega)
  have ez : ∀ (Y : gS), RC Y 148 x.1 39 x.2 → f_c11_here N 144 (mk L (ms Y (nI (p + 3)) (-1))) = some (nI (x.2 (p + 3))) := fun Y hY => M_here_t hY m1
  have r2 : RC (stI (stI X 150 (3 * n) (nI fv)) 150 (3 * n + 1) (nI (x.2 (p + 2) - 49 + 1))) 148 x.1 39 x.2 := r1.st (by omega) (by omega)
  have r3 : RC (stI (stI (stI X 150 (3 * n) (nI fv)) 150 (3 * n + 1) (nI (x.2 (p + 2) - 49 + 1))) 150 (3 * n + 2) (nI (lnMe x p))) 148 x.1 39 x.2 := r2.st (by omega) (by omega)
  have eM : (if nI (x.2 (p + 3)) = 46 then (1 : Int32) else 0) = nI (lnMe x p) := by
    unfold lnMe
    by_cases y : x.2 (p + 3) = 46
    · rw [if_pos y, if_pos (show nI (x.2 (p + 3)) = 46 by rw [y]; rfl)]; rfl
    · rw [if_neg y, if_neg (show ¬ nI (x.2 (p + 3)) = 46 from fun e => y ((nI_eq (b := 46) (by omega) (by omega)).mp e))]; rfl
  unfold rwT
  rw [zr144_16, Option.bind_some, k3, nI_mul, zp150 (by omega), Option.bind_some, ms_st (by omega), zr144_16, Option.bind_some, e1, Option.bind_some, nI_1, nI_1, zp150 (by omega), Option.bind_some, ms_st (by omega), zr144_16, Option.bind_some, ez _ r2, Option.bind_some, eM, k2, nI_add, zp150 (by omega), Option.bind_some, ms_st (by omega), M_fine_t, Option.bind_some, i10, ez _ r3, Option.bind_some]
  rcases hm.2 with y | y
  · rw [if_pos (show nI (x.2 (p + 3)) = 46 by rw [y]; rfl), Option.bind_some, zi144_14, Option.bind_some, ms_p, nI_1, zs144_14, Option.bind_some, ms_14, show x.2 (p + 2) - 49 + 1 = x.2 (p + 2) - 48 by omega]
  · rw [if_neg (show ¬ nI (x.2 (p + 3)) = 46 by rw [y]; decide), Option.bind_some, if_pos (show nI (x.2 (p + 3)) = 44 by rw [y]; rfl), Option.bind_some, zi144_14, Option.bind_some, ms_p, nI_1, zs144_14, Option.bind_some, ms_14, show x.2 (p + 2) - 49 + 1 = x.2 (p + 2) - 48 by omega]
theorem M_rw51 {n f : Nat} {b : Int32} {P : Prop} {Y : gS} (hn : n < 8) (hf : f < 1000) (hc : ∀ k, k < n → Y.1 150 (3 * k) = nI (vF v (vN v0 + k)) ∧ vF v (vN v0 + k) < 1000) (hb : isB b P) (hN : 900 ≤ N) : ∃ r, lp_c11_readWell_51 N 144 (nI n) (nI f) (mk L Y) N b 0 = some r ∧ isB r (P ∧ ∀ k, k < n → vF v (vN v0 + k) ≠ f) := by
  have e : ∃ r, lp_c11_readWell_51 N 144 (nI n) (nI f) (mk L Y) N b (nI 0) = some r ∧ isB r (P ∧ ∀ k, k < n → vF v (vN v0 + k) ≠ f) := by
    refine lp_inv (Lp := fun kk (s : Int32) i => lp_c11_readWell_51 N 144 (nI n) (nI f) (mk L Y) kk s (nI i)) (n := n) (P := fun i s => isB s (P ∧ ∀ k, k < i → vF v (vN v0 + k) ≠ f)) (fun kk i s hi hs => Or.inr ?_) (fun kk s hs => ⟨s, ?_, hs⟩) n N 0 b (by omega) (by omega) ?_
    · show ∃ s', lp_c11_readWell_51 N 144 (nI n) (nI f) (mk L Y) (kk + 1) s (nI i) = lp_c11_readWell_51 N 144 (nI n) (nI f) (mk L Y) kk s' (nI (i + 1)) ∧ isB s' (P ∧ ∀ k, k < i + 1 → vF v (vN v0 + k) ≠ f)
      rw [lp_c11_readWell_51.eq_2, ile_f hi (by omega)]
      rcases hs with ⟨s1, rfl⟩ | ⟨s1, rfl⟩
      · obtain ⟨c1, c2⟩ := hc i hi
        rw [i10, zr144_16, Option.bind_some, k3, nI_mul, zg150 (by omega), Option.bind_some, c1]
        by_cases z : vF v (vN v0 + i) = f
        · rw [ieq_t z]
          exact ⟨0, by rw [Option.bind_some, nI_1], Or.inr ⟨fun t => t.2 i (by omega) z, rfl⟩⟩
        · rw [ieq_f z (by omega) (by omega)]
          refine ⟨1, by rw [Option.bind_some, nI_1], Or.inl ⟨⟨s1.1, fun k hk => ?_⟩, rfl⟩⟩
          by_cases y : k = i
          · rw [y]; exact z
          · exact s1.2 k (by omega)
      · rw [i00]
        exact ⟨0, by rw [Option.bind_some, nI_1], Or.inr ⟨fun t => s1 ⟨t.1, fun k hk => t.2 k (by omega)⟩, rfl⟩⟩
    · show lp_c11_readWell_51 N 144 (nI n) (nI f) (mk L Y) (kk + 1) s (nI n) = _
      rw [lp_c11_readWell_51.eq_2, ile_t (Nat.le_refl _) (by omega)]
    · rcases hb with ⟨a, b⟩ | ⟨a, b⟩
      · exact Or.inl ⟨⟨a, fun k hk => by omega⟩, b⟩
      · exact Or.inr ⟨fun t => a t.1, b⟩
  exact e
end WELLSM
