/-! CALLS: wells: the reference reads all lines -/
section WELLSN
variable {L N : Nat} {S T X : gS} {c : Nat} {g : pG} {v v0 v' : pV} {x : pX} {l : List Int64} {u : pX} {n : pN} {k : Nat → Option pV} {h : pH} {A : pA}
theorem M_rwMid {n f : Nat} {a b : Int32} (mv : MW X 145 v0) (wg : WG g) (w0 : WV g v0) (wv : WV g v) (hE : vEx v0 v n) (hC : cmC X v0 v n) (hn : n < 8) (hf : f < 1000) (hN : 900 ≤ N) :
    f_c11_wellOn N 145 (nI f) (mk L (ms X a b)) = some (oI (sOn v0 f)) ∧ ∃ r, lp_c11_readWell_51 N 144 (nI n) (nI f) (mk L (ms X a b)) N (if oI (sOn v0 f) = (-1 : Int32) then (1 : Int32) else (0 : Int32)) 0 = some r ∧ isB r (sOn v f = none) := by
  have mv1 : MW (ms X a b) 145 v0 := mv.fm ms_in (by omega) (fun z => z)
  have e1 := M_wellOn (L := L) (N := N) MA_145 mv1 wg w0 hN hf
  refine ⟨e1, ?_⟩
  have hb : isB (if oI (sOn v0 f) = (-1 : Int32) then (1 : Int32) else (0 : Int32)) (sOn v0 f = none) := by
    cases ho : sOn v0 f with
    | none => exact Or.inl ⟨rfl, by rw [show oI (none : Option Nat) = -1 from rfl, if_pos rfl]⟩
    | some w =>
      have hw := fstN_some _ _ _ ho
      have h8 := w0.1
      exact Or.inr ⟨fun e => (by cases e), by rw [show oI (some w) = nI w from rfl, if_neg (nI_m1 (by omega))]⟩
  have h1 := hE.1
  obtain ⟨r, e2, e3⟩ := M_rw51 (L := L) (N := N) (v := v) (v0 := v0) (Y := ms X a b) hn hf (fun k hk => ⟨(ms_o (by omega)).trans (hC k hk).1, by have := wv.F wg (w := vN v0 + k) (by omega); omega⟩) hb hN
  refine ⟨r, e2, ?_⟩
  rcases e3 with ⟨z, y⟩ | ⟨z, y⟩
  · exact Or.inl ⟨(sOn_ex hE).mpr z, y⟩
  · exact Or.inr ⟨fun t => z ((sOn_ex hE).mp t), y⟩
theorem M_rw {p n : Nat} (hR : RC X 148 x.1 39 x.2) (cg : MG X g) (mv : MW X 145 v0) (wg : WG g) (w0 : WV g v0) (wv : WV g v) (hE : vEx v0 v n) (hC : cmC X v0 v n) (z8 : vN v < 8) (hp : p ≤ 50) (hb : ∀ j, j < x.1 → x.2 j < 256) (hN : 900 ≤ N) :
    (∀ q, lnQ g x v p q → ∃ X' y, f_c11_readWell N 144 (nI n) (mk L (ms X (nI p) (-1))) = some (mk L (ms X' y (nI q))) ∧ FM (fun y => y = 150) (fun _ => False) X X') ∧ (lnOk g x v p → ∃ X', f_c11_readWell N 144 (nI n) (mk L (ms X (nI p) (-1))) = some (mk L (ms X' (nI (p + 4)) (-1))) ∧ FM (fun y => y = 150) (fun _ => False) X X' ∧ RC X' 148 x.1 39 x.2 ∧ cmC X' v0 (lnV g x v p) (n + 1)) := by
  have g1 := wg.2.1
  have g2 := wg.2.2.2.1
  have g3 := wg.1
  have g4 := wg.2.2.1
  have h1 := hE.1
  have hn : n < 8 := by omega
  have er : ∀ a b : Int32, (ms X a b).1 144 1 = nI (gRw g) := fun a b => (ms_o (by omega)).trans cg.1
  have ec : ∀ a b : Int32, (ms X a b).1 144 2 = nI (gCo g) := fun a b => (ms_o (by omega)).trans cg.2.1
  rcases (Classical.em (lnR g x p)).symm with hr | hr
  · -- the row is wrong
    obtain ⟨e7, r, e51, -⟩ := M_rwMid (L := L) (N := N) (a := nI p) (b := nI p) (f := 0) mv wg w0 wv hE hC hn (by omega) hN
    obtain ⟨X', e8, f8⟩ := rwT_f (L := L) (N := N) (x := x) (p := p) (q := p) (fv := nI 0) hR hn (by omega) (by omega)
    have e1 : f_c11_oneOf N 144 48 (nI (gRw g)) (mk L (ms X (nI p) (-1))) = some (0, mk L (ms X (nI p) (nI p))) := M_oneOf_n (f := 48) (m := gRw g) hR (by omega) (fun y => by
      by_cases y2 : x.2 p < 48
      · exact Or.inl y2
      · refine Or.inr ?_
        by_cases y3 : x.2 p < 48 + gRw g
        · exact absurd ⟨y, by omega, y3⟩ hr
        · omega) (by omega) (by omega) (by omega)
    have eF : nI (gCo g) * (0 : Int32) + (0 : Int32) = nI 0 := by rw [show (0 : Int32) = nI 0 from rfl, nI_mul, nI_add, Nat.mul_zero]
    have e : f_c11_readWell N 144 (nI n) (mk L (ms X (nI p) (-1))) = some (mk L (ms X' (nI (p + 1)) (nI p))) := by
      rw [rw_head, zc144, Option.bind_some, zi144_1, Option.bind_some, er, e1, Option.bind_some]
      dsimp only
      rw [zi144_2, Option.bind_some, Option.bind_some, ec, M_oneOf_f (by omega), Option.bind_some]
      dsimp only
      rw [eF, zr144_0, Option.bind_some, e7, Option.bind_some, e51, Option.bind_some, M_fine_f (by omega), Option.bind_some, i00, Option.bind_some, e8]
    refine ⟨fun q hq => ?_, fun h => absurd h.2.1 hr⟩
    have hqp : q = p := by
      rcases hq with h | h | h | h | h
      · omega
      · exact h.2.2
      · exact absurd h.2.1 hr
      · exact absurd h.2.1 hr
      · exact absurd h.2.1 hr
    rw [hqp]
    exact ⟨X', _, e, f8⟩
  have r1 := hr.1
  have r2 := hr.2.1
  have r3 := hr.2.2
  have e1 : f_c11_oneOf N 144 48 (nI (gRw g)) (mk L (ms X (nI p) (-1))) = some (nI (x.2 p - 48), mk L (ms X (nI (p + 1)) (-1))) := M_oneOf_t (f := 48) (m := gRw g) hR r1 r2 r3 (by omega)
  have hm36 : gCo g * (x.2 p - 48) ≤ 6 * 6 := Nat.mul_le_mul g2 (by omega)
  rcases (Classical.em (lnC g x p)).symm with hc | hc
  · -- the column is wrong
    obtain ⟨e7, r, e51, -⟩ := M_rwMid (L := L) (N := N) (a := nI (p + 1)) (b := nI (p + 1)) (f := gCo g * (x.2 p - 48)) mv wg w0 wv hE hC hn (by omega) hN
    obtain ⟨X', e8, f8⟩ := rwT_f (L := L) (N := N) (x := x) (p := p + 1) (q := p + 1) (fv := nI (gCo g * (x.2 p - 48))) hR hn (by omega) (by omega)
    have e2 : f_c11_oneOf N 144 48 (nI (gCo g)) (mk L (ms X (nI (p + 1)) (-1))) = some (0, mk L (ms X (nI (p + 1)) (nI (p + 1)))) := M_oneOf_n (f := 48) (m := gCo g) hR (by omega) (fun y => by
      by_cases y2 : x.2 (p + 1) < 48
      · exact Or.inl y2
      · refine Or.inr ?_
        by_cases y3 : x.2 (p + 1) < 48 + gCo g
        · exact absurd ⟨y, by omega, y3⟩ hc
        · omega) (by omega) (by omega) (by omega)
    have e : f_c11_readWell N 144 (nI n) (mk L (ms X (nI p) (-1))) = some (mk L (ms X' (nI (p + 1 + 1)) (nI (p + 1)))) := by
      rw [rw_head, zc144, Option.bind_some, zi144_1, Option.bind_some, er, e1, Option.bind_some]
      dsimp only
      rw [zi144_2, Option.bind_some, Option.bind_some, ec, e2, Option.bind_some]
      dsimp only
      rw [nI_mul, Int32.add_zero, zr144_0, Option.bind_some, e7, Option.bind_some, e51, Option.bind_some, M_fine_f (by omega), Option.bind_some, i00, Option.bind_some, e8]
    refine ⟨fun q hq => ?_, fun h => absurd h.2.2.1.1 hc⟩
    have hqp : q = p + 1 := by
      rcases hq with h | h | h | h | h
      · omega
      · exact absurd hr h.2.1
      · exact h.2.2.2
      · exact absurd h.2.2.1.1 hc
      · exact absurd h.2.2.1.1 hc
    rw [hqp]
    exact ⟨X', _, e, f8⟩
  have c1 := hc.1
  have c2 := hc.2.1
  have c3 := hc.2.2
  have hF := lnFd_lt hr hc
  have h36 := wg.f
  have e2 : f_c11_oneOf N 144 48 (nI (gCo g)) (mk L (ms X (nI (p + 1)) (-1))) = some (nI (x.2 (p + 1) - 48), mk L (ms X (nI (p + 1 + 1)) (-1))) := M_oneOf_t (f := 48) (m := gCo g) hR c1 c2 c3 (by omega)
  have eF : gCo g * (x.2 p - 48) + (x.2 (p + 1) - 48) = lnFd g x p := by unfold lnFd; rw [Nat.mul_comm]
  obtain ⟨e7, r, e51, hB⟩ := M_rwMid (L := L) (N := N) (a := nI (p + 1 + 1)) (b := -1) (f := lnFd g x p) mv wg w0 wv hE hC hn (by omega) hN
  have head : ∀ R : Option gH, ((show Option (gH) from if r = 0 then (gfI (mk L (ms X (nI (p + 1 + 1)) (-1))) 144 11 14).bind fun v47 => (f_c11_fault N 144 (v47 - (1 : Int32)) (mk L (ms X (nI (p + 1 + 1)) (-1)))).bind fun q48 => some q48 else some (mk L (ms X (nI (p + 1 + 1)) (-1)))).bind fun t21 => rwT N (nI n) (nI (lnFd g x p)) t21) = R → f_c11_readWell N 144 (nI n) (mk L (ms X (nI p) (-1))) = R := by
    intro R hR2
    rw [rw_head, zc144, Option.bind_some, zi144_1, Option.bind_some, er, e1, Option.bind_some]
    dsimp only
    rw [zi144_2, Option.bind_some, Option.bind_some, ec, e2, Option.bind_some]
    dsimp only
    rw [nI_mul, nI_add, eF, zr144_0, Option.bind_some, e7, Option.bind_some, e51, Option.bind_some, M_fine_t, Option.bind_some, i10]
    exact hR2
  rcases (Classical.em (sOn v (lnFd g x p) = none)).symm with ho | ho
  · -- a well is there
    have hr0 : r = 0 := by
      rcases hB with ⟨y, -⟩ | ⟨-, y⟩
      · exact absurd y ho
      · exact y
    obtain ⟨X', e8, f8⟩ := rwT_f (L := L) (N := N) (x := x) (p := p + 1 + 1) (q := p + 1) (fv := nI (lnFd g x p)) hR hn (by omega) (by omega)
    refine ⟨fun q hq => ?_, fun h => absurd h.2.2.1.2 ho⟩
    have hqp : q = p + 1 := by
      rcases hq with h | h | h | h | h
      · omega
      · exact absurd hr h.2.1
      · exact h.2.2.2
      · exact absurd h.2.2.1.2 ho
      · exact absurd h.2.2.1.2 ho
    rw [hqp]
    refine ⟨X', nI (p + 1 + 1 + 1), head _ ?_, f8⟩
    rw [hr0, i00, zi144_14, Option.bind_some, ms_p, nI_pred, M_fault_t, Option.bind_some, Option.bind_some, e8]
  have hr1 : r = 1 := by
    rcases hB with ⟨-, y⟩ | ⟨y, -⟩
    · exact y
    · exact absurd ho y
  rcases (Classical.em (lnW x p)).symm with hw | hw
  · obtain ⟨X', y, e8, f8⟩ := rwT_w (L := L) (N := N) (n := n) (fv := lnFd g x p) hR hn hp hw
    refine ⟨fun q hq => ?_, fun h => absurd h.2.2.2.1 hw⟩
    have hqp : q = p + 2 := by
      rcases hq with h | h | h | h | h
      · omega
      · exact absurd hr h.2.1
      · exact absurd ⟨hc, ho⟩ h.2.2.1
      · exact h.2.2.2.2
      · exact absurd h.2.2.2.1 hw
    rw [hqp]
    refine ⟨X', y, head _ ?_, f8⟩
    rw [hr1, i10, Option.bind_some]
    exact e8
  rcases (Classical.em (lnM x p)).symm with hm | hm
  · obtain ⟨X', y, e8, f8⟩ := rwT_m (L := L) (N := N) (n := n) (fv := lnFd g x p) hR hn hp hw hm hb
    refine ⟨fun q hq => ?_, fun h => absurd h.2.2.2.2 hm⟩
    have hqp : q = p + 3 := by
      rcases hq with h | h | h | h | h
      · omega
      · exact absurd hr h.2.1
      · exact absurd ⟨hc, ho⟩ h.2.2.1
      · exact absurd hw h.2.2.2.1
      · exact h.2.2.2.2.2
    rw [hqp]
    refine ⟨X', y, head _ ?_, f8⟩
    rw [hr1, i10, Option.bind_some]
    exact e8
  · have e8 := rwT_t (L := L) (N := N) (n := n) (fv := lnFd g x p) hR hn hp hw hm hb
    refine ⟨fun q hq => ?_, fun _ => ⟨_, head _ (by rw [hr1, i10, Option.bind_some]; exact e8), (fm150.tr fm150).tr fm150, ((hR.st (by omega) (by omega)).st (by omega) (by omega)).st (by omega) (by omega), hC.add h1⟩⟩
    exfalso
    rcases hq with h | h | h | h | h
    · omega
    · exact h.2.1 hr
    · exact h.2.2.1 ⟨hc, ho⟩
    · exact h.2.2.2.1 hw
    · exact h.2.2.2.2.1 hm
theorem M_wlEnd {kk : Nat} {y w z : Int32} : lp_c11_wells_24 N 144 (kk + 1) z 0 (mk L (ms X y w)) = some (z, mk L (ms X y w)) := by
  rw [lp_c11_wells_24.eq_2, i00]
theorem M_wlB : ∀ (d p n : Nat) (v : pV) (X : gS) (q kk : Nat), RC X 148 x.1 39 x.2 → MG X g → MW X 145 v0 → WG g → WV g v0 → WV g v → vEx v0 v n → cmC X v0 v n → (∀ j, j < x.1 → x.2 j < 256) → p = 5 * n → wlB g x d p v q → 900 ≤ N → ∃ X' y w z, lp_c11_wells_24 N 144 (kk + d + 2) (nI n) 1 (mk L (ms X (nI p) (-1))) = some (z, mk L (ms X' y w)) ∧ f_c11_wasRight N 144 (mk L (ms X' y w)) = some (0, mk L (ms X' y (nI q))) ∧ FM (fun y => y = 150) (fun _ => False) X X' := by
  intro d
  induction d with
  | zero =>
    intro p n v X q kk hR cg mv wg w0 wv hE hC hb hp hq hN
    have h8 := wv.1
    have h80 := w0.1
    have h1 := hE.1
    have hx80 : x.1 ≤ 80 := hR.2.2.2.1
    have eN : ∀ a b : Int32, (ms X a b).1 145 40 = nI (vN v0) := fun a b => (ms_o (by omega)).trans mv.1
    have q100 : q < 100 := by
      rcases hq with hq | ⟨-, -, -, hq⟩
      · exact lnQ_lt hq (by omega)
      · omega
    have loop : ∀ (R : gH), ((show Option (gH) from if nI (vN v) = (8 : Int32) then (gfI (mk L (ms X (nI p) (-1))) 144 11 14).bind fun v15 => (f_c11_fault N 144 v15 (mk L (ms X (nI p) (-1)))).bind fun q16 => some q16 else (f_c11_readWell N 144 (nI n) (mk L (ms X (nI p) (-1)))).bind fun q14 => some q14)) = some R → lp_c11_wells_24 N 144 (kk + 0 + 2) (nI n) 1 (mk L (ms X (nI p) (-1))) = (f_c11_passes N 144 (nI 59) R).bind fun q13 => lp_c11_wells_24 N 144 (kk + 1) (nI (n + 1)) q13.1 q13.2 := by
      intro R hR2
      rw [show kk + 0 + 2 = kk + 1 + 1 from rfl, lp_c11_wells_24.eq_2, i10, M_fine_t, Option.bind_some, i10, zr144_0, Option.bind_some, k40, zg145 (by omega), Option.bind_some, eN, nI_add, ← h1, nI_1, show (59 : Int32) = nI 59 from rfl]
      exact congrArg (fun o : Option gH => o.bind fun t11 => (f_c11_passes N 144 (nI 59) t11).bind fun q13 => lp_c11_wells_24 N 144 (kk + 1) (nI (n + 1)) q13.1 q13.2) hR2
    have wrong : ∀ (X' : gS) (y : Int32), FM (fun y => y = 150) (fun _ => False) X X' → ((show Option (gH) from if nI (vN v) = (8 : Int32) then (gfI (mk L (ms X (nI p) (-1))) 144 11 14).bind fun v15 => (f_c11_fault N 144 v15 (mk L (ms X (nI p) (-1)))).bind fun q16 => some q16 else (f_c11_readWell N 144 (nI n) (mk L (ms X (nI p) (-1)))).bind fun q14 => some q14)) = some (mk L (ms X' y (nI q))) → ∃ X' y w z, lp_c11_wells_24 N 144 (kk + 0 + 2) (nI n) 1 (mk L (ms X (nI p) (-1))) = some (z, mk L (ms X' y w)) ∧ f_c11_wasRight N 144 (mk L (ms X' y w)) = some (0, mk L (ms X' y (nI q))) ∧ FM (fun y => y = 150) (fun _ => False) X X' := by
      intro X' y f e
      refine ⟨X', y, nI q, nI (n + 1), ?_, M_right_f (p := 0) ((f.k (fun z => z)).trans hR.2.1) hx80 (by omega), f⟩
      rw [loop _ e, M_passes_f (by omega), Option.bind_some]
      dsimp only
      rw [M_wlEnd]
    rcases hq with hq | ⟨hq, hl, hs, hqp⟩
    · rcases Classical.em (vN v = 8) with z8 | z8
      · have hqp : q = p := by
          rcases hq with h | h | h | h | h <;> omega
        refine wrong X (nI p) FM.refl ?_
        rw [if_pos (show nI (vN v) = 8 by rw [z8]; rfl), zi144_14, Option.bind_some, ms_p, M_fault_t, Option.bind_some, hqp]
      · obtain ⟨X', y, e, f⟩ := (M_rw (L := L) (N := N) hR cg mv wg w0 wv hE hC (by omega) (by omega) hb hN).1 q hq
        refine wrong X' y f ?_
        rw [if_neg (show ¬ nI (vN v) = 8 from fun e => z8 ((nI_eq (b := 8) (by omega) (by omega)).mp e)), e, Option.bind_some]
    · have z8 := hq.1
      obtain ⟨X', e, f, r2, -⟩ := (M_rw (L := L) (N := N) hR cg mv wg w0 wv hE hC (by omega) (by omega) hb hN).2 hq
      refine ⟨X', nI (p + 4), -1, nI (n + 1), ?_, ?_, f⟩
      · rw [loop (mk L (ms X' (nI (p + 4)) (-1))) (by rw [if_neg (show ¬ nI (vN v) = 8 from fun e => by have := (nI_eq (b := 8) (by omega) (by omega)).mp e; omega), e, Option.bind_some]), M_passes_n r2 (by omega) (fun y e => hs ⟨y, e⟩) (by omega), Option.bind_some]
        dsimp only
        rw [M_wlEnd]
      · rw [hqp]
        exact M_right_n r2.2.1 hx80 hl
  | succ d ih =>
    intro p n v X q kk hR cg mv wg w0 wv hE hC hb hp hq hN
    have h8 := wv.1
    have h80 := w0.1
    have h1 := hE.1
    obtain ⟨hq, hs, hq2⟩ := hq
    have z8 := hq.1
    have eN : ∀ a b : Int32, (ms X a b).1 145 40 = nI (vN v0) := fun a b => (ms_o (by omega)).trans mv.1
    obtain ⟨X', e, f, r2, c2⟩ := (M_rw (L := L) (N := N) hR cg mv wg w0 wv hE hC (by omega) (by omega) hb hN).2 hq
    obtain ⟨X2, y, w, z, e2, e3, f2⟩ := ih (p + 5) (n + 1) (lnV g x v p) X' q kk r2 (cg.fm f ⟨fun z => z, fun z => z, fun z => z⟩ ⟨by omega, by omega⟩) (mv.fm f (by omega) (by omega)) wg w0 (lnV_ok wv hq) hE.add c2 hb (by omega) hq2 hN
    refine ⟨X2, y, w, z, ?_, e3, f.tr f2⟩
    rw [show kk + (d + 1) + 2 = kk + d + 2 + 1 by omega, lp_c11_wells_24.eq_2, i10, M_fine_t, Option.bind_some, i10, zr144_0, Option.bind_some, k40, zg145 (by omega), Option.bind_some, eN, nI_add, ← h1, if_neg (show ¬ nI (vN v) = 8 from fun e => by have := (nI_eq (b := 8) (by omega) (by omega)).mp e; omega), e, Option.bind_some, Option.bind_some, nI_1, show (59 : Int32) = nI 59 from rfl, M_passes_t r2 hs.1 hs.2, Option.bind_some]
    dsimp only
    exact e2
theorem M_wlG : ∀ (d p n : Nat) (v : pV) (X : gS) (v' : pV) (kk : Nat), RC X 148 x.1 39 x.2 → MG X g → MW X 145 v0 → WG g → WV g v0 → WV g v → vEx v0 v n → cmC X v0 v n → (∀ j, j < x.1 → x.2 j < 256) → p = 5 * n → wlG g x d p v v' → 900 ≤ N → ∃ X' y m, lp_c11_wells_24 N 144 (kk + d + 2) (nI n) 1 (mk L (ms X (nI p) (-1))) = some (nI m, mk L (ms X' y (-1))) ∧ f_c11_wasRight N 144 (mk L (ms X' y (-1))) = some (1, mk L (ms X' y (-1))) ∧ FM (fun y => y = 150) (fun _ => False) X X' ∧ vEx v0 v' m ∧ cmC X' v0 v' m := by
  intro d
  induction d with
  | zero =>
    intro p n v X v' kk hR cg mv wg w0 wv hE hC hb hp hq hN
    have h8 := wv.1
    have h80 := w0.1
    have h1 := hE.1
    have hx80 : x.1 ≤ 80 := hR.2.2.2.1
    have eN : ∀ a b : Int32, (ms X a b).1 145 40 = nI (vN v0) := fun a b => (ms_o (by omega)).trans mv.1
    obtain ⟨hq, hl, hv'⟩ := hq
    have z8 := hq.1
    obtain ⟨X', e, f, r2, c2⟩ := (M_rw (L := L) (N := N) hR cg mv wg w0 wv hE hC (by omega) (by omega) hb hN).2 hq
    rw [hv']
    refine ⟨X', nI (p + 4), n + 1, ?_, M_right_t r2.2.1 hx80 hl (by omega), f, hE.add, c2⟩
    rw [show kk + 0 + 2 = kk + 1 + 1 from rfl, lp_c11_wells_24.eq_2, i10, M_fine_t, Option.bind_some, i10, zr144_0, Option.bind_some, k40, zg145 (by omega), Option.bind_some, eN, nI_add, ← h1, if_neg (show ¬ nI (vN v) = 8 from fun e => by have := (nI_eq (b := 8) (by omega) (by omega)).mp e; omega), e, Option.bind_some, Option.bind_some, nI_1, show (59 : Int32) = nI 59 from rfl, M_passes_n r2 (by omega) (fun y e => by omega) (by omega), Option.bind_some]
    dsimp only
    rw [M_wlEnd]
  | succ d ih =>
    intro p n v X v' kk hR cg mv wg w0 wv hE hC hb hp hq hN
    have h8 := wv.1
    have h80 := w0.1
    have h1 := hE.1
    obtain ⟨hq, hs, hq2⟩ := hq
    have z8 := hq.1
    have eN : ∀ a b : Int32, (ms X a b).1 145 40 = nI (vN v0) := fun a b => (ms_o (by omega)).trans mv.1
    obtain ⟨X', e, f, r2, c2⟩ := (M_rw (L := L) (N := N) hR cg mv wg w0 wv hE hC (by omega) (by omega) hb hN).2 hq
    obtain ⟨X2, y, m, e2, e3, f2, e4⟩ := ih (p + 5) (n + 1) (lnV g x v p) X' v' kk r2 (cg.fm f ⟨fun z => z, fun z => z, fun z => z⟩ ⟨by omega, by omega⟩) (mv.fm f (by omega) (by omega)) wg w0 (lnV_ok wv hq) hE.add c2 hb (by omega) hq2 hN
    refine ⟨X2, y, m, ?_, e3, f.tr f2, e4⟩
    rw [show kk + (d + 1) + 2 = kk + d + 2 + 1 by omega, lp_c11_wells_24.eq_2, i10, M_fine_t, Option.bind_some, i10, zr144_0, Option.bind_some, k40, zg145 (by omega), Option.bind_some, eN, nI_add, ← h1, if_neg (show ¬ nI (vN v) = 8 from fun e => by have := (nI_eq (b := 8) (by omega) (by omega)).mp e; omega), e, Option.bind_some, Option.bind_some, nI_1, show (59 : Int32) = nI 59 from rfl, M_passes_t r2 hs.1 hs.2, Option.bind_some]
    dsimp only
    exact e2
end WELLSN
