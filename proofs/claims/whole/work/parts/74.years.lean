/-! CALLS: years -/
noncomputable def yR (v : pV) (r : Int32) : Int32 := if dV r 4 ≤ 1 then dR r else if dV r 4 = 2 then dR (dR (dR (dR r))) else if vN v = 0 then dR r else dR (dR r)
noncomputable def yV (code : List Int32) (g : pG) (v : pV) (r : Int32) : pV := if dV r 4 ≤ 1 then vSea code g v else if dV r 4 = 2 then (if sOn v (dV (dR r) (gRw g * gCo g)) = none ∧ vN v < 8 then vAdd v (dV (dR r) (gRw g * gCo g)) (dV (dR (dR r)) 9 + 1) (dV (dR (dR (dR r))) 2) else v) else if vN v = 0 then v else (if vA v (dV (dR r) (vN v)) < 9 then vSetA v (dV (dR r) (vN v)) (vA v (dV (dR r) (vN v)) + 1) else v)
noncomputable def yS (code : List Int32) (g : pG) (v : pV) (r : Int32) : Nat → pV × Int32
  | 0 => (v, r)
  | i + 1 => (yV code g (yS code g v r i).1 (yS code g v r i).2, yR (yS code g v r i).1 (yS code g v r i).2)
theorem WV.yV {code : List Int32} {g : pG} {v : pV} {r : Int32} (hg : WG g) (h : WV g v) : WV g (yV code g v r) := by
  have h36 := hg.f
  unfold Jvm.Pilot.@@N@@.yV
  split
  · exact h.sea
  · split
    · split
      · rename_i z
        have w9 := dV_lt (r := dR (dR r)) (n := 9) (by omega)
        have m2 := dV_lt (r := dR (dR (dR r))) (n := 2) (by omega)
        exact h.add z.2 (dV_lt (by omega)) ⟨by omega, by omega⟩ (by omega) z.1
      · exact h
    · split
      · exact h
      · split
        · exact h.setA (by omega)
        · exact h
theorem yV_P {code : List Int32} {g : pG} {v : pV} {r : Int32} (h : WV g v) : vP v ≤ vP (yV code g v r) := by
  unfold yV
  split
  · have := h.2.1.1
    show vP v ≤ min 9999 (vP v + _)
    omega
  · split
    · split <;> exact Nat.le_refl _
    · split
      · exact Nat.le_refl _
      · split <;> exact Nat.le_refl _
section YEARS
variable {L N : Nat} {S T : gS} {c : Nat} {g : pG} {v v' : pV} {x : pX} {l : List Int64} {u : pX} {n : pN} {k : Nat → Option pV} {h : pH} {A : pA} {code : List Int32}
theorem C_tryDrawn (q : CA S (g, v, x, l, u, n, k, h)) (w : WA (g, v, x, l, u, n, k, h)) (hc : ruleCode u.2 u.1 = .inl code) (hs : CV S 31 v') (hv : WV g v') (hN : 900 ≤ N) :
    ∃ S1, f_c10_tryDrawn N 10 (mk L S) = some (mk L S1) ∧ CA S1 (g, v, x, l, u, n, k, h) ∧ CV S1 31 (yV code g v' (S.1 135 0)) ∧ S1.1 135 0 = yR v' (S.1 135 0) ∧ Fr lowC S S1 := by
  have wg : WG g := w.1
  have h36 := wg.f
  have h8 := hv.1
  generalize hr : S.1 135 0 = r
  have d4 := dV_lt (r := r) (n := 4) (by omega)
  have lot : ∀ (s : gS) (y : Int32), CA s (g, v, x, l, u, n, k, h) → CV s 31 v' → CA (stI s 135 0 y) (g, v, x, l, u, n, k, h) ∧ CV (stI s 135 0 y) 31 v' := fun s y a b => ⟨a.fr (Fr.stI (A := fun y => y = 135) rfl) (fun y hy => by unfold sC; omega), b.fr (Fr.stI (A := fun y => y = 135) rfl) (fun y h1 h2 => by omega)⟩
  have lotL : ∀ (s : gS) (y : Int32), Fr lowC s (stI s 135 0 y) := fun s y => Fr.stI (by unfold lowC; omega)
  have e1 := C_drawn (L := L) (N := N) (S := S) (n := 4) (by omega) (by omega)
  rw [hr] at e1
  obtain ⟨q1, s1⟩ := lot S (dR r) q hs
  unfold f_c10_tryDrawn
  rw [zc10, Option.bind_some, zr10_10, Option.bind_some, k4, e1, Option.bind_some]
  dsimp only
  by_cases z1 : dV r 4 ≤ 1
  · have c1 : ¬ (1 : Int32) < nI (dV r 4) := nI_nlt (a := 1) z1 (by omega)
    obtain ⟨a, a1, a2, a3⟩ := q1.ru hc
    obtain ⟨S2, e2, f2, v2, -⟩ := C_season (L := L) (N := N) a2 SA_31 (by omega) s1 q1.1 wg hv a3 (w.good hc) hN
    have q2 := pS31 q1 f2
    refine ⟨S2, ?_, q2.1, ?_, ?_, lowTr (lotL S _) q2.2⟩
    · rw [if_neg c1, zr10_6, Option.bind_some, zr10_5, Option.bind_some, zr10_2, Option.bind_some, zr10_11 a1, Option.bind_some, e2]
      rfl
    · unfold yV; rw [if_pos z1]; exact v2
    · unfold yR
      rw [if_pos z1, f2.i (by show ¬ (_ ∨ _); omega)]
      exact rdI_eq
  · have c1 : (1 : Int32) < nI (dV r 4) := nI_lt (a := 1) (by omega) (by omega)
    by_cases z2 : dV r 4 = 2
    · have c2 : nI (dV r 4) = 2 := by rw [z2]; rfl
      obtain ⟨q2, s2⟩ := lot _ (dR (dR r)) q1 s1
      obtain ⟨q3, s3⟩ := lot _ (dR (dR (dR r))) q2 s2
      obtain ⟨q4, s4⟩ := lot _ (dR (dR (dR (dR r)))) q3 s3
      have e2 := C_drawn (L := L) (N := N) (S := stI S 135 0 (dR r)) (n := gRw g * gCo g) (by omega) (by omega)
      rw [rdI_eq] at e2
      have e3 := C_drawn (L := L) (N := N) (S := stI (stI S 135 0 (dR r)) 135 0 (dR (dR r))) (n := 9) (by omega) (by omega)
      rw [rdI_eq] at e3
      have e4 := C_drawn (L := L) (N := N) (S := stI (stI (stI S 135 0 (dR r)) 135 0 (dR (dR r))) 135 0 (dR (dR (dR r)))) (n := 2) (by omega) (by omega)
      rw [rdI_eq] at e4
      have hf := dV_lt (r := dR r) (n := gRw g * gCo g) (by omega)
      have l4 : Fr lowC S (stI (stI (stI (stI S 135 0 (dR r)) 135 0 (dR (dR r))) 135 0 (dR (dR (dR r)))) 135 0 (dR (dR (dR (dR r))))) := lowTr (lotL _ _) (lowTr (lotL _ _) (lowTr (lotL _ _) (lotL _ _)))
      have eS : ∃ y S2, f_c7_sayOn N 31 (nI (dV (dR r) (gRw g * gCo g))) (nI (dV (dR (dR r)) 9 + 1)) (nI (dV (dR (dR (dR r))) 2)) (mk L (stI (stI (stI (stI S 135 0 (dR r)) 135 0 (dR (dR r))) 135 0 (dR (dR (dR r)))) 135 0 (dR (dR (dR (dR r)))))) = some (y, mk L S2) ∧ Fr (fun y => 31 ≤ y ∧ y ≤ 36) (stI (stI (stI (stI S 135 0 (dR r)) 135 0 (dR (dR r))) 135 0 (dR (dR (dR r)))) 135 0 (dR (dR (dR (dR r))))) S2 ∧ CV S2 31 (if sOn v' (dV (dR r) (gRw g * gCo g)) = none ∧ vN v' < 8 then vAdd v' (dV (dR r) (gRw g * gCo g)) (dV (dR (dR r)) 9 + 1) (dV (dR (dR (dR r))) 2) else v') := by
        cases ho : sOn v' (dV (dR r) (gRw g * gCo g)) with
        | some j =>
          rw [if_neg (fun z => by cases z.1)]
          exact ⟨_, _, C_sayOn_on SA_31 s4 wg hv hN (by omega) ho, Fr.refl, s4⟩
        | none =>
          by_cases z8 : vN v' < 8
          · rw [if_pos ⟨rfl, z8⟩]
            obtain ⟨S2, b1, b2, b3⟩ := C_sayOn_ok (L := L) (N := N) (w := dV (dR (dR r)) 9 + 1) (m := dV (dR (dR (dR r))) 2) SA_31 s4 wg hv hN (by omega) ho z8
            exact ⟨_, S2, b1, b2.mono (fun y hy => by omega), b3⟩
          · rw [if_neg (fun z => z8 z.2)]
            exact ⟨_, _, C_sayOn_full SA_31 s4 wg hv hN (by omega) ho (by omega), Fr.refl, s4⟩
      obtain ⟨y, S2, b1, b2, b3⟩ := eS
      have q5 := q4.tri b2
      refine ⟨S2, ?_, q5.1, ?_, ?_, lowTr l4 q5.2⟩
      · rw [if_pos c1, if_pos c2, zr10_10, Option.bind_some, zr10_2, Option.bind_some, C_fields q1.1, Option.bind_some, e2, Option.bind_some]
        dsimp only
        rw [zr10_10, Option.bind_some, k9, e3, Option.bind_some]
        dsimp only
        rw [zr10_5, Option.bind_some, zr10_10, Option.bind_some, k2, e4, Option.bind_some]
        dsimp only
        rw [nI_1, b1]
        simp only [Option.bind_some]
      · unfold yV; rw [if_neg z1, if_pos z2]; exact b3
      · unfold yR
        rw [if_neg z1, if_pos z2, b2.i (by omega)]
        exact rdI_eq
    · have c2 : ¬ nI (dV r 4) = 2 := fun e => z2 ((nI_eq (b := 2) (by omega) (by omega)).mp e)
      have eN : (stI S 135 0 (dR r)).1 31 0 = nI (vN v') := s1.1
      by_cases z0 : vN v' = 0
      · refine ⟨stI S 135 0 (dR r), ?_, q1, ?_, ?_, lotL S _⟩
        · rw [if_pos c1, if_neg c2, zr10_5, Option.bind_some, qi0 SA_31, eN, Option.bind_some, ilez_t z0]
          rfl
        · unfold yV; rw [if_neg z1, if_neg z2, if_pos z0]; exact s1
        · unfold yR
          rw [if_neg z1, if_neg z2, if_pos z0]
          exact rdI_eq
      · obtain ⟨q2, s2⟩ := lot _ (dR (dR r)) q1 s1
        have e2 := C_drawn (L := L) (N := N) (S := stI S 135 0 (dR r)) (n := vN v') (by omega) (by omega)
        rw [rdI_eq] at e2
        have hw := dV_lt (r := dR r) (n := vN v') (by omega)
        have hA := (hv.2.2 _ hw).2.2.2.2.1
        have eS : ∃ y S2, f_c7_throwAnd N 31 (nI (dV (dR r) (vN v'))) (mk L (stI (stI S 135 0 (dR r)) 135 0 (dR (dR r)))) = some (y, mk L S2) ∧ Fr (fun y => 31 ≤ y ∧ y ≤ 36) (stI (stI S 135 0 (dR r)) 135 0 (dR (dR r))) S2 ∧ CV S2 31 (if vA v' (dV (dR r) (vN v')) < 9 then vSetA v' (dV (dR r) (vN v')) (vA v' (dV (dR r) (vN v')) + 1) else v') := by
          by_cases z9 : vA v' (dV (dR r) (vN v')) < 9
          · rw [if_pos z9]
            obtain ⟨S2, b1, b2, b3⟩ := C_throwAnd_ok (L := L) (N := N) SA_31 s2 hv hw z9
            exact ⟨_, S2, b1, b2.mono (fun y hy => by omega), b3⟩
          · rw [if_neg z9]
            exact ⟨_, _, C_throwAnd_full SA_31 s2 hv hw (by omega), Fr.refl, s2⟩
        obtain ⟨y, S2, b1, b2, b3⟩ := eS
        have q5 := q2.tri b2
        refine ⟨S2, ?_, q5.1, ?_, ?_, lowTr (lotL _ _) (lowTr (lotL _ _) q5.2)⟩
        · rw [if_pos c1, if_neg c2, zr10_5, Option.bind_some, qi0 SA_31, eN, Option.bind_some, ilez_f (by omega) (by omega)]
          simp only [zr10_5, zr10_10, Option.bind_some]
          rw [qi0 SA_31, eN]
          simp only [Option.bind_some]
          rw [e2]
          simp only [Option.bind_some]
          rw [b1]
          simp only [Option.bind_some]
        · unfold yV; rw [if_neg z1, if_neg z2, if_neg z0]; exact b3
        · unfold yR
          rw [if_neg z1, if_neg z2, if_neg z0, b2.i (by omega)]
          exact rdI_eq
theorem M_tryDrawn {d kk : Nat} {i : Nat} (q : MA T (g, v, x, l, u, n, k, h) c) (w : WA (g, v, x, l, u, n, k, h)) (hc : ruleCode u.2 u.1 = .inl code) (hs : MW T 156 v') (hv : WV g v') (hd : d < 1000) (hi : i < d) (hN : 900 ≤ N) :
    ∃ T1, lp_c11_years_36 N 144 (nI d) (kk + 1) (nI i) (mk L T) = lp_c11_years_36 N 144 (nI d) kk (nI (i + 1)) (mk L T1) ∧ MA T1 (g, v, x, l, u, n, k, h) c ∧ MW T1 156 (yV code g v' (T.1 144 37)) ∧ T1.1 144 37 = yR v' (T.1 144 37) ∧ Fr highM T T1 := by
  have wg : WG g := w.1
  have h36 := wg.f
  have h8 := hv.1
  generalize hr : T.1 144 37 = r
  have d4 := dV_lt (r := r) (n := 4) (by omega)
  have lot : ∀ (s : gS) (y : Int32), MA s (g, v, x, l, u, n, k, h) c → MW s 156 v' → MA (stI s 144 37 y) (g, v, x, l, u, n, k, h) c ∧ MW (stI s 144 37 y) 156 v' := fun s y a b => ⟨a.fm (FM.stK (A := fun _ => False) (K := fun y => y = 37) rfl) (fun _ z => z.elim) (fun y hy => by unfold sK; omega), b.fr (Fr.stI (A := fun y => y = 144) rfl) (by omega)⟩
  have lotL : ∀ (s : gS) (y : Int32), Fr highM s (stI s 144 37 y) := fun s y => Fr.stI (by unfold highM; omega)
  have e1 := M_draw (L := L) (N := N) (S := T) (n := 4) (by omega) (by omega)
  rw [hr] at e1
  obtain ⟨q1, s1⟩ := lot T (dR r) q hs
  rw [lp_c11_years_36.eq_2, ile_f hi (by omega), k4, e1, Option.bind_some]
  dsimp only
  by_cases z1 : dV r 4 ≤ 1
  · have c1 : ¬ (2 : Int32) ≤ nI (dV r 4) := nI_ge (b := 2) (by omega) (by omega)
    have c2 : ¬ nI (dV r 4) = 2 := fun e => by have := (nI_eq (b := 2) (by omega) (by omega)).mp e; omega
    have c3 : ¬ nI (dV r 4) = 3 := fun e => by have := (nI_eq (b := 3) (by omega) (by omega)).mp e; omega
    obtain ⟨T2, y, e2, f2, v2, -⟩ := M_season (L := L) (N := N) MA_156 (by omega) (by omega) s1 q1.1 wg hv q1.2.2.2.2.1.1 hc hN
    have q2 := qA156 q1 f2
    refine ⟨T2, ?_, q2.1, ?_, ?_, highTr (lotL T _) q2.2⟩
    · rw [if_neg c1, zr144_25, Option.bind_some, e2, Option.bind_some]
      dsimp only
      rw [Option.bind_some, if_neg c2, Option.bind_some, if_neg c3, Option.bind_some, nI_1]
    · unfold yV; rw [if_pos z1]; exact v2
    · unfold yR
      rw [if_pos z1, f2.k (by show ¬ (_ ∨ _); omega)]
      exact rdI_eq
  · have c1 : (2 : Int32) ≤ nI (dV r 4) := nI_le (a := 2) (by omega) (by omega)
    rw [if_pos c1, Option.bind_some]
    by_cases z2 : dV r 4 = 2
    · have c2 : nI (dV r 4) = 2 := by rw [z2]; rfl
      have c3 : ¬ nI (dV r 4) = 3 := by rw [z2]; decide
      obtain ⟨q2, s2⟩ := lot _ (dR (dR r)) q1 s1
      obtain ⟨q3, s3⟩ := lot _ (dR (dR (dR r))) q2 s2
      obtain ⟨q4, s4⟩ := lot _ (dR (dR (dR (dR r)))) q3 s3
      have e2 := M_draw (L := L) (N := N) (S := stI T 144 37 (dR r)) (n := gRw g * gCo g) (by omega) (by omega)
      rw [rdI_eq] at e2
      have e3 := M_draw (L := L) (N := N) (S := stI (stI T 144 37 (dR r)) 144 37 (dR (dR r))) (n := 9) (by omega) (by omega)
      rw [rdI_eq] at e3
      have e4 := M_draw (L := L) (N := N) (S := stI (stI (stI T 144 37 (dR r)) 144 37 (dR (dR r))) 144 37 (dR (dR (dR r)))) (n := 2) (by omega) (by omega)
      rw [rdI_eq] at e4
      have hf := dV_lt (r := dR r) (n := gRw g * gCo g) (by omega)
      have w9 := dV_lt (r := dR (dR r)) (n := 9) (by omega)
      have m2 := dV_lt (r := dR (dR (dR r))) (n := 2) (by omega)
      have l4 : Fr highM T (stI (stI (stI (stI T 144 37 (dR r)) 144 37 (dR (dR r))) 144 37 (dR (dR (dR r)))) 144 37 (dR (dR (dR (dR r))))) := highTr (lotL _ _) (highTr (lotL _ _) (highTr (lotL _ _) (lotL _ _)))
      have e1w : (1 : Int32) + nI (dV (dR (dR r)) 9) = nI (dV (dR (dR r)) 9 + 1) := by rw [Int32.add_comm, nI_1]
      have eR : f_c11_refusesSaying N 144 156 (nI (dV (dR r) (gRw g * gCo g))) (nI (dV (dR (dR r)) 9 + 1)) (nI (dV (dR (dR (dR r))) 2)) (mk L (stI (stI (stI (stI T 144 37 (dR r)) 144 37 (dR (dR r))) 144 37 (dR (dR (dR r)))) 144 37 (dR (dR (dR (dR r)))))) = some (match sOn v' (dV (dR r) (gRw g * gCo g)) with | some _ => -2 | none => if vN v' = 8 then -3 else 0) := by
        rcases M_refuse (L := L) (N := N) (g := g) (v := v') (f := (nI (dV (dR r) (gRw g * gCo g)))) (w := (nI (dV (dR (dR r)) 9 + 1))) (m := (nI (dV (dR (dR (dR r))) 2))) MA_156 s4 q4.1 wg hv hN with ⟨hcc, -⟩ | ⟨f2, w2, m3, x1, x2, x3, hf2, -, -, -, e⟩
        · exfalso
          rcases hcc with (hcc | ⟨_, hcc⟩) | (hcc | hcc) | (hcc | hcc)
          · exact nI_pos (by omega) hcc
          · exact nI_ge hf (by omega) hcc
          · exact nI_nlt (b := 1) (a := dV (dR (dR r)) 9 + 1) (by omega) (by omega) hcc
          · exact nI_nlt (a := 9) (b := dV (dR (dR r)) 9 + 1) (by omega) (by omega) hcc
          · exact nI_pos (by omega) hcc
          · exact nI_nlt (a := 1) (b := dV (dR (dR (dR r))) 2) (by omega) (by omega) hcc
        · have : dV (dR r) (gRw g * gCo g) = f2 := (nI_eq (by omega) (by omega)).mp x1
          rw [← this] at e
          exact e
      have eS : ∃ y T2, f_c11_refusesSaying N 144 156 (nI (dV (dR r) (gRw g * gCo g))) (nI (dV (dR (dR r)) 9 + 1)) (nI (dV (dR (dR (dR r))) 2)) (mk L (stI (stI (stI (stI T 144 37 (dR r)) 144 37 (dR (dR r))) 144 37 (dR (dR (dR r)))) 144 37 (dR (dR (dR (dR r)))))) = some y ∧ (if y = 0 then
    (f_c11_add N 156 (nI (dV (dR r) (gRw g * gCo g))) (nI (dV (dR (dR r)) 9 + 1)) (nI (dV (dR (dR (dR r))) 2)) (mk L (stI (stI (stI (stI T 144 37 (dR r)) 144 37 (dR (dR r))) 144 37 (dR (dR (dR r)))) 144 37 (dR (dR (dR (dR r))))))).bind fun q39 =>
    some q39
  else
    some (mk L (stI (stI (stI (stI T 144 37 (dR r)) 144 37 (dR (dR r))) 144 37 (dR (dR (dR r)))) 144 37 (dR (dR (dR (dR r))))))) = some (mk L T2) ∧ FM (fun y => y = 156) (fun _ => False) (stI (stI (stI (stI T 144 37 (dR r)) 144 37 (dR (dR r))) 144 37 (dR (dR (dR r)))) 144 37 (dR (dR (dR (dR r))))) T2 ∧ MW T2 156 (if sOn v' (dV (dR r) (gRw g * gCo g)) = none ∧ vN v' < 8 then vAdd v' (dV (dR r) (gRw g * gCo g)) (dV (dR (dR r)) 9 + 1) (dV (dR (dR (dR r))) 2) else v') := by
        cases ho : sOn v' (dV (dR r) (gRw g * gCo g)) with
        | some j =>
          rw [ho] at eR
          dsimp only at eR
          rw [if_neg (show ¬ (some j = none ∧ vN v' < 8) from fun z => by cases z.1)]
          exact ⟨-2, _, eR, if_neg (by decide), FM.refl, s4⟩
        | none =>
          rw [ho] at eR
          dsimp only at eR
          by_cases z8 : vN v' < 8
          · rw [if_neg (show ¬ vN v' = 8 by omega)] at eR
            rw [if_pos (show none = none ∧ vN v' < 8 from ⟨rfl, z8⟩)]
            obtain ⟨T2, b1, b2, b3⟩ := M_add (L := L) (N := N) (f := dV (dR r) (gRw g * gCo g)) (w := dV (dR (dR r)) 9 + 1) (m := dV (dR (dR (dR r))) 2) MA_156 (by omega) s4 z8
            refine ⟨0, T2, eR, ?_, b2, b3⟩
            rw [if_pos rfl, b1, Option.bind_some]
          · rw [if_pos (show vN v' = 8 by omega)] at eR
            rw [if_neg (show ¬ (none = none ∧ vN v' < 8) from fun z => z8 z.2)]
            exact ⟨-3, _, eR, if_neg (by decide), FM.refl, s4⟩
      obtain ⟨y, T2, b0, b1, b2, b3⟩ := eS
      have q5 := q4.tri b2
      refine ⟨T2, ?_, q5.1, ?_, ?_, highTr l4 q5.2⟩
      · rw [if_pos c2, M_fields q1.1, Option.bind_some, e2, Option.bind_some]
        dsimp only
        rw [k9, e3, Option.bind_some]
        dsimp only
        rw [k2, e4, Option.bind_some]
        dsimp only
        rw [zr144_25, e1w]
        simp only [Option.bind_some]
        rw [b0]
        simp only [Option.bind_some]
        rw [b1]
        simp only [Option.bind_some]
        rw [if_neg c3, Option.bind_some, nI_1]
      · unfold yV; rw [if_neg z1, if_pos z2]; exact b3
      · unfold yR
        rw [if_neg z1, if_pos z2, b2.k (fun z => z)]
        exact rdI_eq
    · have c2 : ¬ nI (dV r 4) = 2 := fun e => z2 ((nI_eq (b := 2) (by omega) (by omega)).mp e)
      have c3 : nI (dV r 4) = 3 := by rw [show dV r 4 = 3 by omega]; rfl
      have eN : (stI T 144 37 (dR r)).1 156 40 = nI (vN v') := s1.1
      rw [if_neg c2, Option.bind_some, if_pos c3, zr144_25, Option.bind_some, k40, zg156 (by omega), eN, Option.bind_some]
      by_cases z0 : vN v' = 0
      · refine ⟨stI T 144 37 (dR r), ?_, q1, ?_, ?_, lotL T _⟩
        · rw [ilez_t z0, Option.bind_some, nI_1]
        · unfold yV; rw [if_neg z1, if_neg z2, if_pos z0]; exact s1
        · unfold yR
          rw [if_neg z1, if_neg z2, if_pos z0]
          exact rdI_eq
      · obtain ⟨q2, s2⟩ := lot _ (dR (dR r)) q1 s1
        have e2 := M_draw (L := L) (N := N) (S := stI T 144 37 (dR r)) (n := vN v') (by omega) (by omega)
        rw [rdI_eq] at e2
        have hw := dV_lt (r := dR r) (n := vN v') (by omega)
        have hA := (hv.2.2 _ hw).2.2.2.2.1
        have eA : (stI (stI T 144 37 (dR r)) 144 37 (dR (dR r))).1 156 (24 + dV (dR r) (vN v')) = nI (vA v' (dV (dR r) (vN v'))) := (s2.2.2.2 _ hw).2.2.2.1
        have eN2 : (stI (stI T 144 37 (dR r)) 144 37 (dR (dR r))).1 156 40 = nI (vN v') := s2.1
        rw [ilez_f (by omega) (by omega)]
        simp only [zr144_25, Option.bind_some]
        rw [zg156 (by omega), eN]
        simp only [Option.bind_some]
        rw [e2]
        simp only [Option.bind_some, zr144_25]
        by_cases z9 : vA v' (dV (dR r) (vN v')) < 9
        · have n9 : ¬ nI (vA v' (dV (dR r) (vN v'))) = 9 := fun e => by have := (nI_eq (b := 9) (by omega) (by omega)).mp e; omega
          have eR : f_c11_refusesAnd N 156 (nI (dV (dR r) (vN v'))) (mk L (stI (stI T 144 37 (dR r)) 144 37 (dR (dR r)))) = some 0 := by
            simp (disch := omega) only [Option.bind_some, ↓ile_t, ↓ile_f, ↓ilt_t, ↓ilt_f, ↓ieq_t, ↓ieq_f, ↓iz_t, ↓iz_f, ↓iltz, ↓izle, ↓ilez_t, ↓ilez_f, ↓im1, ile_t, ile_f, ilt_t, ilt_f, ieq_t, ieq_f, iz_t, iz_f, iltz, izle, ilez_t, ilez_f, im1, gZ_0, gZ_1, e10, e00, ↓reduceIte, Sum.elim_inl, Sum.elim_inr, nI_1, nI_add, Int32.sub_zero, f_c11_refusesAnd, k40, zg156, eN2, M_in_nI hw, k24, eA, if_neg n9]
          have b6 := q2.tri (FM.stA (A := fun y => y = 156) (K := fun _ => False) (a := 156) (k := 24 + dV (dR r) (vN v')) (v := nI (vA v' (dV (dR r) (vN v')) + 1)) rfl (by omega))
          refine ⟨stI (stI (stI T 144 37 (dR r)) 144 37 (dR (dR r))) 156 (24 + dV (dR r) (vN v')) (nI (vA v' (dV (dR r) (vN v')) + 1)), ?_, b6.1, ?_, ?_, highTr (lotL _ _) (highTr (lotL _ _) b6.2)⟩
          · rw [eR, Option.bind_some, if_pos rfl]
            simp (disch := omega) only [Option.bind_some, ↓ile_t, ↓ile_f, ↓ilt_t, ↓ilt_f, ↓ieq_t, ↓ieq_f, ↓iz_t, ↓iz_f, ↓iltz, ↓izle, ↓ilez_t, ↓ilez_f, ↓im1, ile_t, ile_f, ilt_t, ilt_f, ieq_t, ieq_f, iz_t, iz_f, iltz, izle, ilez_t, ilez_f, im1, gZ_0, gZ_1, e10, e00, ↓reduceIte, Sum.elim_inl, Sum.elim_inr, nI_1, nI_add, Int32.sub_zero, zr144_25, k24, zg156, eA, zp156]
          · unfold yV; rw [if_neg z1, if_neg z2, if_neg z0, if_pos z9]; exact MW_A s2 h8 (by omega)
          · unfold yR
            rw [if_neg z1, if_neg z2, if_neg z0, rdI_ne (by omega)]
            exact rdI_eq
        · have p9 : nI (vA v' (dV (dR r) (vN v'))) = 9 := by rw [show vA v' (dV (dR r) (vN v')) = 9 by omega]; rfl
          have eR : f_c11_refusesAnd N 156 (nI (dV (dR r) (vN v'))) (mk L (stI (stI T 144 37 (dR r)) 144 37 (dR (dR r)))) = some (-2) := by
            simp (disch := omega) only [Option.bind_some, ↓ile_t, ↓ile_f, ↓ilt_t, ↓ilt_f, ↓ieq_t, ↓ieq_f, ↓iz_t, ↓iz_f, ↓iltz, ↓izle, ↓ilez_t, ↓ilez_f, ↓im1, ile_t, ile_f, ilt_t, ilt_f, ieq_t, ieq_f, iz_t, iz_f, iltz, izle, ilez_t, ilez_f, im1, gZ_0, gZ_1, e10, e00, ↓reduceIte, Sum.elim_inl, Sum.elim_inr, nI_1, nI_add, Int32.sub_zero, f_c11_refusesAnd, k40, zg156, eN2, M_in_nI hw, k24, eA, if_pos p9]
          refine ⟨stI (stI T 144 37 (dR r)) 144 37 (dR (dR r)), ?_, q2, ?_, ?_, highTr (lotL _ _) (lotL _ _)⟩
          · rw [eR, Option.bind_some, if_neg (show ¬ (-2 : Int32) = 0 by decide), Option.bind_some, nI_1]
          · unfold yV; rw [if_neg z1, if_neg z2, if_neg z0, if_neg z9]; exact s2
          · unfold yR
            rw [if_neg z1, if_neg z2, if_neg z0]
            exact rdI_eq
theorem A_years {p y : Int32} (w : WA A) (q : CA S A) (m : MA S A c) (hN : 900 ≤ N) : Agr L S c (f_c10_years N 10 p y) (f_c11_years N 144 p y) := by
  obtain ⟨g, v, x, l, u, n, k, h⟩ := A
  have wv : WV g v := w.2.1
  have wg : WG g := w.1
  have h8 := wv.1
  obtain ⟨code, hc⟩ : ∃ code, ruleCode u.2 u.1 = .inl code := w.2.2.2.2.1.2
  rcases (show (y < 1 ∨ (¬ y < 1 ∧ ¬ y ≤ 60)) ∨ ∃ d, 1 ≤ d ∧ d ≤ 60 ∧ y = nI d from cas y 1 60 (by omega) (by omega)) with hy | ⟨d, d1, d2, rfl⟩
  · refine AgrR w q m (r := -1) ?_ (fun T _ t1 => ?_)
    · rcases hy with hy | ⟨h1, hy⟩
      · simp (disch := omega) only [Option.bind_some, ↓ile_t, ↓ile_f, ↓ilt_t, ↓ilt_f, ↓ieq_t, ↓ieq_f, ↓iz_t, ↓iz_f, ↓iltz, ↓izle, ↓ilez_t, ↓ilez_f, ↓im1, ile_t, ile_f, ilt_t, ilt_f, ieq_t, ieq_f, iz_t, iz_f, iltz, izle, ilez_t, ilez_f, im1, gZ_0, gZ_1, e10, e00, ↓reduceIte, Sum.elim_inl, Sum.elim_inr, nI_1, nI_add, Int32.sub_zero, f_c10_years, zc10, zr10_0, zr10_1, zr10_2, zr10_3, zr10_4, zr10_5, zr10_6, zr10_7, zr10_8, zr10_9, zr10_10, zs10_11, zs10_12, if_pos hy]
      · simp (disch := omega) only [Option.bind_some, ↓ile_t, ↓ile_f, ↓ilt_t, ↓ilt_f, ↓ieq_t, ↓ieq_f, ↓iz_t, ↓iz_f, ↓iltz, ↓izle, ↓ilez_t, ↓ilez_f, ↓im1, ile_t, ile_f, ilt_t, ilt_f, ieq_t, ieq_f, iz_t, iz_f, iltz, izle, ilez_t, ilez_f, im1, gZ_0, gZ_1, e10, e00, ↓reduceIte, Sum.elim_inl, Sum.elim_inr, nI_1, nI_add, Int32.sub_zero, f_c10_years, zc10, zr10_0, zr10_1, zr10_2, zr10_3, zr10_4, zr10_5, zr10_6, zr10_7, zr10_8, zr10_9, zr10_10, zs10_11, zs10_12, if_neg h1, if_neg hy]
    · simp (disch := omega) only [Option.bind_some, ↓ile_t, ↓ile_f, ↓ilt_t, ↓ilt_f, ↓ieq_t, ↓ieq_f, ↓iz_t, ↓iz_f, ↓iltz, ↓izle, ↓ilez_t, ↓ilez_f, ↓im1, ile_t, ile_f, ilt_t, ilt_f, ieq_t, ieq_f, iz_t, iz_f, iltz, izle, ilez_t, ilez_f, im1, gZ_0, gZ_1, e10, e00, ↓reduceIte, Sum.elim_inl, Sum.elim_inr, nI_1, nI_add, Int32.sub_zero, f_c11_years, zc144, zs144_10, M_inF (N := N) hy, eq_self_iff_true]
  · have c1 : ¬ nI d < 1 := nI_nlt (b := 1) d1 (by omega)
    have c2 : nI d ≤ 60 := nI_le (b := 60) d2 (by omega)
    have hW : ∀ i, WV g (yS code g v p i).1 ∧ vP v ≤ vP (yS code g v p i).1 := by
      intro i
      induction i with
      | zero => exact ⟨wv, Nat.le_refl _⟩
      | succ i ih => exact ⟨ih.1.yV wg, Nat.le_trans ih.2 (yV_P ih.1)⟩
    obtain ⟨S1, e1, q1, s1, f1⟩ := C_to31 (L := L) (N := N) q w hN
    have q1' : CA (stI S1 135 0 p) (g, v, x, l, u, n, k, h) := q1.fr (Fr.stI (A := fun y => y = 135) rfl) (fun y hy => by unfold sC; omega)
    have s1' : CV (stI S1 135 0 p) 31 v := s1.fr (Fr.stI (A := fun y => y = 135) rfl) (fun y h1 h2 => by omega)
    obtain ⟨r, er, S2, er2, q2, s2, f2⟩ := lp_inv (Lp := fun kk (s : gS) i => lp_c10_years_34 N 10 (nI d) kk (nI i) (mk L s)) (n := d) (P := fun i s => CA s (g, v, x, l, u, n, k, h) ∧ CV s 31 (yS code g v p i).1 ∧ s.1 135 0 = (yS code g v p i).2 ∧ Fr lowC (stI S1 135 0 p) s) (Q := fun r => ∃ S2, r = mk L S2 ∧ CA S2 (g, v, x, l, u, n, k, h) ∧ CV S2 31 (yS code g v p d).1 ∧ Fr lowC (stI S1 135 0 p) S2)
      (fun kk i s hi hs => Or.inr (by
        obtain ⟨qs, ss, es, fs⟩ := hs
        obtain ⟨s3, a1, a2, a3, a4, a5⟩ := C_tryDrawn (L := L) (N := N) qs w hc ss (hW i).1 hN
        rw [es] at a3 a4
        refine ⟨s3, ?_, a2, a3, a4, lowTr fs a5⟩
        show lp_c10_years_34 N 10 (nI d) (kk + 1) _ _ = _
        rw [lp_c10_years_34.eq_2]
        simp (disch := omega) only [Option.bind_some, ↓ile_t, ↓ile_f, ↓ilt_t, ↓ilt_f, ↓ieq_t, ↓ieq_f, ↓iz_t, ↓iz_f, ↓iltz, ↓izle, ↓ilez_t, ↓ilez_f, ↓im1, ile_t, ile_f, ilt_t, ilt_f, ieq_t, ieq_f, iz_t, iz_f, iltz, izle, ilez_t, ilez_f, im1, gZ_0, gZ_1, e10, e00, ↓reduceIte, Sum.elim_inl, Sum.elim_inr, nI_1, nI_add, Int32.sub_zero, a1]))
      (fun kk s hs => by
        refine ⟨mk L s, ?_, s, rfl, hs.1, hs.2.1, hs.2.2.2⟩
        show lp_c10_years_34 N 10 (nI d) (kk + 1) _ _ = _
        rw [lp_c10_years_34.eq_2]
        simp (disch := omega) only [Option.bind_some, ↓ile_t, ↓ile_f, ↓ilt_t, ↓ilt_f, ↓ieq_t, ↓ieq_f, ↓iz_t, ↓iz_f, ↓iltz, ↓izle, ↓ilez_t, ↓ilez_f, ↓im1, ile_t, ile_f, ilt_t, ilt_f, ieq_t, ieq_f, iz_t, iz_f, iltz, izle, ilez_t, ilez_f, im1, gZ_0, gZ_1, e10, e00, ↓reduceIte, Sum.elim_inl, Sum.elim_inr, nI_1, nI_add, Int32.sub_zero, ]) d N 0 (stI S1 135 0 p) (by omega) (by omega) ⟨q1', s1', rdI_eq, Fr.refl⟩
    rw [er2, nI_0] at er
    obtain ⟨wv', hP⟩ := hW d
    generalize hV : (yS code g v p d).1 = z at *
    have e7 : S2.1 31 7 = nI (vP z) := s2.2.2.1
    have e70 : S2.1 19 7 = nI (vP v) := q2.2.1.2.2.1
    obtain ⟨S3, e3, q3, f3⟩ := C_tell2A (L := L) (N := N) (r := nI (sumN (vT z) (vN z))) (y := (nI (vN z)).toInt64) (z := (nI (vP z - vP v)).toInt64) q2
    refine AgrI (c' := c) m (S1 := S3) (r := nI (sumN (vT z) (vN z))) ?_ (lowTr f1 (lowTr (Fr.stI (by unfold lowC; omega)) (lowTr f2 f3))) q3 (w.rw (by show 2 ≤ 8; omega)) (by omega) (fun T mt => ?_)
    · simp (disch := omega) only [Option.bind_some, ↓ile_t, ↓ile_f, ↓ilt_t, ↓ilt_f, ↓ieq_t, ↓ieq_f, ↓iz_t, ↓iz_f, ↓iltz, ↓izle, ↓ilez_t, ↓ilez_f, ↓im1, ile_t, ile_f, ilt_t, ilt_f, ieq_t, ieq_f, iz_t, iz_f, iltz, izle, ilez_t, ilez_f, im1, gZ_0, gZ_1, e10, e00, ↓reduceIte, Sum.elim_inl, Sum.elim_inr, nI_1, nI_add, Int32.sub_zero, f_c10_years, zc10, zr10_0, zr10_1, zr10_2, zr10_3, zr10_4, zr10_5, zr10_6, zr10_7, zr10_8, zr10_9, zr10_10, zs10_11, zs10_12, if_neg c1, if_pos c2, e1, f_c3_begin, zc135, zi135_0, zs135_0, er, C_waters SA_31 s2 wv'.1 hN, qc SA_31, qi0 SA_31, qs0 SA_31, qr1 SA_31, qr2 SA_31, qr3 SA_31, qr4 SA_31, qr5 SA_31, qi6 SA_31, qs6 SA_31, qi7 SA_31, qs7 SA_31, s2.1, e7, qc SA_19, qi0 SA_19, qs0 SA_19, qr1 SA_19, qr2 SA_19, qr3 SA_19, qr4 SA_19, qr5 SA_19, qi6 SA_19, qs6 SA_19, qi7 SA_19, qs7 SA_19, e70, nI_sub, e3]
    · have t1 := mt.thr
      have ei : f_c11_in N (nI d) 1 60 (mk L (stI T 144 10 0)) = some 1 := M_inT (lo := 1) (hi := 60) d1 d2 (by omega)
      have t2 : MA (stI (stI T 144 10 0) 144 37 p) (g, v, x, l, u, n, k, h) c := t1.fm (FM.stK (A := fun _ => False) (K := fun y => y = 37) rfl) (fun _ z => z.elim) (fun y hy => by unfold sK; omega)
      obtain ⟨T1, a1, a2, a3⟩ := M_aside (L := L) (N := N) (d := 156) MA_145 (by omega) (by omega) t2.2.1 wv.1 hN
      have t3 : MA T1 (g, v, x, l, u, n, k, h) c := t2.fm a2 (fun y hy => by unfold sM; omega) (fun _ z => z.elim)
      have e37 : T1.1 144 37 = p := (a2.k (fun z => z)).trans rdI_eq
      obtain ⟨r', er', T2, er2', t4, s4, f4⟩ := lp_inv (Lp := fun kk (s : gS) i => lp_c11_years_36 N 144 (nI d) kk (nI i) (mk L s)) (n := d) (P := fun i s => MA s (g, v, x, l, u, n, k, h) c ∧ MW s 156 (yS code g v p i).1 ∧ s.1 144 37 = (yS code g v p i).2 ∧ Fr highM T1 s) (Q := fun r => ∃ S2, r = mk L S2 ∧ MA S2 (g, v, x, l, u, n, k, h) c ∧ MW S2 156 (yS code g v p d).1 ∧ Fr highM T1 S2)
        (fun kk i s hi hs => Or.inr (by
          obtain ⟨qs, ss, es, fs⟩ := hs
          obtain ⟨s3, b1, b2, b3, b4, b5⟩ := M_tryDrawn (L := L) (N := N) (d := d) (kk := kk) (i := i) qs w hc ss (hW i).1 (by omega) hi hN
          rw [es] at b3 b4
          exact ⟨s3, b1, b2, b3, b4, highTr fs b5⟩))
        (fun kk s hs => by
          refine ⟨mk L s, ?_, s, rfl, hs.1, hs.2.1, hs.2.2.2⟩
          show lp_c11_years_36 N 144 (nI d) (kk + 1) _ _ = _
          rw [lp_c11_years_36.eq_2, ile_t (Nat.le_refl _) (by omega)]) d N 0 T1 (by omega) (by omega) ⟨t3, a3, e37, Fr.refl⟩
      rw [er2', nI_0] at er'
      rw [hV] at s4
      obtain ⟨T3, b3, t5, g3, k3⟩ := M_t1 (L := L) (N := N) (y := (nI (vN z)).toInt64) t4
      obtain ⟨T4, b4, t6, g4, k4⟩ := M_t2 (L := L) (N := N) (z := (nI (vP z - vP v)).toInt64) t5
      have m2' : MW (stI T2 144 9 0) 156 z := clrW (by omega) s4
      have m3 : MW T3 156 z := tellW k3 (by omega) m2'
      have m4 : MW T4 156 z := tellW k4 (by omega) m3
      have y42 : T3.1 145 42 = nI (vP v) := t5.2.1.2.2.1
      refine ⟨T4, ?_, highTr thrH (highTr (Fr.stI (by unfold highM; omega)) (highTr (a2.high (fun y hy => by omega)) (highTr f4 (highTr g3 g4)))), t6⟩
      simp (disch := omega) only [Option.bind_some, ↓ile_t, ↓ile_f, ↓ilt_t, ↓ilt_f, ↓ieq_t, ↓ieq_f, ↓iz_t, ↓iz_f, ↓iltz, ↓izle, ↓ilez_t, ↓ilez_f, ↓im1, ile_t, ile_f, ilt_t, ilt_f, ieq_t, ieq_f, iz_t, iz_f, iltz, izle, ilez_t, ilez_f, im1, gZ_0, gZ_1, e10, e00, ↓reduceIte, Sum.elim_inl, Sum.elim_inr, nI_1, nI_add, Int32.sub_zero, f_c11_years, zc144, zs144_10, ei, zs144_37, zr144_0, zr144_25, a1, er', zs144_9, k40, zg156, m2'.1, b3, k42, m3.2.2.1, zg145, y42, nI_sub, b4, M_waters MA_156 m4 wv'.1 hN]
end YEARS
