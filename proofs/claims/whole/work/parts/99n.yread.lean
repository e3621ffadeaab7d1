/-! CALLS: year: the reference reads an act -/
section YEARM
variable {L N : Nat} {S T X : gS} {c : Nat} {g : pG} {v v0 v' : pV} {x : pX} {l : List Int64} {u : pX} {n : pN} {k : Nat → Option pV} {h : pH} {A : pA}
def rdM (N : Nat) (x1 : Int32) (h : gH) : Option (gH) :=
    (gfR h 144 11 29).bind fun v31 =>
    (f_c11_here N 144 h).bind fun q32 =>
    (sa 0 h v31 (x1 + (3 : Int32)) (if q32 = (46 : Int32) then (1 : Int32) else (0 : Int32))).bind fun h36 =>
    (f_c11_fine N 144 h36).bind fun q37 =>
    (show Option (gH) from if q37 = 0 then
    some h36
  else
    (f_c11_here N 144 h36).bind fun q43 =>
    if q43 = (46 : Int32) then
    some h36
  else
    (f_c11_here N 144 h36).bind fun q45 =>
    if q45 = (44 : Int32) then
    some h36
  else
    (gfI h36 144 11 14).bind fun v47 =>
    (f_c11_fault N 144 v47 h36).bind fun q48 =>
    some q48).bind fun t39 =>
    (gfI t39 144 11 14).bind fun v41 =>
    (sf t39 144 11 14 (.int (v41 + (1 : Int32)))).bind fun h42 =>
    some h42
def rdW (N : Nat) (x1 : Int32) (h : gH) : Option (gH) :=
    (gfR h 144 11 29).bind fun v28 =>
    (f_c11_oneOf N 144 (49 : Int32) (9 : Int32) h).bind fun q29 =>
    (sa 0 q29.2 v28 (x1 + (2 : Int32)) (q29.1 + (1 : Int32))).bind fun h30 =>
    rdM N x1 h30
def rdF (N : Nat) (x1 : Int32) (c v22 v23 : Int32) (h : gH) : Option (Int32) :=
    if v23 ≤ v22 then
    some (-1 : Int32)
  else
    (gfI h 144 11 2).bind fun v49 =>
    if v49 ≤ c then
    some (-1 : Int32)
  else
    (gfI h 144 11 2).bind fun v51 =>
    (gfR h 144 11 29).bind fun v52 =>
    (ga 0 h v52 (x1 + (1 : Int32))).bind fun v53 =>
    some ((v51 * v53) + c)
def rdS (N : Nat) (x1 : Int32) (h : gH) : Option (gH) :=
    (f_c11_oneOf N 144 (48 : Int32) (10 : Int32) h).bind fun q19 =>
    (gfR q19.2 144 11 29).bind fun v20 =>
    (gfR q19.2 144 11 29).bind fun v21 =>
    (ga 0 q19.2 v21 (x1 + (1 : Int32))).bind fun v22 =>
    (gfI q19.2 144 11 1).bind fun v23 =>
    (rdF N x1 q19.1 v22 v23 q19.2).bind fun t25 =>
    (sa 0 q19.2 v20 (x1 + (1 : Int32)) t25).bind fun h27 =>
    rdW N x1 h27
def rdD (N : Nat) (x1 : Int32) (h : gH) : Option (gH) :=
    (gfR h 144 11 29).bind fun v54 =>
    (f_c11_oneOf N 144 (49 : Int32) (9 : Int32) h).bind fun q55 =>
    (sa 0 q55.2 v54 (x1 + (2 : Int32)) (q55.1 + (1 : Int32))).bind fun h56 =>
    some h56
def rdB (N : Nat) (x1 q1 : Int32) (h : gH) : Option (gH) :=
    (gfR h 144 11 29).bind fun v12 =>
    (f_c11_oneOf N 144 (48 : Int32) (10 : Int32) h).bind fun q13 =>
    (sa 0 q13.2 v12 (x1 + (1 : Int32)) q13.1).bind fun h14 =>
    (show Option (gH) from if q1 = (100 : Int32) then
    rdD N x1 h14
  else
    some h14).bind fun t16 =>
    if q1 = (115 : Int32) then
    rdS N x1 t16
  else
    some t16
theorem rd_head {N : Nat} {x1 : Int32} {h : gH} : f_c11_readAct N 144 x1 h = (
  (gcl h 144 11).bind fun _ =>
  (f_c11_here N 144 h).bind fun q1 =>
    (show Option ((gH) ⊕ (Unit)) from if q1 = (110 : Int32) then
    some (.inr ())
  else
    if q1 = (115 : Int32) then
    some (.inr ())
  else
    if q1 = (97 : Int32) then
    some (.inr ())
  else
    if q1 = (99 : Int32) then
    some (.inr ())
  else
    if q1 = (100 : Int32) then
    some (.inr ())
  else
    if q1 = (114 : Int32) then
    some (.inr ())
  else
    (gfI h 144 11 14).bind fun v62 =>
    (f_c11_fault N 144 v62 h).bind fun q63 =>
    (show Option (gH) from some q63).bind fun r64 => some (.inl r64)).bind fun o5 => Sum.elim (fun r6 => some r6) (fun t3 =>
    (gfI h 144 11 14).bind fun v8 =>
    (sf h 144 11 14 (.int (v8 + (1 : Int32)))).bind fun h9 =>
    (gfR h9 144 11 29).bind fun v10 =>
    (sa 0 h9 v10 x1 q1).bind fun h11 =>
    rdB N x1 q1 h11) o5) := rfl
theorem fm160 {k : Nat} {y : Int32} : FM (fun y => y = 160) (fun _ => False) X (stI X 160 k y) := FM.stA rfl (by omega)
theorem M_hex {p : Nat} {w : Int32} (hR : RC X 148 x.1 60 x.2) (hp : p < 1000) : ∃ z, f_c11_here N 144 (mk L (ms X (nI p) w)) = some z := by
  by_cases y : p < min x.1 60
  · exact ⟨_, M_here_t hR y⟩
  · exact ⟨_, M_here_f hR (by omega) hp⟩
theorem M_dg {f p : Nat} (hR : RC X 148 x.1 60 x.2) (hf : f = 48 ∨ f = 49) (hp : p < 900) : (ySt x p f → f_c11_oneOf N 144 (nI f) (nI (58 - f)) (mk L (ms X (nI p) (-1))) = some (nI (x.2 p - f), mk L (ms X (nI (p + 1)) (-1)))) ∧ (¬ ySt x p f → f_c11_oneOf N 144 (nI f) (nI (58 - f)) (mk L (ms X (nI p) (-1))) = some (0, mk L (ms X (nI p) (nI p)))) := by
  refine ⟨fun h => ?_, fun h => ?_⟩
  · obtain ⟨h1, ⟨h2, -⟩ | ⟨-, h2, h3⟩⟩ := h
    · omega
    · exact M_oneOf_t hR h1 h2 (by omega) (by omega)
  · refine M_oneOf_n hR (by omega) (fun y => ?_) (by omega) (by omega) (by omega)
    by_cases y2 : x.2 p < f
    · exact Or.inl y2
    · refine Or.inr ?_
      by_cases y3 : x.2 p ≤ 57
      · exact absurd ⟨y, Or.inr ⟨by omega, by omega, y3⟩⟩ h
      · omega
/-- a reading that was wrong at q -/
def rBad (L : Nat) (X : gS) (q : Nat) (r : Option gH) : Prop := ∃ X' a', r = some (mk L (ms X' a' (nI q))) ∧ FM (fun y => y = 160) (fun _ => False) X X'
theorem rBad.st {j q : Nat} {y : Int32} {r : Option gH} (h : rBad L (stI X 160 j y) q r) : rBad L X q r := by
  obtain ⟨X', a', e, f⟩ := h
  exact ⟨X', a', e, fm160.tr f⟩
theorem RC.s160 {j : Nat} {y : Int32} (hR : RC X 148 x.1 60 x.2) : RC (stI X 160 j y) 148 x.1 60 x.2 := hR.st (by omega) (by omega)
theorem rdM_f {m a q : Nat} (hR : RC X 148 x.1 60 x.2) (hm : m < 80) (ha : a < 900) (hq : q < 900) : rBad L X q (rdM N (nI (4 * m)) (mk L (ms X (nI a) (nI q)))) := by
  obtain ⟨z, ez⟩ := M_hex (L := L) (N := N) (w := nI q) hR (show a < 1000 by omega)
  refine ⟨stI X 160 (4 * m + 3) (if z = 46 then 1 else 0), nI (a + 1), ?_, fm160⟩
  unfold rdM
  rw [zr144_29, Option.bind_some, ez, Option.bind_some, k3, nI_add, zp160 (by omega), Option.bind_some, ms_st (by omega), M_fine_f (by omega), Option.bind_some, i00, Option.bind_some, zi144_14, Option.bind_some, ms_p, nI_1, zs144_14, Option.bind_some, ms_14]
theorem rdM_n {m p : Nat} (hR : RC X 148 x.1 60 x.2) (hm : m < 80) (hp : p < 900) (hb : ∀ j, j < x.1 → x.2 j < 256) (hn : ¬ ySt x p 46) : rBad L X p (rdM N (nI (4 * m)) (mk L (ms X (nI p) (-1)))) := by
  have e2 : ∃ z, (∀ (Y : gS), RC Y 148 x.1 60 x.2 → f_c11_here N 144 (mk L (ms Y (nI p) (-1))) = some z) ∧ ¬ z = 46 ∧ ¬ z = 44 := by
    by_cases y : p < min x.1 60
    · have hb3 := hb p (by omega)
      exact ⟨_, fun Y hY => M_here_t hY y, fun e => hn ⟨y, Or.inl ⟨rfl, Or.inl ((nI_eq (b := 46) (by omega) (by omega)).mp e)⟩⟩, fun e => hn ⟨y, Or.inl ⟨rfl, Or.inr ((nI_eq (b := 44) (by omega) (by omega)).mp e)⟩⟩⟩
    · exact ⟨_, fun Y hY => M_here_f hY (by omega) (by omega), by decide, by decide⟩
  obtain ⟨z, ez, z1, z2⟩ := e2
  have r3 : RC (stI X 160 (4 * m + 3) 0) 148 x.1 60 x.2 := hR.s160
  refine ⟨stI X 160 (4 * m + 3) 0, nI (p + 1), ?_, fm160⟩
  unfold rdM
  rw [zr144_29, Option.bind_some, ez _ hR, Option.bind_some, if_neg z1, k3, nI_add, zp160 (by omega), Option.bind_some, ms_st (by omega), M_fine_t, Option.bind_some, i10, ez _ r3, Option.bind_some, if_neg z1, Option.bind_some, if_neg z2, zi144_14, Option.bind_some, ms_p, M_fault_t, Option.bind_some, Option.bind_some, zi144_14, Option.bind_some, ms_p, nI_1, zs144_14, Option.bind_some, ms_14]
theorem rdM_t {m p : Nat} (hR : RC X 148 x.1 60 x.2) (hm : m < 80) (hp : p < 900) (hb : ∀ j, j < x.1 → x.2 j < 256) (hn : ySt x p 46) : rdM N (nI (4 * m)) (mk L (ms X (nI p) (-1))) = some (mk L (ms (stI X 160 (4 * m + 3) (nI (if x.2 p = 46 then 1 else 0))) (nI (p + 1)) (-1))) := by
  have m1 := hn.1
  have hb3 := hb p (by omega)
  have hk : x.2 p = 46 ∨ x.2 p = 44 := by
    rcases hn.2 with ⟨-, y⟩ | ⟨y, -⟩
    · exact y
    · exact absurd rfl y
  have ez : ∀ (Y : gS), RC Y 148 x.1 60 x.2 → f_c11_here N 144 (mk L (ms Y (nI p) (-1))) = some (nI (x.2 p)) := fun Y hY => M_here_t hY m1
  have eM : (if nI (x.2 p) = 46 then (1 : Int32) else 0) = nI (if x.2 p = 46 then 1 else 0) := by
    by_cases y : x.2 p = 46
    · rw [if_pos y, if_pos (show nI (x.2 p) = 46 by rw [y]; rfl)]; rfl
    · rw [if_neg y, if_neg (show ¬ nI (x.2 p) = 46 from fun e => y ((nI_eq (b := 46) (by omega) (by omega)).mp e))]; rfl
  unfold rdM
  rw [zr144_29, Option.bind_some, ez _ hR, Option.bind_some, eM, k3, nI_add, zp160 (by omega), Option.bind_some, ms_st (by omega), M_fine_t, Option.bind_some, i10, ez _ hR.s160, Option.bind_some]
  rcases hk with y | y
  · rw [if_pos (show nI (x.2 p) = 46 by rw [y]; rfl), Option.bind_some, zi144_14, Option.bind_some, ms_p, nI_1, zs144_14, Option.bind_some, ms_14]
  · rw [if_neg (show ¬ nI (x.2 p) = 46 by rw [y]; decide), Option.bind_some, if_pos (show nI (x.2 p) = 44 by rw [y]; rfl), Option.bind_some, zi144_14, Option.bind_some, ms_p, nI_1, zs144_14, Option.bind_some, ms_14]
theorem rdW_f {m a q : Nat} (hR : RC X 148 x.1 60 x.2) (hm : m < 80) (ha : a < 900) (hq : q < 900) : rBad L X q (rdW N (nI (4 * m)) (mk L (ms X (nI a) (nI q)))) := by
  unfold rdW
  rw [zr144_29, Option.bind_some, M_oneOf_f (by omega), Option.bind_some, k2, nI_add, zp160 (by omega), Option.bind_some, ms_st (by omega)]
  exact (rdM_f hR.s160 hm ha hq).st
theorem rdW_n {m p : Nat} (hR : RC X 148 x.1 60 x.2) (hm : m < 80) (hp : p < 900) (hn : ¬ ySt x p 49) : rBad L X p (rdW N (nI (4 * m)) (mk L (ms X (nI p) (-1)))) := by
  have e : f_c11_oneOf N 144 49 9 (mk L (ms X (nI p) (-1))) = some (0, mk L (ms X (nI p) (nI p))) := (M_dg (f := 49) hR (by omega) hp).2 hn
  unfold rdW
  rw [zr144_29, Option.bind_some, e, Option.bind_some, k2, nI_add, zp160 (by omega), Option.bind_some, ms_st (by omega)]
  exact (rdM_f hR.s160 hm hp hp).st
theorem rdW_t {m p : Nat} (hR : RC X 148 x.1 60 x.2) (hm : m < 80) (hp : p < 900) (hn : ySt x p 49) : rdW N (nI (4 * m)) (mk L (ms X (nI p) (-1))) = rdM N (nI (4 * m)) (mk L (ms (stI X 160 (4 * m + 2) (nI (x.2 p - 48))) (nI (p + 1)) (-1))) := by
  have e : f_c11_oneOf N 144 49 9 (mk L (ms X (nI p) (-1))) = some (nI (x.2 p - 49), mk L (ms X (nI (p + 1)) (-1))) := (M_dg (f := 49) hR (by omega) hp).1 hn
  have h49 : 49 ≤ x.2 p := by
    rcases hn.2 with ⟨y, -⟩ | ⟨-, y, -⟩
    · omega
    · exact y
  unfold rdW
  rw [zr144_29, Option.bind_some, e, Option.bind_some, nI_1, k2, nI_add, zp160 (by omega), Option.bind_some, ms_st (by omega), show x.2 p - 49 + 1 = x.2 p - 48 by omega]
theorem rdF_ex {m : Nat} {c a b y w : Int32} (hm : m < 80) : ∃ r, rdF N (nI (4 * m)) c a b (mk L (ms X y w)) = some r := by
  unfold rdF
  rw [zi144_2, Option.bind_some, Option.bind_some, zr144_29, Option.bind_some, nI_1, zg160 (by omega), Option.bind_some]
  split
  · exact ⟨_, rfl⟩
  · split
    · exact ⟨_, rfl⟩
    · exact ⟨_, rfl⟩
theorem rdF_t {m r c : Nat} {y w : Int32} (mg : MG X g) (wg : WG g) (hm : m < 80) (hr : r < 10) (hc : c < 10) (h1 : X.1 160 (4 * m + 1) = nI r) : rdF N (nI (4 * m)) (nI c) (nI r) (nI (gRw g)) (mk L (ms X y w)) = some (if r < gRw g ∧ c < gCo g then nI (gCo g * r + c) else -1) := by
  have g1 := wg.2.1
  have g2 := wg.2.2.2.1
  have ec : (ms X y w).1 144 2 = nI (gCo g) := (ms_o (by omega)).trans mg.2.1
  have e1 : (ms X y w).1 160 (4 * m + 1) = nI r := (ms_o (by omega)).trans h1
  unfold rdF
  rw [zi144_2, Option.bind_some, Option.bind_some, zr144_29, Option.bind_some, nI_1, zg160 (by omega), Option.bind_some, ec, e1]
  by_cases z1 : r < gRw g
  · rw [ile_f z1 (by omega)]
    by_cases z2 : c < gCo g
    · rw [ile_f z2 (by omega), if_pos ⟨z1, z2⟩, nI_mul, nI_add]
    · rw [ile_t (by omega) (by omega), if_neg (fun z => z2 z.2)]
  · rw [ile_t (by omega) (by omega), if_neg (fun z => z1 z.1)]
theorem rdS_f {m a q : Nat} (hR : RC X 148 x.1 60 x.2) (hm : m < 80) (ha : a < 900) (hq : q < 900) : rBad L X q (rdS N (nI (4 * m)) (mk L (ms X (nI a) (nI q)))) := by
  obtain ⟨r, er⟩ := rdF_ex (L := L) (N := N) (X := X) (m := m) (c := 0) (a := (ms X (nI a) (nI q)).1 160 (4 * m + 1)) (b := (ms X (nI a) (nI q)).1 144 1) (y := nI a) (w := nI q) hm
  unfold rdS
  rw [M_oneOf_f (by omega), Option.bind_some]
  dsimp only
  rw [zr144_29, Option.bind_some, Option.bind_some, nI_1, zg160 (by omega), Option.bind_some, zi144_1, Option.bind_some, er, Option.bind_some, zp160 (by omega), Option.bind_some, ms_st (by omega)]
  exact (rdW_f hR.s160 hm ha hq).st
theorem rdS_n {m p : Nat} (hR : RC X 148 x.1 60 x.2) (hm : m < 80) (hp : p < 900) (hn : ¬ ySt x p 48) : rBad L X p (rdS N (nI (4 * m)) (mk L (ms X (nI p) (-1)))) := by
  have e : f_c11_oneOf N 144 48 10 (mk L (ms X (nI p) (-1))) = some (0, mk L (ms X (nI p) (nI p))) := (M_dg (f := 48) hR (by omega) hp).2 hn
  obtain ⟨r, er⟩ := rdF_ex (L := L) (N := N) (X := X) (m := m) (c := 0) (a := (ms X (nI p) (nI p)).1 160 (4 * m + 1)) (b := (ms X (nI p) (nI p)).1 144 1) (y := nI p) (w := nI p) hm
  unfold rdS
  rw [e, Option.bind_some]
  dsimp only
  rw [zr144_29, Option.bind_some, Option.bind_some, nI_1, zg160 (by omega), Option.bind_some, zi144_1, Option.bind_some, er, Option.bind_some, zp160 (by omega), Option.bind_some, ms_st (by omega)]
  exact (rdW_f hR.s160 hm hp hp).st
theorem ySt48 {p : Nat} (h : ySt x p 48) : p < min x.1 60 ∧ 48 ≤ x.2 p ∧ x.2 p - 48 < 10 := by
  rcases h.2 with ⟨y, -⟩ | ⟨-, y, z⟩
  · omega
  · exact ⟨h.1, y, by omega⟩
def yF (g : pG) (r c : Nat) : Int32 := if r < gRw g ∧ c < gCo g then nI (gCo g * r + c) else -1
theorem rdS_t {m p r : Nat} (hR : RC X 148 x.1 60 x.2) (mg : MG X g) (wg : WG g) (hm : m < 80) (hp : p < 900) (hr : r < 10) (h1 : X.1 160 (4 * m + 1) = nI r) (hn : ySt x p 48) : rdS N (nI (4 * m)) (mk L (ms X (nI p) (-1))) = rdW N (nI (4 * m)) (mk L (ms (stI X 160 (4 * m + 1) (yF g r (x.2 p - 48))) (nI (p + 1)) (-1))) := by
  have e : f_c11_oneOf N 144 48 10 (mk L (ms X (nI p) (-1))) = some (nI (x.2 p - 48), mk L (ms X (nI (p + 1)) (-1))) := (M_dg (f := 48) hR (by omega) hp).1 hn
  have eF := rdF_t (L := L) (N := N) (y := nI (p + 1)) (w := -1) mg wg hm hr (ySt48 hn).2.2 h1
  have er : (ms X (nI (p + 1)) (-1)).1 144 1 = nI (gRw g) := (ms_o (by omega)).trans mg.1
  have e1 : (ms X (nI (p + 1)) (-1)).1 160 (4 * m + 1) = nI r := (ms_o (by omega)).trans h1
  unfold rdS
  rw [e, Option.bind_some]
  dsimp only
  rw [zr144_29, Option.bind_some, Option.bind_some, nI_1, zg160 (by omega), Option.bind_some, zi144_1, Option.bind_some, er, e1, eF, Option.bind_some, zp160 (by omega), Option.bind_some, ms_st (by omega)]
  rfl
theorem rdD_f {m a q : Nat} (hm : m < 80) (hq : q < 900) : rBad L X q (rdD N (nI (4 * m)) (mk L (ms X (nI a) (nI q)))) := by
  refine ⟨stI X 160 (4 * m + 2) (0 + 1), nI a, ?_, fm160⟩
  unfold rdD
  rw [zr144_29, Option.bind_some, M_oneOf_f (by omega), Option.bind_some, k2, nI_add, zp160 (by omega), Option.bind_some, ms_st (by omega)]
theorem rdD_n {m p : Nat} (hR : RC X 148 x.1 60 x.2) (hm : m < 80) (hp : p < 900) (hn : ¬ ySt x p 49) : rBad L X p (rdD N (nI (4 * m)) (mk L (ms X (nI p) (-1)))) := by
  have e : f_c11_oneOf N 144 49 9 (mk L (ms X (nI p) (-1))) = some (0, mk L (ms X (nI p) (nI p))) := (M_dg (f := 49) hR (by omega) hp).2 hn
  refine ⟨stI X 160 (4 * m + 2) (0 + 1), nI p, ?_, fm160⟩
  unfold rdD
  rw [zr144_29, Option.bind_some, e, Option.bind_some, k2, nI_add, zp160 (by omega), Option.bind_some, ms_st (by omega)]
theorem rdD_t {m p : Nat} (hR : RC X 148 x.1 60 x.2) (hm : m < 80) (hp : p < 900) (hn : ySt x p 49) : rdD N (nI (4 * m)) (mk L (ms X (nI p) (-1))) = some (mk L (ms (stI X 160 (4 * m + 2) (nI (x.2 p - 48))) (nI (p + 1)) (-1))) := by
  have e : f_c11_oneOf N 144 49 9 (mk L (ms X (nI p) (-1))) = some (nI (x.2 p - 49), mk L (ms X (nI (p + 1)) (-1))) := (M_dg (f := 49) hR (by omega) hp).1 hn
  have h49 : 49 ≤ x.2 p := by
    rcases hn.2 with ⟨y, -⟩ | ⟨-, y, -⟩
    · omega
    · exact y
  unfold rdD
  rw [zr144_29, Option.bind_some, e, Option.bind_some, nI_1, k2, nI_add, zp160 (by omega), Option.bind_some, ms_st (by omega), show x.2 p - 49 + 1 = x.2 p - 48 by omega]
theorem rdB_n {m p t : Nat} (hR : RC X 148 x.1 60 x.2) (hm : m < 80) (hp : p < 900) (ht : t < 256) (hn : ¬ ySt x p 48) : rBad L X p (rdB N (nI (4 * m)) (nI t) (mk L (ms X (nI p) (-1)))) := by
  have e : f_c11_oneOf N 144 48 10 (mk L (ms X (nI p) (-1))) = some (0, mk L (ms X (nI p) (nI p))) := (M_dg (f := 48) hR (by omega) hp).2 hn
  unfold rdB
  rw [zr144_29, Option.bind_some, e, Option.bind_some, nI_1, zp160 (by omega), Option.bind_some, ms_st (by omega)]
  by_cases z1 : t = 100
  · rw [if_pos (show nI t = 100 by rw [z1]; rfl)]
    obtain ⟨X', a', e1, f1⟩ := rdD_f (L := L) (N := N) (X := stI X 160 (4 * m + 1) 0) (a := p) (q := p) hm hp
    rw [e1, Option.bind_some, if_neg (show ¬ nI t = 115 by rw [z1]; decide)]
    exact ⟨X', a', rfl, fm160.tr f1⟩
  · rw [if_neg (show ¬ nI t = 100 from fun y => z1 ((nI_eq (b := 100) (by omega) (by omega)).mp y)), Option.bind_some]
    by_cases z2 : t = 115
    · rw [if_pos (show nI t = 115 by rw [z2]; rfl)]
      exact (rdS_f hR.s160 hm hp hp).st
    · rw [if_neg (show ¬ nI t = 115 from fun y => z2 ((nI_eq (b := 115) (by omega) (by omega)).mp y))]
      exact ⟨_, _, rfl, fm160⟩
theorem rdB_t {m p t : Nat} (hR : RC X 148 x.1 60 x.2) (hm : m < 80) (hp : p < 900) (ht : t < 256) (hn : ySt x p 48) : rdB N (nI (4 * m)) (nI t) (mk L (ms X (nI p) (-1))) = (if t = 100 then rdD N (nI (4 * m)) (mk L (ms (stI X 160 (4 * m + 1) (nI (x.2 p - 48))) (nI (p + 1)) (-1))) else if t = 115 then rdS N (nI (4 * m)) (mk L (ms (stI X 160 (4 * m + 1) (nI (x.2 p - 48))) (nI (p + 1)) (-1))) else some (mk L (ms (stI X 160 (4 * m + 1) (nI (x.2 p - 48))) (nI (p + 1)) (-1)))) := by
  have e : f_c11_oneOf N 144 48 10 (mk L (ms X (nI p) (-1))) = some (nI (x.2 p - 48), mk L (ms X (nI (p + 1)) (-1))) := (M_dg (f := 48) hR (by omega) hp).1 hn
  unfold rdB
  rw [zr144_29, Option.bind_some, e, Option.bind_some, nI_1, zp160 (by omega), Option.bind_some, ms_st (by omega)]
  by_cases z1 : t = 100
  · have hE : ∀ o : Option gH, (o.bind fun t16 => if nI t = 115 then rdS N (nI (4 * m)) t16 else some t16) = o := by
      intro o
      cases o with
      | none => rfl
      | some h => rw [Option.bind_some, if_neg (show ¬ nI t = 115 by rw [z1]; decide)]
    rw [if_pos (show nI t = 100 by rw [z1]; rfl), if_pos z1]
    exact hE _
  · rw [if_neg (show ¬ nI t = 100 from fun y => z1 ((nI_eq (b := 100) (by omega) (by omega)).mp y)), Option.bind_some, if_neg z1]
    by_cases z2 : t = 115
    · rw [if_pos (show nI t = 115 by rw [z2]; rfl), if_pos z2]
    · rw [if_neg (show ¬ nI t = 115 from fun y => z2 ((nI_eq (b := 115) (by omega) (by omega)).mp y)), if_neg z2]
/-- the cells of an act that was read -/
def acC (g : pG) (x : pX) (X : gS) (m p : Nat) : Prop := X.1 160 (4 * m) = nI (x.2 p) ∧ (x.2 p ≠ 115 → X.1 160 (4 * m + 1) = nI (x.2 (p + 1) - 48)) ∧ (x.2 p = 100 → X.1 160 (4 * m + 2) = nI (x.2 (p + 2) - 48)) ∧ (x.2 p = 115 → X.1 160 (4 * m + 1) = yF g (x.2 (p + 1) - 48) (x.2 (p + 2) - 48) ∧ X.1 160 (4 * m + 2) = nI (x.2 (p + 3) - 48) ∧ X.1 160 (4 * m + 3) = nI (if x.2 (p + 4) = 46 then 1 else 0))
theorem M_raH {m p : Nat} (hR : RC X 148 x.1 60 x.2) (hm : m < 80) (hp : p < min x.1 60) (hb : x.2 p < 256) (hk : 0 < yK (x.2 p)) : f_c11_readAct N 144 (nI (4 * m)) (mk L (ms X (nI p) (-1))) = rdB N (nI (4 * m)) (nI (x.2 p)) (mk L (ms (stI X 160 (4 * m) (nI (x.2 p))) (nI (p + 1)) (-1))) := by
  have ez : f_c11_here N 144 (mk L (ms X (nI p) (-1))) = some (nI (x.2 p)) := M_here_t hR hp
  have ne : ∀ c : Nat, c < 256 → x.2 p ≠ c → ¬ nI (x.2 p) = nI c := fun c hc h z => h ((nI_eq (by omega) (by omega)).mp z)
  have hin : ∀ {α : Type} (A B : α), (if nI (x.2 p) = (110 : Int32) then A else if nI (x.2 p) = (115 : Int32) then A else if nI (x.2 p) = (97 : Int32) then A else if nI (x.2 p) = (99 : Int32) then A else if nI (x.2 p) = (100 : Int32) then A else if nI (x.2 p) = (114 : Int32) then A else B) = A := by
    intro α A B
    by_cases z1 : x.2 p = 110
    · rw [if_pos (show nI (x.2 p) = 110 by rw [z1]; rfl)]
    rw [if_neg (show ¬ nI (x.2 p) = 110 from ne 110 (by omega) z1)]
    by_cases z2 : x.2 p = 115
    · rw [if_pos (show nI (x.2 p) = 115 by rw [z2]; rfl)]
    rw [if_neg (show ¬ nI (x.2 p) = 115 from ne 115 (by omega) z2)]
    by_cases z3 : x.2 p = 97
    · rw [if_pos (show nI (x.2 p) = 97 by rw [z3]; rfl)]
    rw [if_neg (show ¬ nI (x.2 p) = 97 from ne 97 (by omega) z3)]
    by_cases z4 : x.2 p = 99
    · rw [if_pos (show nI (x.2 p) = 99 by rw [z4]; rfl)]
    rw [if_neg (show ¬ nI (x.2 p) = 99 from ne 99 (by omega) z4)]
    by_cases z5 : x.2 p = 100
    · rw [if_pos (show nI (x.2 p) = 100 by rw [z5]; rfl)]
    rw [if_neg (show ¬ nI (x.2 p) = 100 from ne 100 (by omega) z5)]
    by_cases z6 : x.2 p = 114
    · rw [if_pos (show nI (x.2 p) = 114 by rw [z6]; rfl)]
    exfalso
    unfold yK at hk
    rw [if_neg z2, if_neg z5, if_neg (by omega)] at hk
    omega
  rw [rd_head, zc144, Option.bind_some, ez, Option.bind_some, hin, Option.bind_some, Sum.elim_inr, zi144_14, Option.bind_some, ms_p, nI_1, zs144_14, Option.bind_some, ms_14, zr144_29, Option.bind_some, zp160 (by omega), Option.bind_some, ms_st (by omega)]
theorem M_raN {m p : Nat} (hR : RC X 148 x.1 60 x.2) (hp : p < 900) (hb : ∀ j, j < x.1 → x.2 j < 256) (hn : ¬ (p < min x.1 60 ∧ 0 < yK (x.2 p))) : f_c11_readAct N 144 (nI (4 * m)) (mk L (ms X (nI p) (-1))) = some (mk L (ms X (nI p) (nI p))) := by
  have ez : ∃ z, f_c11_here N 144 (mk L (ms X (nI p) (-1))) = some z ∧ ¬ z = 110 ∧ ¬ z = 115 ∧ ¬ z = 97 ∧ ¬ z = 99 ∧ ¬ z = 100 ∧ ¬ z = 114 := by
    by_cases y : p < min x.1 60
    · have hb3 := hb p (by omega)
      have ne : ∀ c : Nat, c < 256 → 0 < yK c → ¬ nI (x.2 p) = nI c := fun c hc h z => hn ⟨y, by rw [(nI_eq (by omega) (by omega)).mp z]; exact h⟩
      exact ⟨_, M_here_t hR y, ne 110 (by omega) (by decide), ne 115 (by omega) (by decide), ne 97 (by omega) (by decide), ne 99 (by omega) (by decide), ne 100 (by omega) (by decide), ne 114 (by omega) (by decide)⟩
    · exact ⟨_, M_here_f hR (by omega) (by omega), by decide, by decide, by decide, by decide, by decide, by decide⟩
  obtain ⟨z, ez, z1, z2, z3, z4, z5, z6⟩ := ez
  rw [rd_head, zc144, Option.bind_some, ez, Option.bind_some, if_neg z1, if_neg z2, if_neg z3, if_neg z4, if_neg z5, if_neg z6, zi144_14, Option.bind_some, ms_p, M_fault_t, Option.bind_some, Option.bind_some, Option.bind_some, Sum.elim_inl]
theorem yP_0 {t : Nat} : yP t 0 = 48 := by
  unfold yP
  by_cases z1 : t = 115
  · rw [if_pos z1, if_neg (by omega), if_neg (by omega)]
  · rw [if_neg z1]
    by_cases z2 : t = 100
    · rw [if_pos z2, if_neg (by omega)]
    · rw [if_neg z2]
theorem acC.keep {X X' : gS} {i d p : Nat} (h : acC g x X i p) (hi : i < d) (hk : ∀ j, j < 4 * d → X'.1 160 j = X.1 160 j) : acC g x X' i p := by
  obtain ⟨h1, h2, h3, h4⟩ := h
  exact ⟨(hk _ (by omega)).trans h1, fun z => (hk _ (by omega)).trans (h2 z), fun z => (hk _ (by omega)).trans (h3 z), fun z => ⟨(hk _ (by omega)).trans (h4 z).1, (hk _ (by omega)).trans (h4 z).2.1, (hk _ (by omega)).trans (h4 z).2.2⟩⟩
theorem MG.s160 {j : Nat} {y : Int32} (h : MG X g) : MG (stI X 160 j y) g := h.fm fm160 ⟨fun z => z, fun z => z, fun z => z⟩ ⟨by omega, by omega⟩
theorem M_ra {m p : Nat} (hR : RC X 148 x.1 60 x.2) (mg : MG X g) (wg : WG g) (hm : m < 80) (hp : p < x.1) (hp2 : p ≤ 60) (hb : ∀ j, j < x.1 → x.2 j < 256) :
    (acOk x p → ∃ X', f_c11_readAct N 144 (nI (4 * m)) (mk L (ms X (nI p) (-1))) = some (mk L (ms X' (nI (p + 1 + yK (x.2 p))) (-1))) ∧ FM (fun y => y = 160) (fun _ => False) X X' ∧ RC X' 148 x.1 60 x.2 ∧ acC g x X' m p ∧ ∀ j, j < 4 * m → X'.1 160 j = X.1 160 j) ∧
    ∀ q, acQ x p q → rBad L X q (f_c11_readAct N 144 (nI (4 * m)) (mk L (ms X (nI p) (-1)))) := by
  have hb0 := hb p hp
  constructor
  · intro ⟨p1, p2, p3⟩
    rw [M_raH hR hm p1 hb0 p2]
    have y0 : ySt x (p + 1) 48 := by
      have := p3 0 (by omega)
      rw [yP_0] at this
      exact this
    by_cases z1 : x.2 p = 115
    · have k4 : yK (x.2 p) = 4 := by rw [z1]; rfl
      have y1 : ySt x (p + 1 + 1) 48 := by
        have := p3 1 (by omega)
        rw [z1] at this
        exact this
      have y2 : ySt x (p + 1 + 1 + 1) 49 := by
        have := p3 2 (by omega)
        rw [z1] at this
        exact this
      have y3 : ySt x (p + 1 + 1 + 1 + 1) 46 := by
        have := p3 3 (by omega)
        rw [z1] at this
        exact this
      rw [rdB_t hR.s160 hm (by omega) hb0 y0, if_neg (by omega), if_pos z1, rdS_t hR.s160.s160 mg.s160.s160 wg hm (by omega) (ySt48 y0).2.2 rdI_eq y1, rdW_t hR.s160.s160.s160 hm (by omega) y2, rdM_t hR.s160.s160.s160.s160 hm (by omega) hb y3, k4]
      refine ⟨_, rfl, (((fm160.tr fm160).tr fm160).tr fm160).tr fm160, hR.s160.s160.s160.s160.s160, ⟨?_, fun z => absurd z1 z, fun z => by omega, fun _ => ⟨?_, ?_, ?_⟩⟩, fun j hj => ?_⟩
      · rw [rdI_ne (by omega), rdI_ne (by omega), rdI_ne (by omega), rdI_ne (by omega), rdI_eq]
      · rw [rdI_ne (by omega), rdI_ne (by omega), rdI_eq]
      · rw [rdI_ne (by omega), rdI_eq]
      · rw [rdI_eq]
      · rw [rdI_ne (by omega), rdI_ne (by omega), rdI_ne (by omega), rdI_ne (by omega), rdI_ne (by omega)]
    · by_cases z2 : x.2 p = 100
      · have k2' : yK (x.2 p) = 2 := by rw [z2]; rfl
        have y1 : ySt x (p + 1 + 1) 49 := by
          have := p3 1 (by omega)
          rw [z2] at this
          exact this
        rw [rdB_t hR.s160 hm (by omega) hb0 y0, if_pos z2, rdD_t hR.s160.s160 hm (by omega) y1, k2']
        refine ⟨_, rfl, (fm160.tr fm160).tr fm160, hR.s160.s160.s160, ⟨?_, fun _ => ?_, fun _ => ?_, fun z => absurd z z1⟩, fun j hj => ?_⟩
        · rw [rdI_ne (by omega), rdI_ne (by omega), rdI_eq]
        · rw [rdI_ne (by omega), rdI_eq]
        · rw [rdI_eq]
        · rw [rdI_ne (by omega), rdI_ne (by omega), rdI_ne (by omega)]
      · have k1 : yK (x.2 p) = 1 := by
          unfold yK at p2 ⊢
          rw [if_neg z1, if_neg z2] at p2 ⊢
          by_cases z3 : x.2 p = 97 ∨ x.2 p = 99 ∨ x.2 p = 110 ∨ x.2 p = 114
          · rw [if_pos z3]
          · rw [if_neg z3] at p2
            omega
        rw [rdB_t hR.s160 hm (by omega) hb0 y0, if_neg z2, if_neg z1, k1]
        refine ⟨_, rfl, fm160.tr fm160, hR.s160.s160, ⟨?_, fun _ => ?_, fun z => absurd z z2, fun z => absurd z z1⟩, fun j hj => ?_⟩
        · rw [rdI_ne (by omega), rdI_eq]
        · rw [rdI_eq]
        · rw [rdI_ne (by omega), rdI_ne (by omega)]
  · intro q hq
    rcases hq with ⟨y, rfl⟩ | ⟨⟨p1, p2⟩, j, j1, j2, j3, rfl⟩
    · rw [M_raN hR (by omega) hb y]
      exact ⟨_, _, rfl, FM.refl⟩
    · rw [M_raH hR hm p1 hb0 p2]
      refine rBad.st (j := 4 * m) (y := nI (x.2 p)) ?_
      rcases Nat.eq_zero_or_pos j with w0 | w0
      · rw [w0, yP_0] at j3
        rw [w0]
        exact rdB_n hR.s160 hm (by omega) hb0 j3
      · have y0 : ySt x (p + 1) 48 := by
          have := j2 0 w0
          rw [yP_0] at this
          exact this
        rw [rdB_t hR.s160 hm (by omega) hb0 y0]
        by_cases z1 : x.2 p = 115
        · have k4 : yK (x.2 p) = 4 := by rw [z1]; rfl
          rw [if_neg (by omega), if_pos z1]
          refine rBad.st (j := 4 * m + 1) (y := nI (x.2 (p + 1) - 48)) ?_
          rw [z1] at j2 j3
          by_cases w1 : j = 1
          · rw [w1] at j3 ⊢
            exact rdS_n hR.s160.s160 hm (by omega) j3
          · rw [rdS_t hR.s160.s160 mg.s160.s160 wg hm (by omega) (ySt48 y0).2.2 rdI_eq (show ySt x (p + 1 + 1) 48 from j2 1 (by omega))]
            refine rBad.st (j := 4 * m + 1) (y := yF g (x.2 (p + 1) - 48) (x.2 (p + 1 + 1) - 48)) ?_
            by_cases w2 : j = 2
            · rw [w2] at j3 ⊢
              exact rdW_n hR.s160.s160.s160 hm (by omega) j3
            · rw [rdW_t hR.s160.s160.s160 hm (by omega) (show ySt x (p + 1 + 1 + 1) 49 from j2 2 (by omega))]
              refine rBad.st (j := 4 * m + 2) (y := nI (x.2 (p + 1 + 1 + 1) - 48)) ?_
              have w3 : j = 3 := by omega
              rw [w3] at j3 ⊢
              exact rdM_n hR.s160.s160.s160.s160 hm (by omega) hb j3
        · by_cases z2 : x.2 p = 100
          · have k2' : yK (x.2 p) = 2 := by rw [z2]; rfl
            rw [if_pos z2]
            refine rBad.st (j := 4 * m + 1) (y := nI (x.2 (p + 1) - 48)) ?_
            have w1 : j = 1 := by omega
            rw [z2, w1] at j3
            rw [w1]
            exact rdD_n hR.s160.s160 hm (by omega) j3
          · exfalso
            unfold yK at j1
            rw [if_neg z1, if_neg z2] at j1
            by_cases z3 : x.2 p = 97 ∨ x.2 p = 99 ∨ x.2 p = 110 ∨ x.2 p = 114
            · rw [if_pos z3] at j1
              omega
            · rw [if_neg z3] at j1
              omega
theorem M_yWalk {m : Nat} (hR : RC X 148 x.1 60 x.2) (mg : MG X g) (wg : WG g) (hb : ∀ j, j < x.1 → x.2 j < 256) (hm : m ≤ 30) (h : ∀ i, i < m → acOk x (yA x i)) : ∀ d, d ≤ m → ∃ X', (∀ kk, lp_c11_year_13 N 144 (kk + d) 0 (mk L (ms X 0 (-1))) = lp_c11_year_13 N 144 kk (nI d) (mk L (ms X' (nI (yA x d)) (-1)))) ∧ FM (fun y => y = 160) (fun _ => False) X X' ∧ RC X' 148 x.1 60 x.2 ∧ ∀ i, i < d → acC g x X' i (yA x i) := by
  have hx80 : x.1 ≤ 80 := hR.2.2.2.1
  intro d
  induction d with
  | zero => exact fun _ => ⟨X, fun _ => rfl, FM.refl, hR, fun i hi => by omega⟩
  | succ d ih =>
    intro hd
    obtain ⟨X', e, f, r, c⟩ := ih (by omega)
    have hl := yA_le d (fun i hi => h i (by omega))
    have ho := h d (by omega)
    have ho1 := ho.1
    obtain ⟨X2, e2, f2, r2, c2, k2'⟩ := (M_ra (L := L) (N := N) (m := d) r (mg.fm f ⟨fun z => z, fun z => z, fun z => z⟩ ⟨by omega, by omega⟩) wg (by omega) (by omega) (by omega) hb).1 ho
    have e12 : ∀ a b : Int32, (ms X' a b).1 144 12 = nI x.1 := fun a b => (ms_o (by omega)).trans r.2.1
    refine ⟨X2, fun kk => ?_, f.tr f2, r2, fun i hi => ?_⟩
    · rw [show kk + (d + 1) = kk + 1 + d by omega, e, lp_c11_year_13.eq_2, M_fine_t, Option.bind_some, i10, zi144_14, Option.bind_some, ms_p, zi144_12, Option.bind_some, e12, ile_f (by omega) (by omega), k4, nI_mul, e2, Option.bind_some, nI_1]
      rfl
    · by_cases y : i = d
      · rw [y]
        exact c2
      · exact (c i (by omega)).keep (show i < d by omega) k2'
theorem M_yB {m q : Nat} (hR : RC X 148 x.1 60 x.2) (mg : MG X g) (wg : WG g) (hb : ∀ j, j < x.1 → x.2 j < 256) (hm : m ≤ 30) (hq1 : q < 100) (hq : yB x m q) (hN : 900 ≤ N) : ∃ X' y z, lp_c11_year_13 N 144 N 0 (mk L (ms X 0 (-1))) = some (z, mk L (ms X' y (nI q))) ∧ f_c11_wasRight N 144 (mk L (ms X' y (nI q))) = some (0, mk L (ms X' y (nI q))) ∧ FM (fun y => y = 160) (fun _ => False) X X' := by
  have hx80 : x.1 ≤ 80 := hR.2.2.2.1
  obtain ⟨h1, h2, h3⟩ := hq
  have hl := yA_le m h1
  obtain ⟨X', e, f, r, -⟩ := M_yWalk (L := L) (N := N) hR mg wg hb hm h1 m (Nat.le_refl _)
  obtain ⟨X2, a', e2, f2⟩ := (M_ra (L := L) (N := N) (m := m) r (mg.fm f ⟨fun z => z, fun z => z, fun z => z⟩ ⟨by omega, by omega⟩) wg (by omega) h2 (by omega) hb).2 q h3
  have e12 : ∀ a b : Int32, (ms X' a b).1 144 12 = nI x.1 := fun a b => (ms_o (by omega)).trans r.2.1
  refine ⟨X2, a', nI (m + 1), ?_, M_right_f (p := 0) ((f2.k (fun z => z)).trans r.2.1) hx80 (by omega), f.tr f2⟩
  have e3 := e (N - m - 2 + 1 + 1)
  rw [show N - m - 2 + 1 + 1 + m = N by omega] at e3
  rw [e3, lp_c11_year_13.eq_2, M_fine_t, Option.bind_some, i10, zi144_14, Option.bind_some, ms_p, zi144_12, Option.bind_some, e12, ile_f (by omega) (by omega), k4, nI_mul, e2, Option.bind_some, nI_1, lp_c11_year_13.eq_2, M_fine_f (by omega), Option.bind_some, i00]
theorem M_yG {m : Nat} (hR : RC X 148 x.1 60 x.2) (mg : MG X g) (wg : WG g) (hb : ∀ j, j < x.1 → x.2 j < 256) (hm : m ≤ 30) (hq : yG x m) (hN : 900 ≤ N) : ∃ X', lp_c11_year_13 N 144 N 0 (mk L (ms X 0 (-1))) = some (nI m, mk L (ms X' (nI x.1) (-1))) ∧ f_c11_wasRight N 144 (mk L (ms X' (nI x.1) (-1))) = some (1, mk L (ms X' (nI x.1) (-1))) ∧ FM (fun y => y = 160) (fun _ => False) X X' ∧ ∀ i, i < m → acC g x X' i (yA x i) := by
  have hx80 : x.1 ≤ 80 := hR.2.2.2.1
  obtain ⟨h1, h2⟩ := hq
  have hl := yA_le m h1
  obtain ⟨X', e, f, r, c⟩ := M_yWalk (L := L) (N := N) hR mg wg hb hm h1 m (Nat.le_refl _)
  have e12 : ∀ a b : Int32, (ms X' a b).1 144 12 = nI x.1 := fun a b => (ms_o (by omega)).trans r.2.1
  refine ⟨X', ?_, M_right_t r.2.1 hx80 (Nat.le_refl _) (by omega), f, c⟩
  have e3 := e (N - m - 1 + 1)
  rw [show N - m - 1 + 1 + m = N by omega] at e3
  rw [e3, h2, lp_c11_year_13.eq_2, M_fine_t, Option.bind_some, i10, zi144_14, Option.bind_some, ms_p, zi144_12, Option.bind_some, e12, ile_t (Nat.le_refl _) (by omega)]
end YEARM
