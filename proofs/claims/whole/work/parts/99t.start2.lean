/-! START: the making, both for one script and another -/
section START2
variable {C D : Nat × (Nat → Int32)} {h h' : gH} {N a0 : Nat}
theorem he_f_c0_init {p p' : Nat} (q : hiR C D h h') (e : p = p') : hiO (hiR C D) (f_c0_init N p h) (f_c0_init N p' h') := by
  subst e
  exact hi_f_c0_init q
theorem he_f_c1_init {p p' : Nat} (q : hiR C D h h') (e : p = p') : hiO (hiR C D) (f_c1_init N p h) (f_c1_init N p' h') := by
  subst e
  exact hi_f_c1_init q
theorem he_f_c2_init {p p' : Nat} (q : hiR C D h h') (e : p = p') : hiO (hiR C D) (f_c2_init N p h) (f_c2_init N p' h') := by
  subst e
  exact hi_f_c2_init q
theorem he_f_c3_init {p p' : Nat} (q : hiR C D h h') (e : p = p') : hiO (hiR C D) (f_c3_init N p h) (f_c3_init N p' h') := by
  subst e
  exact hi_f_c3_init q
theorem he_f_c4_init {p p' : Nat} (q : hiR C D h h') (e : p = p') : hiO (hiR C D) (f_c4_init N p h) (f_c4_init N p' h') := by
  subst e
  exact hi_f_c4_init q
theorem he_f_c6_init {p p' : Nat} (q : hiR C D h h') (e : p = p') : hiO (hiR C D) (f_c6_init N p h) (f_c6_init N p' h') := by
  subst e
  exact hi_f_c6_init q
theorem he_f_c7_init {p p' : Nat} (q : hiR C D h h') (e : p = p') : hiO (hiR C D) (f_c7_init N p h) (f_c7_init N p' h') := by
  subst e
  exact hi_f_c7_init q
theorem he_f_c8_init {p p' : Nat} (q : hiR C D h h') (e : p = p') : hiO (hiR C D) (f_c8_init N p h) (f_c8_init N p' h') := by
  subst e
  exact hi_f_c8_init q
theorem he_f_c9_init {p p' : Nat} (q : hiR C D h h') (e : p = p') : hiO (hiR C D) (f_c9_init N p h) (f_c9_init N p' h') := by
  subst e
  exact hi_f_c9_init q
set_option maxHeartbeats 4000000 in
set_option maxRecDepth 100000 in
theorem hi_f_c5_init (q : hiR C D h h') : hiO (hiR C D) (f_c5_init N a0 h) (f_c5_init N a0 h') := by
  unfold f_c5_init
  repeat' (first | (refine b_h (hr_sfr (by assumption) (hr_len (by assumption))) (fun _ _ _ => ?_)) | (refine b_h (hr_nO (by assumption)) (fun _ _ _ => ?_)) | (refine b_h (hr_nA (by assumption)) (fun _ _ _ => ?_)) | (refine b_h (hr_saR (by assumption) (hr_len (by assumption))) (fun _ _ _ => ?_)) | (refine b_v (hr_gfR (by assumption)) (fun _ => ?_)) | (refine b_h (hr_sf (by assumption)) (fun _ _ _ => ?_)) | (refine b_h (he_f_c7_init (by assumption) (hr_len (by assumption))) (fun _ _ _ => ?_)) | (exact hiO.some (by assumption)) | (dsimp only))
theorem he_f_c5_init {p p' : Nat} (q : hiR C D h h') (e : p = p') : hiO (hiR C D) (f_c5_init N p h) (f_c5_init N p' h') := by
  subst e
  exact hi_f_c5_init q
set_option maxHeartbeats 4000000 in
set_option maxRecDepth 100000 in
theorem hi_f_c10_init (q : hiR C D h h') : hiO (hiR C D) (f_c10_init N a0 h) (f_c10_init N a0 h') := by
  unfold f_c10_init
  repeat' (first | (refine b_h (hr_sfr (by assumption) (hr_len (by assumption))) (fun _ _ _ => ?_)) | (refine b_h (hr_nO (by assumption)) (fun _ _ _ => ?_)) | (refine b_h (hr_nA (by assumption)) (fun _ _ _ => ?_)) | (refine b_h (hr_saR (by assumption) (hr_len (by assumption))) (fun _ _ _ => ?_)) | (refine b_v (hr_gfR (by assumption)) (fun _ => ?_)) | (refine b_h (hr_sf (by assumption)) (fun _ _ _ => ?_)) | (refine b_h (he_f_c8_init (by assumption) (hr_len (by assumption))) (fun _ _ _ => ?_)) | (refine b_h (he_f_c4_init (by assumption) (hr_len (by assumption))) (fun _ _ _ => ?_)) | (refine b_h (he_f_c1_init (by assumption) (hr_len (by assumption))) (fun _ _ _ => ?_)) | (refine b_h (he_f_c7_init (by assumption) (hr_len (by assumption))) (fun _ _ _ => ?_)) | (refine b_h (he_f_c0_init (by assumption) (hr_len (by assumption))) (fun _ _ _ => ?_)) | (refine b_h (he_f_c5_init (by assumption) (hr_len (by assumption))) (fun _ _ _ => ?_)) | (refine b_h (he_f_c2_init (by assumption) (hr_len (by assumption))) (fun _ _ _ => ?_)) | (refine b_h (he_f_c9_init (by assumption) (hr_len (by assumption))) (fun _ _ _ => ?_)) | (refine b_h (he_f_c3_init (by assumption) (hr_len (by assumption))) (fun _ _ _ => ?_)) | (refine b_h (he_f_c6_init (by assumption) (hr_len (by assumption))) (fun _ _ _ => ?_)) | (refine b_v (hr_gn (by assumption)) (fun _ => ?_)) | (refine b_q (hi_f_c6_read (by assumption)) (fun _ _ _ _ => ?_)) | (exact hiO.some (by assumption)) | (dsimp only))
set_option maxHeartbeats 4000000 in
set_option maxRecDepth 100000 in
theorem hi_f_c11_init (q : hiR C D h h') : hiO (hiR C D) (f_c11_init N a0 h) (f_c11_init N a0 h') := by
  unfold f_c11_init
  repeat' (first | (refine b_h (hr_sfr (by assumption) (hr_len (by assumption))) (fun _ _ _ => ?_)) | (refine b_h (hr_nO (by assumption)) (fun _ _ _ => ?_)) | (refine b_h (hr_nA (by assumption)) (fun _ _ _ => ?_)) | (refine b_h (hr_saR (by assumption) (hr_len (by assumption))) (fun _ _ _ => ?_)) | (refine b_v (hr_gfR (by assumption)) (fun _ => ?_)) | (refine b_h (hr_sf (by assumption)) (fun _ _ _ => ?_)) | (exact hiO.some (by assumption)) | (dsimp only))
/-- all that is made, from the head cell on -/
def stT : List gMC := [.inl (7, 5, .inl gNR), .inl (9, 0, .inl (fun _ => 0)), .inl (9, 0, .inl (fun _ => 0)), .inl (9, 0, .inl (fun _ => 0)), .inl (9, 0, .inl (fun _ => 0)), .inl (8, gTl 0, .inl (gTb 0)), .inl (8, gTl 1, .inl (gTb 1)), .inl (8, gTl 2, .inl (gTb 2)), .inl (8, gTl 3, .inl (gTb 3))]
def stH (h : gH) : Option gH :=
  (nO 10 [.null, .null, .null, .null, .null, .null, .null, .null, .null, .null, .null, .null, .null] h).bind fun h1 =>
  (f_c10_init gFuel 10 h1).bind fun h2 =>
  if h2.length = 144 then
  (nO 11 [.null, .int 0, .int 0, .int 0, .null, .null, .null, .int 0, .null, .int 0, .int 0, .null, .int 0, .int 0, .int 0, .int 0, .null, .null, .null, .int 0, .int 0, .null, .null, .int 0, .null, .null, .null, .null, .null, .null, .null, .null, .null, .null, .int 0, .null, .null, .int 0, .int 0, .null, .null, .null] h2).bind fun h3 =>
  (f_c11_init gFuel 144 h3).bind fun h4 =>
  nA 4 1 h4
  else none
theorem hi_stH (q : hiR C D h h') : hiO (hiR C D) (stH h) (stH h') := by
  unfold stH
  refine b_h (hr_nO (by assumption)) (fun _ _ _ => ?_)
  refine b_h (hi_f_c10_init (by assumption)) (fun y y' hy => ?_)
  rw [hr_len hy]
  refine hiO.ite ?_ (Or.inl ⟨rfl, rfl⟩)
  refine b_h (hr_nO (by assumption)) (fun _ _ _ => ?_)
  refine b_h (hi_f_c11_init (by assumption)) (fun _ _ _ => ?_)
  exact hr_nA (by assumption)
/-- what is read of the cells behind the head -/
def sI (tl : List gMC) (a k : Nat) : Int32 := match tl[a - 1]? with
  | some (.inl (_, _, .inl f)) => f k
  | some (.inr (_, fs)) => (match fs[k]? with
    | some (.int x) => x
    | _ => 0)
  | _ => 0
def sL (tl : List gMC) (a k : Nat) : Int64 := match tl[a - 1]? with
  | some (.inl (_, _, .inr (.inl f))) => f k
  | _ => 0
def sP (tl : List gMC) (a k : Nat) : Option Nat := match tl[a - 1]? with
  | some (.inl (_, _, .inr (.inr (.inr (.inr f))))) => f k
  | some (.inr (_, fs)) => (match fs[k]? with
    | some (.ref x) => some x
    | _ => none)
  | _ => none
def okV : Nat → Value → Bool
  | 0, .int _ => true
  | 1, .null => true
  | 1, .ref _ => true
  | b + 2, .ref b' => b == b'
  | _, _ => false
def okL {α β : Type} (p : α → β → Bool) : List α → List β → Bool
  | [], [] => true
  | a :: l, b :: m => p a b && okL p l m
  | _, _ => false
def okC : gK → gMC → Bool
  | .inr (t, n), .inl (t', n', .inl _) => t == t' && (n == n' && (t != 4 && t != 5))
  | .inr (t, n), .inl (t', n', .inr (.inl _)) => t == t' && (n == n' && t == 4)
  | .inr (t, n), .inl (t', n', .inr (.inr (.inr (.inr _)))) => t == t' && (n == n' && t == 5)
  | .inl (c, ks), .inr (c', fs) => c == c' && okL okV ks fs
  | _, _ => false
theorem okL_at {α β : Type} {p : α → β → Bool} : ∀ (l : List α) (m : List β), okL p l m = true → ∀ k : Nat, (l[k]? = none ∧ m[k]? = none) ∨ ∃ a b, l[k]? = some a ∧ m[k]? = some b ∧ p a b = true := by
  intro l
  induction l with
  | nil =>
    intro m hm k
    cases m with
    | nil => exact Or.inl ⟨rfl, rfl⟩
    | cons b m => cases hm
  | cons a l ih =>
    intro m hm k
    cases m with
    | nil => cases hm
    | cons b m =>
      have hm : (p a b && okL p l m) = true := hm
      rw [Bool.and_eq_true] at hm
      cases k with
      | zero => exact Or.inr ⟨a, b, rfl, rfl, hm.1⟩
      | succ k => exact ih m hm.2 k
def stS (xs : Nat → Int32) (tl : List gMC) : gS := (fun a k => if a = 0 then xs k else sI tl a k, sL tl, sP tl)
theorem okV_mk {xs : Nat → Int32} {tl : List gMC} {a k c q : Nat} {fs : List Value} {v : Value} (h1 : tl[a]? = some (.inr (c, fs))) (h2 : fs[k]? = some v) (ho : okV q v = true) : mkF (stS xs tl) (a + 1) k q = v := by
  match q, v, ho with
  | 0, .int y, _ =>
    show Value.int (if a + 1 = 0 then xs k else sI tl (a + 1) k) = _
    rw [if_neg (by omega)]
    unfold sI
    rw [Nat.add_sub_cancel, h1]
    dsimp only
    rw [h2]
  | 1, .null, _ =>
    show va_rf (sP tl (a + 1) k) = _
    unfold sP
    rw [Nat.add_sub_cancel, h1]
    dsimp only
    rw [h2]
    rfl
  | 1, .ref y, _ =>
    show va_rf (sP tl (a + 1) k) = _
    unfold sP
    rw [Nat.add_sub_cancel, h1]
    dsimp only
    rw [h2]
    rfl
  | b + 2, .ref y, ho =>
    have : b = y := eq_of_beq ho
    rw [← this]
    rfl
theorem okC_mk {xs : Nat → Int32} {tl : List gMC} {a : Nat} {K : gK} {y : gMC} (h1 : tl[a]? = some y) (ho : okC K y = true) : mkC (stS xs tl) (a + 1) K = y := by
  have e1 : (stS xs tl).1 (a + 1) = sI tl (a + 1) := by
    funext k
    show (if a + 1 = 0 then xs k else sI tl (a + 1) k) = _
    rw [if_neg (by omega)]
  match K, y, h1, ho with
  | .inr (t, n), .inl (t', n', .inl f), h1, ho =>
    have ho : (t == t' && (n == n' && (t != 4 && t != 5))) = true := ho
    simp only [Bool.and_eq_true, bne_iff_ne, beq_iff_eq] at ho
    obtain ⟨rfl, rfl, h4, h5⟩ := ho
    show (Sum.inl (t, n, if t = 4 then Sum.inr (.inl (sL tl (a + 1))) else if t = 5 then Sum.inr (.inr (.inr (.inr (sP tl (a + 1))))) else Sum.inl ((stS xs tl).1 (a + 1))) : gMC) = _
    rw [if_neg h4, if_neg h5, e1]
    have : sI tl (a + 1) = f := by
      funext k
      unfold sI
      rw [Nat.add_sub_cancel, h1]
    rw [this]
  | .inr (t, n), .inl (t', n', .inr (.inl f)), h1, ho =>
    have ho : (t == t' && (n == n' && t == 4)) = true := ho
    simp only [Bool.and_eq_true, beq_iff_eq] at ho
    obtain ⟨rfl, rfl, h4⟩ := ho
    show (Sum.inl (t, n, if t = 4 then Sum.inr (.inl (sL tl (a + 1))) else if t = 5 then Sum.inr (.inr (.inr (.inr (sP tl (a + 1))))) else Sum.inl ((stS xs tl).1 (a + 1))) : gMC) = _
    rw [if_pos h4]
    have : sL tl (a + 1) = f := by
      funext k
      unfold sL
      rw [Nat.add_sub_cancel, h1]
    rw [this]
  | .inr (t, n), .inl (t', n', .inr (.inr (.inr (.inr f)))), h1, ho =>
    have ho : (t == t' && (n == n' && t == 5)) = true := ho
    simp only [Bool.and_eq_true, beq_iff_eq] at ho
    obtain ⟨rfl, rfl, h4⟩ := ho
    show (Sum.inl (t, n, if t = 4 then Sum.inr (.inl (sL tl (a + 1))) else if t = 5 then Sum.inr (.inr (.inr (.inr (sP tl (a + 1))))) else Sum.inl ((stS xs tl).1 (a + 1))) : gMC) = _
    rw [if_neg (by omega), if_pos h4]
    have : sP tl (a + 1) = f := by
      funext k
      unfold sP
      rw [Nat.add_sub_cancel, h1]
    rw [this]
  | .inl (c, ks), .inr (c', fs), h1, ho =>
    have ho2 : (c == c' && okL okV ks fs) = true := ho
    rw [Bool.and_eq_true, beq_iff_eq] at ho2
    obtain ⟨ho4, ho3⟩ := ho2
    subst ho4
    show (Sum.inr (c, ks.mapIdx (fun k q => mkF (stS xs tl) (a + 1) k q)) : gMC) = _
    have : ks.mapIdx (fun k q => mkF (stS xs tl) (a + 1) k q) = fs := by
      apply List.ext_getElem?
      intro k
      rw [List.getElem?_mapIdx]
      rcases okL_at ks fs ho3 k with ⟨z1, z2⟩ | ⟨q, v, z1, z2, z3⟩
      · rw [z1, z2]
        rfl
      · rw [z1, z2]
        show some (mkF (stS xs tl) (a + 1) k q) = some v
        rw [okV_mk h1 z2 z3]
    rw [this]
theorem okT_mk {L : Nat} {xs : Nat → Int32} {tl : List gMC} (ho : okL okC LAYT tl = true) : mk L (stS xs tl) = .inl (6, L, .inl xs) :: tl := by
  apply List.ext_getElem?
  intro i
  unfold mk
  rw [List.getElem?_mapIdx]
  cases i with
  | zero => rfl
  | succ i =>
    unfold LAY
    rw [List.getElem?_cons_succ, List.getElem?_cons_succ]
    rcases okL_at LAYT tl ho i with ⟨z1, z2⟩ | ⟨K, y, z1, z2, z3⟩
    · rw [z1, z2]
      rfl
    · rw [z1, z2]
      show some (mkC (stS xs tl) (i + 1) K) = some y
      rw [okC_mk z2 z3]
end START2
