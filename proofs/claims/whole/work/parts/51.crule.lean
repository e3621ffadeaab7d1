/-! A RULE of the class read: sign by sign as the automaton goes -/
def Stk (f : Nat → Int32) : List Int32 → Prop
  | [] => True
  | x :: O => f O.length = x ∧ Stk f O
theorem Stk.congr {f f' : Nat → Int32} : ∀ {O : List Int32}, (∀ j, j < O.length → f' j = f j) → Stk f O → Stk f' O := by
  intro O
  induction O with
  | nil => intro _ _; trivial
  | cons x O ih =>
    intro h q
    exact ⟨(h _ (by rw [List.length_cons]; omega)).trans q.1, ih (fun j hj => h j (by rw [List.length_cons]; omega)) q.2⟩
theorem Stk.suf {f : Nat → Int32} {O : List Int32} : ∀ {P : List Int32}, Stk f (P ++ O) → Stk f O := by
  intro P
  induction P with
  | nil => intro h; exact h
  | cons x P ih => intro h; exact ih h.2
def Cod (f : Nat → Int32) : Nat → List Int32 → Prop
  | _, [] => True
  | i, x :: O => f i = x ∧ Cod f (i + 1) O
theorem Cod.congr {f f' : Nat → Int32} : ∀ {O : List Int32} {i : Nat}, (∀ j, i ≤ j → j < i + O.length → f' j = f j) → Cod f i O → Cod f' i O := by
  intro O
  induction O with
  | nil => intro _ _ _; trivial
  | cons x O ih =>
    intro i h q
    exact ⟨(h _ (Nat.le_refl _) (by rw [List.length_cons]; omega)).trans q.1, ih (fun j h1 h2 => h j (by omega) (by rw [List.length_cons]; omega)) q.2⟩
theorem Stk.cod {f : Nat → Int32} : ∀ (cs O : List Int32), Stk f (cs.reverse ++ O) → Cod f O.length cs := by
  intro cs
  induction cs with
  | nil => intro _ _; trivial
  | cons x cs ih =>
    intro O h
    have h' : Stk f (cs.reverse ++ (x :: O)) := by
      rw [List.reverse_cons, List.append_assoc] at h
      exact h
    exact ⟨h'.suf.1, ih (x :: O) h'⟩
def RQ (S : gS) (a : Nat) (O : List Int32) (W : List Nat) : Prop := S.1 a 3 = nI O.length ∧ Stk (S.1 (a + 1)) O ∧ S.1 a 4 = nI W.length ∧ Stk (S.1 (a + 2)) (W.map nI) ∧ ∀ x, x ∈ W → x < 300
def FQ (a : Nat) (S S' : gS) : Prop := Fr (fun x => x = a ∨ x = a + 1 ∨ x = a + 2) S S' ∧ S'.1 a 5 = S.1 a 5 ∧ S'.1 a 6 = S.1 a 6 ∧ S'.1 a 7 = S.1 a 7 ∧ S'.1 a 8 = S.1 a 8
theorem FQ.refl {a : Nat} {S : gS} : FQ a S S := ⟨Fr.refl, rfl, rfl, rfl, rfl⟩
theorem FQ.trans {a : Nat} {S S' T : gS} (h : FQ a S S') (k : FQ a S' T) : FQ a S T :=
  ⟨h.1.trans k.1 (fun _ z => z) (fun _ z => z), k.2.1.trans h.2.1, k.2.2.1.trans h.2.2.1, k.2.2.2.1.trans h.2.2.2.1, k.2.2.2.2.trans h.2.2.2.2⟩
/-- which levels have a comparison -/
def cM (m : Nat → Bool) : Int32 := (if m 0 then 1 else 0) ||| (if m 1 then 2 else 0) ||| (if m 2 then 4 else 0) ||| (if m 3 then 8 else 0) ||| (if m 4 then 16 else 0)
theorem cM_get : ∀ b0 b1 b2 b3 b4 : Bool, ∀ n : Nat, n < 5 → ((((if b0 then (1 : Int32) else 0) ||| (if b1 then 2 else 0) ||| (if b2 then 4 else 0) ||| (if b3 then 8 else 0) ||| (if b4 then 16 else 0)) >>> (nI n &&& 31)) &&& 1 = 1) = ((if n = 0 then b0 else if n = 1 then b1 else if n = 2 then b2 else if n = 3 then b3 else b4) = true) := by decide +kernel
theorem cM_set : ∀ b0 b1 b2 b3 b4 : Bool, ∀ n : Nat, n < 5 → ((if b0 then (1 : Int32) else 0) ||| (if b1 then 2 else 0) ||| (if b2 then 4 else 0) ||| (if b3 then 8 else 0) ||| (if b4 then 16 else 0)) ||| ((1 : Int32) <<< (nI n &&& 31)) = ((if (if 0 = n then true else b0) then (1 : Int32) else 0) ||| (if (if 1 = n then true else b1) then 2 else 0) ||| (if (if 2 = n then true else b2) then 4 else 0) ||| (if (if 3 = n then true else b3) then 8 else 0) ||| (if (if 4 = n then true else b4) then 16 else 0)) := by decide +kernel
theorem cM_clr : ∀ b0 b1 b2 b3 b4 : Bool, ∀ n : Nat, n < 5 → ((if b0 then (1 : Int32) else 0) ||| (if b1 then 2 else 0) ||| (if b2 then 4 else 0) ||| (if b3 then 8 else 0) ||| (if b4 then 16 else 0)) &&& (((1 : Int32) <<< (nI n &&& 31)) ^^^ (-1)) = ((if (if 0 = n then false else b0) then (1 : Int32) else 0) ||| (if (if 1 = n then false else b1) then 2 else 0) ||| (if (if 2 = n then false else b2) then 4 else 0) ||| (if (if 3 = n then false else b3) then 8 else 0) ||| (if (if 4 = n then false else b4) then 16 else 0)) := by decide +kernel
theorem cM_g {m : Nat → Bool} {n : Nat} (h : n < 5) : ((cM m >>> (nI n &&& 31)) &&& 1 = 1) = (m n = true) := by
  have e := cM_get (m 0) (m 1) (m 2) (m 3) (m 4) n h
  have e2 : (if n = 0 then m 0 else if n = 1 then m 1 else if n = 2 then m 2 else if n = 3 then m 3 else m 4) = m n := by
    match n, h with
    | 0, _ => rfl
    | 1, _ => rfl
    | 2, _ => rfl
    | 3, _ => rfl
    | 4, _ => rfl
    | k + 5, h => omega
  rw [e2] at e
  exact e
theorem cM_s {m : Nat → Bool} {n : Nat} (h : n < 5) : cM m ||| ((1 : Int32) <<< (nI n &&& 31)) = cM (fun j => if j = n then true else m j) := cM_set (m 0) (m 1) (m 2) (m 3) (m 4) n h
theorem cM_c {m : Nat → Bool} {n : Nat} (h : n < 5) : cM m &&& (((1 : Int32) <<< (nI n &&& 31)) ^^^ (-1)) = cM (fun j => if j = n then false else m j) := cM_clr (m 0) (m 1) (m 2) (m 3) (m 4) n h
theorem cM_0 : cM (fun _ => false) = 0 := by decide
theorem cRank_4 (c : Nat) : cRank c ≤ 4 := by unfold cRank; (repeat' split) <;> omega
def RS (S : gS) (a : Nat) (s : cS) : Prop := RQ S a s.1 s.2.1 ∧ S.1 a 5 = nI s.2.2.1 ∧ s.2.2.1 ≤ 4 ∧ S.1 a 6 = cM s.2.2.2.1 ∧ S.1 a 7 = nI s.2.2.2.2.1 ∧ s.2.2.2.2.1 ≤ 3 ∧ S.1 a 8 = (if s.2.2.2.2.2 then 1 else 0)
def cSz (s : cS) : Nat := s.1.length + s.2.1.length
theorem cRel_len {k : Nat} : ∀ (W : List Nat) (O : List Int32), (cRel k W O).1.length + (cRel k W O).2.length = O.length + W.length ∧ (cRel k W O).2.length ≤ W.length := by
  intro W
  induction W with
  | nil => intro O; exact ⟨rfl, Nat.le_refl _⟩
  | cons c W ih =>
    intro O
    unfold cRel
    split
    · have := ih (cNeg c :: O)
      rw [List.length_cons] at this ⊢
      omega
    · exact ⟨rfl, Nat.le_refl _⟩
theorem f_rank_c : ∀ c : Nat, c < 300 → (if nI c = 42 then some (3 : Int32) else if nI c = 43 then some 2 else if nI c = 45 then some 2 else if nI c = 47 then some 3 else if nI c = 60 then some 1 else if nI c = 61 then some 1 else if nI c = 62 then some 1 else if nI c = 256 then some 4 else some 0) = some (nI (cRank c)) := by unfold cRank; decide +kernel
theorem f_isT_c : ∀ c : Nat, c < 256 → (if nI c = 97 then (gZ 1).bind fun w8 => some w8 else if nI c = 100 then (gZ 1).bind fun w8 => some w8 else if nI c = 108 then (gZ 1).bind fun w8 => some w8 else if nI c = 109 then (gZ 1).bind fun w8 => some w8 else if nI c = 110 then (gZ 1).bind fun w8 => some w8 else if nI c = 118 then (gZ 1).bind fun w8 => some w8 else if nI c = 119 then (gZ 1).bind fun w8 => some w8 else (gZ 0).bind fun w8 => some w8) = some (if cThing c = true then (1 : Int32) else 0) := by unfold cThing; decide +kernel
section CRULE
variable {L N a : Nat} {S : gS} {h : gH}
theorem C_rank {c : Nat} (hc : c < 300) : f_c6_rank N (nI c) h = some (nI (cRank c)) := f_rank_c c hc
theorem C_isThing {c : Nat} (hc : c < 256) : f_c6_isThing N (nI c) h = some (if cThing c = true then 1 else 0) := f_isT_c c hc
theorem C_emit {O : List Int32} {W : List Nat} {x : Int32} (ha : RA a) (q : RQ S a O W) (hO : O.length < 40) : ∃ S', f_c6_emit N a x (mk L S) = some (mk L S') ∧ RQ S' a (x :: O) W ∧ FQ a S S' := by
  obtain ⟨q1, q2, q3, q4, q5⟩ := q
  refine ⟨stI (stI S (a + 1) O.length x) a 3 (nI (O.length + 1)), ?_, ⟨?_, ⟨?_, ?_⟩, ?_, ?_, q5⟩, ⟨?_, ?_, ?_, ?_, ?_⟩⟩
  · simp (disch := omega) only [Option.bind_some, ↓ile_t, ↓ile_f, ↓ilt_t, ↓ilt_f, ↓ieq_t, ↓ieq_f, ↓iz_t, ↓iz_f, ↓iltz, ↓izle, ↓ilez_t, ↓ilez_f, ↓im1, ile_t, ile_f, ilt_t, ilt_f, ieq_t, ieq_f, iz_t, iz_f, iltz, izle, ilez_t, ilez_f, im1, gZ_0, gZ_1, e10, e00, ↓reduceIte, Sum.elim_inl, Sum.elim_inr, nI_1, nI_add, Int32.sub_zero, f_c6_emit, yc ha, yr0 ha, yr1 ha, yr2 ha, yi3 ha, ys3 ha, yi4 ha, ys4 ha, yi5 ha, ys5 ha, yi6 ha, ys6 ha, yi7 ha, ys7 ha, yi8 ha, ys8 ha, yn1 ha, yp1 ha, q1, rdI_ne]
  · exact rdI_eq
  · simp (disch := omega) only [rdI_ne, rdI_eq]
  · refine q2.congr (fun j hj => ?_)
    simp (disch := omega) only [rdI_ne]
  · simp (disch := omega) only [rdI_ne]; exact q3
  · refine q4.congr (fun j hj => ?_)
    simp (disch := omega) only [rdI_ne]
  · exact fun y hy => ⟨funext fun k => by simp (disch := omega) only [rdI_ne], rfl, rfl⟩
  all_goals simp (disch := omega) only [rdI_ne]
theorem C_hold {O : List Int32} {W : List Nat} {c : Nat} (ha : RA a) (q : RQ S a O W) (hW : W.length < 40) (hc : c < 300) : ∃ S', f_c6_hold N a (nI c) (mk L S) = some (mk L S') ∧ RQ S' a O (c :: W) ∧ FQ a S S' := by
  obtain ⟨q1, q2, q3, q4, q5⟩ := q
  refine ⟨stI (stI S (a + 2) W.length (nI c)) a 4 (nI (W.length + 1)), ?_, ⟨?_, ?_, ?_, ⟨?_, ?_⟩, ?_⟩, ⟨?_, ?_, ?_, ?_, ?_⟩⟩
  · simp (disch := omega) only [Option.bind_some, ↓ile_t, ↓ile_f, ↓ilt_t, ↓ilt_f, ↓ieq_t, ↓ieq_f, ↓iz_t, ↓iz_f, ↓iltz, ↓izle, ↓ilez_t, ↓ilez_f, ↓im1, ile_t, ile_f, ilt_t, ilt_f, ieq_t, ieq_f, iz_t, iz_f, iltz, izle, ilez_t, ilez_f, im1, gZ_0, gZ_1, e10, e00, ↓reduceIte, Sum.elim_inl, Sum.elim_inr, nI_1, nI_add, Int32.sub_zero, f_c6_hold, yc ha, yr0 ha, yr1 ha, yr2 ha, yi3 ha, ys3 ha, yi4 ha, ys4 ha, yi5 ha, ys5 ha, yi6 ha, ys6 ha, yi7 ha, ys7 ha, yi8 ha, ys8 ha, yn2 ha, yp2 ha, q3, rdI_ne]
  · simp (disch := omega) only [rdI_ne]; exact q1
  · refine q2.congr (fun j hj => ?_)
    simp (disch := omega) only [rdI_ne]
  · exact rdI_eq
  · rw [List.length_map]
    simp (disch := omega) only [rdI_ne, rdI_eq]
  · refine q4.congr (fun j hj => ?_)
    rw [List.length_map] at hj
    simp (disch := omega) only [rdI_ne]
  · intro x hx
    rcases List.mem_cons.mp hx with rfl | hx
    · exact hc
    · exact q5 x hx
  · exact fun y hy => ⟨funext fun k => by simp (disch := omega) only [rdI_ne], rfl, rfl⟩
  all_goals simp (disch := omega) only [rdI_ne]
theorem C_rel {r : Nat} (ha : RA a) : ∀ (W : List Nat) (O : List Int32) (S : gS) (k : Nat), RQ S a O W → O.length + W.length ≤ 40 → W.length < k → r < 100 → ∃ S', lp_c6_release_0 N a (nI r) k (mk L S) = some (mk L S') ∧ RQ S' a (cRel r W O).1 (cRel r W O).2 ∧ FQ a S S' := by
  intro W
  induction W with
  | nil =>
    intro O S k q hl hk hr
    obtain ⟨k, rfl⟩ : ∃ i, k = i + 1 := ⟨k - 1, by omega⟩
    have e4 : S.1 a 4 = 0 := q.2.2.1
    refine ⟨S, ?_, q, FQ.refl⟩
    rw [lp_c6_release_0.eq_2, yi4 ha, Option.bind_some, e4]
    rfl
  | cons c W ih =>
    intro O S k q hl hk hr
    obtain ⟨k, rfl⟩ : ∃ i, k = i + 1 := ⟨k - 1, by omega⟩
    rw [List.length_cons] at hl hk
    have e4 : S.1 a 4 = nI (W.length + 1) := q.2.2.1
    have e5 : S.1 (a + 2) W.length = nI c := by
      have := q.2.2.2.1.1
      rw [List.length_map] at this
      exact this
    have hc : c < 300 := q.2.2.2.2 c (List.mem_cons_self ..)
    have hc4 := cRank_4 c
    rw [lp_c6_release_0.eq_2]
    unfold cRel
    by_cases z : r ≤ cRank c
    · rw [if_pos z]
      have q2 : RQ (stI S a 4 (nI W.length)) a O W := by
        refine ⟨?_, ?_, rdI_eq, ?_, fun x hx => q.2.2.2.2 x (List.mem_cons_of_mem _ hx)⟩
        · simp (disch := omega) only [rdI_ne]; exact q.1
        · exact q.2.1.congr (fun j hj => by simp (disch := omega) only [rdI_ne])
        · exact q.2.2.2.1.2.congr (fun j hj => by simp (disch := omega) only [rdI_ne])
      have f2 : FQ a S (stI S a 4 (nI W.length)) := ⟨Fr.stI (Or.inl rfl), by simp (disch := omega) only [rdI_ne], by simp (disch := omega) only [rdI_ne], by simp (disch := omega) only [rdI_ne], by simp (disch := omega) only [rdI_ne]⟩
      obtain ⟨S2, g1, g2, g3⟩ := C_emit (L := L) (N := N) (x := -(nI c)) ha q2 (by omega)
      obtain ⟨S3, h1, h2, h3⟩ := ih (cNeg c :: O) S2 k g2 (by rw [List.length_cons]; omega) (by omega) hr
      refine ⟨S3, ?_, h2, (f2.trans g3).trans h3⟩
      simp (disch := omega) only [Option.bind_some, ↓ile_t, ↓ile_f, ↓ilt_t, ↓ilt_f, ↓ieq_t, ↓ieq_f, ↓iz_t, ↓iz_f, ↓iltz, ↓izle, ↓ilez_t, ↓ilez_f, ↓im1, ile_t, ile_f, ilt_t, ilt_f, ieq_t, ieq_f, iz_t, iz_f, iltz, izle, ilez_t, ilez_f, im1, gZ_0, gZ_1, e10, e00, ↓reduceIte, Sum.elim_inl, Sum.elim_inr, nI_1, nI_add, Int32.sub_zero, yc ha, yr0 ha, yr1 ha, yr2 ha, yi3 ha, ys3 ha, yi4 ha, ys4 ha, yi5 ha, ys5 ha, yi6 ha, ys6 ha, yi7 ha, ys7 ha, yi8 ha, ys8 ha, yg2 ha, e4, e5, nI_sub1, Nat.add_sub_cancel, C_rank hc, rdI_eq, rdI_ne, g1, h1]
    · rw [if_neg z]
      refine ⟨S, ?_, q, FQ.refl⟩
      simp (disch := omega) only [Option.bind_some, ↓ile_t, ↓ile_f, ↓ilt_t, ↓ilt_f, ↓ieq_t, ↓ieq_f, ↓iz_t, ↓iz_f, ↓iltz, ↓izle, ↓ilez_t, ↓ilez_f, ↓im1, ile_t, ile_f, ilt_t, ilt_f, ieq_t, ieq_f, iz_t, iz_f, iltz, izle, ilez_t, ilez_f, im1, gZ_0, gZ_1, e10, e00, ↓reduceIte, Sum.elim_inl, Sum.elim_inr, nI_1, nI_add, Int32.sub_zero, yc ha, yr0 ha, yr1 ha, yr2 ha, yi3 ha, ys3 ha, yi4 ha, ys4 ha, yi5 ha, ys5 ha, yi6 ha, ys6 ha, yi7 ha, ys7 ha, yi8 ha, ys8 ha, yg2 ha, e4, e5, nI_sub1, Nat.add_sub_cancel, C_rank hc]
theorem C_release {r : Nat} {O : List Int32} {W : List Nat} (ha : RA a) (q : RQ S a O W) (hl : O.length + W.length ≤ 40) (hr : r < 100) (hN : 900 ≤ N) : ∃ S', f_c6_release N a (nI r) (mk L S) = some (mk L S') ∧ RQ S' a (cRel r W O).1 (cRel r W O).2 ∧ FQ a S S' := by
  obtain ⟨S', h1, h2, h3⟩ := C_rel (L := L) (N := N) ha W O S N q hl (by omega) hr
  refine ⟨S', ?_, h2, h3⟩
  simp (disch := omega) only [Option.bind_some, ↓ile_t, ↓ile_f, ↓ilt_t, ↓ilt_f, ↓ieq_t, ↓ieq_f, ↓iz_t, ↓iz_f, ↓iltz, ↓izle, ↓ilez_t, ↓ilez_f, ↓im1, ile_t, ile_f, ilt_t, ilt_f, ieq_t, ieq_f, iz_t, iz_f, iltz, izle, ilez_t, ilez_f, im1, gZ_0, gZ_1, e10, e00, ↓reduceIte, Sum.elim_inl, Sum.elim_inr, nI_1, nI_add, Int32.sub_zero, f_c6_release, yc ha, h1]
theorem RQ.st {O : List Int32} {W : List Nat} {k : Nat} {v : Int32} (hk : 5 ≤ k) (q : RQ S a O W) : RQ (stI S a k v) a O W := by
  obtain ⟨q1, q2, q3, q4, q5⟩ := q
  refine ⟨?_, ?_, ?_, ?_, q5⟩
  · simp (disch := omega) only [rdI_ne]; exact q1
  · exact q2.congr (fun j hj => by simp (disch := omega) only [rdI_ne])
  · simp (disch := omega) only [rdI_ne]; exact q3
  · exact q4.congr (fun j hj => by simp (disch := omega) only [rdI_ne])
end CRULE
