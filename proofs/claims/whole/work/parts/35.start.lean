/-! THE CLAIM OUT OF ONE WALK OF THE LAW'S BODY. Your part is whole_start (and what it stands on); all else here is the same for every law, but numbers. -/
def R_law : String := "FullStopWellsLaw"
def lw_P (b : Addr) (xs : List Int32) (args : Array Value) (s : State) : Prop := args = #[.ref b] ∧ s.IntsAt b xs ∧ xs.length ≤ 3072 ∧ (Jvm.Cond.and given_1 narrow_1).before args s = true
def lw_Q (_ : Array Value) (s : State) (o : Outcome) (t : State) : Prop := o = .returned (some (.int 1)) ∧ Framed s o t [] 601024 7293034
def lw_Z (below : List Frame) (a : Array Value) (s : State) : State → Prop := fun t => ∃ o, t.status = .running ∧ Ended t below o ∧ lw_Q a s o t
/-- the law's own end, with 1 on the stack, nothing written that was there before, its room as the claim has it -/
theorem lw_ret {p : Program} {l : Launch} {e : Env} {s : State} {m : MethodId} {below : List Frame} {meth : Method} {c : Code} {b : Nat} (hx : p.tables.exec = Jvm.exec) (hb : c.code = code) (hr : meth.sig.returnType = ret) (hlocks : meth.locks = false) {pc : Nat} {H : Heap} {ls : Array Slot} (hdg : decode code pc = .ok (.ireturn, 1)) : W p l e room_1 s m #[Value.ref b] below meth c H [] 601024 7293034 (lw_Z below #[Value.ref b] s) (F0 m pc ls [.int 1]) := by
  intro T hT X
  obtain ⟨fs, hret, hrun, hended, hW, hframe⟩ := X.leave (v := some (.int 1)) (hlocks := hlocks) (fun h => by rw [hr] at h; cases h)
  have hmeth' : T.vm.method? m = some meth := X.method'
  refine ⟨T.setFrames fs, ?_, .returned (some (.int 1)), hrun, hended, rfl, ⟨_, rfl⟩, hW, hframe⟩
  jvm_step X.here [X.here.top, hx, hb, hdg, hmeth', hr, ret, narrow_b1]
  (try refine ⟨rfl, ?_⟩); (try refine ⟨rfl, ?_⟩)
  first | (intro acts; rw [hret _ acts rfl rfl rfl]) | rw [hret _ _ rfl rfl rfl]
  exact Steps.refl _
/-- what holds at the law's entry: the machine, the code, the tables' words (any of lw_tbl by 'hts w (by decide +kernel)'), the script of L ints xs at the cell b, what the Statement gives of the start (any of its parts by flat_of_before) -/
def lw_At (p : Program) (s : State) (m : MethodId) (meth : Method) (c : Code) (b L : Nat) (xs : Nat → Int32) : Prop :=
  p.tables.exec = Jvm.exec ∧ c.code = code ∧ meth.sig.returnType = ret ∧ c.maxLocals = 8 ∧ s.vm.findClass R_law = some m.cls ∧ (∀ w ∈ lw_tbl, w.before #[Value.ref b] s = true) ∧ va_X b L xs s s.heap ∧ b < s.heap.size ∧ meth.locks = false ∧ (Jvm.Cond.and given_1 narrow_1).before #[Value.ref b] s = true
theorem st_arr {s : State} {args : Array Value} {ty : FieldType} (h : (Cond.arrayClass ty).before args s = true) : ∃ cA, ArrOfT s cA ty ∧ s.vm.findClass ("[" ++ ty.toString) = some cA := by
  obtain ⟨c, k, comp, h1, h2, h3⟩ := Cond.arrayClass_spec h
  exact ⟨c, fun n z => ⟨fun q h => (by cases h), k, h2, comp, h3⟩, h1⟩
theorem st_arrO {s : State} {args : Array Value} {C : String} (h : (Cond.arrayOver (.object C)).before args s = true) : ∃ cA, ArrOfT s cA (.object C) ∧ va_RA s cA (.object C) := by
  obtain ⟨comp, c, k, h1, -, h2, h3, h4⟩ := Cond.arrayOver_spec h
  exact ⟨c, fun n z => ⟨fun q h => (by cases h), k, h2, comp, h3⟩, k, comp, h2, h3, h1, h4⟩
theorem W_room {p : Program} {l : Launch} {e : Env} {R R' : Room} {s : State} {m : MethodId} {args : Array Value} {below : List Frame} {meth : Method} {c : Code} {H : Heap} {locs : List Loc} {cells slots : Nat} {Q : State → Prop} {g : JFrame} (h1 : R'.frames ≤ R.frames) (h2 : R'.cells ≤ R.cells) (h3 : R'.slots ≤ R.slots) (h4 : R'.locals ≤ R.locals) (k : W p l e R' s m args below meth c H locs cells slots Q g) : W p l e R s m args below meth c H locs cells slots Q g := by
  intro T hT X
  refine k T hT { X with room := ?_ }
  have h := X.room
  simp only [State.hasRoom, Bool.and_eq_true, decide_eq_true_eq] at h ⊢
  obtain ⟨⟨⟨⟨a1, a2, a3, a4, a5, a6⟩, a7⟩, a8⟩, a9⟩ := h
  exact ⟨⟨⟨⟨by omega, by omega, by omega, by omega, by omega, a6⟩, by omega⟩, by omega⟩, a9⟩
def gh0 (L : Nat) (xs : Nat → Int32) : gH := [.inl (6, L, .inl xs), .inl (7, 5, .inl gNR), .inl (9, 0, .inl (fun _ => 0)), .inl (9, 0, .inl (fun _ => 0)), .inl (9, 0, .inl (fun _ => 0)), .inl (9, 0, .inl (fun _ => 0)), .inl (8, gTl 0, .inl (gTb 0)), .inl (8, gTl 1, .inl (gTb 1)), .inl (8, gTl 2, .inl (gTb 2)), .inl (8, gTl 3, .inl (gTb 3))]
set_option maxHeartbeats 4000000 in
set_option maxRecDepth 100000 in
theorem st_world {s : State} {b L : Nat} {xs : Nat → Int32} (hts : ∀ w ∈ lw_tbl, w.before #[Value.ref b] s = true) (hX : va_X b L xs s s.heap) (hbl : b < s.heap.size) (hgv : (Jvm.Cond.and given_1 narrow_1).before #[Value.ref b] s = true) : ∃ X : gX, gEx X = true ∧ X.1 = s.heap.size ∧ X.2.1 = b ∧ X.2.2.2.2.2.2.2.2.1 = L ∧ X.2.2.2.2.2.2.2.2.2 = xs ∧ va_K X.2.2.2.1 gCl (gTys X) s ∧ gSt X s ∧ gSh X (gh0 L xs) := by
  have htk : ∀ w ∈ gTk, w.before #[Value.ref b] s = true := fun w hw => hts w (List.mem_filter.mp hw).1
  have hs := flat_of_before _ hgv
  obtain ⟨c0, i0, k0⟩ := u_known (C := gN0) (T := gF0) (N := 2) (n := 2) htk gIn0 (htk (.instantiable gN0 2) (gTk_1 158 rfl rfl))
  obtain ⟨c1, i1, k1⟩ := u_known (C := gN1) (T := gF1) (N := 6) (n := 6) htk gIn1 (htk (.instantiable gN1 6) (gTk_1 66 rfl rfl))
  obtain ⟨c2, i2, k2⟩ := u_known (C := gN2) (T := gF2) (N := 3) (n := 3) htk gIn2 (htk (.instantiable gN2 3) (gTk_1 197 rfl rfl))
  obtain ⟨c3, i3, k3⟩ := u_known (C := gN3) (T := gF3) (N := 1) (n := 1) htk gIn3 (htk (.instantiable gN3 1) (gTk_1 231 rfl rfl))
  obtain ⟨c4, i4, k4⟩ := u_known (C := gN4) (T := gF4) (N := 2) (n := 2) htk gIn4 (htk (.instantiable gN4 2) (gTk_1 50 rfl rfl))
  obtain ⟨c5, i5, k5⟩ := u_known (C := gN5) (T := gF5) (N := 4) (n := 4) htk gIn5 (htk (.instantiable gN5 4) (gTk_1 173 rfl rfl))
  obtain ⟨c6, i6, k6⟩ := u_known (C := gN6) (T := gF6) (N := 9) (n := 9) htk gIn6 (htk (.instantiable gN6 9) (gTk_2 1 rfl rfl))
  obtain ⟨c7, i7, k7⟩ := u_known (C := gN7) (T := gF7) (N := 8) (n := 8) htk gIn7 (htk (.instantiable gN7 8) (gTk_1 103 rfl rfl))
  obtain ⟨c8, i8, k8⟩ := u_known (C := gN8) (T := gF8) (N := 2) (n := 2) htk gIn8 (htk (.instantiable gN8 2) (gTk_1 33 rfl rfl))
  obtain ⟨c9, i9, k9⟩ := u_known (C := gN9) (T := gF9) (N := 3) (n := 3) htk gIn9 (htk (.instantiable gN9 3) (gTk_1 214 rfl rfl))
  obtain ⟨c10, i10, k10⟩ := u_known (C := gN10) (T := gF10) (N := 13) (n := 13) htk gIn10 (htk (.instantiable gN10 13) (gTk_1 25 rfl rfl))
  obtain ⟨c11, i11, k11⟩ := u_known (C := gN11) (T := gF11) (N := 42) (n := 42) htk gIn11 (htk (.instantiable gN11 42) (gTk_5 110 rfl rfl))
  obtain ⟨c12, i12, k12⟩ := u_known (C := gN12) (T := gF12) (N := 0) (n := 6) htk (fun w hw => absurd hw List.not_mem_nil) (htk (.instantiable gN12 6) (gTk_5 28 rfl rfl))
  obtain ⟨a0, ar0, af0⟩ := st_arr (htk (.arrayClass .int) (gTk_1 101 rfl rfl))
  obtain ⟨a1, ar1, af1⟩ := st_arr (htk (.arrayClass .byte) (gTk_3 204 rfl rfl))
  obtain ⟨a2, ar2, af2⟩ := st_arr (htk (.arrayClass .boolean) (gTk_1 195 rfl rfl))
  obtain ⟨a3, ar3, af3⟩ := st_arr (htk (.arrayClass .char) (gTk_1 48 rfl rfl))
  obtain ⟨a4, ar4, af4⟩ := st_arr (htk (.arrayClass .long) (gTk_1 64 rfl rfl))
  obtain ⟨a5, ar5, af5⟩ := st_arrO (hts (.arrayOver (.object "FullStopWells$State")) (by decide +kernel))
  have hA : ∀ a : Nat, a < s.heap.size → ¬ (fun q : Nat => s.heap.size ≤ q) a := fun a h => Nat.not_le.mpr h
  obtain ⟨nb, ht, hT⟩ := va_Tof (N := 5) (f := fun j => .int (gNR j)) (ty := .char) (tm := .static "FullStopWells" "NO_RULE" "[C") (A := fun q : Nat => s.heap.size ≤ q) (by decide) (hs _ (by decide +kernel)) (va_eqt (hs (.eq (.length (.static "FullStopWells" "NO_RULE" "[C")) (.int 5)) (by decide +kernel))) (fun j hj => by
    match j, hj with
    | 0, _ => exact va_eqt (hs (.eq (.elem (.static "FullStopWells" "NO_RULE" "[C") (.int 0)) (.int 100)) (by decide +kernel))
    | 1, _ => exact va_eqt (hs (.eq (.elem (.static "FullStopWells" "NO_RULE" "[C") (.int 1)) (.int 45)) (by decide +kernel))
    | 2, _ => exact va_eqt (hs (.eq (.elem (.static "FullStopWells" "NO_RULE" "[C") (.int 2)) (.int 97)) (by decide +kernel))
    | 3, _ => exact va_eqt (hs (.eq (.elem (.static "FullStopWells" "NO_RULE" "[C") (.int 3)) (.int 42)) (by decide +kernel))
    | 4, _ => exact va_eqt (hs (.eq (.elem (.static "FullStopWells" "NO_RULE" "[C") (.int 4)) (.int 50)) (by decide +kernel))) hA
  have hZ := va_Zof (A := fun q : Nat => s.heap.size ≤ q) (hts (.laysStatic "FullStopWells" "NO_RULE" "[C") (by decide +kernel)) (hts (.initialized "FullStopWells") (by decide +kernel)) ht hA
  have hZ2 := va_Zof (A := fun q : Nat => s.heap.size ≤ q) (hts (.laysStatic "java/lang/String" "COMPACT_STRINGS" "Z") (by decide +kernel)) (hts (.initialized "java/lang/String") (by decide +kernel)) (va_eqi (hs (.eq (.static "java/lang/String" "COMPACT_STRINGS" "Z") (.int 1)) (by decide +kernel))) hA
  have hQ := va_Zqof (A := fun q : Nat => s.heap.size ≤ q) (hts (.laysStatic "jdk/internal/util/Preconditions" "SIOOBE_FORMATTER" "Ljava/util/function/BiFunction;") (by decide +kernel)) (hts (.initialized "jdk/internal/util/Preconditions") (by decide +kernel)) (hs (.isRef (.static "jdk/internal/util/Preconditions" "SIOOBE_FORMATTER" "Ljava/util/function/BiFunction;")) (by decide +kernel)) hA
  have hU1 := vx_Zqof (C := Bundle.tN) (n := "UNASSIGNED_STACK") (d := Bundle.steD) (A := fun q : Nat => s.heap.size ≤ q) (hts _ (by decide +kernel)) (hts _ (by decide +kernel)) (hs _ (by decide +kernel)) hA
  have hU2 := vx_Zqof (C := Bundle.tN) (n := "SUPPRESSED_SENTINEL") (d := Bundle.listD) (A := fun q : Nat => s.heap.size ≤ q) (hts _ (by decide +kernel)) (hts _ (by decide +kernel)) (hs _ (by decide +kernel)) hA
  obtain ⟨adK, adV, hS, hev⟩ := vk_Sof (args := #[Value.ref b]) (s := s) (N := 4) (tm := fun i => .string "FullStopWells" (443 + 2 * i)) (len := [1, 4, 2, 0]) (byt := [[48], [48, 48, 49, 46], [48, 49], []]) (A := fun q : Nat => s.heap.size ≤ q)
    (fun i hi => by
    match i, hi with
    | 0, _ => exact by decide
    | 1, _ => exact by decide
    | 2, _ => exact by decide
    | 3, _ => exact by decide
    )
    (fun i hi => by
    match i, hi with
    | 0, _ => exact hs (.exactly (.string "FullStopWells" 443) "java/lang/String") (by decide +kernel)
    | 1, _ => exact hs (.exactly (.string "FullStopWells" 445) "java/lang/String") (by decide +kernel)
    | 2, _ => exact hs (.exactly (.string "FullStopWells" 447) "java/lang/String") (by decide +kernel)
    | 3, _ => exact hs (.exactly (.string "FullStopWells" 449) "java/lang/String") (by decide +kernel)
    )
    (fun i hi => by
    match i, hi with
    | 0, _ => exact hs (.eq (.field (.string "FullStopWells" 443) "java/lang/String" "coder" "B") (.int 0)) (by decide +kernel)
    | 1, _ => exact hs (.eq (.field (.string "FullStopWells" 445) "java/lang/String" "coder" "B") (.int 0)) (by decide +kernel)
    | 2, _ => exact hs (.eq (.field (.string "FullStopWells" 447) "java/lang/String" "coder" "B") (.int 0)) (by decide +kernel)
    | 3, _ => exact hs (.eq (.field (.string "FullStopWells" 449) "java/lang/String" "coder" "B") (.int 0)) (by decide +kernel)
    )
    (fun i hi => by
    match i, hi with
    | 0, _ => exact hs (.arrayOf (.field (.string "FullStopWells" 443) "java/lang/String" "value" "[B") .byte) (by decide +kernel)
    | 1, _ => exact hs (.arrayOf (.field (.string "FullStopWells" 445) "java/lang/String" "value" "[B") .byte) (by decide +kernel)
    | 2, _ => exact hs (.arrayOf (.field (.string "FullStopWells" 447) "java/lang/String" "value" "[B") .byte) (by decide +kernel)
    | 3, _ => exact hs (.arrayOf (.field (.string "FullStopWells" 449) "java/lang/String" "value" "[B") .byte) (by decide +kernel)
    )
    (fun i hi => by
    match i, hi with
    | 0, _ => exact hs (.eq (.length (.field (.string "FullStopWells" 443) "java/lang/String" "value" "[B")) (.int 1)) (by decide +kernel)
    | 1, _ => exact hs (.eq (.length (.field (.string "FullStopWells" 445) "java/lang/String" "value" "[B")) (.int 4)) (by decide +kernel)
    | 2, _ => exact hs (.eq (.length (.field (.string "FullStopWells" 447) "java/lang/String" "value" "[B")) (.int 2)) (by decide +kernel)
    | 3, _ => exact hs (.eq (.length (.field (.string "FullStopWells" 449) "java/lang/String" "value" "[B")) (.int 0)) (by decide +kernel)
    )
    (fun i hi j hj => by
      match i, hi, j, hj with
      | 0, _, 0, _ => exact hs (.eq (.elem (.field (.string "FullStopWells" 443) "java/lang/String" "value" "[B") (.int 0)) (.int 48)) (by decide +kernel)
      | 1, _, 0, _ => exact hs (.eq (.elem (.field (.string "FullStopWells" 445) "java/lang/String" "value" "[B") (.int 0)) (.int 48)) (by decide +kernel)
      | 1, _, 1, _ => exact hs (.eq (.elem (.field (.string "FullStopWells" 445) "java/lang/String" "value" "[B") (.int 1)) (.int 48)) (by decide +kernel)
      | 1, _, 2, _ => exact hs (.eq (.elem (.field (.string "FullStopWells" 445) "java/lang/String" "value" "[B") (.int 2)) (.int 49)) (by decide +kernel)
      | 1, _, 3, _ => exact hs (.eq (.elem (.field (.string "FullStopWells" 445) "java/lang/String" "value" "[B") (.int 3)) (.int 46)) (by decide +kernel)
      | 2, _, 0, _ => exact hs (.eq (.elem (.field (.string "FullStopWells" 447) "java/lang/String" "value" "[B") (.int 0)) (.int 48)) (by decide +kernel)
      | 2, _, 1, _ => exact hs (.eq (.elem (.field (.string "FullStopWells" 447) "java/lang/String" "value" "[B") (.int 1)) (.int 49)) (by decide +kernel)
      | 3, _, j, hj => exact absurd hj (Nat.not_lt_zero j)
      )
    (fun i j hi hj hij => by
      match i, hi, j, hj, hij with
      | 0, _, 0, _, z => exact absurd rfl z
      | 0, _, 1, _, _ => exact Or.inl (hs (.not (.eq (.string "FullStopWells" 443) (.string "FullStopWells" 445))) (by decide +kernel))
      | 0, _, 2, _, _ => exact Or.inl (hs (.not (.eq (.string "FullStopWells" 443) (.string "FullStopWells" 447))) (by decide +kernel))
      | 0, _, 3, _, _ => exact Or.inl (hs (.not (.eq (.string "FullStopWells" 443) (.string "FullStopWells" 449))) (by decide +kernel))
      | 1, _, 0, _, _ => exact Or.inr (hs (.not (.eq (.string "FullStopWells" 443) (.string "FullStopWells" 445))) (by decide +kernel))
      | 1, _, 1, _, z => exact absurd rfl z
      | 1, _, 2, _, _ => exact Or.inl (hs (.not (.eq (.string "FullStopWells" 445) (.string "FullStopWells" 447))) (by decide +kernel))
      | 1, _, 3, _, _ => exact Or.inl (hs (.not (.eq (.string "FullStopWells" 445) (.string "FullStopWells" 449))) (by decide +kernel))
      | 2, _, 0, _, _ => exact Or.inr (hs (.not (.eq (.string "FullStopWells" 443) (.string "FullStopWells" 447))) (by decide +kernel))
      | 2, _, 1, _, _ => exact Or.inr (hs (.not (.eq (.string "FullStopWells" 445) (.string "FullStopWells" 447))) (by decide +kernel))
      | 2, _, 2, _, z => exact absurd rfl z
      | 2, _, 3, _, _ => exact Or.inl (hs (.not (.eq (.string "FullStopWells" 447) (.string "FullStopWells" 449))) (by decide +kernel))
      | 3, _, 0, _, _ => exact Or.inr (hs (.not (.eq (.string "FullStopWells" 443) (.string "FullStopWells" 449))) (by decide +kernel))
      | 3, _, 1, _, _ => exact Or.inr (hs (.not (.eq (.string "FullStopWells" 445) (.string "FullStopWells" 449))) (by decide +kernel))
      | 3, _, 2, _, _ => exact Or.inr (hs (.not (.eq (.string "FullStopWells" 447) (.string "FullStopWells" 449))) (by decide +kernel))
      | 3, _, 3, _, z => exact absurd rfl z
      ) hA
  refine ⟨(s.heap.size, b, nb, (fun k => [c0, c1, c2, c3, c4, c5, c6, c7, c8, c9, c10, c11, c12].getD k c0, fun k => [i0, i1, i2, i3, i4, i5, i6, i7, i8, i9, i10, i11, i12].getD k i0), fun k => [a0, a1, a2, a3, a4, a5].getD k a0, true, adK, adV, L, xs), rfl, rfl, rfl, rfl, rfl, ⟨?_, ?_⟩, ⟨hX, hbl, hT, hZ, hS, ?_, hZ2, ?_, hQ, va_AO.of (hts (.arrayOver (.object "FullStopWells$State")) (by decide +kernel)), hU1, hU2, ?_⟩, ⟨rfl, rfl, ?_, ?_⟩⟩
  · intro k q hq
    match k, hq with
    | 0, hq => cases hq; exact k0
    | 1, hq => cases hq; exact k1
    | 2, hq => cases hq; exact k2
    | 3, hq => cases hq; exact k3
    | 4, hq => cases hq; exact k4
    | 5, hq => cases hq; exact k5
    | 6, hq => cases hq; exact k6
    | 7, hq => cases hq; exact k7
    | 8, hq => cases hq; exact k8
    | 9, hq => cases hq; exact k9
    | 10, hq => cases hq; exact k10
    | 11, hq => cases hq; exact k11
    | 12, hq => cases hq; exact k12
    | k + 13, hq => exact absurd hq (by simp [gCl])
  · intro k q hq
    match k, hq with
    | 0, hq => cases hq; exact ⟨ar0, af0⟩
    | 1, hq => cases hq; exact ⟨ar1, af1⟩
    | 2, hq => cases hq; exact ⟨ar2, af2⟩
    | 3, hq => cases hq; exact ⟨ar3, af3⟩
    | 4, hq => cases hq; exact ⟨ar4, af4⟩
    | 5, hq => cases hq; exact ⟨ar5, af5⟩
    | k + 6, hq => exact absurd hq (by simp [gTys])
  · intro i hi
    match i, hi with
    | 0, _ => exact vk_R.of (A := #[Value.ref b]) (hts (.stringRef "FullStopWells" 443 "0") (by decide +kernel)) (hev 0 (by omega))
    | 1, _ => exact vk_R.of (A := #[Value.ref b]) (hts (.stringRef "FullStopWells" 445 "001.") (by decide +kernel)) (hev 1 (by omega))
    | 2, _ => exact vk_R.of (A := #[Value.ref b]) (hts (.stringRef "FullStopWells" 447 "01") (by decide +kernel)) (hev 2 (by omega))
    | 3, _ => exact vk_R.of (A := #[Value.ref b]) (hts (.stringRef "FullStopWells" 449 "") (by decide +kernel)) (hev 3 (by omega))
  · intro w hw
    have h1 := hts w (List.mem_filter.mp hw).1
    have h2 := (List.mem_filter.mp hw).2
    cases w <;> first | exact va_Nw.of rfl h1 | (exfalso; simp [gNestW] at h2; done)
  · intro w hw
    have h1 := hts w (gBad_in w hw)
    have h2 := (List.mem_filter.mp hw).2
    cases w <;> first | exact va_Nw.of rfl h1 | (exfalso; simp [gIsCD] at h2; done)
  · intro i h2 h6
    match i, h2, h6 with
    | 2, _, _ => rfl
    | 3, _, _ => rfl
    | 4, _, _ => rfl
    | 5, _, _ => rfl
  · intro i hi
    match i, hi with
    | 0, _ => rfl
    | 1, _ => rfl
    | 2, _ => rfl
    | 3, _ => rfl
/-- THE PURE STATEMENT: the law's body as a function comes through on every script (gFuel: how deep, how long a loop at most) -/
def gFuel : Nat := 1000
def gMade (L : Nat) (xs : Nat → Int32) (h : gH) : Prop := ∃ h1 h2 h3 h4 : gH, nO 10 [.null, .null, .null, .null, .null, .null, .null, .null, .null, .null, .null, .null, .null] (gh0 L xs) = some h1 ∧ f_c10_init gFuel 10 h1 = some h2 ∧ h2.length = 144 ∧ nO 11 [.null, .int 0, .int 0, .int 0, .null, .null, .null, .int 0, .null, .int 0, .int 0, .null, .int 0, .int 0, .int 0, .int 0, .null, .null, .null, .int 0, .int 0, .null, .null, .int 0, .null, .null, .null, .null, .null, .null, .null, .null, .null, .null, .int 0, .null, .null, .int 0, .int 0, .null, .null, .null] h2 = some h3 ∧ f_c11_init gFuel 144 h3 = some h4 ∧ nA 4 1 h4 = some h
def gPure : Prop := ∀ (L : Nat) (xs : Nat → Int32), L ≤ 3072 → ∃ h h0 : gH, gMade L xs h ∧ lp_law gFuel gFuel 0 h = some h0
theorem d_lw_law_0 : gD b_lw_law 0 (.new 8) 3 3 := ⟨by decide +kernel, rfl⟩
theorem d_lw_law_4 : gD b_lw_law 4 (.invokespecial 22) 3 7 := ⟨by decide +kernel, rfl⟩
theorem d_lw_law_8 : gD b_lw_law 8 (.new 23) 3 11 := ⟨by decide +kernel, rfl⟩
theorem d_lw_law_12 : gD b_lw_law 12 (.invokespecial 25) 3 15 := ⟨by decide +kernel, rfl⟩
theorem d_lw_law_17 : gD b_lw_law 17 (.newarray .long) 2 19 := ⟨by decide +kernel, rfl⟩
theorem ki_lw_22 : gLI "FullStopWellsLaw" 22 y_c10_init := ⟨Or.inl (gTk_1 26 rfl rfl), gTk_1 27 rfl rfl, rfl⟩
theorem ki_lw_25 : gLI "FullStopWellsLaw" 25 y_c11_init := ⟨Or.inl (gTk_5 111 rfl rfl), gTk_5 112 rfl rfl, rfl⟩
theorem lw_retR {p : Program} {l : Launch} {e : Env} {R : Room} {s : State} {m : MethodId} {below : List Frame} {meth : Method} {c : Code} {b : Nat} (hx : p.tables.exec = Jvm.exec) (hb : c.code = code) (hr : meth.sig.returnType = ret) (hlocks : meth.locks = false) {pc : Nat} {H : Heap} {ls : Array Slot} (hdg : decode code pc = .ok (.ireturn, 1)) : W p l e R s m #[Value.ref b] below meth c H [] 601024 7293034 (lw_Z below #[Value.ref b] s) (F0 m pc ls [.int 1]) := by
  intro T hT X
  obtain ⟨fs, hret, hrun, hended, hW, hframe⟩ := X.leave (v := some (.int 1)) (hlocks := hlocks) (fun h => by rw [hr] at h; cases h)
  have hmeth' : T.vm.method? m = some meth := X.method'
  refine ⟨T.setFrames fs, ?_, .returned (some (.int 1)), hrun, hended, rfl, ⟨_, rfl⟩, hW, hframe⟩
  jvm_step X.here [X.here.top, hx, hb, hdg, hmeth', hr, ret, narrow_b1]
  (try refine ⟨rfl, ?_⟩); (try refine ⟨rfl, ?_⟩)
  first | (intro acts; rw [hret _ acts rfl rfl rfl]) | rw [hret _ _ rfl rfl rfl]
  exact Steps.refl _
set_option maxHeartbeats 4000000 in
set_option maxRecDepth 100000 in
theorem whole_open (hp : gPure) {p : Program} {e : Env} {s : State} {m : MethodId} {below : List Frame} {meth : Method} {c : Code} (l : Launch) (hflags : l.flags = flags0) {b L : Nat} {xs : Nat → Int32} (hL : L ≤ 3072) (C0 : lw_At p s m meth c b L xs) : W p l e room_1 s m #[Value.ref b] below meth c s.heap [] 0 0 (lw_Z below #[Value.ref b] s) (entryFrame m ([Value.ref b] : List Value).toArray 8) := by
  obtain ⟨hx, hb, hr, hml, hown, hts, hXs, hbl, hlocks, hgv⟩ := id C0
  obtain ⟨X, hex, hX1, hXb, hXL, hXx, hK, hSt, hSh⟩ := st_world hts hXs hbl hgv
  obtain ⟨h, h0, ⟨h1, h2, h3, h4, e1, e2, l2, e3, e4, e5⟩, elp⟩ := hp L xs hL
  have hfl : l.stackTraces = false := by
    unfold Launch.stackTraces
    rw [hflags]
    decide +kernel
  have hl := lv_entry ([.ref b]) (n := 8) (Nat.le_of_ble_eq_true rfl)
  rw [lg_entry_eq]
  generalize (lg_sl ([.ref b]) ++ List.replicate (8 - (lg_sl ([.ref b])).length) Slot.unset).toArray = ls at hl ⊢
  have hl : lv_has ls 8 [(0, .ref b)] := hl
  have hl2 : h2.length = h1.length + 133 := by rw [l2, nO_len e1]; rfl
  have l4 : h4.length = 170 := by rw [len_c11_init e4, nO_len e3, l2]
  have K : gC (p, l, e, gRm (100 + gFuel) 601024 7293034, s, m, #[Value.ref b], below, meth, c, lw_Z below #[Value.ref b] s) X "FullStopWellsLaw" code 8 (gRm (100 + gFuel) 601024 7293034) := ⟨hx, hb, hml, hown, fun w hw => hts w (List.mem_filter.mp hw).1, hK, Nat.le_of_eq hX1, hlocks, rfl, hSt⟩
  refine W_room (R' := gRm (100 + gFuel) 601024 7293034) (Nat.le_of_ble_eq_true rfl) (Nat.le_refl _) (Nat.le_refl _) (Nat.le_of_ble_eq_true rfl) ?_
  have G : gG (p, l, e, gRm (100 + gFuel) 601024 7293034, s, m, #[Value.ref b], below, meth, c, lw_Z below #[Value.ref b] s) X 8 0 0 0 [(0, .ref 0)] [] (gh0 L xs) := by
    refine g_new (ci := 10) (ty0 := gY10) K hex d_lw_law_0 rfl gIn10 gYo10 (gTk_1 24 rfl rfl) (gTk_1 25 rfl rfl) (gTk_1 1 rfl rfl) (by decide +kernel) rfl (Nat.le_of_ble_eq_true rfl) (Nat.le_of_ble_eq_true rfl) e1 ?_
    rw [show (gh0 L xs).length = 10 from rfl]
    refine g_dup K d_lw_law_3 rfl ?_
    refine g_callI (rest := [.ref 10]) K hex ly_c10_init ki_lw_22 d_lw_law_4 (ct_c10_init l X hex gFuel 10 h1 h2 e2 hl2) hl2 rfl rfl (Nat.le_of_ble_eq_true rfl) (gDep rfl) ⟨Nat.le_of_ble_eq_true rfl, Nat.le_of_ble_eq_true rfl⟩ ?_
    refine g_astore_n (ls2 := [(1, .ref 10), (0, .ref 0)]) K d_lw_law_7 rfl rfl ?_
    refine g_new (ci := 11) (ty0 := gY11) K hex d_lw_law_8 rfl gIn11 gYo11 (gTk_5 109 rfl rfl) (gTk_5 110 rfl rfl) (gTk_1 13 rfl rfl) (by decide +kernel) rfl (Nat.le_of_ble_eq_true rfl) (Nat.le_of_ble_eq_true rfl) e3 ?_
    rw [l2]
    refine g_dup K d_lw_law_11 rfl ?_
    refine g_callI (rest := [.ref 144]) K hex ly_c11_init ki_lw_25 d_lw_law_12 (ct_c11_init l X hex gFuel 144 h3 h4 e4) (len_c11_init e4) rfl rfl (Nat.le_of_ble_eq_true rfl) (gDep rfl) ⟨Nat.le_of_ble_eq_true rfl, Nat.le_of_ble_eq_true rfl⟩ ?_
    refine g_astore_n (ls2 := [(2, .ref 144), (1, .ref 10), (0, .ref 0)]) K d_lw_law_15 rfl rfl ?_
    refine g_iconst (v := 1) K d_lw_law_16 (by decide) ?_
    refine g_newa (t := 4) (k := 1) (ty := .long) K hex d_lw_law_17 rfl rfl (fun _ h => h) (gTk_1 64 rfl rfl) (by decide) (by decide) rfl (Nat.le_of_ble_eq_true rfl) (Nat.le_of_ble_eq_true rfl) e5 rfl ?_
    rw [l4]
    refine g_astore_n (ls2 := [(3, .ref 170), (2, .ref 144), (1, .ref 10), (0, .ref 0)]) K d_lw_law_19 rfl rfl ?_
    refine g_iconst (v := 0) K d_lw_law_20 (by decide) ?_
    refine g_istore (ls2 := [(4, .int 0), (3, .ref 170), (2, .ref 144), (1, .ref 10), (0, .ref 0)]) K d_lw_law_21 rfl rfl ?_
    refine g_sub (ls2 := [(0, .ref 0), (1, .ref 10), (2, .ref 144), (3, .ref 170), (4, .int 0)]) [4, 3, 2, 1, 0] rfl ?_
    refine g_unex (R := gRm (100 + gFuel) 601024 7293034) ?_
    refine wlp_law (N := gFuel) hfl rfl (Nat.le_of_ble_eq_true rfl) (gC_unex K) gFuel _ _ ⟨Nat.le_of_ble_eq_true rfl, Nat.le_of_ble_eq_true rfl⟩ 0 h h0 elp (fun cs sl x4 hcs hsl => ?_)
    refine g_iconst (v := 1) (gC_unex K) d_lw_law_1626 (by decide) ?_
    intro H locs ls' hR hl9
    refine va_forget (fun q hq => by rw [← hX1]; exact hR.2.1.2.2 q hq) ?_
    exact W.widen hcs hsl (lw_retR hx hb hr hlocks d_lw_law_1627.1)
  refine G s.heap [] ls ⟨fun k q hk => ?_, va_S.rf, fun _ => ?_, hSh⟩ ?_
  · have : (gWs X (gh0 L xs))[k]? = none := by
      have e0 : gWs X (gh0 L xs) = [] := rfl
      rw [e0]; rfl
    rw [this] at hk
    cases hk
  · show s.heap.size + 0 + 10 = X.1 + 10
    rw [hX1]
  · have e0 : gLs X [(0, .ref 0)] = [(0, .ref b)] := by
      show [(0, Value.ref (gAd X 0))] = _
      rw [show gAd X 0 = X.2.1 from rfl, hXb]
    rw [e0]
    exact hl

set_option maxHeartbeats 4000000 in
theorem lw_walk (hp : gPure) (l : Launch) (hflags : l.flags = flags0) (b : Addr) (xs : List Int32) : MetFree l x (headSpec (Jvm.Cond.code x code maxLocals ret :: tables_1) room_1) (lw_P b xs) (fun _ _ _ _ _ => True) lw_Q := by
  refine MetFree.of_bodyS (code := code) (maxLocals := maxLocals) (ret := ret) (by decide) ?_ ?_
  · intro args s m h hn
    obtain ⟨meth, c, h1, h2, h3, h4, h5, h6, -, -⟩ := Cond.code_spec hn (atoms_spec (ws := Jvm.Cond.code x code maxLocals ret :: tables_1) h _ List.mem_cons_self)
    exact ⟨meth, c, h1, h2, h3, h4, h5, h6⟩
  · intro p e s m args below meth c s₁ B hml0 hP _
    obtain ⟨rfl, hx, hbd, hgv⟩ := hP
    obtain ⟨scr, harrAt, hlist, hof, hsmall⟩ := hx
    obtain ⟨hcb, hkn, -, -⟩ := State.arrayAt?_spec harrAt
    have hown : s.vm.findClass R_law = some m.cls := findClass_of_methodNamed B.named
    have hts0 : ∀ c ∈ (Jvm.Cond.code x code maxLocals ret :: tables_1), c.before #[Value.ref b] s = true := atoms_spec (ws := Jvm.Cond.code x code maxLocals ret :: tables_1) B.pre
    have hts : ∀ w ∈ lw_tbl, w.before #[Value.ref b] s = true := k2_hts_sels lw_privs (fun w hw => hts0 w (List.mem_cons_of_mem _ hw)) lw_privs_ok
    have hml : c.maxLocals = 8 := B.maxLocals_eq (hts0 _ List.mem_cons_self)
    have X₀ : Stand p l e room_1 s m #[Value.ref b] below meth c s₁ [] 0 0 := Stand.of_body B
    have hh0 : s₁.heap = s.heap := by rw [B.state]; rfl
    have hsz : scr.slots.size = xs.length := by rw [← Array.length_toList, hlist, List.length_map]
    have hval : ∀ j : Nat, j < xs.length → scr.slots[j]? = some (.int (xs.getD j 0)) := fun j hj => by
      rw [← Array.getElem?_toList, hlist]
      simp [hj]
    have hbl : b < s.heap.size := (Array.getElem?_eq_some_iff.mp hcb).1
    have hX : va_X b xs.length (fun j => xs.getD j 0) s s.heap := ⟨scr, hcb, hof, hkn, hsz, hval⟩
    have K : W p l e room_1 s m #[Value.ref b] below meth c s₁.heap [] 0 0 (lw_Z below #[Value.ref b] s) (entryFrame m ([Value.ref b] : List Value).toArray 8) := by
      rw [hh0]
      exact whole_open hp l hflags hbd ⟨B.exec, B.bytes, B.returns, hml, hown, hts, hX, hbl, B.notSynchronized, hgv⟩
    obtain ⟨t, a1, o, b1, b2, b3⟩ := K s₁ rfl X₀
    exact ⟨t, o, a1, b1, b2, b3⟩
theorem lw_pre_spec {args : Array Value} {s : State} (h : (Jvm.Cond.and given_1 narrow_1).before args s = true) (hr : rest_1_c.before args s = true) : ∃ (b : Addr) (xs : List Int32), lw_P b xs args s := by
  have hs := flat_of_before _ h
  have hq := flat_of_before _ hr
  have hc : (Cond.count 1).before args s = true := hs _ (by decide +kernel)
  have harr : (Cond.arrayOf (.arg 0) .int).before args s = true := hs _ (by decide +kernel)
  have hle : (Cond.le (.length (.arg 0)) (.int 3072)).before args s = true := hs _ (by decide +kernel)
  have hlen : (Cond.isInt (.length (.arg 0))).before args s = true := hq _ (by decide +kernel)
  have hall : (Cond.all (.arg 0) (.isInt (.elem (.arg 0) (.index 0)))).before args s = true := hq _ (by decide +kernel)
  obtain ⟨b, xs, hb, hx⟩ := State.ints_of_pre rfl harr hlen hall
  have hsm : xs.length < 2 ^ 31 := hx.choose_spec.2.2.2
  have hev : (Term.length (.arg 0)).eval args s none [] s = some (.int xs.length.toInt32) := hx.length_eval hb
  have hv := Cond.le_ints hev (show (Term.int 3072).eval args s none [] s = some (.int 3072) from rfl)
  have hd : xs.length.toInt32 ≤ 3072 := by
    simpa [Cond.before, Cond.holds, hv] using hle
  have hN : xs.length ≤ 3072 := (Int32.ofNat_le_ofNat hsm (by decide)).mp (show Int32.ofNat xs.length ≤ Int32.ofNat 3072 from hd)
  exact ⟨b, xs, Cond.one_arg hc (show args[0]? = some (.ref b) from hb), hx, hN, h⟩
theorem lw_comes (hp : gPure) (l : Launch) (hflags : l.flags = flags0) : Comes l x (Jvm.Cond.code x code maxLocals ret :: tables_1) room_1 (fun tb e args s => Calls_1 tb e args s ∧ rest_1 tb e args s ∧ Pre_1 tb e args s)
    (fun _ _ args s o t => lw_Q args s o t) := by
  intro p e ha hc hk s m args below hf hfit hheap happ hpre
  obtain ⟨b, xs, hP⟩ := lw_pre_spec hpre.2.2 hpre.2.1
  obtain ⟨k, o, h1, h2, h3, hQ⟩ := lw_walk hp l hflags b xs p e ha hc hk s m args below hf ((Spec.applies_iff_loose hf).mp happ).1 hP trivial
  exact ⟨k, o, h1, h2, h3, hQ⟩
theorem lw_frame {s t : State} {o : Outcome} {args : Array Value} (h : Framed s o t [] 601024 7293034) :
    Framed s o t (fieldLocs frame_1_writes args s ++ arrayLocs frame_1_arrays args s ++ staticLocs frame_1_statics s) 601024 7293034 := h
theorem lw_limb (hp : gPure) (L : Cond) (hL : ∀ (args : Array Value) (s t : State), L.after args s (.returned (some (.int 1))) t = true) :
    ArmFor flags0 classFile x code maxLocals ret World_1 tables_1 room_1 Calls_1 rest_1 Pre_1
      (fun tb e a s o t => postC L tb e a s o t ∧ Framed s o t (fieldLocs frame_1_writes a s ++ arrayLocs frame_1_arrays a s ++ staticLocs frame_1_statics s) 601024 7293034) := by
  intro l hflags _ _ p e ha hc hk s m args below hf hfit hheap happ hpre
  obtain ⟨k, o, h1, h2, h3, rfl, hF⟩ := lw_comes hp l hflags p e ha hc hk s m args below hf hfit hheap happ hpre
  exact ⟨k, _, h1, h2, h3, hL args s _, lw_frame hF⟩
theorem i_vc_of (hp : gPure) : Claimed_1_1 ∧ Claimed_1_2 := ⟨lw_limb hp limb_1_1 (fun args s t => by simp [limb_1_1, Cond.after, Cond.holds, Cond.value]), lw_limb hp limb_1_2 (fun args s t => Cond.after_iff.mpr (by
  first | (rw [show limb_1_2 = Cond.eq .result (.int 1) from rfl, Cond.eq_ints (x := 1) (y := 1) rfl rfl]; simp; done) | (simp [limb_1_2, Cond.value, Term.eval]; done)))⟩

