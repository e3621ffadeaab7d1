/-! the three methods that throw, and the law's helpers that catch -/
def gXE : String := "java/util/NoSuchElementException"
def gXC (X : gX) (h : gH) : String → State → State → Prop := vx_X (fun _ : Unit => True) (fun E _ t => E = gXE ∧ gBs X h t) (gA X)
def gMx (l : Launch) (X : gX) (y : MethodName) (b : ByteArray) (maxL : Nat) (ret : Option FieldType) (d : Nat) (as : List Value) (h : gH) (Qc : Array Value → State → Outcome → State → Prop) : Prop :=
  vx_Met l y (.code y b maxL ret :: gTk) (gRm d 1 6) (va_Pc (gVs X as) (gPre X h)) Qc (gXC X h) 1 6 (gA X)
theorem gX_good : ∀ w ∈ Cond.classLink "FullStopWells" 141 gXE :: Cond.initialized gXE :: vx_at0 "FullStopWells" 143 gXE gNames, vx_ot w = true := by decide +kernel
theorem gX_link : Cond.classLink "FullStopWells" 141 gXE ∈ gTk := List.mem_filter.mpr ⟨by decide +kernel, rfl⟩
theorem gX_init : Cond.initialized gXE ∈ gTk := List.mem_filter.mpr ⟨by decide +kernel, rfl⟩
theorem gMet_x {l : Launch} (hfl : l.stackTraces = false) {X : gX} (hx : gEx X = false) {y : MethodName} {b : ByteArray} {maxL d : Nat} {ret : Option FieldType} {as : List Value} {lsx : List (Nat × Value)} {h : gH} {Qc : Array Value → State → Outcome → State → Prop} (hd : 6 ≤ d) (hy : plainName y.cls = true) (hyc : y.cls = "FullStopWells") (hlx : lv_args 0 (gVs X as) = gLs X lsx) (hfit : Nat.ble (lg_sl (gVs X as)).length maxL = true)
    (body : ∀ M : gM, M.2.1 = l → gC M X y.cls b maxL (gRm d 1 6) → (∀ pc ls, decode b pc = .ok (.new 141, 3) → decode b (pc + 3) = .ok (.dup, 1) → decode b (pc + 4) = .ok (.invokespecial 143, 3) → decode b (pc + 7) = .ok (.athrow, 1) → gG M X maxL 0 0 pc ls [] h) → gG M X maxL 0 0 0 lsx [] h) : gMx l X y b maxL ret d as h Qc := by
  unfold gMx
  refine vx_ofW (cc := b) (maxL := maxL) (ret := ret) hy rfl ?_
  intro p e s m args below meth c s₁ B hml hxt hv
  obtain ⟨rfl, hbase, hB0, hK, hSt, hSh⟩ := hv
  have hts := atoms_spec (ws := Cond.code y b maxL ret :: gTk) B.pre
  have hts' : ∀ w ∈ gTk, w.before (gVs X as).toArray s = true := fun w hw => hts w (List.mem_cons_of_mem _ hw)
  have hown : s.vm.findClass y.cls = some m.cls := findClass_of_methodNamed B.named
  have hown2 : s.vm.findClass "FullStopWells" = some m.cls := by rw [← hyc]; exact hown
  have hl := lv_entry (gVs X as) (n := maxL) (Nat.le_of_ble_eq_true hfit)
  rw [lg_entry_eq]
  generalize (lg_sl (gVs X as) ++ List.replicate (maxL - (lg_sl (gVs X as)).length) Slot.unset).toArray = ls at hl ⊢
  rw [hlx] at hl
  have G := body (p, l, e, gRm d 1 6, s, m, (gVs X as).toArray, below, meth, c, vx_MQ below Qc (gXC X h) (gVs X as).toArray s 1 6 (gA X)) rfl ⟨B.exec, B.bytes, hml, hown, hts', hK, hbase, B.notSynchronized, rfl, hSt⟩ ?_
  · exact G s.heap [] ls ⟨hB0.1, va_S.rf, hB0.2, hSh⟩ hl
  · intro pc ls2 d0 d3 d4 d7 H locs ls' hR hl2
    refine vx_throw0 (names := gNames) (ik := 141) (ic := 143) B.exec B.bytes hfl hown2 (by decide +kernel) (by decide +kernel) (hts' _ gX_link) (hts' _ gX_init)
      (vx_hat (fun w hw => hts' w (gBad_good w hw)) gBad_rest (fun w hw => va_Nw.use (by
        have h2 := (List.mem_filter.mp hw).2
        cases w <;> first | rfl | (exfalso; simp [gIsCD] at h2; done)) (hSt.2.2.2.2.2.2.2.2.2.2.2.2 w hw)))
      gX_good hSt.2.2.2.2.2.2.2.2.2.2.1 hSt.2.2.2.2.2.2.2.2.2.2.2.1 hR.2.1 (hl2.1.trans hml.symm) d0 d3 d4 d7 (fun x hx9 => (hxt x hx9).elim) ?_ ?_ (Nat.le_refl 1) (Nat.le_refl 6) B.notSynchronized (fun t ht hsz hsame => ?_) hR.2.1.2.2 (Nat.le_refl 1) (Nat.le_refl 6)
    · show 2 + 3 < d
      omega
    · show 0 + (13 * (2 + 1) + 42) ≤ 41 * d
      omega
    · refine ⟨(), trivial, ⟨rfl, ⟨hR.1.kept (fun k q hk => hsame _ ((hR.1 k q hk).lt)), fun q => (by rw [hx] at q; cases q)⟩, hR.2.2.2⟩, Nat.le_trans hR.2.1.1 hsz, fun q h1 h2 => ?_⟩
      rw [hsame q (Nat.lt_of_lt_of_le h1 hR.2.1.1)]
      exact hR.2.1.2.1 q h1 h2
/-- a helper of the law: its table of handlers in its word; one cell, six slots at most -/
def gMiW (l : Launch) (X : gX) (y : MethodName) (b : ByteArray) (maxL : Nat) (hh : List (Nat × Nat × Nat × Nat)) (d : Nat) (as : List Value) (h : gH) (r : Int32) (h' : gH) : Prop :=
  Met l y (.codeWith y b maxL (some .int) hh :: gTk) (gRm d 1 6) (va_Pc (gVs X as) (gPre X h)) (va_Qi (fun v (_ : Unit) => v = r) (fun _ t => gBs X h' t) (gA X)) 1 6 (gA X)
theorem vx_noX {l : Launch} {y : MethodName} {ws : List Cond} {rm : Room} {Pc : Array Value → State → Prop} {Qc : Array Value → State → Outcome → State → Prop} {mc ms : Nat} {free : Addr → Prop} (h : vx_Met l y ws rm Pc Qc (fun _ _ _ => False) mc ms free) : Met l y ws rm Pc Qc mc ms free := by
  intro p e ha hc hk s m args below hf happ hP hK
  obtain ⟨k, o, h1, h2, h3, hQ⟩ := h p e ha hc hk s m args below hf happ hP hK
  refine ⟨k, o, h1, h2, h3, ?_⟩
  rcases hQ with hQ | ⟨q, -, E, ce, L, hF, -⟩
  · exact hQ
  · exact hF.elim
theorem gMet_iW {l : Launch} {X : gX} {y : MethodName} {b : ByteArray} {maxL d : Nat} {hh : List (Nat × Nat × Nat × Nat)} {as : List Value} {lsx : List (Nat × Value)} {h h' : gH} {r : Int32} (hy : plainName y.cls = true) (hlx : lv_args 0 (gVs X as) = gLs X lsx) (hfit : Nat.ble (lg_sl (gVs X as)).length maxL = true)
    (body : ∀ M : gM, M.2.1 = l → gC M X y.cls b maxL (gRm d 1 6) → (M.2.2.2.2.2.2.2.2.2.1.exceptionTable.toList = tableOf hh) → (∀ cs sl, cs ≤ 1 → sl ≤ 6 → ∀ pc pc' ls, gD b pc .ireturn 1 pc' → gG M X maxL cs sl pc ls [.int r] h') → gG M X maxL 0 0 0 lsx [] h) : gMiW l X y b maxL hh d as h r h' := by
  unfold gMiW
  refine vx_noX (vx_ofWH (cc := b) (maxL := maxL) (ret := some .int) (hh := hh) hy rfl ?_)
  intro p e s m args below meth c s₁ B hml hv
  obtain ⟨rfl, hbase, hB0, hK, hSt, hSh⟩ := hv
  have hts := atoms_spec (ws := Cond.codeWith y b maxL (some .int) hh :: gTk) B.pre
  have hown : s.vm.findClass y.cls = some m.cls := findClass_of_methodNamed B.named
  have htab := vx_table (x := y) B (hts _ List.mem_cons_self)
  have hl := lv_entry (gVs X as) (n := maxL) (Nat.le_of_ble_eq_true hfit)
  rw [lg_entry_eq]
  generalize (lg_sl (gVs X as) ++ List.replicate (maxL - (lg_sl (gVs X as)).length) Slot.unset).toArray = ls at hl ⊢
  rw [hlx] at hl
  have G := body (p, l, e, gRm d 1 6, s, m, (gVs X as).toArray, below, meth, c, vx_MQ below (va_Qi (fun v (_ : Unit) => v = r) (fun _ t => gBs X h' t) (gA X)) (fun _ _ _ => False) (gVs X as).toArray s 1 6 (gA X)) rfl ⟨B.exec, B.bytes, hml, hown, fun w hw => hts w (List.mem_cons_of_mem _ hw), hK, hbase, B.notSynchronized, rfl, hSt⟩ htab ?_
  · exact G s.heap [] ls ⟨hB0.1, va_S.rf, hB0.2, hSh⟩ hl
  · intro cs sl hc hs pc pc' ls hd H locs ls' hR hl2
    obtain ⟨hd, -⟩ := hd
    exact vx_ret (gEx_size hR hbase (fun he => W.widen hc hs (W.iret B.exec B.bytes B.returns (fun t ht hW => ⟨⟨r, (), rfl, rfl, gBs_of hR he ht⟩, hR.2.1.F ht⟩) hR.2.1.2.2 hd B.notSynchronized)))
