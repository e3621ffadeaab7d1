def gRm (d mc ms : Nat) : Room := { frames := d, cells := mc, slots := ms, locals := 41 * d }
theorem gSt_mv {X : gX} {u U : State} (hW : u.WarmedH U.vm) (hh : ∀ q : Nat, q < X.1 → U.heap[q]? = u.heap[q]?) (hs : gSt X u) : gSt X U := by
  obtain ⟨hx, hb, hT, hZ, hS, hr, hZ2, hN, hQ, hO, hU1, hU2, hBd⟩ := hs
  have hq : ∀ a : Nat, a < u.heap.size → ¬ gA X a → U.heap[a]? = u.heap[a]? := fun a _ h => hh a (Nat.not_le.mp h)
  exact ⟨(hx.kept (hh _ hb)).moved hW.alike, hb, (hT.kept hq).moved hW.alike, (hZ.kept hq).moved hW.alike, (hS.kept hq).moved hW.alike, fun i hi => (hr i hi).warm hW, (hZ2.kept hq).moved hW.alike, gNk_mv hW hN, hQ.imp (fun q => (q.kept hq).moved hW.alike) (fun ⟨t, q⟩ => ⟨t, (q.kept hq).moved hW.alike⟩), va_AO.moved hW.alike hO, (hU1.kept hq).moved hW.alike, (hU2.kept hq).moved hW.alike, gBad_mv hW hBd⟩
def gBs (X : gX) (h : gH) (t : State) : Prop := gB X h t ∧ gSh X h
def gMi (l : Launch) (X : gX) (y : MethodName) (b : ByteArray) (maxL : Nat) (ty : FieldType) (d mc ms : Nat) (as : List Value) (h : gH) (r : Int32) (h' : gH) : Prop :=
  Met l y (.code y b maxL (some ty) :: gTk) (gRm d mc ms) (va_Pc (gVs X as) (gPre X h)) (va_Qi (fun v (_ : Unit) => v = r) (fun _ t => gBs X h' t) (gA X)) mc ms (gA X)
def gMl (l : Launch) (X : gX) (y : MethodName) (b : ByteArray) (maxL : Nat) (d mc ms : Nat) (as : List Value) (h : gH) (r : Int64) (h' : gH) : Prop :=
  Met l y (.code y b maxL (some .long) :: gTk) (gRm d mc ms) (va_Pc (gVs X as) (gPre X h)) (va_Ql (fun v (_ : Unit) => v = r) (fun _ t => gBs X h' t) (gA X)) mc ms (gA X)
def gMv (l : Launch) (X : gX) (y : MethodName) (b : ByteArray) (maxL : Nat) (d mc ms : Nat) (as : List Value) (h : gH) (h' : gH) : Prop :=
  Met l y (.code y b maxL none :: gTk) (gRm d mc ms) (va_Pc (gVs X as) (gPre X h)) (va_Qv (fun (_ : Unit) => True) (fun _ t => gBs X h' t) (gA X)) mc ms (gA X)
def gMr (l : Launch) (X : gX) (y : MethodName) (b : ByteArray) (maxL : Nat) (ty : FieldType) (d mc ms : Nat) (as : List Value) (h : gH) (r : Nat) (h' : gH) : Prop :=
  Met l y (.code y b maxL (some ty) :: gTk) (gRm d mc ms) (va_Pc (gVs X as) (gPre X h)) (va_Qr (fun (_ : Unit) => True) (fun _ a t => a = gAd X r ∧ gBs X h' t) (gA X)) mc ms (gA X)
theorem gPre_blind {X : gX} {h : gH} {as : List Value} : FrameBlind (va_Pc as (gPre X h)) := by
  intro a U g mk q
  obtain ⟨q1, q2, q3, q4, q5, q6⟩ := q
  exact ⟨q1, q2, q3, va_K.moved (u := U) (U := U.calling g mk a) (Vm.Alike.refl U.vm) q4, gSt_mv (u := U) (U := U.calling g mk a) (State.WarmedH.refl U) (fun _ _ => rfl) q5, q6⟩
theorem gR_pre {X : gX} {s U : State} {cs : Nat} {h : gH} {H : Heap} {locs : List Loc} (hx : gEx X = false) (hb : X.1 ≤ s.heap.size) (hK : va_K X.2.2.2.1 gCl (gTys X) s) (hSt : gSt X s) (hR : gR X s cs h H locs) (hU : U.heap = H) (hW : s.WarmedH U.vm) : gPre X h U := by
  refine ⟨by rw [hU]; exact Nat.le_trans hb hR.2.1.1, ⟨by rw [hU]; exact hR.1, fun q => by rw [hx] at q; cases q⟩, va_K.moved hW.alike hK, gSt_mv hW (fun q hq => ?_) hSt, hR.2.2.2⟩
  rw [hU]
  exact hR.2.1.2.1 q (Nat.lt_of_lt_of_le hq hb) (Nat.not_le.mpr hq)
theorem gR_post {X : gX} {s t : State} {cs : Nat} {h' : gH} {H1 : Heap} {locs : List Loc} (hx : gEx X = false) (ht : t.heap = H1) (hB : gBs X h' t) (hS : va_S (gA X) s.heap H1 locs) : gR X s cs h' H1 locs :=
  ⟨by rw [← ht]; exact hB.1.1, hS, fun q => (by rw [hx] at q; cases q), hB.2⟩
theorem gGood {y : MethodName} {b : ByteArray} {maxL : Nat} {ret : Option FieldType} (hc : Cond.code y b maxL ret ∈ gTk) : GoodIn gTk (.code y b maxL ret :: gTk) := by
  intro w hw
  rcases List.mem_cons.mp hw with rfl | hw
  · exact gTk_good _ hc
  · exact gTk_good _ hw
/-- what the tables say of a call: of an own method by its object (V), of a nest mate's (N), of none (S, T) -/
def gLy (y : MethodName) (b : ByteArray) (maxL : Nat) (ret : Option FieldType) (n : Nat) : Prop :=
  Cond.initialized y.cls ∈ gTk ∧ Cond.code y b maxL ret ∈ gTk ∧ Nat.ble maxL 22 = true ∧ (y.cls ≠ "java/lang/invoke/MethodHandle" ∧ y.cls ≠ "java/lang/invoke/VarHandle" ∧ (parseMethodDescriptor y.desc).map (fun d => d.parameters.length) = some n)
def gLV (own : String) (idx : Nat) (y : MethodName) : Prop := (Cond.methodLink own idx y ∈ gTk ∨ ∃ host, Cond.methodLinkNest own idx y host ∈ gNk) ∧ Cond.instanceMethod y ∈ gTk ∧ Cond.selects y.cls y y ∈ gTk
def gLS (own : String) (idx : Nat) (y : MethodName) : Prop := (Cond.methodLink own idx y ∈ gTk ∨ ∃ host, Cond.methodLinkNest own idx y host ∈ gNk) ∧ Cond.static y ∈ gTk
/-- the receiver's kind -/
def gcl (h : gH) (a c : Nat) : Option Unit := match h[a]? with
  | some (.inr (c', _)) => if c' = c then some () else none
  | _ => none
theorem gcl_spec {h : gH} {a c : Nat} {u : Unit} (e : gcl h a c = some u) : ∃ fs, h[a]? = some (.inr (c, fs)) := by
  unfold gcl at e
  split at e
  · rename_i c' fs hy
    split at e
    · rename_i q; subst q; exact ⟨fs, hy⟩
    · cases e
  · cases e
def gRc (y : MethodName) (h : gH) (a : Nat) : Prop := (∃ (c : Nat) (T : u_T) (N : Nat), gcl h a c = some () ∧ gCl[c]? = some (y.cls, T, N)) ∨ (y.cls = "java/lang/String" ∧ 2 ≤ a ∧ a < 6)
theorem gRoom {d D maxL mc ms mc' ms' : Nat} (h : Nat.ble maxL 22 = true) (hd : d + 1 ≤ D) : (gRm d mc ms).frames + 1 ≤ (gRm D mc' ms').frames ∧ 8 + (maxL + 11) + (gRm d mc ms).locals ≤ (gRm D mc' ms').locals := by
  have := Nat.le_of_ble_eq_true h
  refine ⟨hd, ?_⟩
  show 8 + (maxL + 11) + 41 * d ≤ 41 * D
  omega
section GCALL
variable {M : gM} {X : gX} {own : String} {cc : ByteArray} {nL : Nat} {cs sl pc pc' : Nat} {ls : List (Nat × Value)} {rest : List Value} {h h' : gH} {y : MethodName} {b : ByteArray} {maxL n d D mc0 ms0 idx a : Nat} {as st : List Value} {ty : FieldType}
theorem gRunV {ret : Option FieldType} {mc ms : Nat} {s1 : Nat} {Qc : Array Value → State → Outcome → State → Prop} {H : Heap} {locs : List Loc} {ls' : Array Slot} (K : gC M X own cc nL (gRm D mc0 ms0)) (hx : gEx X = false) (Ly : gLy y b maxL ret n) (L : gLV own idx y) (hc : gRc y h a) (hn : as.length = n) (hst : st = as.reverse ++ .ref a :: rest) (hcat : (rest.map fun v => v.category).sum ≤ 8) (hdep : d + 1 ≤ D) (hf : cs + mc ≤ mc0 ∧ sl + ms ≤ ms0) (hd : decode cc pc = .ok (.invokevirtual idx, 3))
    (hM : Met M.2.1 y (.code y b maxL ret :: gTk) (gRm d mc ms) (va_Pc (gVs X (.ref a :: as)) (gPre X h)) Qc mc ms (gA X)) (hR : gR X M.2.2.2.2.1 s1 h H locs) (hl : lv_has ls' nL (gLs X ls)) :
    va_Run M.1 M.2.1 M.2.2.1 M.2.2.2.1 M.2.2.2.2.1 M.2.2.2.2.2.1 M.2.2.2.2.2.2.1 M.2.2.2.2.2.2.2.1 M.2.2.2.2.2.2.2.2.1 M.2.2.2.2.2.2.2.2.2.1 H locs cs sl mc ms (F0 M.2.2.2.2.2.1 pc ls' (gVs X st)) (gVs X rest) (Qc (Value.ref (gAd X a) :: gVs X as).toArray) (gA X) := by
  obtain ⟨p, l, e, R, s, m, args, below, meth, c, Q⟩ := M
  obtain ⟨hx1, hb1, hml, hown, hts, hK, hbase, hlk, hRR, hSt⟩ := K
  dsimp only at *
  subst hRR
  have hp : PreV s H y.cls (gAd X a) (va_Pc (gVs X (.ref a :: as)) (gPre X h)) (gVs X as) := by
    refine ⟨gPre_blind, ?_, fun U hU hW => ⟨rfl, gR_pre hx hbase hK hSt hR hU hW⟩⟩
    rcases hc with ⟨ci, T, N, hci, hcl⟩ | ⟨hcs, h2, h6⟩
    · obtain ⟨fs, hfs⟩ := gcl_spec hci
      exact va_recv hK hR.1 hcl (gWs_at (X := X) hfs (gSp_2o hR.2.2.2 hfs))
    · rw [hcs, gAd_s X h2 h6]
      exact vk_recv hSt.2.2.2.2.1 (by omega) hR.2.1
  have hst' : (F0 m pc ls' (gVs X st)).stack = (gVs X as).reverse ++ .ref (gAd X a) :: gVs X rest := by
    show gVs X st = _
    rw [hst]; unfold gVs; rw [List.map_append, List.map_reverse]; rfl
  have hn' : (gVs X as).length = n := by unfold gVs; rw [List.length_map]; exact hn
  have hW : 2 * (F0 m pc ls' (gVs X st)).monitorRoom + ((gVs X rest).map fun v => v.category).sum ≤ 8 := lv_room (by rw [gVs_cat]; exact hcat)
  have hcb : CallB (gRm D mc0 ms0) s args own idx y b maxL ret (.code y b maxL ret :: gTk) (gRm d mc ms) mc ms n ∨ ∃ host, va_CN (gRm D mc0 ms0) s args own idx y host b maxL ret (.code y b maxL ret :: gTk) (gRm d mc ms) mc ms n := by
    rcases L.1 with hl1 | ⟨host, hl1⟩
    · exact Or.inl (callB_of n hts (gGood Ly.2.1) rfl rfl rfl (hts _ Ly.1) (hts _ hl1) Ly.2.2.2 (gRoom Ly.2.2.1 hdep))
    · exact Or.inr ⟨host, va_cnB n hts (gGood Ly.2.1) rfl rfl rfl (hSt.2.2.2.2.2.2.2.1 _ hl1) (hts _ Ly.1) Ly.2.2.2 (gRoom Ly.2.2.1 hdep)⟩
  rcases hcb with hcb | ⟨host, hcb⟩
  · exact va_runV ⟨hx1, hb1, hml, hown, hts⟩ hM ⟨hcb, hts _ L.2.1, hts _ L.2.2⟩ hp rfl hn' hl.1 hst' hW hd hf
  · exact va_runVN ⟨hx1, hb1, hml, hown, hts⟩ hM ⟨hcb, hts _ L.2.1, hts _ L.2.2⟩ hp rfl hn' hl.1 hst' hW hd hf
theorem gRunS {ret : Option FieldType} {mc ms : Nat} {s1 : Nat} {Qc : Array Value → State → Outcome → State → Prop} {H : Heap} {locs : List Loc} {ls' : Array Slot} (K : gC M X own cc nL (gRm D mc0 ms0)) (hx : gEx X = false) (Ly : gLy y b maxL ret n) (L : gLS own idx y) (hn : as.length = n) (hst : st = as.reverse ++ rest) (hcat : (rest.map fun v => v.category).sum ≤ 8) (hdep : d + 1 ≤ D) (hf : cs + mc ≤ mc0 ∧ sl + ms ≤ ms0) (hd : decode cc pc = .ok (.invokestatic idx, 3))
    (hM : Met M.2.1 y (.code y b maxL ret :: gTk) (gRm d mc ms) (va_Pc (gVs X as) (gPre X h)) Qc mc ms (gA X)) (hR : gR X M.2.2.2.2.1 s1 h H locs) (hl : lv_has ls' nL (gLs X ls)) :
    va_Run M.1 M.2.1 M.2.2.1 M.2.2.2.1 M.2.2.2.2.1 M.2.2.2.2.2.1 M.2.2.2.2.2.2.1 M.2.2.2.2.2.2.2.1 M.2.2.2.2.2.2.2.2.1 M.2.2.2.2.2.2.2.2.2.1 H locs cs sl mc ms (F0 M.2.2.2.2.2.1 pc ls' (gVs X st)) (gVs X rest) (Qc (gVs X as).toArray) (gA X) := by
  obtain ⟨p, l, e, R, s, m, args, below, meth, c, Q⟩ := M
  obtain ⟨hx1, hb1, hml, hown, hts, hK, hbase, hlk, hRR, hSt⟩ := K
  dsimp only at *
  subst hRR
  have hp : PreS s H (va_Pc (gVs X as) (gPre X h)) (gVs X as) := ⟨gPre_blind, fun U hU hW => ⟨rfl, gR_pre hx hbase hK hSt hR hU hW⟩⟩
  have hst' : (F0 m pc ls' (gVs X st)).stack = (gVs X as).reverse ++ gVs X rest := by
    show gVs X st = _
    rw [hst]; unfold gVs; rw [List.map_append, List.map_reverse]
  have hn' : (gVs X as).length = n := by unfold gVs; rw [List.length_map]; exact hn
  have hW : 2 * (F0 m pc ls' (gVs X st)).monitorRoom + ((gVs X rest).map fun v => v.category).sum ≤ 8 := lv_room (by rw [gVs_cat]; exact hcat)
  rcases L.1 with hl1 | ⟨host, hl1⟩
  · exact va_runS ⟨hx1, hb1, hml, hown, hts⟩ hM ⟨callB_of n hts (gGood Ly.2.1) rfl rfl rfl (hts _ Ly.1) (hts _ hl1) Ly.2.2.2 (gRoom Ly.2.2.1 hdep), hts _ L.2⟩ hp rfl hn' hl.1 hst' hW hd hf
  · exact va_runSN ⟨hx1, hb1, hml, hown, hts⟩ hM ⟨va_cnB n hts (gGood Ly.2.1) rfl rfl rfl (hSt.2.2.2.2.2.2.2.1 _ hl1) (hts _ Ly.1) Ly.2.2.2 (gRoom Ly.2.2.1 hdep), hts _ L.2, trivial⟩ hp rfl hn' hl.1 hst' hW hd hf
-- ===== calls, by what they answer =====
theorem g_callVi {r : Int32} (K : gC M X own cc nL (gRm D mc0 ms0)) (hx : gEx X = false) (Ly : gLy y b maxL (some ty) n) (L : gLV own idx y) (hd : gD cc pc (.invokevirtual idx) 3 pc') (hM : gRc y h a ∧ gMi M.2.1 X y b maxL ty d 0 0 (.ref a :: as) h r h') (hn : as.length = n) (hst : st = as.reverse ++ .ref a :: rest) (hcat : (rest.map fun v => v.category).sum ≤ 8) (hdep : d + 1 ≤ D) (hf : cs ≤ mc0 ∧ sl ≤ ms0) (kk : gG M X nL cs sl pc' ls (.int r :: rest) h') : gG M X nL cs sl pc ls st h := by
  obtain ⟨hd, rfl⟩ := hd
  intro H locs ls' hR hl
  refine va_calli (gRunV K hx Ly L hM.1 hn hst hcat hdep (mc := 0) (ms := 0) hf hd hM.2 hR hl) hR.2.1 (fun q _ h => h) (fun q h => h) (fun r1 u t H1 locs1 ht hvm hw hB hz hk hS => ?_)
  subst hw
  exact kk H1 locs1 ls' (gR_post hx ht hB hS) hl
theorem g_callVl {r : Int64} (K : gC M X own cc nL (gRm D mc0 ms0)) (hx : gEx X = false) (Ly : gLy y b maxL (some .long) n) (L : gLV own idx y) (hd : gD cc pc (.invokevirtual idx) 3 pc') (hM : gRc y h a ∧ gMl M.2.1 X y b maxL d 0 0 (.ref a :: as) h r h') (hn : as.length = n) (hst : st = as.reverse ++ .ref a :: rest) (hcat : (rest.map fun v => v.category).sum ≤ 8) (hdep : d + 1 ≤ D) (hf : cs ≤ mc0 ∧ sl ≤ ms0) (kk : gG M X nL cs sl pc' ls (.long r :: rest) h') : gG M X nL cs sl pc ls st h := by
  obtain ⟨hd, rfl⟩ := hd
  intro H locs ls' hR hl
  refine va_calll (gRunV K hx Ly L hM.1 hn hst hcat hdep (mc := 0) (ms := 0) hf hd hM.2 hR hl) hR.2.1 (fun q _ h => h) (fun q h => h) (fun r1 u t H1 locs1 ht hvm hw hB hz hk hS => ?_)
  subst hw
  exact kk H1 locs1 ls' (gR_post hx ht hB hS) hl
theorem g_callVv (K : gC M X own cc nL (gRm D mc0 ms0)) (hx : gEx X = false) (Ly : gLy y b maxL none n) (L : gLV own idx y) (hd : gD cc pc (.invokevirtual idx) 3 pc') (hM : gRc y h a ∧ gMv M.2.1 X y b maxL d 0 0 (.ref a :: as) h h') (hn : as.length = n) (hst : st = as.reverse ++ .ref a :: rest) (hcat : (rest.map fun v => v.category).sum ≤ 8) (hdep : d + 1 ≤ D) (hf : cs ≤ mc0 ∧ sl ≤ ms0) (kk : gG M X nL cs sl pc' ls rest h') : gG M X nL cs sl pc ls st h := by
  obtain ⟨hd, rfl⟩ := hd
  intro H locs ls' hR hl
  refine va_callv (gRunV K hx Ly L hM.1 hn hst hcat hdep (mc := 0) (ms := 0) hf hd hM.2 hR hl) hR.2.1 (fun q _ h => h) (fun q h => h) (fun u t H1 locs1 ht hvm hw hB hz hk hS => ?_)
  exact kk H1 locs1 ls' (gR_post hx ht hB hS) hl
theorem g_callSi {r : Int32} (K : gC M X own cc nL (gRm D mc0 ms0)) (hx : gEx X = false) (Ly : gLy y b maxL (some ty) n) (L : gLS own idx y) (hd : gD cc pc (.invokestatic idx) 3 pc') (hM : gMi M.2.1 X y b maxL ty d 0 0 as h r h') (hn : as.length = n) (hst : st = as.reverse ++ rest) (hcat : (rest.map fun v => v.category).sum ≤ 8) (hdep : d + 1 ≤ D) (hf : cs ≤ mc0 ∧ sl ≤ ms0) (kk : gG M X nL cs sl pc' ls (.int r :: rest) h') : gG M X nL cs sl pc ls st h := by
  obtain ⟨hd, rfl⟩ := hd
  intro H locs ls' hR hl
  refine va_calli (gRunS K hx Ly L hn hst hcat hdep (mc := 0) (ms := 0) hf hd hM hR hl) hR.2.1 (fun q _ h => h) (fun q h => h) (fun r1 u t H1 locs1 ht hvm hw hB hz hk hS => ?_)
  subst hw
  exact kk H1 locs1 ls' (gR_post hx ht hB hS) hl
theorem g_callSl {r : Int64} (K : gC M X own cc nL (gRm D mc0 ms0)) (hx : gEx X = false) (Ly : gLy y b maxL (some .long) n) (L : gLS own idx y) (hd : gD cc pc (.invokestatic idx) 3 pc') (hM : gMl M.2.1 X y b maxL d 0 0 as h r h') (hn : as.length = n) (hst : st = as.reverse ++ rest) (hcat : (rest.map fun v => v.category).sum ≤ 8) (hdep : d + 1 ≤ D) (hf : cs ≤ mc0 ∧ sl ≤ ms0) (kk : gG M X nL cs sl pc' ls (.long r :: rest) h') : gG M X nL cs sl pc ls st h := by
  obtain ⟨hd, rfl⟩ := hd
  intro H locs ls' hR hl
  refine va_calll (gRunS K hx Ly L hn hst hcat hdep (mc := 0) (ms := 0) hf hd hM hR hl) hR.2.1 (fun q _ h => h) (fun q h => h) (fun r1 u t H1 locs1 ht hvm hw hB hz hk hS => ?_)
  subst hw
  exact kk H1 locs1 ls' (gR_post hx ht hB hS) hl
theorem g_callSv (K : gC M X own cc nL (gRm D mc0 ms0)) (hx : gEx X = false) (Ly : gLy y b maxL none n) (L : gLS own idx y) (hd : gD cc pc (.invokestatic idx) 3 pc') (hM : gMv M.2.1 X y b maxL d 0 0 as h h') (hn : as.length = n) (hst : st = as.reverse ++ rest) (hcat : (rest.map fun v => v.category).sum ≤ 8) (hdep : d + 1 ≤ D) (hf : cs ≤ mc0 ∧ sl ≤ ms0) (kk : gG M X nL cs sl pc' ls rest h') : gG M X nL cs sl pc ls st h := by
  obtain ⟨hd, rfl⟩ := hd
  intro H locs ls' hR hl
  refine va_callv (gRunS K hx Ly L hn hst hcat hdep (mc := 0) (ms := 0) hf hd hM hR hl) hR.2.1 (fun q _ h => h) (fun q h => h) (fun u t H1 locs1 ht hvm hw hB hz hk hS => ?_)
  exact kk H1 locs1 ls' (gR_post hx ht hB hS) hl
theorem g_callSr {r : Nat} (K : gC M X own cc nL (gRm D mc0 ms0)) (hx : gEx X = false) (Ly : gLy y b maxL (some ty) n) (L : gLS own idx y) (hd : gD cc pc (.invokestatic idx) 3 pc') (hM : gMr M.2.1 X y b maxL ty d 0 0 as h r h') (hn : as.length = n) (hst : st = as.reverse ++ rest) (hcat : (rest.map fun v => v.category).sum ≤ 8) (hdep : d + 1 ≤ D) (hf : cs ≤ mc0 ∧ sl ≤ ms0) (kk : gG M X nL cs sl pc' ls (.ref r :: rest) h') : gG M X nL cs sl pc ls st h := by
  obtain ⟨hd, rfl⟩ := hd
  intro H locs ls' hR hl
  refine va_callr (gRunS K hx Ly L hn hst hcat hdep (mc := 0) (ms := 0) hf hd hM hR hl) hR.2.1 (fun q _ h => h) (fun q h => h) (fun u ra t H1 locs1 ht hvm hw hB hz hk hS => ?_)
  obtain ⟨rfl, hB⟩ := hB
  exact kk H1 locs1 ls' (gR_post hx ht hB hS) hl
end GCALL
-- ===== a method from its entry to its return =====
theorem gEx_size {X : gX} {p : Program} {l : Launch} {e : Env} {R : Room} {s : State} {m : MethodId} {args : Array Value} {below : List Frame} {meth : Method} {c : Code} {H : Heap} {locs : List Loc} {cells slots : Nat} {Q : State → Prop} {g : JFrame} {h : gH} (hR : gR X s cells h H locs) (hb : X.1 ≤ s.heap.size) (k : (gEx X = true → H.size + 10 = X.1 + h.length) → W p l e R s m args below meth c H locs cells slots Q g) : W p l e R s m args below meth c H locs cells slots Q g := by
  intro T hT S
  refine k (fun q => ?_) T hT S
  have h1 := S.heapSize
  rw [hT] at h1
  have h2 := hR.2.2.1 q
  have h3 : X.1 + h.length ≤ H.size + 10 := by
    by_cases z : h.length ≤ 10
    · have := hR.2.1.1
      omega
    · have hlt : h.length - 1 < h.length := by omega
      have hw := gWs_at (X := X) (List.getElem?_eq_getElem hlt) (by omega)
      have hl2 := (hR.1 _ _ hw).lt
      have e : gAd X (h.length - 1) = X.1 + (h.length - 1 - 10) := by unfold gAd; rw [if_neg (by omega), if_neg (by omega), if_neg (by omega), if_neg (by omega)]
      dsimp only at hl2
      rw [e] at hl2
      omega
  omega
section GMET
variable {l : Launch} {X : gX} {y : MethodName} {b : ByteArray} {maxL d mc ms : Nat} {ty : FieldType} {as : List Value} {lsx : List (Nat × Value)} {h h' : gH}
theorem gBs_of {s t : State} {cs : Nat} {H : Heap} {locs : List Loc} (hR : gR X s cs h H locs) (he : gEx X = true → H.size + 10 = X.1 + h.length) (ht : t.heap = H) : gBs X h t :=
  ⟨⟨by rw [ht]; exact hR.1, by rw [ht]; exact he⟩, hR.2.2.2⟩
theorem gMet_i {r : Int32} (hy : plainName y.cls = true) (hlx : lv_args 0 (gVs X as) = gLs X lsx) (hfit : Nat.ble (lg_sl (gVs X as)).length maxL = true)
    (body : ∀ M : gM, M.2.1 = l → gC M X y.cls b maxL (gRm d mc ms) → (narrow ty (.int r) = .int r → ∀ pc pc' ls, gD b pc .ireturn 1 pc' → gG M X maxL mc ms pc ls [.int r] h') → gG M X maxL 0 0 0 lsx [] h) : gMi l X y b maxL ty d mc ms as h r h' := by
  unfold gMi
  refine Met.ofW (cc := b) (maxL := maxL) (ret := some ty) hy rfl ?_
  intro p e s m args below meth c s₁ B hml hv
  obtain ⟨rfl, hbase, hB0, hK, hSt, hSh⟩ := hv
  have hts := atoms_spec (ws := Cond.code y b maxL (some ty) :: gTk) B.pre
  have hown : s.vm.findClass y.cls = some m.cls := findClass_of_methodNamed B.named
  have hl := lv_entry (gVs X as) (n := maxL) (Nat.le_of_ble_eq_true hfit)
  rw [lg_entry_eq]
  generalize (lg_sl (gVs X as) ++ List.replicate (maxL - (lg_sl (gVs X as)).length) Slot.unset).toArray = ls at hl ⊢
  rw [hlx] at hl
  have G := body (p, l, e, gRm d mc ms, s, m, (gVs X as).toArray, below, meth, c, MQ below (va_Qi (fun v (_ : Unit) => v = r) (fun _ t => gBs X h' t) (gA X)) (gVs X as).toArray s mc ms (gA X)) rfl ⟨B.exec, B.bytes, hml, hown, fun w hw => hts w (List.mem_cons_of_mem _ hw), hK, hbase, B.notSynchronized, rfl, hSt⟩ ?_
  · exact G s.heap [] ls ⟨hB0.1, va_S.rf, hB0.2, hSh⟩ hl
  · intro hn pc pc' ls hd H locs ls' hR hl2
    obtain ⟨hd, -⟩ := hd
    exact gEx_size hR hbase (fun he => W.zret (ty := ty) B.exec B.bytes B.returns hn (fun t ht hW => ⟨⟨r, (), rfl, rfl, gBs_of hR he ht⟩, hR.2.1.F ht⟩) hR.2.1.2.2 hd B.notSynchronized)
theorem gMet_l {r : Int64} (hy : plainName y.cls = true) (hlx : lv_args 0 (gVs X as) = gLs X lsx) (hfit : Nat.ble (lg_sl (gVs X as)).length maxL = true)
    (body : ∀ M : gM, M.2.1 = l → gC M X y.cls b maxL (gRm d mc ms) → (∀ pc pc' ls, gD b pc .lreturn 1 pc' → gG M X maxL mc ms pc ls [.long r] h') → gG M X maxL 0 0 0 lsx [] h) : gMl l X y b maxL d mc ms as h r h' := by
  unfold gMl
  refine Met.ofW (cc := b) (maxL := maxL) (ret := some .long) hy rfl ?_
  intro p e s m args below meth c s₁ B hml hv
  obtain ⟨rfl, hbase, hB0, hK, hSt, hSh⟩ := hv
  have hts := atoms_spec (ws := Cond.code y b maxL (some .long) :: gTk) B.pre
  have hown : s.vm.findClass y.cls = some m.cls := findClass_of_methodNamed B.named
  have hl := lv_entry (gVs X as) (n := maxL) (Nat.le_of_ble_eq_true hfit)
  rw [lg_entry_eq]
  generalize (lg_sl (gVs X as) ++ List.replicate (maxL - (lg_sl (gVs X as)).length) Slot.unset).toArray = ls at hl ⊢
  rw [hlx] at hl
  have G := body (p, l, e, gRm d mc ms, s, m, (gVs X as).toArray, below, meth, c, MQ below (va_Ql (fun v (_ : Unit) => v = r) (fun _ t => gBs X h' t) (gA X)) (gVs X as).toArray s mc ms (gA X)) rfl ⟨B.exec, B.bytes, hml, hown, fun w hw => hts w (List.mem_cons_of_mem _ hw), hK, hbase, B.notSynchronized, rfl, hSt⟩ ?_
  · exact G s.heap [] ls ⟨hB0.1, va_S.rf, hB0.2, hSh⟩ hl
  · intro pc pc' ls hd H locs ls' hR hl2
    obtain ⟨hd, -⟩ := hd
    exact gEx_size hR hbase (fun he => W.lret B.exec B.bytes B.returns (fun t ht hW => ⟨⟨r, (), rfl, rfl, gBs_of hR he ht⟩, hR.2.1.F ht⟩) hR.2.1.2.2 hd B.notSynchronized)
theorem gMet_v (hy : plainName y.cls = true) (hlx : lv_args 0 (gVs X as) = gLs X lsx) (hfit : Nat.ble (lg_sl (gVs X as)).length maxL = true)
    (body : ∀ M : gM, M.2.1 = l → gC M X y.cls b maxL (gRm d mc ms) → (∀ pc pc' ls, gD b pc .return_ 1 pc' → gG M X maxL mc ms pc ls [] h') → gG M X maxL 0 0 0 lsx [] h) : gMv l X y b maxL d mc ms as h h' := by
  unfold gMv
  refine Met.ofW (cc := b) (maxL := maxL) (ret := none) hy rfl ?_
  intro p e s m args below meth c s₁ B hml hv
  obtain ⟨rfl, hbase, hB0, hK, hSt, hSh⟩ := hv
  have hts := atoms_spec (ws := Cond.code y b maxL none :: gTk) B.pre
  have hown : s.vm.findClass y.cls = some m.cls := findClass_of_methodNamed B.named
  have hl := lv_entry (gVs X as) (n := maxL) (Nat.le_of_ble_eq_true hfit)
  rw [lg_entry_eq]
  generalize (lg_sl (gVs X as) ++ List.replicate (maxL - (lg_sl (gVs X as)).length) Slot.unset).toArray = ls at hl ⊢
  rw [hlx] at hl
  have G := body (p, l, e, gRm d mc ms, s, m, (gVs X as).toArray, below, meth, c, MQ below (va_Qv (fun (_ : Unit) => True) (fun _ t => gBs X h' t) (gA X)) (gVs X as).toArray s mc ms (gA X)) rfl ⟨B.exec, B.bytes, hml, hown, fun w hw => hts w (List.mem_cons_of_mem _ hw), hK, hbase, B.notSynchronized, rfl, hSt⟩ ?_
  · exact G s.heap [] ls ⟨hB0.1, va_S.rf, hB0.2, hSh⟩ hl
  · intro pc pc' ls hd H locs ls' hR hl2
    obtain ⟨hd, -⟩ := hd
    exact gEx_size hR hbase (fun he => W.vret B.exec B.bytes B.returns (fun t ht hW => ⟨⟨(), rfl, trivial, gBs_of hR he ht⟩, hR.2.1.F ht⟩) hR.2.1.2.2 hd B.notSynchronized)
theorem gMet_r {r : Nat} (hy : plainName y.cls = true) (hrt : (∃ n, ty = .object n) ∨ ∃ t, ty = .array t) (hlx : lv_args 0 (gVs X as) = gLs X lsx) (hfit : Nat.ble (lg_sl (gVs X as)).length maxL = true)
    (body : ∀ M : gM, M.2.1 = l → gC M X y.cls b maxL (gRm d mc ms) → (∀ pc pc' ls, gD b pc .areturn 1 pc' → gG M X maxL mc ms pc ls [.ref r] h') → gG M X maxL 0 0 0 lsx [] h) : gMr l X y b maxL ty d mc ms as h r h' := by
  unfold gMr
  refine Met.ofW (cc := b) (maxL := maxL) (ret := some ty) hy rfl ?_
  intro p e s m args below meth c s₁ B hml hv
  obtain ⟨rfl, hbase, hB0, hK, hSt, hSh⟩ := hv
  have hts := atoms_spec (ws := Cond.code y b maxL (some ty) :: gTk) B.pre
  have hown : s.vm.findClass y.cls = some m.cls := findClass_of_methodNamed B.named
  have hl := lv_entry (gVs X as) (n := maxL) (Nat.le_of_ble_eq_true hfit)
  rw [lg_entry_eq]
  generalize (lg_sl (gVs X as) ++ List.replicate (maxL - (lg_sl (gVs X as)).length) Slot.unset).toArray = ls at hl ⊢
  rw [hlx] at hl
  have G := body (p, l, e, gRm d mc ms, s, m, (gVs X as).toArray, below, meth, c, MQ below (va_Qr (fun (_ : Unit) => True) (fun _ a t => a = gAd X r ∧ gBs X h' t) (gA X)) (gVs X as).toArray s mc ms (gA X)) rfl ⟨B.exec, B.bytes, hml, hown, fun w hw => hts w (List.mem_cons_of_mem _ hw), hK, hbase, B.notSynchronized, rfl, hSt⟩ ?_
  · exact G s.heap [] ls ⟨hB0.1, va_S.rf, hB0.2, hSh⟩ hl
  · intro pc pc' ls hd H locs ls' hR hl2
    obtain ⟨hd, -⟩ := hd
    exact gEx_size hR hbase (fun he => W.aret B.exec B.bytes B.returns hrt (Or.inr ⟨_, rfl⟩) (fun t ht hW => ⟨⟨(), gAd X r, rfl, trivial, rfl, gBs_of hR he ht⟩, hR.2.1.F ht⟩) hR.2.1.2.2 hd B.notSynchronized)
end GMET
