/-! making: only where no other cell was made (gEx X = true) -/
theorem gSh_len {X : gX} {h : gH} (hs : gSh X h) : 10 ≤ h.length := by
  have h9 := hs.2.2.2 3 (by omega)
  have := (List.getElem?_eq_some_iff.mp h9).1
  omega
theorem gSh_app {X : gX} {h : gH} (hs : gSh X h) (c : gMC) : gSh X (h ++ [c]) := by
  have hl := gSh_len hs
  obtain ⟨h0, h1, h3, h4⟩ := hs
  exact ⟨by rw [List.getElem?_append_left (by omega)]; exact h0, by rw [List.getElem?_append_left (by omega)]; exact h1, fun i hi hj => by rw [List.getElem?_append_left (by omega)]; exact h3 i hi hj, fun i hi => by rw [List.getElem?_append_left (by omega)]; exact h4 i hi⟩
theorem gWs_app {X : gX} {h : gH} {c : gMC} (h10 : 10 ≤ h.length) : gWs X (h ++ [c]) = gWs X h ++ [(gAd X h.length, gT X c)] := by
  have e : gAd X h.length = X.1 + (h.length - 10) := by unfold gAd; rw [if_neg (by omega), if_neg (by omega), if_neg (by omega), if_neg (by omega)]
  unfold gWs
  rw [List.drop_append_of_le_length h10, List.mapIdx_append]
  simp [e]
theorem gR_app {X : gX} {s : State} {cs : Nat} {h : gH} {H H1 : Heap} {locs : List Loc} {c : gMC} (hR : gR X s cs h H locs) (he : H.size + 10 = X.1 + h.length) (hc : va_at X.2.2.2.1 gCl (gAd X h.length, gT X c) H1) (z1 : H1.size = H.size + 1) (o1 : ∀ q, q < H.size → H1[q]? = H[q]?) : gR X s (cs + 1) (h ++ [c]) H1 locs := by
  have h10 := gSh_len hR.2.2.2
  refine ⟨?_, ⟨Nat.le_trans hR.2.1.1 (by omega), fun x h1 h2 => (o1 x (Nat.lt_of_lt_of_le h1 hR.2.1.1)).trans (hR.2.1.2.1 x h1 h2), hR.2.1.2.2⟩, fun q => ?_, gSh_app hR.2.2.2 c⟩
  · rw [gWs_app h10]
    refine va_P.app (hR.1.kept (fun k x hx => o1 x.1 ((hR.1 k x hx).lt))) (fun k x hx => ?_)
    have hz : k < 1 := (List.getElem?_eq_some_iff.mp hx).1
    rw [show k = 0 by omega] at hx
    cases hx
    exact hc
  · have := hR.2.2.1 q
    rw [List.length_append]
    show _ = X.1 + (h.length + 1)
    omega
theorem gAd_len {X : gX} {h : gH} {H : Heap} (hs : gSh X h) (he : H.size + 10 = X.1 + h.length) : gAd X h.length = H.size := by
  have h10 := gSh_len hs
  unfold gAd
  rw [if_neg (by omega), if_neg (by omega), if_neg (by omega), if_neg (by omega)]
  omega
def gLI (own : String) (idx : Nat) (y : MethodName) : Prop := (Cond.methodLink own idx y ∈ gTk ∨ ∃ host, Cond.methodLinkNest own idx y host ∈ gNk) ∧ Cond.instanceMethod y ∈ gTk ∧ y.name = "<init>"
def gFq (own : String) (idx ci k : Nat) (ty : FieldType) : Prop := ∃ (T : u_T) (N : Nat) (ty0 : Nat → FieldType), gCl[ci]? = some (own, T, N) ∧ (∀ w ∈ u_ws own T N, w ∈ gTk) ∧ k < N ∧ (T k).1 = own ∧ Cond.fieldLink own idx own (T k).2.1 (T k).2.2.1 ∈ gTk ∧
  (∀ k, k < N → parseFieldDescriptor (T k).2.2.1 = some (ty0 k)) ∧ (∀ a, a < N → ∀ b, b < N → a ≠ b → (T a).2.1 ≠ (T b).2.1) ∧ parseFieldDescriptor (T k).2.2.1 = some ty ∧ (T k).2.2.2 = true
def nO (ci : Nat) (fs : List Value) (h : gH) : Option gH := some (h ++ [.inr (ci, fs)])
def nA (t n : Nat) (h : gH) : Option gH := some (h ++ [.inl (t, n, if t = 4 then .inr (.inl (fun _ => 0)) else if t = 5 then .inr (.inr (.inr (.inr (fun _ => none)))) else .inl (fun _ => 0))])
section GNEW
variable {M : gM} {X : gX} {own : String} {cc : ByteArray} {nL : Nat} {cs sl pc pc' idx : Nat} {ls : List (Nat × Value)} {rest st : List Value} {h h' : gH} {D mc0 ms0 d n a : Nat}
theorem g_objInit (K : gC M X own cc nL (gRm D mc0 ms0)) (hd : gD cc pc (.invokespecial idx) 3 pc') (hl : Cond.methodLink own idx objectInit ∈ gTk) (hD : 1 ≤ D) (hcat : (rest.map fun v => v.category).sum ≤ 8) (kk : gG M X nL cs sl pc' ls rest h) : gG M X nL cs sl pc ls (.ref a :: rest) h := by
  obtain ⟨hd, rfl⟩ := hd
  intro H locs ls' hR hl2
  have hRR := K.2.2.2.2.2.2.2.2.1
  refine W.objInit (g := F0 M.2.2.2.2.2.1 pc ls' (gVs X (.ref a :: rest))) K.1 K.2.1 K.2.2.2.1 (K.2.2.2.2.1 _ hl) (K.2.2.2.2.1 _ (gTk_1 30 rfl rfl)) (K.2.2.2.2.1 _ (gTk_1 31 rfl rfl)) rfl (hl2.1.trans K.2.2.1.symm) rfl hd (by rw [hRR]; exact hD) (by
    rw [hRR]
    show 2 * 0 + ((gVs X rest).map fun v => v.category).sum + 12 ≤ 41 * D
    rw [gVs_cat]
    omega) (kk H locs ls' hR hl2)
theorem g_newa {x : Int32} {t k : Nat} {at_ : ArrayType} {ty : FieldType} {h1 : gH} (K : gC M X own cc nL (gRm D mc0 ms0)) (hx : gEx X = true) (hd : gD cc pc (.newarray at_) 2 pc') (hty : newarray.typeOf at_ = ty) (htt : (gTys X)[t]? = some (X.2.2.2.2.1 t, ty)) (hra : ∀ cA, va_RA M.2.2.2.2.1 cA ty → M.2.2.2.2.1.vm.findClass ("[" ++ ty.toString) = some cA) (harr : Cond.arrayClass ty ∈ gTk) (hk : x.toNatClampNeg = k) (h0 : decide (x < 0) = false) (hby : Nat.ble (k * componentBytes ty) 536870912 = true) (hcs : cs + 1 ≤ mc0) (hsl : sl + k ≤ ms0)
    (e : nA t k h = some h1) (ha : vp_cell (X.2.2.2.2.1 t) (gTA X (k, if t = 4 then .inr (.inl (fun _ => 0)) else if t = 5 then .inr (.inr (.inr (.inr (fun _ => none)))) else .inl (fun _ => 0))) = arrV (X.2.2.2.2.1 t) k (fun _ => defaultValue ty))
    (kk : gG M X nL (cs + 1) (sl + k) pc' ls (.ref h.length :: rest) h1) : gG M X nL cs sl pc ls (.int x :: rest) h := by
  obtain ⟨hd, rfl⟩ := hd
  subst hty
  cases e
  obtain ⟨p, l, e, R, s, m, args, below, meth, c, Q⟩ := M
  intro H locs ls' hR hl
  obtain ⟨hx1, hb1, hml, hown, hts, hK, hbase, hlk, hRR, hSt⟩ := K
  dsimp only at *
  subst hRR
  refine gEx_size hR hbase (fun he => ?_)
  have he1 := he hx
  have had := gAd_len hR.2.2.2 he1
  refine va_newaK (g := F0 m pc ls' (gVs X (.int x :: rest))) hx1 hb1 (hts _ harr) rfl hd rfl (of_decide_eq_false h0) hk (Nat.le_of_ble_eq_true hby) hcs hsl rfl (fun H' cA e1 z1 o1 hAr hNm => ?_)
  have hcA : cA = X.2.2.2.2.1 t := Option.some.inj (hNm.symm.trans (hra _ (hK.2 t _ htt).2))
  have k1 := kk H' locs ls' (gR_app hR he1 (by
    show H'[gAd X h.length]? = some (vp_cell (X.2.2.2.2.1 t) (gTA X (k, _)))
    rw [ha, had, ← hcA]; exact e1) z1 o1) hl
  have e2 : gVs X (.ref h.length :: rest) = .ref H.size :: gVs X rest := by rw [← had]; rfl
  rw [e2] at k1
  exact k1
theorem g_anew {x : Int32} {k : Nat} {h1 : gH} (K : gC M X own cc nL (gRm D mc0 ms0)) (hx : gEx X = true) (hd : gD cc pc (.anewarray idx) 3 pc') (hcl : Cond.classLink own idx "FullStopWells$State" ∈ gTk) (hk : x.toNatClampNeg = k) (h0 : decide (x < 0) = false) (hby : Nat.ble (k * 4) 536870912 = true) (hcs : cs + 1 ≤ mc0) (hsl : sl + k ≤ ms0)
    (e : nA 5 k h = some h1) (kk : gG M X nL (cs + 1) (sl + k) pc' ls (.ref h.length :: rest) h1) : gG M X nL cs sl pc ls (.int x :: rest) h := by
  obtain ⟨hd, rfl⟩ := hd
  cases e
  obtain ⟨p, l, e, R, s, m, args, below, meth, c, Q⟩ := M
  intro H locs ls' hR hl
  obtain ⟨hx1, hb1, hml, hown, hts, hK, hbase, hlk, hRR, hSt⟩ := K
  dsimp only at *
  subst hRR
  refine gEx_size hR hbase (fun he => ?_)
  have he1 := he hx
  have had := gAd_len hR.2.2.2 he1
  subst hk
  refine W.anew (g := F0 m pc ls' (gVs X (.int x :: rest))) hx1 hb1 hown (hts _ hcl) (va_AO.use hSt.2.2.2.2.2.2.2.2.2.1) rfl hd rfl (of_decide_eq_false h0) (Nat.le_of_ble_eq_true hby) hcs hsl fun cA kA comp f1 f2 f3 f4 => ?_
  obtain ⟨kA2, comp2, g1, g2, g3, g4⟩ := (hK.2 5 (X.2.2.2.2.1 5, .object "FullStopWells$State") rfl).2
  have hcA : cA = X.2.2.2.2.1 5 := Option.some.inj (f1.symm.trans g4)
  generalize hH1 : H.push ({ cls := cA, slots := Array.replicate x.toNatClampNeg .null, vm := .none } : Cell) = H1
  have z1 : H1.size = H.size + 1 := by rw [← hH1, Array.size_push]
  have e1 : H1[H.size]? = some (arrV cA x.toNatClampNeg (fun _ => .null)) := by rw [← hH1, Array.getElem?_push_size, ← arrV_new]
  have o1 : ∀ q : Nat, q < H.size → H1[q]? = H[q]? := fun q hq => by rw [← hH1, Array.getElem?_push, if_neg (Nat.ne_of_lt hq)]
  have k1 := kk H1 locs ls' (gR_app hR he1 (by
    show H1[gAd X h.length]? = some (vp_cell (X.2.2.2.2.1 5) (gTA X (x.toNatClampNeg, .inr (.inr (.inr (.inr (fun _ => none)))))))
    rw [had, ← hcA]; exact e1) z1 o1) hl
  have e2 : gVs X (.ref h.length :: rest) = .ref H.size :: gVs X rest := by rw [← had]; rfl
  rw [e2] at k1
  exact k1
theorem g_new {ci N : Nat} {C : String} {T : u_T} {ty0 : Nat → FieldType} {fs : List Value} {h1 : gH} (K : gC M X own cc nL (gRm D mc0 ms0)) (hx : gEx X = true) (hd : gD cc pc (.new idx) 3 pc') (hci : gCl[ci]? = some (C, T, N)) (hin : ∀ w ∈ u_ws C T N, w ∈ gTk) (hty : ∀ k, k < N → parseFieldDescriptor (T k).2.2.1 = some (ty0 k)) (hcl : Cond.classLink own idx C ∈ gTk) (hins : Cond.instantiable C N ∈ gTk) (hini : Cond.initialized C ∈ gTk) (hfs : ∀ j, j < N → defaultValue (ty0 j) = vp_V fs j) (hgv : fs.map (gV X) = fs) (hcs : cs + 1 ≤ mc0) (hsl : sl + N ≤ ms0)
    (e : nO ci fs h = some h1) (kk : gG M X nL (cs + 1) (sl + N) pc' ls (.ref h.length :: rest) h1) : gG M X nL cs sl pc ls rest h := by
  obtain ⟨hd, rfl⟩ := hd
  cases e
  obtain ⟨p, l, e, R, s, m, args, below, meth, c, Q⟩ := M
  intro H locs ls' hR hl
  obtain ⟨hx1, hb1, hml, hown, hts, hK, hbase, hlk, hRR, hSt⟩ := K
  dsimp only at *
  subst hRR
  refine gEx_size hR hbase (fun he => ?_)
  have he1 := he hx
  have had := gAd_len hR.2.2.2 he1
  have hKn := hK.1 ci _ hci
  refine W.newcK (g := F0 m pc ls' (gVs X rest)) hx1 hb1 hown (hts _ hcl) (hts _ hins) (hts _ hini) rfl hd hcs hsl hKn.2.1 rfl fun H1 kC hkC e1 z1 o1 => ?_
  have k1 := kk H1 locs ls' (gR_app hR he1 (by
    refine ⟨_, hci, ?_⟩
    have q := (u_born ty0 hts hin hKn hkC e1 hty).to hfs
    show t_OB (gAd X h.length) _ _ _ H1 (vp_V (fs.map (gV X)))
    rw [hgv, had]
    exact q) z1 o1) hl
  have e2 : gVs X (.ref h.length :: rest) = .ref H.size :: gVs X rest := by rw [← had]; rfl
  rw [e2] at k1
  exact k1
theorem g_putF {ci k : Nat} {ty : FieldType} {v : Value} (hnm : M.2.2.2.2.2.2.2.2.1.name = "<init>") {R : Room} (K : gC M X own cc nL R) (L : gFq own idx ci k ty) (hd : gD cc pc (.putfield idx) 3 pc') (e : sf h a ci k v = some h') (hn : narrow ty (gV X v) = gV X v) (hf : fits ty (gV X v) = true) (kk : gG M X nL cs sl pc' ls rest h') : gG M X nL cs sl pc ls (v :: .ref a :: rest) h := by
  obtain ⟨hd, rfl⟩ := hd
  obtain ⟨fs, ha, hlt, rfl⟩ := sf_spec e
  obtain ⟨T, N, ty0, hc, hin, hk, hC, hl, hty, hnm2, hdd, hfin⟩ := L
  intro H locs ls' hR hl2
  have h2 := gSp_2o hR.2.2.2 ha
  have he := gWs_at (X := X) ha h2
  have hlen : k < (fs.map (gV X)).length := by rw [List.length_map]; exact hlt
  have hset : (fs.set k v).map (gV X) = (fs.map (gV X)).set k (gV X v) := List.map_set
  exact va_putF K.1 K.2.1 K.2.2.2.2.1 hin ty0 hty hnm2 K.2.2.2.1 K.2.2.2.2.2.1 hR.1 gD_of hR.2.1 (a - 10) he hc k hk (K.2.2.2.2.1 _ hl) (fun x hx => by rw [← hC]; exact hx) hfin hnm hC hdd hn hf hlen hd (fun H1 locs1 hP hD hS => kk H1 locs1 ls' (gR_set hR h2 (by show va_P _ _ ((gWs X h).set (a - 10) (gAd X a, .inr (ci, (fs.set k v).map (gV X)))) H1; rw [hset]; exact hP) hS) hl2)
theorem gR_preE {U s : State} {h : gH} {H : Heap} {locs : List Loc} (he : gEx X = true → H.size + 10 = X.1 + h.length) (hb : X.1 ≤ s.heap.size) (hK : va_K X.2.2.2.1 gCl (gTys X) s) (hSt : gSt X s) (hR : gR X s cs h H locs) (hU : U.heap = H) (hW : s.WarmedH U.vm) : gPre X h U := by
  refine ⟨by rw [hU]; exact Nat.le_trans hb hR.2.1.1, ⟨by rw [hU]; exact hR.1, fun q => by rw [hU]; exact he q⟩, va_K.moved hW.alike hK, gSt_mv hW (fun q hq => ?_) hSt, hR.2.2.2⟩
  rw [hU]
  exact hR.2.1.2.1 q (Nat.lt_of_lt_of_le hq hb) (Nat.not_le.mpr hq)
theorem g_callI {y : MethodName} {b : ByteArray} {maxL mc ms : Nat} {as : List Value} (K : gC M X own cc nL (gRm D mc0 ms0)) (hx : gEx X = true) (Ly : gLy y b maxL none n) (L : gLI own idx y) (hd : gD cc pc (.invokespecial idx) 3 pc') (hM : gMv M.2.1 X y b maxL d mc ms (.ref a :: as) h h') (hlen : h'.length = h.length + mc) (hn : as.length = n) (hst : st = as.reverse ++ .ref a :: rest) (hcat : (rest.map fun v => v.category).sum ≤ 8) (hdep : d + 1 ≤ D) (hf : cs + mc ≤ mc0 ∧ sl + ms ≤ ms0) (kk : gG M X nL (cs + mc) (sl + ms) pc' ls rest h') : gG M X nL cs sl pc ls st h := by
  obtain ⟨hd, rfl⟩ := hd
  obtain ⟨p, l, e, R, s, m, args, below, meth, c, Q⟩ := M
  intro H locs ls' hR hl
  obtain ⟨hx1, hb1, hml, hown, hts, hK, hbase, hlk, hRR, hSt⟩ := K
  dsimp only at *
  subst hRR
  refine gEx_size hR hbase (fun he => ?_)
  have hp : PreS s H (va_Pc (gVs X (.ref a :: as)) (gPre X h)) (.ref (gAd X a) :: gVs X as) := ⟨gPre_blind, fun U hU hW => ⟨rfl, gR_preE he hbase hK hSt hR hU hW⟩⟩
  have hst' : (F0 m pc ls' (gVs X st)).stack = (gVs X as).reverse ++ .ref (gAd X a) :: gVs X rest := by
    show gVs X st = _
    rw [hst]; unfold gVs; rw [List.map_append, List.map_reverse]; rfl
  have hn' : (gVs X as).length = n := by unfold gVs; rw [List.length_map]; exact hn
  have hW : 2 * (F0 m pc ls' (gVs X st)).monitorRoom + ((gVs X rest).map fun v => v.category).sum ≤ 8 := lv_room (by rw [gVs_cat]; exact hcat)
  have run : va_Run p l e (gRm D mc0 ms0) s m args below meth c H locs cs sl mc ms (F0 m pc ls' (gVs X st)) (gVs X rest) (va_Qv (fun (_ : Unit) => True) (fun _ t => gBs X h' t) (gA X) (Value.ref (gAd X a) :: gVs X as).toArray) (gA X) := by
    rcases L.1 with hl1 | ⟨host, hl1⟩
    · exact va_runI ⟨hx1, hb1, hml, hown, hts⟩ hM ⟨callB_of n hts (gGood Ly.2.1) rfl rfl rfl (hts _ Ly.1) (hts _ hl1) Ly.2.2.2 (gRoom Ly.2.2.1 hdep), L.2.2, hts _ L.2.1⟩ hp rfl hn' hl.1 hst' hW hd hf
    · exact va_runIN ⟨hx1, hb1, hml, hown, hts⟩ hM ⟨va_cnB n hts (gGood Ly.2.1) rfl rfl rfl (hSt.2.2.2.2.2.2.2.1 _ hl1) (hts _ Ly.1) Ly.2.2.2 (gRoom Ly.2.2.1 hdep), L.2.2, hts _ L.2.1⟩ hp rfl hn' hl.1 hst' hW hd hf
  refine va_callv run hR.2.1 (fun q _ h => h) (fun q h => h) (fun u t H1 locs1 ht hvm hw hB hz hk hS => ?_)
  refine kk H1 locs1 ls' ⟨by rw [← ht]; exact hB.1.1, hS, fun q => ?_, hB.2⟩ hl
  have h9 : s.heap.size + cs + 10 = X.1 + h.length := hR.2.2.1 q
  show s.heap.size + (cs + mc) + 10 = X.1 + h'.length
  omega
/-- the same cells, no making any more -/
abbrev gX0 (X : gX) : gX := (X.1, X.2.1, X.2.2.1, X.2.2.2.1, X.2.2.2.2.1, false, X.2.2.2.2.2.2)
theorem g_unex {R : Room} (k : gG M (gX0 X) nL cs sl pc ls st h) : gG M X nL cs sl pc ls st h := by
  intro H locs ls' hR hl
  exact k H locs ls' ⟨hR.1, hR.2.1, fun q => (by cases q), hR.2.2.2⟩ hl
theorem gC_unex {R : Room} (K : gC M X own cc nL R) : gC M (gX0 X) own cc nL R := K
/-- a call that makes nothing, while making goes on -/
theorem g_callViE {y : MethodName} {b : ByteArray} {maxL : Nat} {as : List Value} {ty : FieldType} {r : Int32} (K : gC M X own cc nL (gRm D mc0 ms0)) (Ly : gLy y b maxL (some ty) n) (L : gLV own idx y) (hd : gD cc pc (.invokevirtual idx) 3 pc') (hM : gRc y h a ∧ gMi M.2.1 (gX0 X) y b maxL ty d 0 0 (.ref a :: as) h r h') (hlen : h'.length = h.length) (hn : as.length = n) (hst : st = as.reverse ++ .ref a :: rest) (hcat : (rest.map fun v => v.category).sum ≤ 8) (hdep : d + 1 ≤ D) (hf : cs ≤ mc0 ∧ sl ≤ ms0) (kk : gG M X nL cs sl pc' ls (.int r :: rest) h') : gG M X nL cs sl pc ls st h := by
  obtain ⟨hd, rfl⟩ := hd
  intro H locs ls' hR hl
  have hR0 : gR (gX0 X) M.2.2.2.2.1 cs h H locs := ⟨hR.1, hR.2.1, fun q => (by cases q), hR.2.2.2⟩
  refine va_calli (gRunV (X := gX0 X) (gC_unex K) rfl Ly L hM.1 hn hst hcat hdep (mc := 0) (ms := 0) hf hd hM.2 hR0 hl) hR.2.1 (fun q _ h => h) (fun q h => h) (fun r1 u t H1 locs1 ht hvm hw hB hz hk hS => ?_)
  subst hw
  exact kk H1 locs1 ls' ⟨by rw [← ht]; exact hB.1.1, hS, fun q => (by rw [hlen]; exact hR.2.2.1 q), hB.2⟩ hl
end GNEW
theorem gMet_init {l : Launch} {X : gX} {y : MethodName} {b : ByteArray} {maxL d mc ms : Nat} {as : List Value} {lsx : List (Nat × Value)} {h h' : gH} (hy : plainName y.cls = true) (hyn : y.name = "<init>") (hlx : lv_args 0 (gVs X as) = gLs X lsx) (hfit : Nat.ble (lg_sl (gVs X as)).length maxL = true)
    (body : ∀ M : gM, M.2.1 = l → M.2.2.2.2.2.2.2.2.1.name = "<init>" → gC M X y.cls b maxL (gRm d mc ms) → (∀ pc pc' ls, gD b pc .return_ 1 pc' → gG M X maxL mc ms pc ls [] h') → gG M X maxL 0 0 0 lsx [] h) : gMv l X y b maxL d mc ms as h h' := by
  unfold gMv
  refine Met.ofW (cc := b) (maxL := maxL) (ret := none) hy rfl ?_
  intro p e s m args below meth c s₁ B hml hv
  obtain ⟨rfl, hbase, hB0, hK, hSt, hSh⟩ := hv
  have hts := atoms_spec (ws := Cond.code y b maxL none :: gTk) B.pre
  have hown : s.vm.findClass y.cls = some m.cls := findClass_of_methodNamed B.named
  have hnm : meth.name = "<init>" := (name_of_methodNamed B.named B.method).1.trans hyn
  have hl := lv_entry (gVs X as) (n := maxL) (Nat.le_of_ble_eq_true hfit)
  rw [lg_entry_eq]
  generalize (lg_sl (gVs X as) ++ List.replicate (maxL - (lg_sl (gVs X as)).length) Slot.unset).toArray = ls at hl ⊢
  rw [hlx] at hl
  have G := body (p, l, e, gRm d mc ms, s, m, (gVs X as).toArray, below, meth, c, MQ below (va_Qv (fun (_ : Unit) => True) (fun _ t => gBs X h' t) (gA X)) (gVs X as).toArray s mc ms (gA X)) rfl hnm ⟨B.exec, B.bytes, hml, hown, fun w hw => hts w (List.mem_cons_of_mem _ hw), hK, hbase, B.notSynchronized, rfl, hSt⟩ ?_
  · exact G s.heap [] ls ⟨hB0.1, va_S.rf, fun q => (by have := hB0.2 q; omega), hSh⟩ hl
  · intro pc pc' ls hd H locs ls' hR hl2
    obtain ⟨hd, -⟩ := hd
    exact gEx_size hR hbase (fun he => W.vret B.exec B.bytes B.returns (fun t ht hW => ⟨⟨(), rfl, trivial, gBs_of hR he ht⟩, hR.2.1.F ht⟩) hR.2.1.2.2 hd B.notSynchronized)
