theorem gLs_at {X : gX} {ls : List (Nat × Value)} {j i : Nat} {v : Value} (hj : ls[j]? = some (i, v)) : (gLs X ls)[j]? = some (i, gV X v) := by
  unfold gLs; rw [List.getElem?_map, hj]; rfl
theorem gV_cat (X : gX) (v : Value) : (gV X v).category = v.category := by cases v <;> rfl
theorem gVs_cat (X : gX) (st : List Value) : ((gVs X st).map fun v => v.category).sum = (st.map fun v => v.category).sum := by
  unfold gVs; rw [List.map_map]; congr 1; exact List.map_congr_left fun v _ => gV_cat X v
def stl (i : Nat) (v : Value) (ls : List (Nat × Value)) : List (Nat × Value) := (i, v) :: ls.filter (fun q => !(q.1 == i) && !(q.1 + 1 == i && q.2.category == 2))
def stl2 (i : Nat) (v : Value) (ls : List (Nat × Value)) : List (Nat × Value) := (i, v) :: ls.filter (fun q => !(q.1 == i) && (!(q.1 == i + 1) && !(q.1 + 1 == i && q.2.category == 2)))
theorem gLs_stl (X : gX) (i : Nat) (v : Value) (ls : List (Nat × Value)) : (i, gV X v) :: (gLs X ls).filter (fun q => !(q.1 == i) && !(q.1 + 1 == i && q.2.category == 2)) = gLs X (stl i v ls) := by
  unfold gLs stl
  rw [List.map_cons, List.filter_map]
  congr 2
  apply List.filter_congr
  intro q _
  show (!(q.1 == i) && !(q.1 + 1 == i && (gV X q.2).category == 2)) = _
  rw [gV_cat]
theorem gLs_stl2 (X : gX) (i : Nat) (v : Value) (ls : List (Nat × Value)) : (i, gV X v) :: (gLs X ls).filter (fun q => !(q.1 == i) && (!(q.1 == i + 1) && !(q.1 + 1 == i && q.2.category == 2))) = gLs X (stl2 i v ls) := by
  unfold gLs stl2
  rw [List.map_cons, List.filter_map]
  congr 2
  apply List.filter_congr
  intro q _
  show (!(q.1 == i) && (!(q.1 == i + 1) && !(q.1 + 1 == i && (gV X q.2).category == 2))) = _
  rw [gV_cat]
theorem gLs_pick (X : gX) (ls : List (Nat × Value)) (ks : List Nat) : lv_pick (gLs X ls) ks = gLs X (lv_pick ls ks) := by
  unfold lv_pick gLs
  induction ks with
  | nil => rfl
  | cons k ks ih =>
    rw [List.filterMap_cons, List.filterMap_cons, List.getElem?_map]
    cases ls[k]? with
    | none => exact ih
    | some q => simp only [Option.map_some, List.map_cons]; rw [ih]
section GRULES
variable {M : gM} {X : gX} {own : String} {cc : ByteArray} {nL : Nat} {R : Room} {cs sl pc pc' : Nat} {ls : List (Nat × Value)} {rest : List Value} {h : gH}
theorem g_sub {ls2 : List (Nat × Value)} (ks : List Nat) (hl : lv_pick ls ks = ls2) (k : gG M X nL cs sl pc ls2 rest h) : gG M X nL cs sl pc ls rest h := fun H locs ls' hR h1 => k H locs ls' hR (lv_sub h1 ks (by rw [gLs_pick, hl]))
theorem g_iconst {n : Int} {v : Int32} (K : gC M X own cc nL R) (hd : gD cc pc (.iconst n) 1 pc') (hv : Int32.ofInt n = v) (k : gG M X nL cs sl pc' ls (.int v :: rest) h) : gG M X nL cs sl pc ls (rest) h := by
  obtain ⟨hd, rfl⟩ := hd
  exact fun H locs ls' hR hl => lv_iconst K.1 K.2.1 hd hv (k H locs ls' hR hl)
theorem g_bipush {n : Int} {v : Int32} (K : gC M X own cc nL R) (hd : gD cc pc (.bipush n) 2 pc') (hv : (Int8.ofInt n).toInt32 = v) (k : gG M X nL cs sl pc' ls (.int v :: rest) h) : gG M X nL cs sl pc ls (rest) h := by
  obtain ⟨hd, rfl⟩ := hd
  exact fun H locs ls' hR hl => lv_bipush K.1 K.2.1 hd hv (k H locs ls' hR hl)
theorem g_sipush {n : Int} {v : Int32} (K : gC M X own cc nL R) (hd : gD cc pc (.sipush n) 3 pc') (hv : (Int16.ofInt n).toInt32 = v) (k : gG M X nL cs sl pc' ls (.int v :: rest) h) : gG M X nL cs sl pc ls (rest) h := by
  obtain ⟨hd, rfl⟩ := hd
  exact fun H locs ls' hR hl => lv_sipush K.1 K.2.1 hd hv (k H locs ls' hR hl)
theorem g_lconst {n : Fin 2} {v : Int64} (K : gC M X own cc nL R) (hd : gD cc pc (.lconst n) 1 pc') (hv : Int64.ofNat (n : Nat) = v) (k : gG M X nL cs sl pc' ls (.long v :: rest) h) : gG M X nL cs sl pc ls (rest) h := by
  obtain ⟨hd, rfl⟩ := hd
  exact fun H locs ls' hR hl => lv_lconst K.1 K.2.1 hd hv (k H locs ls' hR hl)
theorem g_ldc {idx : Nat} {v : Int32} (K : gC M X own cc nL R) (hd : gD cc pc (.ldc idx) 2 pc') (hc : Cond.constant own idx v ∈ gTk) (k : gG M X nL cs sl pc' ls (.int v :: rest) h) : gG M X nL cs sl pc ls rest h := by
  obtain ⟨hd, rfl⟩ := hd
  exact fun H locs ls' hR hl => lv_ldc K.1 K.2.1 K.2.2.2.1 (K.2.2.2.2.1 _ hc) hd (k H locs ls' hR hl)
theorem g_ldcw {idx : Nat} {v : Int32} (K : gC M X own cc nL R) (hd : gD cc pc (.ldc_w idx) 3 pc') (hc : Cond.constant own idx v ∈ gTk) (k : gG M X nL cs sl pc' ls (.int v :: rest) h) : gG M X nL cs sl pc ls rest h := by
  obtain ⟨hd, rfl⟩ := hd
  exact fun H locs ls' hR hl => lv_ldcw K.1 K.2.1 K.2.2.2.1 (K.2.2.2.2.1 _ hc) hd (k H locs ls' hR hl)
theorem g_ldc2 {idx : Nat} {v : Int64} (K : gC M X own cc nL R) (hd : gD cc pc (.ldc2_w idx) 3 pc') (hc : Cond.constantLong own idx v ∈ gTk) (k : gG M X nL cs sl pc' ls (.long v :: rest) h) : gG M X nL cs sl pc ls rest h := by
  obtain ⟨hd, rfl⟩ := hd
  exact fun H locs ls' hR hl => lv_ldc2 K.1 K.2.1 K.2.2.2.1 (K.2.2.2.2.1 _ hc) hd (k H locs ls' hR hl)
theorem g_iload_n {q : Fin 4} {x : Int32} (K : gC M X own cc nL R) (hd : gD cc pc (.iload_n q) 1 pc') (j : Nat) (hj : ls[j]? = some ((q : Nat), .int x)) (k : gG M X nL cs sl pc' ls (.int x :: rest) h) : gG M X nL cs sl pc ls rest h := by
  obtain ⟨hd, rfl⟩ := hd
  exact fun H locs ls' hR hl => lv_iload_n K.1 K.2.1 hd rfl (lv_at hl j (gLs_at hj)) (k H locs ls' hR hl)
theorem g_iload {i : Nat} {x : Int32} (K : gC M X own cc nL R) (hd : gD cc pc (.iload i) 2 pc') (j : Nat) (hj : ls[j]? = some (i, .int x)) (k : gG M X nL cs sl pc' ls (.int x :: rest) h) : gG M X nL cs sl pc ls rest h := by
  obtain ⟨hd, rfl⟩ := hd
  exact fun H locs ls' hR hl => lv_iload K.1 K.2.1 hd (lv_at hl j (gLs_at hj)) (k H locs ls' hR hl)
theorem g_istore_n {q : Fin 4} {x : Int32} {ls2 : List (Nat × Value)} (K : gC M X own cc nL R) (hd : gD cc pc (.istore_n q) 1 pc') (hn : Nat.ble ((q : Nat) + 1) nL = true) (hl : stl (q : Nat) (.int x) ls = ls2) (k : gG M X nL cs sl pc' ls2 rest h) : gG M X nL cs sl pc ls (.int x :: rest) h := by
  obtain ⟨hd, rfl⟩ := hd
  subst hl
  exact fun H locs ls' hR hl => lv_istore_n K.1 K.2.1 hd rfl hl (Nat.le_of_ble_eq_true hn) (gLs_stl X _ (.int x) ls) (fun ls2' hl2 => k H locs ls2' hR hl2)
theorem g_istore {i : Nat} {x : Int32} {ls2 : List (Nat × Value)} (K : gC M X own cc nL R) (hd : gD cc pc (.istore i) 2 pc') (hn : Nat.ble (i + 1) nL = true) (hl : stl i (.int x) ls = ls2) (k : gG M X nL cs sl pc' ls2 rest h) : gG M X nL cs sl pc ls (.int x :: rest) h := by
  obtain ⟨hd, rfl⟩ := hd
  subst hl
  exact fun H locs ls' hR hl => lv_istore K.1 K.2.1 hd hl (Nat.le_of_ble_eq_true hn) (gLs_stl X _ (.int x) ls) (fun ls2' hl2 => k H locs ls2' hR hl2)
theorem g_lload_n {q : Fin 4} {x : Int64} (K : gC M X own cc nL R) (hd : gD cc pc (.lload_n q) 1 pc') (j : Nat) (hj : ls[j]? = some ((q : Nat), .long x)) (k : gG M X nL cs sl pc' ls (.long x :: rest) h) : gG M X nL cs sl pc ls rest h := by
  obtain ⟨hd, rfl⟩ := hd
  exact fun H locs ls' hR hl => lv_lload_n K.1 K.2.1 hd rfl (lv_at hl j (gLs_at hj)) (k H locs ls' hR hl)
theorem g_lload {i : Nat} {x : Int64} (K : gC M X own cc nL R) (hd : gD cc pc (.lload i) 2 pc') (j : Nat) (hj : ls[j]? = some (i, .long x)) (k : gG M X nL cs sl pc' ls (.long x :: rest) h) : gG M X nL cs sl pc ls rest h := by
  obtain ⟨hd, rfl⟩ := hd
  exact fun H locs ls' hR hl => lv_lload K.1 K.2.1 hd (lv_at hl j (gLs_at hj)) (k H locs ls' hR hl)
theorem g_lstore_n {q : Fin 4} {x : Int64} {ls2 : List (Nat × Value)} (K : gC M X own cc nL R) (hd : gD cc pc (.lstore_n q) 1 pc') (hn : Nat.ble ((q : Nat) + 2) nL = true) (hl : stl2 (q : Nat) (.long x) ls = ls2) (k : gG M X nL cs sl pc' ls2 rest h) : gG M X nL cs sl pc ls (.long x :: rest) h := by
  obtain ⟨hd, rfl⟩ := hd
  subst hl
  exact fun H locs ls' hR hl => lv_lstore_n K.1 K.2.1 hd rfl hl (Nat.le_of_ble_eq_true hn) (gLs_stl2 X _ (.long x) ls) (fun ls2' hl2 => k H locs ls2' hR hl2)
theorem g_lstore {i : Nat} {x : Int64} {ls2 : List (Nat × Value)} (K : gC M X own cc nL R) (hd : gD cc pc (.lstore i) 2 pc') (hn : Nat.ble (i + 2) nL = true) (hl : stl2 i (.long x) ls = ls2) (k : gG M X nL cs sl pc' ls2 rest h) : gG M X nL cs sl pc ls (.long x :: rest) h := by
  obtain ⟨hd, rfl⟩ := hd
  subst hl
  exact fun H locs ls' hR hl => lv_lstore K.1 K.2.1 hd hl (Nat.le_of_ble_eq_true hn) (gLs_stl2 X _ (.long x) ls) (fun ls2' hl2 => k H locs ls2' hR hl2)
theorem g_aload_n {q : Fin 4} {x : Nat} (K : gC M X own cc nL R) (hd : gD cc pc (.aload_n q) 1 pc') (j : Nat) (hj : ls[j]? = some ((q : Nat), .ref x)) (k : gG M X nL cs sl pc' ls (.ref x :: rest) h) : gG M X nL cs sl pc ls rest h := by
  obtain ⟨hd, rfl⟩ := hd
  exact fun H locs ls' hR hl => lv_aload_n K.1 K.2.1 hd rfl (lv_at hl j (gLs_at hj)) (k H locs ls' hR hl)
theorem g_aload {i : Nat} {x : Nat} (K : gC M X own cc nL R) (hd : gD cc pc (.aload i) 2 pc') (j : Nat) (hj : ls[j]? = some (i, .ref x)) (k : gG M X nL cs sl pc' ls (.ref x :: rest) h) : gG M X nL cs sl pc ls rest h := by
  obtain ⟨hd, rfl⟩ := hd
  exact fun H locs ls' hR hl => lv_aload K.1 K.2.1 hd (lv_at hl j (gLs_at hj)) (k H locs ls' hR hl)
theorem g_astore_n {q : Fin 4} {x : Nat} {ls2 : List (Nat × Value)} (K : gC M X own cc nL R) (hd : gD cc pc (.astore_n q) 1 pc') (hn : Nat.ble ((q : Nat) + 1) nL = true) (hl : stl (q : Nat) (.ref x) ls = ls2) (k : gG M X nL cs sl pc' ls2 rest h) : gG M X nL cs sl pc ls (.ref x :: rest) h := by
  obtain ⟨hd, rfl⟩ := hd
  subst hl
  exact fun H locs ls' hR hl => lv_astore_n K.1 K.2.1 hd rfl hl (Nat.le_of_ble_eq_true hn) (gLs_stl X _ (.ref x) ls) (fun ls2' hl2 => k H locs ls2' hR hl2)
theorem g_astore {i : Nat} {x : Nat} {ls2 : List (Nat × Value)} (K : gC M X own cc nL R) (hd : gD cc pc (.astore i) 2 pc') (hn : Nat.ble (i + 1) nL = true) (hl : stl i (.ref x) ls = ls2) (k : gG M X nL cs sl pc' ls2 rest h) : gG M X nL cs sl pc ls (.ref x :: rest) h := by
  obtain ⟨hd, rfl⟩ := hd
  subst hl
  exact fun H locs ls' hR hl => lv_astore K.1 K.2.1 hd hl (Nat.le_of_ble_eq_true hn) (gLs_stl X _ (.ref x) ls) (fun ls2' hl2 => k H locs ls2' hR hl2)
theorem g_iinc {i : Nat} {n : Int} {x v : Int32} {ls2 : List (Nat × Value)} (K : gC M X own cc nL R) (hd : gD cc pc (.iinc i n) 3 pc') (j : Nat) (hj : ls[j]? = some (i, .int x)) (hv : Int32.ofInt n = v) (hn : Nat.ble (i + 1) nL = true) (hl : stl i (.int (x + v)) ls = ls2) (k : gG M X nL cs sl pc' ls2 rest h) : gG M X nL cs sl pc ls rest h := by
  obtain ⟨hd, rfl⟩ := hd
  subst hl; subst hv
  exact fun H locs ls' hR hl => lv_iinc K.1 K.2.1 hd hl (gLs_at hj) rfl (Nat.le_of_ble_eq_true hn) (gLs_stl X _ (.int _) ls) (fun ls2' hl2 => k H locs ls2' hR hl2)
theorem g_iadd {x y : Int32} (K : gC M X own cc nL R) (hd : gD cc pc .iadd 1 pc') (k : gG M X nL cs sl pc' ls (.int (x + y) :: rest) h) : gG M X nL cs sl pc ls (.int y :: .int x :: rest) h := by
  obtain ⟨hd, rfl⟩ := hd
  exact fun H locs ls' hR hl => lv_iadd K.1 K.2.1 hd (k H locs ls' hR hl)
theorem g_isub {x y : Int32} (K : gC M X own cc nL R) (hd : gD cc pc .isub 1 pc') (k : gG M X nL cs sl pc' ls (.int (x - y) :: rest) h) : gG M X nL cs sl pc ls (.int y :: .int x :: rest) h := by
  obtain ⟨hd, rfl⟩ := hd
  exact fun H locs ls' hR hl => lv_isub K.1 K.2.1 hd (k H locs ls' hR hl)
theorem g_imul {x y : Int32} (K : gC M X own cc nL R) (hd : gD cc pc .imul 1 pc') (k : gG M X nL cs sl pc' ls (.int (x * y) :: rest) h) : gG M X nL cs sl pc ls (.int y :: .int x :: rest) h := by
  obtain ⟨hd, rfl⟩ := hd
  exact fun H locs ls' hR hl => lv_imul K.1 K.2.1 hd (k H locs ls' hR hl)
theorem g_iand {x y : Int32} (K : gC M X own cc nL R) (hd : gD cc pc .iand 1 pc') (k : gG M X nL cs sl pc' ls (.int (x &&& y) :: rest) h) : gG M X nL cs sl pc ls (.int y :: .int x :: rest) h := by
  obtain ⟨hd, rfl⟩ := hd
  exact fun H locs ls' hR hl => lv_iand K.1 K.2.1 hd (k H locs ls' hR hl)
theorem g_ior {x y : Int32} (K : gC M X own cc nL R) (hd : gD cc pc .ior 1 pc') (k : gG M X nL cs sl pc' ls (.int (x ||| y) :: rest) h) : gG M X nL cs sl pc ls (.int y :: .int x :: rest) h := by
  obtain ⟨hd, rfl⟩ := hd
  exact fun H locs ls' hR hl => lv_ior K.1 K.2.1 hd (k H locs ls' hR hl)
theorem g_ixor {x y : Int32} (K : gC M X own cc nL R) (hd : gD cc pc .ixor 1 pc') (k : gG M X nL cs sl pc' ls (.int (x ^^^ y) :: rest) h) : gG M X nL cs sl pc ls (.int y :: .int x :: rest) h := by
  obtain ⟨hd, rfl⟩ := hd
  exact fun H locs ls' hR hl => lv_ixor K.1 K.2.1 hd (k H locs ls' hR hl)
theorem g_ishl {x y : Int32} (K : gC M X own cc nL R) (hd : gD cc pc .ishl 1 pc') (k : gG M X nL cs sl pc' ls (.int (x <<< (y &&& 31)) :: rest) h) : gG M X nL cs sl pc ls (.int y :: .int x :: rest) h := by
  obtain ⟨hd, rfl⟩ := hd
  exact fun H locs ls' hR hl => lv_ishl K.1 K.2.1 hd (k H locs ls' hR hl)
theorem g_ishr {x y : Int32} (K : gC M X own cc nL R) (hd : gD cc pc .ishr 1 pc') (k : gG M X nL cs sl pc' ls (.int (x >>> (y &&& 31)) :: rest) h) : gG M X nL cs sl pc ls (.int y :: .int x :: rest) h := by
  obtain ⟨hd, rfl⟩ := hd
  exact fun H locs ls' hR hl => lv_ishr K.1 K.2.1 hd (k H locs ls' hR hl)
theorem g_ladd {x y : Int64} (K : gC M X own cc nL R) (hd : gD cc pc .ladd 1 pc') (k : gG M X nL cs sl pc' ls (.long (x + y) :: rest) h) : gG M X nL cs sl pc ls (.long y :: .long x :: rest) h := by
  obtain ⟨hd, rfl⟩ := hd
  exact fun H locs ls' hR hl => lv_ladd K.1 K.2.1 hd (k H locs ls' hR hl)
theorem g_lsub {x y : Int64} (K : gC M X own cc nL R) (hd : gD cc pc .lsub 1 pc') (k : gG M X nL cs sl pc' ls (.long (x - y) :: rest) h) : gG M X nL cs sl pc ls (.long y :: .long x :: rest) h := by
  obtain ⟨hd, rfl⟩ := hd
  exact fun H locs ls' hR hl => lv_lsub K.1 K.2.1 hd (k H locs ls' hR hl)
theorem g_lmul {x y : Int64} (K : gC M X own cc nL R) (hd : gD cc pc .lmul 1 pc') (k : gG M X nL cs sl pc' ls (.long (x * y) :: rest) h) : gG M X nL cs sl pc ls (.long y :: .long x :: rest) h := by
  obtain ⟨hd, rfl⟩ := hd
  exact fun H locs ls' hR hl => lv_lmul K.1 K.2.1 hd (k H locs ls' hR hl)
theorem g_land {x y : Int64} (K : gC M X own cc nL R) (hd : gD cc pc .land 1 pc') (k : gG M X nL cs sl pc' ls (.long (x &&& y) :: rest) h) : gG M X nL cs sl pc ls (.long y :: .long x :: rest) h := by
  obtain ⟨hd, rfl⟩ := hd
  exact fun H locs ls' hR hl => lv_land K.1 K.2.1 hd (k H locs ls' hR hl)
theorem g_lor {x y : Int64} (K : gC M X own cc nL R) (hd : gD cc pc .lor 1 pc') (k : gG M X nL cs sl pc' ls (.long (x ||| y) :: rest) h) : gG M X nL cs sl pc ls (.long y :: .long x :: rest) h := by
  obtain ⟨hd, rfl⟩ := hd
  exact fun H locs ls' hR hl => lv_lor K.1 K.2.1 hd (k H locs ls' hR hl)
theorem g_lxor {x y : Int64} (K : gC M X own cc nL R) (hd : gD cc pc .lxor 1 pc') (k : gG M X nL cs sl pc' ls (.long (x ^^^ y) :: rest) h) : gG M X nL cs sl pc ls (.long y :: .long x :: rest) h := by
  obtain ⟨hd, rfl⟩ := hd
  exact fun H locs ls' hR hl => lv_lxor K.1 K.2.1 hd (k H locs ls' hR hl)
theorem g_ineg {x : Int32} (K : gC M X own cc nL R) (hd : gD cc pc .ineg 1 pc') (k : gG M X nL cs sl pc' ls (.int (-x) :: rest) h) : gG M X nL cs sl pc ls (.int x :: rest) h := by
  obtain ⟨hd, rfl⟩ := hd
  exact fun H locs ls' hR hl => lv_ineg K.1 K.2.1 hd (k H locs ls' hR hl)
theorem g_lneg {x : Int64} (K : gC M X own cc nL R) (hd : gD cc pc .lneg 1 pc') (k : gG M X nL cs sl pc' ls (.long (-x) :: rest) h) : gG M X nL cs sl pc ls (.long x :: rest) h := by
  obtain ⟨hd, rfl⟩ := hd
  exact fun H locs ls' hR hl => lv_lneg K.1 K.2.1 hd (k H locs ls' hR hl)
theorem gNZ_ne {v : Int32} {u : Unit} (h : gNZ v = some u) : ¬ v = 0 := by intro q; rw [q] at h; cases h
theorem gNZL_ne {v : Int64} {u : Unit} (h : gNZL v = some u) : ¬ v = 0 := by intro q; rw [q] at h; cases h
theorem g_idiv {x y : Int32} {u : Unit} (K : gC M X own cc nL R) (hd : gD cc pc .idiv 1 pc') (hn : gNZ y = some u) (k : gG M X nL cs sl pc' ls (.int (x / y) :: rest) h) : gG M X nL cs sl pc ls (.int y :: .int x :: rest) h := by
  obtain ⟨hd, rfl⟩ := hd
  exact fun H locs ls' hR hl => lv_idiv K.1 K.2.1 hd (gNZ_ne hn) (k H locs ls' hR hl)
theorem g_irem {x y : Int32} {u : Unit} (K : gC M X own cc nL R) (hd : gD cc pc .irem 1 pc') (hn : gNZ y = some u) (k : gG M X nL cs sl pc' ls (.int (x - x / y * y) :: rest) h) : gG M X nL cs sl pc ls (.int y :: .int x :: rest) h := by
  obtain ⟨hd, rfl⟩ := hd
  exact fun H locs ls' hR hl => lv_irem K.1 K.2.1 hd (gNZ_ne hn) (k H locs ls' hR hl)
theorem g_ldiv {x y : Int64} {u : Unit} (K : gC M X own cc nL R) (hd : gD cc pc .ldiv 1 pc') (hn : gNZL y = some u) (k : gG M X nL cs sl pc' ls (.long (x / y) :: rest) h) : gG M X nL cs sl pc ls (.long y :: .long x :: rest) h := by
  obtain ⟨hd, rfl⟩ := hd
  exact fun H locs ls' hR hl => lv_ldiv K.1 K.2.1 hd (gNZL_ne hn) (k H locs ls' hR hl)
theorem g_lrem {x y : Int64} {u : Unit} (K : gC M X own cc nL R) (hd : gD cc pc .lrem 1 pc') (hn : gNZL y = some u) (k : gG M X nL cs sl pc' ls (.long (x - x / y * y) :: rest) h) : gG M X nL cs sl pc ls (.long y :: .long x :: rest) h := by
  obtain ⟨hd, rfl⟩ := hd
  exact fun H locs ls' hR hl => lv_lrem K.1 K.2.1 hd (gNZL_ne hn) (k H locs ls' hR hl)
theorem g_iushr {x y : Int32} (K : gC M X own cc nL R) (hd : gD cc pc .iushr 1 pc') (k : gG M X nL cs sl pc' ls (.int (x.toUInt32 >>> (y.toUInt32 &&& Int32.toUInt32 31)).toInt32 :: rest) h) : gG M X nL cs sl pc ls (.int y :: .int x :: rest) h := by
  obtain ⟨hd, rfl⟩ := hd
  exact fun H locs ls' hR hl => lv_iushr K.1 K.2.1 hd rfl (k H locs ls' hR hl)
theorem g_lshl {x : Int64} {y : Int32} (K : gC M X own cc nL R) (hd : gD cc pc .lshl 1 pc') (k : gG M X nL cs sl pc' ls (.long (x <<< (y.toInt64 &&& 63)) :: rest) h) : gG M X nL cs sl pc ls (.int y :: .long x :: rest) h := by
  obtain ⟨hd, rfl⟩ := hd
  exact fun H locs ls' hR hl => lv_lshl K.1 K.2.1 hd rfl (k H locs ls' hR hl)
theorem g_lushr {x : Int64} {y : Int32} (K : gC M X own cc nL R) (hd : gD cc pc .lushr 1 pc') (k : gG M X nL cs sl pc' ls (.long (x.toUInt64 >>> (y.toInt64.toUInt64 &&& Int64.toUInt64 63)).toInt64 :: rest) h) : gG M X nL cs sl pc ls (.int y :: .long x :: rest) h := by
  obtain ⟨hd, rfl⟩ := hd
  exact fun H locs ls' hR hl => lv_lushr K.1 K.2.1 hd rfl (k H locs ls' hR hl)
theorem g_i2l {x : Int32} (K : gC M X own cc nL R) (hd : gD cc pc .i2l 1 pc') (k : gG M X nL cs sl pc' ls (.long x.toInt64 :: rest) h) : gG M X nL cs sl pc ls (.int x :: rest) h := by
  obtain ⟨hd, rfl⟩ := hd
  exact fun H locs ls' hR hl => lv_i2l K.1 K.2.1 hd rfl (k H locs ls' hR hl)
theorem g_l2i {x : Int64} (K : gC M X own cc nL R) (hd : gD cc pc .l2i 1 pc') (k : gG M X nL cs sl pc' ls (.int x.toInt32 :: rest) h) : gG M X nL cs sl pc ls (.long x :: rest) h := by
  obtain ⟨hd, rfl⟩ := hd
  exact fun H locs ls' hR hl => lv_l2i K.1 K.2.1 hd rfl (k H locs ls' hR hl)
theorem g_i2b {x : Int32} (K : gC M X own cc nL R) (hd : gD cc pc .i2b 1 pc') (k : gG M X nL cs sl pc' ls (.int x.toInt8.toInt32 :: rest) h) : gG M X nL cs sl pc ls (.int x :: rest) h := by
  obtain ⟨hd, rfl⟩ := hd
  exact fun H locs ls' hR hl => lv_i2b K.1 K.2.1 hd rfl (k H locs ls' hR hl)
theorem g_i2s {x : Int32} (K : gC M X own cc nL R) (hd : gD cc pc .i2s 1 pc') (k : gG M X nL cs sl pc' ls (.int x.toInt16.toInt32 :: rest) h) : gG M X nL cs sl pc ls (.int x :: rest) h := by
  obtain ⟨hd, rfl⟩ := hd
  exact fun H locs ls' hR hl => lv_i2s K.1 K.2.1 hd rfl (k H locs ls' hR hl)
theorem g_i2c {x : Int32} (K : gC M X own cc nL R) (hd : gD cc pc .i2c 1 pc') (k : gG M X nL cs sl pc' ls (.int (x.toUInt32 % 65536).toInt32 :: rest) h) : gG M X nL cs sl pc ls (.int x :: rest) h := by
  obtain ⟨hd, rfl⟩ := hd
  exact fun H locs ls' hR hl => lv_i2c K.1 K.2.1 hd rfl (k H locs ls' hR hl)
theorem g_dup {va : Value} (K : gC M X own cc nL R) (hd : gD cc pc .dup 1 pc') (hva : va.category = 1) (k : gG M X nL cs sl pc' ls (va :: va :: rest) h) : gG M X nL cs sl pc ls (va :: rest) h := by
  obtain ⟨hd, rfl⟩ := hd
  exact fun H locs ls' hR hl => lv_dup K.1 K.2.1 hd ((gV_cat X va).trans hva) (k H locs ls' hR hl)
theorem g_pop {va : Value} (K : gC M X own cc nL R) (hd : gD cc pc .pop 1 pc') (hva : va.category = 1) (k : gG M X nL cs sl pc' ls (rest) h) : gG M X nL cs sl pc ls (va :: rest) h := by
  obtain ⟨hd, rfl⟩ := hd
  exact fun H locs ls' hR hl => lv_pop K.1 K.2.1 hd ((gV_cat X va).trans hva) (k H locs ls' hR hl)
theorem g_dup_x1 {va vb : Value} (K : gC M X own cc nL R) (hd : gD cc pc .dup_x1 1 pc') (hva : va.category = 1) (hvb : vb.category = 1) (k : gG M X nL cs sl pc' ls (va :: vb :: va :: rest) h) : gG M X nL cs sl pc ls (va :: vb :: rest) h := by
  obtain ⟨hd, rfl⟩ := hd
  exact fun H locs ls' hR hl => lv_dup_x1 K.1 K.2.1 hd ((gV_cat X va).trans hva) ((gV_cat X vb).trans hvb) (k H locs ls' hR hl)
theorem g_dup2 {va vb : Value} (K : gC M X own cc nL R) (hd : gD cc pc .dup2 1 pc') (hva : va.category = 1) (hvb : vb.category = 1) (k : gG M X nL cs sl pc' ls (va :: vb :: va :: vb :: rest) h) : gG M X nL cs sl pc ls (va :: vb :: rest) h := by
  obtain ⟨hd, rfl⟩ := hd
  exact fun H locs ls' hR hl => lv_dup2_11 K.1 K.2.1 hd ((gV_cat X va).trans hva) ((gV_cat X vb).trans hvb) (k H locs ls' hR hl)
theorem g_if_eq {x : Int32} {off : Int} {tgt : Nat} (K : gC M X own cc nL R) (hd : gJ cc pc (.ifCond .eq off) 3 off pc' tgt) (kt : x = 0 → gG M X nL cs sl tgt ls rest h) (kf : ¬ x = 0 → gG M X nL cs sl pc' ls rest h) : gG M X nL cs sl pc ls (.int x :: rest) h := by
  obtain ⟨hd, rfl, ht⟩ := hd
  exact fun H locs ls' hR hl => lv_if_eq K.1 K.2.1 hd ht (fun q => kt q H locs ls' hR hl) (fun q => kf q H locs ls' hR hl)
theorem g_icmp_eq {x y : Int32} {off : Int} {tgt : Nat} (K : gC M X own cc nL R) (hd : gJ cc pc (.if_icmp .eq off) 3 off pc' tgt) (kt : x = y → gG M X nL cs sl tgt ls rest h) (kf : ¬ x = y → gG M X nL cs sl pc' ls rest h) : gG M X nL cs sl pc ls (.int y :: .int x :: rest) h := by
  obtain ⟨hd, rfl, ht⟩ := hd
  exact fun H locs ls' hR hl => lv_icmp_eq K.1 K.2.1 hd ht (fun q => kt q H locs ls' hR hl) (fun q => kf q H locs ls' hR hl)
theorem g_if_ne {x : Int32} {off : Int} {tgt : Nat} (K : gC M X own cc nL R) (hd : gJ cc pc (.ifCond .ne off) 3 off pc' tgt) (kt : ¬ x = 0 → gG M X nL cs sl tgt ls rest h) (kf : x = 0 → gG M X nL cs sl pc' ls rest h) : gG M X nL cs sl pc ls (.int x :: rest) h := by
  obtain ⟨hd, rfl, ht⟩ := hd
  exact fun H locs ls' hR hl => lv_if_ne K.1 K.2.1 hd ht (fun q => kt q H locs ls' hR hl) (fun q => kf q H locs ls' hR hl)
theorem g_icmp_ne {x y : Int32} {off : Int} {tgt : Nat} (K : gC M X own cc nL R) (hd : gJ cc pc (.if_icmp .ne off) 3 off pc' tgt) (kt : ¬ x = y → gG M X nL cs sl tgt ls rest h) (kf : x = y → gG M X nL cs sl pc' ls rest h) : gG M X nL cs sl pc ls (.int y :: .int x :: rest) h := by
  obtain ⟨hd, rfl, ht⟩ := hd
  exact fun H locs ls' hR hl => lv_icmp_ne K.1 K.2.1 hd ht (fun q => kt q H locs ls' hR hl) (fun q => kf q H locs ls' hR hl)
theorem g_if_lt {x : Int32} {off : Int} {tgt : Nat} (K : gC M X own cc nL R) (hd : gJ cc pc (.ifCond .lt off) 3 off pc' tgt) (kt : x < 0 → gG M X nL cs sl tgt ls rest h) (kf : ¬ x < 0 → gG M X nL cs sl pc' ls rest h) : gG M X nL cs sl pc ls (.int x :: rest) h := by
  obtain ⟨hd, rfl, ht⟩ := hd
  exact fun H locs ls' hR hl => lv_if_lt K.1 K.2.1 hd ht (fun q => kt q H locs ls' hR hl) (fun q => kf q H locs ls' hR hl)
theorem g_icmp_lt {x y : Int32} {off : Int} {tgt : Nat} (K : gC M X own cc nL R) (hd : gJ cc pc (.if_icmp .lt off) 3 off pc' tgt) (kt : x < y → gG M X nL cs sl tgt ls rest h) (kf : ¬ x < y → gG M X nL cs sl pc' ls rest h) : gG M X nL cs sl pc ls (.int y :: .int x :: rest) h := by
  obtain ⟨hd, rfl, ht⟩ := hd
  exact fun H locs ls' hR hl => lv_icmp_lt K.1 K.2.1 hd ht (fun q => kt q H locs ls' hR hl) (fun q => kf q H locs ls' hR hl)
theorem g_if_ge {x : Int32} {off : Int} {tgt : Nat} (K : gC M X own cc nL R) (hd : gJ cc pc (.ifCond .ge off) 3 off pc' tgt) (kt : 0 ≤ x → gG M X nL cs sl tgt ls rest h) (kf : ¬ 0 ≤ x → gG M X nL cs sl pc' ls rest h) : gG M X nL cs sl pc ls (.int x :: rest) h := by
  obtain ⟨hd, rfl, ht⟩ := hd
  exact fun H locs ls' hR hl => lv_if_ge K.1 K.2.1 hd ht (fun q => kt q H locs ls' hR hl) (fun q => kf q H locs ls' hR hl)
theorem g_icmp_ge {x y : Int32} {off : Int} {tgt : Nat} (K : gC M X own cc nL R) (hd : gJ cc pc (.if_icmp .ge off) 3 off pc' tgt) (kt : y ≤ x → gG M X nL cs sl tgt ls rest h) (kf : ¬ y ≤ x → gG M X nL cs sl pc' ls rest h) : gG M X nL cs sl pc ls (.int y :: .int x :: rest) h := by
  obtain ⟨hd, rfl, ht⟩ := hd
  exact fun H locs ls' hR hl => lv_icmp_ge K.1 K.2.1 hd ht (fun q => kt q H locs ls' hR hl) (fun q => kf q H locs ls' hR hl)
theorem g_if_gt {x : Int32} {off : Int} {tgt : Nat} (K : gC M X own cc nL R) (hd : gJ cc pc (.ifCond .gt off) 3 off pc' tgt) (kt : 0 < x → gG M X nL cs sl tgt ls rest h) (kf : ¬ 0 < x → gG M X nL cs sl pc' ls rest h) : gG M X nL cs sl pc ls (.int x :: rest) h := by
  obtain ⟨hd, rfl, ht⟩ := hd
  exact fun H locs ls' hR hl => lv_if_gt K.1 K.2.1 hd ht (fun q => kt q H locs ls' hR hl) (fun q => kf q H locs ls' hR hl)
theorem g_icmp_gt {x y : Int32} {off : Int} {tgt : Nat} (K : gC M X own cc nL R) (hd : gJ cc pc (.if_icmp .gt off) 3 off pc' tgt) (kt : y < x → gG M X nL cs sl tgt ls rest h) (kf : ¬ y < x → gG M X nL cs sl pc' ls rest h) : gG M X nL cs sl pc ls (.int y :: .int x :: rest) h := by
  obtain ⟨hd, rfl, ht⟩ := hd
  exact fun H locs ls' hR hl => lv_icmp_gt K.1 K.2.1 hd ht (fun q => kt q H locs ls' hR hl) (fun q => kf q H locs ls' hR hl)
theorem g_if_le {x : Int32} {off : Int} {tgt : Nat} (K : gC M X own cc nL R) (hd : gJ cc pc (.ifCond .le off) 3 off pc' tgt) (kt : x ≤ 0 → gG M X nL cs sl tgt ls rest h) (kf : ¬ x ≤ 0 → gG M X nL cs sl pc' ls rest h) : gG M X nL cs sl pc ls (.int x :: rest) h := by
  obtain ⟨hd, rfl, ht⟩ := hd
  exact fun H locs ls' hR hl => lv_if_le K.1 K.2.1 hd ht (fun q => kt q H locs ls' hR hl) (fun q => kf q H locs ls' hR hl)
theorem g_icmp_le {x y : Int32} {off : Int} {tgt : Nat} (K : gC M X own cc nL R) (hd : gJ cc pc (.if_icmp .le off) 3 off pc' tgt) (kt : x ≤ y → gG M X nL cs sl tgt ls rest h) (kf : ¬ x ≤ y → gG M X nL cs sl pc' ls rest h) : gG M X nL cs sl pc ls (.int y :: .int x :: rest) h := by
  obtain ⟨hd, rfl, ht⟩ := hd
  exact fun H locs ls' hR hl => lv_icmp_le K.1 K.2.1 hd ht (fun q => kt q H locs ls' hR hl) (fun q => kf q H locs ls' hR hl)
theorem g_goto {off : Int} {tgt : Nat} (K : gC M X own cc nL R) (hd : gJ cc pc (.goto off) 3 off pc' tgt) (k : gG M X nL cs sl tgt ls rest h) : gG M X nL cs sl pc ls rest h := by
  obtain ⟨hd, rfl, ht⟩ := hd
  exact fun H locs ls' hR hl => lv_goto K.1 K.2.1 hd ht (k H locs ls' hR hl)
end GRULES
