/-! THE OWN HEAP: cells by numbers. 0 is the script, 1 the row NO_RULE, 2 to 5 the four texts, 6 to 9 their bytes, from 10 on what the law's run makes, in turn. An own array: its kind (0 int, 1 byte, 2 boolean, 3 char, 4 long, 5 of States; 6 the script, 7 NO_RULE, 8 a text's bytes, 9 a text), length, contents. -/
abbrev gMC : Type := (Nat × vp_A) ⊕ (Nat × List Value)
abbrev gH : Type := List gMC
/-- where the made cells begin, the script's address, NO_RULE's, the tables' numbers, the array kinds' numbers, whether no other cell was made, the texts' addresses and those of their bytes, the script's length and numbers -/
abbrev gX : Type := Nat × Nat × Nat × va_G × (Nat → ClassId) × Bool × (Nat → Nat) × (Nat → Nat) × Nat × (Nat → Int32)
abbrev gEx (X : gX) : Bool := X.2.2.2.2.2.1
def gAd (X : gX) (i : Nat) : Nat := if i = 0 then X.2.1 else if i = 1 then X.2.2.1 else if i < 6 then X.2.2.2.2.2.2.1 (i - 2) else if i < 10 then X.2.2.2.2.2.2.2.1 (i - 6) else X.1 + (i - 10)
def gV (X : gX) : Value → Value
  | .ref a => .ref (gAd X a)
  | v => v
def gVs (X : gX) (st : List Value) : List Value := st.map (gV X)
def gLs (X : gX) (ls : List (Nat × Value)) : List (Nat × Value) := ls.map (fun q => (q.1, gV X q.2))
def gTA (X : gX) : vp_A → vp_A
  | (n, .inr (.inr (.inr (.inr f)))) => (n, .inr (.inr (.inr (.inr (fun j => (f j).map (gAd X))))))
  | a => a
def gT (X : gX) : gMC → va_E
  | .inl (t, a) => .inl (X.2.2.2.2.1 t, gTA X a)
  | .inr (ci, fs) => .inr (ci, fs.map (gV X))
def gWs (X : gX) (h : gH) : va_W := (h.drop 10).mapIdx (fun i c => (X.1 + i, gT X c))
def gTys (X : gX) : List (ClassId × FieldType) := [(X.2.2.2.2.1 0, .int), (X.2.2.2.2.1 1, .byte), (X.2.2.2.2.1 2, .boolean), (X.2.2.2.2.1 3, .char), (X.2.2.2.2.1 4, .long), (X.2.2.2.2.1 5, .object "FullStopWells$State")]
def gA (X : gX) : Nat → Prop := fun q => X.1 ≤ q
def gNR : Nat → Int32 := fun k => match k with
  | 0 => 100
  | 1 => 45
  | 2 => 97
  | 3 => 42
  | _ => 50
def gTx : Nat → String := fun k => match k with
  | 0 => "0"
  | 1 => "001."
  | 2 => "01"
  | _ => ""
def gTl (i : Nat) : Nat := ([1, 4, 2, 0] : List Nat).getD i 0
def gTb (i : Nat) : Nat → Int32 := fun j => (([[48], [48, 48, 49, 46], [48, 49], []] : List (List Int32)).getD i []).getD j 0
/-- what stays as it is: the script, NO_RULE, the texts -/
def gSt (X : gX) (U : State) : Prop :=
  va_X X.2.1 X.2.2.2.2.2.2.2.2.1 X.2.2.2.2.2.2.2.2.2 U U.heap ∧ X.2.1 < X.1 ∧
  va_T .char X.2.2.1 5 (fun j => .int (gNR j)) (gA X) U U.heap ∧ va_Z "FullStopWells" "NO_RULE" "[C" (.ref X.2.2.1) (gA X) U U.heap ∧
  vk_S 4 [1, 4, 2, 0] [[48], [48, 48, 49, 46], [48, 49], []] X.2.2.2.2.2.2.1 X.2.2.2.2.2.2.2.1 (gA X) U U.heap ∧
  (∀ i : Nat, i < 4 → vk_R "FullStopWells" (443 + 2 * i) (gTx i) (X.2.2.2.2.2.2.1 i) U) ∧
  va_Z "java/lang/String" "COMPACT_STRINGS" "Z" (.int 1) (gA X) U U.heap ∧ (∀ w ∈ gNk, va_Nw w U) ∧
  va_Zq "jdk/internal/util/Preconditions" "SIOOBE_FORMATTER" "Ljava/util/function/BiFunction;" (gA X) U U.heap ∧ va_AO "FullStopWells$State" U ∧
  vx_Zq Bundle.tN "UNASSIGNED_STACK" Bundle.steD (gA X) U U.heap ∧ vx_Zq Bundle.tN "SUPPRESSED_SENTINEL" Bundle.listD (gA X) U U.heap ∧ (∀ w ∈ gBad, va_Nw w U)
def gSh (X : gX) (h : gH) : Prop := h[0]? = some (.inl (6, X.2.2.2.2.2.2.2.2.1, .inl X.2.2.2.2.2.2.2.2.2)) ∧ h[1]? = some (.inl (7, 5, .inl gNR)) ∧ (∀ i : Nat, 2 ≤ i → i < 6 → h[i]? = some (.inl (9, 0, .inl (fun _ => 0)))) ∧ ∀ i : Nat, i < 4 → h[6 + i]? = some (.inl (8, gTl i, .inl (gTb i)))
def gB (X : gX) (h : gH) (t : State) : Prop := va_P X.2.2.2.1 gCl (gWs X h) t.heap ∧ (gEx X = true → t.heap.size + 10 = X.1 + h.length)
def gPre (X : gX) (h : gH) (U : State) : Prop := X.1 ≤ U.heap.size ∧ gB X h U ∧ va_K X.2.2.2.1 gCl (gTys X) U ∧ gSt X U ∧ gSh X h
def gR (X : gX) (s : State) (cs : Nat) (h : gH) (H : Heap) (locs : List Loc) : Prop :=
  va_P X.2.2.2.1 gCl (gWs X h) H ∧ va_S (gA X) s.heap H locs ∧ (gEx X = true → s.heap.size + cs + 10 = X.1 + h.length) ∧ gSh X h
abbrev gM : Type := Program × Launch × Env × Room × State × MethodId × Array Value × List Frame × Method × Code × (State → Prop)
def gG (M : gM) (X : gX) (nL cs sl pc : Nat) (ls : List (Nat × Value)) (st : List Value) (h : gH) : Prop :=
  ∀ (H : Heap) (locs : List Loc) (ls' : Array Slot), gR X M.2.2.2.2.1 cs h H locs → lv_has ls' nL (gLs X ls) →
    W M.1 M.2.1 M.2.2.1 M.2.2.2.1 M.2.2.2.2.1 M.2.2.2.2.2.1 M.2.2.2.2.2.2.1 M.2.2.2.2.2.2.2.1 M.2.2.2.2.2.2.2.2.1 M.2.2.2.2.2.2.2.2.2.1 H locs cs sl M.2.2.2.2.2.2.2.2.2.2 (F0 M.2.2.2.2.2.1 pc ls' (gVs X st))
/-- what stands of a method's walk: the machine, its code, its locals' number, its owner, the words, the tables; its room -/
def gC (M : gM) (X : gX) (own : String) (cc : ByteArray) (nL : Nat) (R : Room) : Prop :=
  M.1.tables.exec = Jvm.exec ∧ M.2.2.2.2.2.2.2.2.2.1.code = cc ∧ M.2.2.2.2.2.2.2.2.2.1.maxLocals = nL ∧ M.2.2.2.2.1.vm.findClass own = some M.2.2.2.2.2.1.cls ∧
  (∀ w ∈ gTk, w.before M.2.2.2.2.2.2.1 M.2.2.2.2.1 = true) ∧ va_K X.2.2.2.1 gCl (gTys X) M.2.2.2.2.1 ∧ X.1 ≤ M.2.2.2.2.1.heap.size ∧ M.2.2.2.2.2.2.2.2.1.locks = false ∧ M.2.2.2.1 = R ∧ gSt X M.2.2.2.2.1
/-- an instruction and the next place; a jump and its aim -/
def gD (cc : ByteArray) (pc : Nat) (i : Instr) (n pc' : Nat) : Prop := decode cc pc = .ok (i, n) ∧ pc + n = pc'
def gJ (cc : ByteArray) (pc : Nat) (i : Instr) (n : Nat) (off : Int) (pc' tgt : Nat) : Prop := decode cc pc = .ok (i, n) ∧ pc + n = pc' ∧ (pc : Int) + off = (tgt : Int)
-- ===== the heap read and written =====
def vin (i : Int32) (n : Nat) : Prop := ¬ (i < 0 ∨ n ≤ i.toNatClampNeg)
def vinb (i : Int32) (n : Nat) : Bool := !(decide (i < 0) || decide (n ≤ i.toNatClampNeg))
theorem vinb_in {i : Int32} {n : Nat} (h : vinb i n = true) : vp_in i n := by
  simp only [vinb, Bool.not_eq_true', Bool.or_eq_false_iff, decide_eq_false_iff_not] at h
  exact fun q => q.elim h.1 h.2
def gf (h : gH) (a c k : Nat) : Option Value := match h[a]? with
  | some (.inr (c', fs)) => if c' = c then fs[k]? else none
  | _ => none
def gfI (h : gH) (a c k : Nat) : Option Int32 := match gf h a c k with
  | some (.int x) => some x
  | _ => none
def gfR (h : gH) (a c k : Nat) : Option Nat := match gf h a c k with
  | some (.ref x) => some x
  | _ => none
def sf (h : gH) (a c k : Nat) (v : Value) : Option gH := match h[a]? with
  | some (.inr (c', fs)) => if c' = c ∧ k < fs.length then some (h.set a (.inr (c, fs.set k v))) else none
  | _ => none
def ga (t : Nat) (h : gH) (a : Nat) (i : Int32) : Option Int32 := match h[a]? with
  | some (.inl (t', n, .inl f)) => if t' = t ∧ vinb i n = true then some (f i.toNatClampNeg) else none
  | _ => none
def gaL (h : gH) (a : Nat) (i : Int32) : Option Int64 := match h[a]? with
  | some (.inl (t', n, .inr (.inl f))) => if t' = 4 ∧ vinb i n = true then some (f i.toNatClampNeg) else none
  | _ => none
def gaR (h : gH) (a : Nat) (i : Int32) : Option Nat := match h[a]? with
  | some (.inl (t', n, .inr (.inr (.inr (.inr f))))) => if t' = 5 ∧ vinb i n = true then f i.toNatClampNeg else none
  | _ => none
def sa (t : Nat) (h : gH) (a : Nat) (i x : Int32) : Option gH := match h[a]? with
  | some (.inl (t', n, .inl f)) => if t' = t ∧ vinb i n = true then some (h.set a (.inl (t, n, .inl (upd f i.toNatClampNeg x)))) else none
  | _ => none
def saL (h : gH) (a : Nat) (i : Int32) (x : Int64) : Option gH := match h[a]? with
  | some (.inl (t', n, .inr (.inl f))) => if t' = 4 ∧ vinb i n = true then some (h.set a (.inl (4, n, .inr (.inl (vp_updL f i.toNatClampNeg x))))) else none
  | _ => none
def saR (h : gH) (a : Nat) (i : Int32) (x : Nat) : Option gH := match h[a]?, h[x]? with
  | some (.inl (t', n, .inr (.inr (.inr (.inr f))))), some (.inr (7, _)) => if t' = 5 ∧ vinb i n = true then some (h.set a (.inl (5, n, .inr (.inr (.inr (.inr (va_up f i.toNatClampNeg (some x)))))))) else none
  | _, _ => none
def gn (h : gH) (a : Nat) : Option Int32 := match h[a]? with
  | some (.inl (t, n, _)) => if t < 6 ∨ (t = 7 ∧ a = 1) ∨ (t = 8 ∧ 6 ≤ a ∧ a < 10) then some (Int32.ofNat n) else none
  | _ => none
/-- baload, bastore: of bytes and booleans -/
def gaB (h : gH) (a : Nat) (i : Int32) : Option Int32 := match ga 1 h a i with
  | some x => some x
  | none => match ga 2 h a i with
    | some x => some x
    | none => if 6 ≤ a ∧ a < 10 then ga 8 h a i else none
def saB (h : gH) (a : Nat) (i x : Int32) : Option gH := match sa 1 h a i (vp_nar .byte x) with
  | some x => some x
  | none => sa 2 h a i (vp_nar .boolean x)
/-- caload: of NO_RULE too -/
def gaC (h : gH) (a : Nat) (i : Int32) : Option Int32 := match ga 3 h a i with
  | some x => some x
  | none => if a = 1 then ga 7 h a i else none
def gclS (a : Nat) : Option Unit := if 2 ≤ a ∧ a < 6 then some () else none
def gsV (a : Nat) : Option Nat := if 2 ≤ a ∧ a < 6 then some (a + 4) else none
def gNar (ty : FieldType) (v : Int32) : Option Int32 := if vp_nar ty v = v then some v else none
def gZ (v : Int32) : Option Int32 := if v = 0 ∨ v = 1 then some v else none
def gNZ (v : Int32) : Option Unit := if v = 0 then none else some ()
def gNZL (v : Int64) : Option Unit := if v = 0 then none else some ()
theorem gBd {α β : Type} {o : Option α} {f : α → Option β} {r : β} (h : o.bind f = some r) : ∃ v, o = some v ∧ f v = some r := Option.bind_eq_some_iff.mp h
-- ===== places =====
theorem gWs_at {X : gX} {h : gH} {a : Nat} {c : gMC} (ha : h[a]? = some c) (h2 : 10 ≤ a) : (gWs X h)[a - 10]? = some (gAd X a, gT X c) := by
  have e : gAd X a = X.1 + (a - 10) := by unfold gAd; rw [if_neg (by omega), if_neg (by omega), if_neg (by omega), if_neg (by omega)]
  unfold gWs
  rw [List.getElem?_mapIdx, List.getElem?_drop, show 10 + (a - 10) = a by omega, ha, e]
  rfl
theorem gWs_set {X : gX} {h : gH} {a : Nat} {c : gMC} (h2 : 10 ≤ a) : gWs X (h.set a c) = (gWs X h).set (a - 10) (gAd X a, gT X c) := by
  have e : gAd X a = X.1 + (a - 10) := by unfold gAd; rw [if_neg (by omega), if_neg (by omega), if_neg (by omega), if_neg (by omega)]
  unfold gWs
  apply List.ext_getElem?
  intro i
  rw [List.getElem?_mapIdx, List.getElem?_drop, List.getElem?_set, List.getElem?_set, List.getElem?_mapIdx, List.getElem?_drop, List.length_mapIdx, List.length_drop]
  by_cases q : a = 10 + i
  · subst q
    by_cases z : 10 + i < h.length
    · have z2 : 10 + i - 10 < h.length - 10 := by omega
      simp [z, z2, e, Nat.add_sub_cancel_left]
      omega
    · have z2 : ¬ 10 + i - 10 < h.length - 10 := by omega
      simp [z, z2]
      omega
  · have q2 : ¬ a - 10 = i := by omega
    simp [q, q2]
theorem gD_of {X : gX} {h : gH} : va_D (gA X) (gWs X h) := by
  have key : ∀ (k : Nat) (q : Nat × va_E), (gWs X h)[k]? = some q → q.1 = X.1 + k := by
    intro k q hk
    unfold gWs at hk
    rw [List.getElem?_mapIdx] at hk
    obtain ⟨c, -, hc⟩ := Option.map_eq_some_iff.mp hk
    rw [← hc]
  refine ⟨fun i j p q hi hj hpq => ?_, fun k q hk => ?_⟩
  · have h1 := key i p hi
    have h2 := key j q hj
    omega
  · have h1 := key k q hk
    show X.1 ≤ q.1
    omega
theorem gSh_t {X : gX} {h : gH} (hs : gSh X h) {a : Nat} {c : gMC} (ha : h[a]? = some c) (hlt : a < 10) : ∃ t n z, c = .inl (t, n, z) ∧ 6 ≤ t := by
  obtain ⟨h0, h1, h2, h3⟩ := hs
  by_cases q : 6 ≤ a
  · have e := h3 (a - 6) (by omega)
    rw [show 6 + (a - 6) = a by omega, ha] at e
    cases e; exact ⟨_, _, _, rfl, by omega⟩
  · match a, hlt, ha, q with
    | 0, _, ha, _ => rw [h0] at ha; cases ha; exact ⟨_, _, _, rfl, by omega⟩
    | 1, _, ha, _ => rw [h1] at ha; cases ha; exact ⟨_, _, _, rfl, by omega⟩
    | a + 2, hlt, ha, q => rw [h2 (a + 2) (by omega) (by omega)] at ha; cases ha; exact ⟨_, _, _, rfl, by omega⟩
theorem gSp_2 {X : gX} {h : gH} (hs : gSh X h) {a t n : Nat} {z} (ha : h[a]? = some (.inl (t, n, z))) (ht : t < 6) : 10 ≤ a := by
  rcases Nat.lt_or_ge a 10 with q | q
  · obtain ⟨t', n', z', e, h6⟩ := gSh_t hs ha q
    cases e
    omega
  · exact q
theorem gSp_2o {X : gX} {h : gH} (hs : gSh X h) {a c : Nat} {fs} (ha : h[a]? = some (.inr (c, fs))) : 10 ≤ a := by
  rcases Nat.lt_or_ge a 10 with q | q
  · obtain ⟨t', n', z', e, h6⟩ := gSh_t hs ha q
    cases e
  · exact q
theorem gSp_set {X : gX} {h : gH} (hs : gSh X h) {a : Nat} {c : gMC} (h2 : 10 ≤ a) : gSh X (h.set a c) := by
  obtain ⟨h0, h1, h3, h4⟩ := hs
  exact ⟨by rw [List.getElem?_set_ne (by omega)]; exact h0, by rw [List.getElem?_set_ne (by omega)]; exact h1, fun i hi hj => by rw [List.getElem?_set_ne (by omega)]; exact h3 i hi hj, fun i hi => by rw [List.getElem?_set_ne (by omega)]; exact h4 i hi⟩
