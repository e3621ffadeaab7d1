/-! THE LAW: every call, and all of them one after another -/
section LAWS
variable {L N p c : Nat} {S : gS} {xs : Nat → Int32}
def Fin1 (L : Nat) (S : gS) (c : Nat) (o : Option gH) : Prop := ∃ S' c', o = some (mk L S') ∧ S'.1 0 = S.1 0 ∧ c' ≤ c + 1 ∧ Rl S' c'
theorem fin_ite {q : Prop} {d : Decidable q} {A B : Option gH} (h1 : Fin1 L S c A) (h2 : Fin1 L S c B) : Fin1 L S c (if q then A else B) := by
  by_cases z : q
  · rw [if_pos z]; exact h1
  · rw [if_neg z]; exact h2
theorem gasL {j : Nat} (hj : j < L) (hL : L ≤ 3072) : gas (mk L S) (nI j) = some (S.1 0 j) := by
  unfold gas ga
  rw [mk_at (a := 0) (k := .inr (6, L)) rfl]
  show (if 6 = 6 ∧ vinb (nI j) L = true then some (S.1 0 (nI j).toNatClampNeg) else none) = _
  rw [if_pos ⟨rfl, vinb_nI hj (by omega)⟩, nI_clamp (by omega)]
theorem gsnL : gsn (mk L S) = some (nI L) := by
  unfold gsn
  rw [mk_at (a := 0) (k := .inr (6, L)) rfl]
  rfl
theorem lg_self {r : Int64} : lg_cmp r r = 0 := by
  have : ¬ r < r := Int64.lt_irrefl
  unfold lg_cmp
  rw [if_neg this, if_pos rfl]
theorem fin0 {C M : gH → Option (Int32 × gH)} (h : Agr L S c C M) : Fin1 L S c ((C (mk L S)).bind fun q1 => (M q1.2).bind fun q2 => if q1.1 = q2.1 then some q2.2 else none) := by
  obtain ⟨r, S1, S2, c', e1, e2, e3, e4, e5, e6⟩ := h
  refine ⟨S2, c', ?_, e4, e5, e6⟩
  rw [e1, Option.bind_some]
  dsimp only
  rw [e3, Option.bind_some]
  dsimp only
  rw [if_pos rfl]
theorem fin1 {C M : Int32 → gH → Option (Int32 × gH)} (hp : p + 6 ≤ L) (hL : L ≤ 3072) (h : ∀ a1, Agr L S c (C a1) (M a1)) : Fin1 L S c ((gas (mk L S) (nI p + (1 : Int32))).bind fun a1 => (C a1 (mk L S)).bind fun q => (gas q.2 (nI p + (1 : Int32))).bind fun b1 => (M b1 q.2).bind fun q2 => if q.1 = q2.1 then some q2.2 else none) := by
  obtain ⟨r, S1, S2, c', e1, e2, e3, e4, e5, e6⟩ := h (S.1 0 (p + 1))
  refine ⟨S2, c', ?_, e4, e5, e6⟩
  rw [nI_1, gasL (S := S) (j := p + 1) (by omega) hL, Option.bind_some, e1, Option.bind_some]
  dsimp only
  rw [gasL (S := S1) (j := p + 1) (by omega) hL, Option.bind_some, e2, e3, Option.bind_some]
  dsimp only
  rw [if_pos rfl]
theorem fin2 {C M : Int32 → Int32 → gH → Option (Int32 × gH)} (hp : p + 6 ≤ L) (hL : L ≤ 3072) (h : ∀ a1 a2, Agr L S c (C a1 a2) (M a1 a2)) : Fin1 L S c ((gas (mk L S) (nI p + (1 : Int32))).bind fun a1 => (gas (mk L S) (nI p + (2 : Int32))).bind fun a2 => (C a1 a2 (mk L S)).bind fun q => (gas q.2 (nI p + (1 : Int32))).bind fun b1 => (gas q.2 (nI p + (2 : Int32))).bind fun b2 => (M b1 b2 q.2).bind fun q2 => if q.1 = q2.1 then some q2.2 else none) := by
  obtain ⟨r, S1, S2, c', e1, e2, e3, e4, e5, e6⟩ := h (S.1 0 (p + 1)) (S.1 0 (p + 2))
  refine ⟨S2, c', ?_, e4, e5, e6⟩
  rw [nI_1, k2, nI_add, gasL (S := S) (j := p + 1) (by omega) hL, Option.bind_some, gasL (S := S) (j := p + 2) (by omega) hL, Option.bind_some, e1, Option.bind_some]
  dsimp only
  rw [gasL (S := S1) (j := p + 1) (by omega) hL, Option.bind_some, gasL (S := S1) (j := p + 2) (by omega) hL, Option.bind_some, e2, e3, Option.bind_some]
  dsimp only
  rw [if_pos rfl]
theorem fin3 {C M : Int32 → Int32 → Int32 → gH → Option (Int32 × gH)} (hp : p + 6 ≤ L) (hL : L ≤ 3072) (h : ∀ a1 a2 a3, Agr L S c (C a1 a2 a3) (M a1 a2 a3)) : Fin1 L S c ((gas (mk L S) (nI p + (1 : Int32))).bind fun a1 => (gas (mk L S) (nI p + (2 : Int32))).bind fun a2 => (gas (mk L S) (nI p + (3 : Int32))).bind fun a3 => (C a1 a2 a3 (mk L S)).bind fun q => (gas q.2 (nI p + (1 : Int32))).bind fun b1 => (gas q.2 (nI p + (2 : Int32))).bind fun b2 => (gas q.2 (nI p + (3 : Int32))).bind fun b3 => (M b1 b2 b3 q.2).bind fun q2 => if q.1 = q2.1 then some q2.2 else none) := by
  obtain ⟨r, S1, S2, c', e1, e2, e3, e4, e5, e6⟩ := h (S.1 0 (p + 1)) (S.1 0 (p + 2)) (S.1 0 (p + 3))
  refine ⟨S2, c', ?_, e4, e5, e6⟩
  rw [nI_1, k2, nI_add, k3, nI_add, gasL (S := S) (j := p + 1) (by omega) hL, Option.bind_some, gasL (S := S) (j := p + 2) (by omega) hL, Option.bind_some, gasL (S := S) (j := p + 3) (by omega) hL, Option.bind_some, e1, Option.bind_some]
  dsimp only
  rw [gasL (S := S1) (j := p + 1) (by omega) hL, Option.bind_some, gasL (S := S1) (j := p + 2) (by omega) hL, Option.bind_some, gasL (S := S1) (j := p + 3) (by omega) hL, Option.bind_some, e2, e3, Option.bind_some]
  dsimp only
  rw [if_pos rfl]
theorem fin4 {C M : Int32 → Int32 → Int32 → Int32 → gH → Option (Int32 × gH)} (hp : p + 6 ≤ L) (hL : L ≤ 3072) (h : ∀ a1 a2 a3 a4, Agr L S c (C a1 a2 a3 a4) (M a1 a2 a3 a4)) : Fin1 L S c ((gas (mk L S) (nI p + (1 : Int32))).bind fun a1 => (gas (mk L S) (nI p + (2 : Int32))).bind fun a2 => (gas (mk L S) (nI p + (3 : Int32))).bind fun a3 => (gas (mk L S) (nI p + (4 : Int32))).bind fun a4 => (C a1 a2 a3 a4 (mk L S)).bind fun q => (gas q.2 (nI p + (1 : Int32))).bind fun b1 => (gas q.2 (nI p + (2 : Int32))).bind fun b2 => (gas q.2 (nI p + (3 : Int32))).bind fun b3 => (gas q.2 (nI p + (4 : Int32))).bind fun b4 => (M b1 b2 b3 b4 q.2).bind fun q2 => if q.1 = q2.1 then some q2.2 else none) := by
  obtain ⟨r, S1, S2, c', e1, e2, e3, e4, e5, e6⟩ := h (S.1 0 (p + 1)) (S.1 0 (p + 2)) (S.1 0 (p + 3)) (S.1 0 (p + 4))
  refine ⟨S2, c', ?_, e4, e5, e6⟩
  rw [nI_1, k2, nI_add, k3, nI_add, k4, nI_add, gasL (S := S) (j := p + 1) (by omega) hL, Option.bind_some, gasL (S := S) (j := p + 2) (by omega) hL, Option.bind_some, gasL (S := S) (j := p + 3) (by omega) hL, Option.bind_some, gasL (S := S) (j := p + 4) (by omega) hL, Option.bind_some, e1, Option.bind_some]
  dsimp only
  rw [gasL (S := S1) (j := p + 1) (by omega) hL, Option.bind_some, gasL (S := S1) (j := p + 2) (by omega) hL, Option.bind_some, gasL (S := S1) (j := p + 3) (by omega) hL, Option.bind_some, gasL (S := S1) (j := p + 4) (by omega) hL, Option.bind_some, e2, e3, Option.bind_some]
  dsimp only
  rw [if_pos rfl]
theorem fin5 {C M : Int32 → Int32 → Int32 → Int32 → Int32 → gH → Option (Int32 × gH)} (hp : p + 6 ≤ L) (hL : L ≤ 3072) (h : ∀ a1 a2 a3 a4 a5, Agr L S c (C a1 a2 a3 a4 a5) (M a1 a2 a3 a4 a5)) : Fin1 L S c ((gas (mk L S) (nI p + (1 : Int32))).bind fun a1 => (gas (mk L S) (nI p + (2 : Int32))).bind fun a2 => (gas (mk L S) (nI p + (3 : Int32))).bind fun a3 => (gas (mk L S) (nI p + (4 : Int32))).bind fun a4 => (gas (mk L S) (nI p + (5 : Int32))).bind fun a5 => (C a1 a2 a3 a4 a5 (mk L S)).bind fun q => (gas q.2 (nI p + (1 : Int32))).bind fun b1 => (gas q.2 (nI p + (2 : Int32))).bind fun b2 => (gas q.2 (nI p + (3 : Int32))).bind fun b3 => (gas q.2 (nI p + (4 : Int32))).bind fun b4 => (gas q.2 (nI p + (5 : Int32))).bind fun b5 => (M b1 b2 b3 b4 b5 q.2).bind fun q2 => if q.1 = q2.1 then some q2.2 else none) := by
  obtain ⟨r, S1, S2, c', e1, e2, e3, e4, e5, e6⟩ := h (S.1 0 (p + 1)) (S.1 0 (p + 2)) (S.1 0 (p + 3)) (S.1 0 (p + 4)) (S.1 0 (p + 5))
  refine ⟨S2, c', ?_, e4, e5, e6⟩
  rw [nI_1, k2, nI_add, k3, nI_add, k4, nI_add, k5, nI_add, gasL (S := S) (j := p + 1) (by omega) hL, Option.bind_some, gasL (S := S) (j := p + 2) (by omega) hL, Option.bind_some, gasL (S := S) (j := p + 3) (by omega) hL, Option.bind_some, gasL (S := S) (j := p + 4) (by omega) hL, Option.bind_some, gasL (S := S) (j := p + 5) (by omega) hL, Option.bind_some, e1, Option.bind_some]
  dsimp only
  rw [gasL (S := S1) (j := p + 1) (by omega) hL, Option.bind_some, gasL (S := S1) (j := p + 2) (by omega) hL, Option.bind_some, gasL (S := S1) (j := p + 3) (by omega) hL, Option.bind_some, gasL (S := S1) (j := p + 4) (by omega) hL, Option.bind_some, gasL (S := S1) (j := p + 5) (by omega) hL, Option.bind_some, e2, e3, Option.bind_some]
  dsimp only
  rw [if_pos rfl]
theorem finL {C M : Int32 → gH → Option (Int64 × gH)} (hp : p + 6 ≤ L) (hL : L ≤ 3072) (h : ∀ a1, Agr L S c (C a1) (M a1)) : Fin1 L S c ((gas (mk L S) (nI p + (1 : Int32))).bind fun a1 => (C a1 (mk L S)).bind fun q => (gas q.2 (nI p + (1 : Int32))).bind fun b1 => (M b1 q.2).bind fun q2 => if (lg_cmp q.1 q2.1) = 0 then some q2.2 else none) := by
  obtain ⟨r, S1, S2, c', e1, e2, e3, e4, e5, e6⟩ := h (S.1 0 (p + 1))
  refine ⟨S2, c', ?_, e4, e5, e6⟩
  rw [nI_1, gasL (S := S) (j := p + 1) (by omega) hL, Option.bind_some, e1, Option.bind_some]
  dsimp only
  rw [gasL (S := S1) (j := p + 1) (by omega) hL, Option.bind_some, e2, e3, Option.bind_some]
  dsimp only
  rw [if_pos lg_self]
theorem finT2 {C : Int32 → Int32 → gH → Option (Int32 × gH)} {M : Int32 → Int32 → gH → Option (Int32 × gH)} (hp : p + 6 ≤ L) (hL : L ≤ 3072) (h : ∀ a1 a2, AgrT L S c Int32.toInt64 (C a1 a2) (M a1 a2)) : Fin1 L S c ((gas (mk L S) (nI p + (1 : Int32))).bind fun a1 => (gas (mk L S) (nI p + (2 : Int32))).bind fun a2 => (C a1 a2 (mk L S)).bind fun q => (gas q.2 (nI p + (1 : Int32))).bind fun b1 => (gas q.2 (nI p + (2 : Int32))).bind fun b2 => (M b1 b2 q.2).bind fun q2 => (f_c11_thrown N 144 q2.2).bind fun q3 => if q3 = q.1 then if q.1 = 0 then (gaL q2.2 170 (0 : Int32)).bind fun v => if (lg_cmp v q2.1.toInt64) = 0 then some q2.2 else none else some q2.2 else none) := by
  obtain ⟨S1, S2, b, r, e1, e3, e2, e4, e5, e6, e7⟩ := h (S.1 0 (p + 1)) (S.1 0 (p + 2))
  have et : f_c11_thrown N 144 (mk L S2) = some b := by
    unfold f_c11_thrown
    rw [zc144, Option.bind_some, zi144_10, Option.bind_some, e5]
  refine ⟨S2, c, ?_, e4, by omega, e7⟩
  rw [nI_1, k2, nI_add, gasL (S := S) (j := p + 1) (by omega) hL, Option.bind_some, gasL (S := S) (j := p + 2) (by omega) hL, Option.bind_some, e1, Option.bind_some]
  dsimp only
  rw [gasL (S := S1) (j := p + 1) (by omega) hL, Option.bind_some, gasL (S := S1) (j := p + 2) (by omega) hL, Option.bind_some, e2, e3, Option.bind_some]
  dsimp only
  rw [et, Option.bind_some, if_pos rfl]
  by_cases z : b = 0
  · rw [if_pos z, show (0 : Int32) = nI 0 from rfl, zg170 (by omega), Option.bind_some, e6 z]
    exact if_pos lg_self
  · rw [if_neg z]
theorem finT1 {C : Int32 → gH → Option (Int32 × gH)} {M : Int32 → gH → Option (Int64 × gH)} (hp : p + 6 ≤ L) (hL : L ≤ 3072) (h : ∀ a1, AgrT L S c id (C a1) (M a1)) : Fin1 L S c ((gas (mk L S) (nI p + (1 : Int32))).bind fun a1 => (C a1 (mk L S)).bind fun q => (gas q.2 (nI p + (1 : Int32))).bind fun b1 => (M b1 q.2).bind fun q2 => (f_c11_thrown N 144 q2.2).bind fun q3 => if q3 = q.1 then if q.1 = 0 then (gaL q2.2 170 (0 : Int32)).bind fun v => if (lg_cmp v q2.1) = 0 then some q2.2 else none else some q2.2 else none) := by
  obtain ⟨S1, S2, b, r, e1, e3, e2, e4, e5, e6, e7⟩ := h (S.1 0 (p + 1))
  have et : f_c11_thrown N 144 (mk L S2) = some b := by
    unfold f_c11_thrown
    rw [zc144, Option.bind_some, zi144_10, Option.bind_some, e5]
  refine ⟨S2, c, ?_, e4, by omega, e7⟩
  rw [nI_1, gasL (S := S) (j := p + 1) (by omega) hL, Option.bind_some, e1, Option.bind_some]
  dsimp only
  rw [gasL (S := S1) (j := p + 1) (by omega) hL, Option.bind_some, e2, e3, Option.bind_some]
  dsimp only
  rw [et, Option.bind_some, if_pos rfl]
  by_cases z : b = 0
  · rw [if_pos z, show (0 : Int32) = nI 0 from rfl, zg170 (by omega), Option.bind_some, e6 z]
    exact if_pos lg_self
  · rw [if_neg z]
theorem law_count {A : pA} (hp : p + 6 ≤ L) (hL : L ≤ 3072) (w : WA A) (q : CA S A) (m : MA S A c) (hN : 900 ≤ N) : Fin1 L S c (c_law_45 N (nI p) (mk L S)) := by
  obtain ⟨r, e1, e2⟩ := A_count (L := L) (N := N) (p := S.1 0 (p + 1)) w q m hN
  refine ⟨stI S 144 10 0, c, ?_, rfl, by omega, A, w, q.high thrH, m.thr⟩
  unfold c_law_45
  rw [nI_1, gasL (S := S) (j := p + 1) (by omega) hL, Option.bind_some, e1, Option.bind_some, Option.bind_some, e2, Option.bind_some]
  dsimp only
  rw [if_pos rfl]
theorem law_0 {A : pA} (hp : p + 6 ≤ L) (hL : L ≤ 3072) (w : WA A) (q : CA S A) (m : MA S A c) (hc : c < 2000000) (hN : 900 ≤ N) : Fin1 L S c (c_law_0 N (nI p) (mk L S)) :=
  fin1 (C := fun a0 => f_c10_sign N 10 a0) (M := fun a0 => f_c11_sign N 144 a0) hp hL (fun a0 => A_sign w q m hN)
theorem law_1 {A : pA} (hp : p + 6 ≤ L) (hL : L ≤ 3072) (w : WA A) (q : CA S A) (m : MA S A c) (hc : c < 2000000) (hN : 900 ≤ N) : Fin1 L S c (c_law_1 N (nI p) (mk L S)) :=
  fin1 (C := fun a0 => f_c10_end N 10 a0) (M := fun a0 => f_c11_end N 144 a0) hp hL (fun a0 => A_end w q m)
theorem law_2 {A : pA} (hp : p + 6 ≤ L) (hL : L ≤ 3072) (w : WA A) (q : CA S A) (m : MA S A c) (hc : c < 2000000) (hN : 900 ≤ N) : Fin1 L S c (c_law_2 N (nI p) (mk L S)) :=
  fin0 (C := f_c10_plain N 10) (M := f_c11_plain N 144) (A_plain w q m hN)
theorem law_3 {A : pA} (hp : p + 6 ≤ L) (hL : L ≤ 3072) (w : WA A) (q : CA S A) (m : MA S A c) (hc : c < 2000000) (hN : 900 ≤ N) : Fin1 L S c (c_law_3 N (nI p) (mk L S)) :=
  fin0 (C := f_c10_wells N 10) (M := f_c11_wells N 144) (A_wells w q m hN)
theorem law_4 {A : pA} (hp : p + 6 ≤ L) (hL : L ≤ 3072) (w : WA A) (q : CA S A) (m : MA S A c) (hc : c < 2000000) (hN : 900 ≤ N) : Fin1 L S c (c_law_4 N (nI p) (mk L S)) :=
  fin0 (C := f_c10_rule N 10) (M := f_c11_rule N 144) (A_rule w q m hN)
theorem law_5 {A : pA} (hp : p + 6 ≤ L) (hL : L ≤ 3072) (w : WA A) (q : CA S A) (m : MA S A c) (hc : c < 2000000) (hN : 900 ≤ N) : Fin1 L S c (c_law_5 N (nI p) (mk L S)) :=
  finT2 (C := fun a0 a1 => f_lw_well N 10 a0 a1 170) (M := fun a0 a1 => f_c11_well N 144 a0 a1) hp hL (fun a0 a1 => A_well w q m hN)
theorem law_6 {A : pA} (hp : p + 6 ≤ L) (hL : L ≤ 3072) (w : WA A) (q : CA S A) (m : MA S A c) (hc : c < 2000000) (hN : 900 ≤ N) : Fin1 L S c (c_law_6 N (nI p) (mk L S)) :=
  finT2 (C := fun a0 a1 => f_lw_village N 10 a0 a1 170) (M := fun a0 a1 => f_c11_village N 144 a0 a1) hp hL (fun a0 a1 => A_village w q m hN)
theorem law_7 {A : pA} (hp : p + 6 ≤ L) (hL : L ≤ 3072) (w : WA A) (q : CA S A) (m : MA S A c) (hc : c < 2000000) (hN : 900 ≤ N) : Fin1 L S c (c_law_7 N (nI p) (mk L S)) :=
  fin4 (C := fun a0 a1 a2 a3 => f_c10_sheet N 10 a0 a1 a2 a3) (M := fun a0 a1 a2 a3 => f_c11_sheet N 144 a0 a1 a2 a3) hp hL (fun a0 a1 a2 a3 => A_sheet w q m hN)
theorem law_8 {A : pA} (hp : p + 6 ≤ L) (hL : L ≤ 3072) (w : WA A) (q : CA S A) (m : MA S A c) (hc : c < 2000000) (hN : 900 ≤ N) : Fin1 L S c (c_law_8 N (nI p) (mk L S)) :=
  fin1 (C := fun a0 => f_c10_seasons N 10 a0) (M := fun a0 => f_c11_seasons N 144 a0) hp hL (fun a0 => A_seasons w q m hN)
theorem law_9 {A : pA} (hp : p + 6 ≤ L) (hL : L ≤ 3072) (w : WA A) (q : CA S A) (m : MA S A c) (hc : c < 2000000) (hN : 900 ≤ N) : Fin1 L S c (c_law_9 N (nI p) (mk L S)) :=
  fin3 (C := fun a0 a1 a2 => f_c10_says N 10 a0 a1 a2) (M := fun a0 a1 a2 => f_c11_says N 144 a0 a1 a2) hp hL (fun a0 a1 a2 => A_says w q m hN)
theorem law_10 {A : pA} (hp : p + 6 ≤ L) (hL : L ≤ 3072) (w : WA A) (q : CA S A) (m : MA S A c) (hc : c < 2000000) (hN : 900 ≤ N) : Fin1 L S c (c_law_10 N (nI p) (mk L S)) :=
  fin1 (C := fun a0 => f_c10_ands N 10 a0) (M := fun a0 => f_c11_ands N 144 a0) hp hL (fun a0 => A_ands w q m hN)
theorem law_11 {A : pA} (hp : p + 6 ≤ L) (hL : L ≤ 3072) (w : WA A) (q : CA S A) (m : MA S A c) (hc : c < 2000000) (hN : 900 ≤ N) : Fin1 L S c (c_law_11 N (nI p) (mk L S)) :=
  fin1 (C := fun a0 => f_c10_clears N 10 a0) (M := fun a0 => f_c11_clears N 144 a0) hp hL (fun a0 => A_clears w q m hN)
theorem law_12 {A : pA} (hp : p + 6 ≤ L) (hL : L ≤ 3072) (w : WA A) (q : CA S A) (m : MA S A c) (hc : c < 2000000) (hN : 900 ≤ N) : Fin1 L S c (c_law_12 N (nI p) (mk L S)) :=
  fin2 (C := fun a0 a1 => f_c10_draws N 10 a0 a1) (M := fun a0 a1 => f_c11_draws N 144 a0 a1) hp hL (fun a0 a1 => A_draws w q m hN)
theorem law_13 {A : pA} (hp : p + 6 ≤ L) (hL : L ≤ 3072) (w : WA A) (q : CA S A) (m : MA S A c) (hc : c < 2000000) (hN : 900 ≤ N) : Fin1 L S c (c_law_13 N (nI p) (mk L S)) :=
  fin1 (C := fun a0 => f_c10_repents N 10 a0) (M := fun a0 => f_c11_repents N 144 a0) hp hL (fun a0 => A_repents w q m hN)
theorem law_14 {A : pA} (hp : p + 6 ≤ L) (hL : L ≤ 3072) (w : WA A) (q : CA S A) (m : MA S A c) (hc : c < 2000000) (hN : 900 ≤ N) : Fin1 L S c (c_law_14 N (nI p) (mk L S)) :=
  fin0 (C := f_c10_year N 10) (M := f_c11_year N 144) (A_year w q m hN)
theorem law_15 {A : pA} (hp : p + 6 ≤ L) (hL : L ≤ 3072) (w : WA A) (q : CA S A) (m : MA S A c) (hc : c < 2000000) (hN : 900 ≤ N) : Fin1 L S c (c_law_15 N (nI p) (mk L S)) :=
  fin0 (C := f_c10_undo N 10) (M := f_c11_undo N 144) (A_undo w q m hN)
theorem law_16 {A : pA} (hp : p + 6 ≤ L) (hL : L ≤ 3072) (w : WA A) (q : CA S A) (m : MA S A c) (hc : c < 2000000) (hN : 900 ≤ N) : Fin1 L S c (c_law_16 N (nI p) (mk L S)) :=
  fin2 (C := fun a0 a1 => f_c10_later N 10 a0 a1) (M := fun a0 a1 => f_c11_later N 144 a0 a1) hp hL (fun a0 a1 => A_later w q m hN)
theorem law_17 {A : pA} (hp : p + 6 ≤ L) (hL : L ≤ 3072) (w : WA A) (q : CA S A) (m : MA S A c) (hc : c < 2000000) (hN : 900 ≤ N) : Fin1 L S c (c_law_17 N (nI p) (mk L S)) :=
  fin1 (C := fun a0 => f_c10_parched N 10 a0) (M := fun a0 => f_c11_parched N 144 a0) hp hL (fun a0 => A_parched w q m hN)
theorem law_18 {A : pA} (hp : p + 6 ≤ L) (hL : L ≤ 3072) (w : WA A) (q : CA S A) (m : MA S A c) (hc : c < 2000000) (hN : 900 ≤ N) : Fin1 L S c (c_law_18 N (nI p) (mk L S)) :=
  fin2 (C := fun a0 a1 => f_c10_drinks N 10 a0 a1) (M := fun a0 a1 => f_c11_drinks N 144 a0 a1) hp hL (fun a0 a1 => A_drinks w q m hN)
theorem law_19 {A : pA} (hp : p + 6 ≤ L) (hL : L ≤ 3072) (w : WA A) (q : CA S A) (m : MA S A c) (hc : c < 2000000) (hN : 900 ≤ N) : Fin1 L S c (c_law_19 N (nI p) (mk L S)) :=
  fin2 (C := fun a0 a1 => f_c10_rises N 10 a0 a1) (M := fun a0 a1 => f_c11_rises N 144 a0 a1) hp hL (fun a0 a1 => A_rises w q m hN)
theorem law_20 {A : pA} (hp : p + 6 ≤ L) (hL : L ≤ 3072) (w : WA A) (q : CA S A) (m : MA S A c) (hc : c < 2000000) (hN : 900 ≤ N) : Fin1 L S c (c_law_20 N (nI p) (mk L S)) :=
  fin1 (C := fun a0 => f_c10_richest N 10 a0) (M := fun a0 => f_c11_richest N 144 a0) hp hL (fun a0 => A_richest w q m hN)
theorem law_21 {A : pA} (hp : p + 6 ≤ L) (hL : L ≤ 3072) (w : WA A) (q : CA S A) (m : MA S A c) (hc : c < 2000000) (hN : 900 ≤ N) : Fin1 L S c (c_law_21 N (nI p) (mk L S)) :=
  fin0 (C := f_c10_balance N 10) (M := f_c11_balance N 144) (A_balance w q m hN)
theorem law_22 {A : pA} (hp : p + 6 ≤ L) (hL : L ≤ 3072) (w : WA A) (q : CA S A) (m : MA S A c) (hc : c < 2000000) (hN : 900 ≤ N) : Fin1 L S c (c_law_22 N (nI p) (mk L S)) :=
  fin1 (C := fun a0 => f_c10_covers N 10 a0) (M := fun a0 => f_c11_covers N 144 a0) hp hL (fun a0 => A_covers w q m hN)
theorem law_23 {A : pA} (hp : p + 6 ≤ L) (hL : L ≤ 3072) (w : WA A) (q : CA S A) (m : MA S A c) (hc : c < 2000000) (hN : 900 ≤ N) : Fin1 L S c (c_law_23 N (nI p) (mk L S)) :=
  fin2 (C := fun a0 a1 => f_c10_best N 10 a0 a1) (M := fun a0 a1 => f_c11_best N 144 a0 a1) hp hL (fun a0 a1 => A_best w q m hN)
theorem law_24 {A : pA} (hp : p + 6 ≤ L) (hL : L ≤ 3072) (w : WA A) (q : CA S A) (m : MA S A c) (hc : c < 2000000) (hN : 900 ≤ N) : Fin1 L S c (c_law_24 N (nI p) (mk L S)) :=
  fin3 (C := fun a0 a1 a2 => f_c10_longest N 10 a0 a1 a2) (M := fun a0 a1 a2 => f_c11_longest N 144 a0 a1 a2) hp hL (fun a0 a1 a2 => A_longest w q m hN)
theorem law_25 {A : pA} (hp : p + 6 ≤ L) (hL : L ≤ 3072) (w : WA A) (q : CA S A) (m : MA S A c) (hc : c < 2000000) (hN : 900 ≤ N) : Fin1 L S c (c_law_25 N (nI p) (mk L S)) :=
  fin1 (C := fun a0 => f_c10_dearest N 10 a0) (M := fun a0 => f_c11_dearest N 144 a0) hp hL (fun a0 => A_dearest w q m hN)
theorem law_26 {A : pA} (hp : p + 6 ≤ L) (hL : L ≤ 3072) (w : WA A) (q : CA S A) (m : MA S A c) (hc : c < 2000000) (hN : 900 ≤ N) : Fin1 L S c (c_law_26 N (nI p) (mk L S)) :=
  fin2 (C := fun a0 a1 => f_c10_bears N 10 a0 a1) (M := fun a0 a1 => f_c11_bears N 144 a0 a1) hp hL (fun a0 a1 => A_bears w q m hN)
theorem law_27 {A : pA} (hp : p + 6 ≤ L) (hL : L ≤ 3072) (w : WA A) (q : CA S A) (m : MA S A c) (hc : c < 2000000) (hN : 900 ≤ N) : Fin1 L S c (c_law_27 N (nI p) (mk L S)) :=
  fin0 (C := f_c10_twins N 10) (M := f_c11_twins N 144) (A_twins w q m hN)
theorem law_28 {A : pA} (hp : p + 6 ≤ L) (hL : L ≤ 3072) (w : WA A) (q : CA S A) (m : MA S A c) (hc : c < 2000000) (hN : 900 ≤ N) : Fin1 L S c (c_law_28 N (nI p) (mk L S)) :=
  fin3 (C := fun a0 a1 a2 => f_c10_route N 10 a0 a1 a2) (M := fun a0 a1 a2 => f_c11_route N 144 a0 a1 a2) hp hL (fun a0 a1 a2 => A_route w q m hN)
theorem law_29 {A : pA} (hp : p + 6 ≤ L) (hL : L ≤ 3072) (w : WA A) (q : CA S A) (m : MA S A c) (hc : c < 2000000) (hN : 900 ≤ N) : Fin1 L S c (c_law_29 N (nI p) (mk L S)) :=
  fin0 (C := f_c10_reach N 10) (M := f_c11_reach N 144) (A_reach w q m hN)
theorem law_30 {A : pA} (hp : p + 6 ≤ L) (hL : L ≤ 3072) (w : WA A) (q : CA S A) (m : MA S A c) (hc : c < 2000000) (hN : 900 ≤ N) : Fin1 L S c (c_law_30 N (nI p) (mk L S)) :=
  fin0 (C := f_c10_square N 10) (M := f_c11_square N 144) (A_square w q m hN)
theorem law_31 {A : pA} (hp : p + 6 ≤ L) (hL : L ≤ 3072) (w : WA A) (q : CA S A) (m : MA S A c) (hc : c < 2000000) (hN : 900 ≤ N) : Fin1 L S c (c_law_31 N (nI p) (mk L S)) :=
  finL (C := fun a0 => f_c10_dry N 10 a0) (M := fun a0 => f_c11_dry N 144 a0) hp hL (fun a0 => A_dry w q m hN)
theorem law_32 {A : pA} (hp : p + 6 ≤ L) (hL : L ≤ 3072) (w : WA A) (q : CA S A) (m : MA S A c) (hc : c < 2000000) (hN : 900 ≤ N) : Fin1 L S c (c_law_32 N (nI p) (mk L S)) :=
  fin2 (C := fun a0 a1 => f_c10_heard N 10 a0 a1) (M := fun a0 a1 => f_c11_heard N 144 a0 a1) hp hL (fun a0 a1 => A_heard w q m)
theorem law_33 {A : pA} (hp : p + 6 ≤ L) (hL : L ≤ 3072) (w : WA A) (q : CA S A) (m : MA S A c) (hc : c < 2000000) (hN : 900 ≤ N) : Fin1 L S c (c_law_33 N (nI p) (mk L S)) :=
  fin0 (C := f_c10_forget N 10) (M := f_c11_forget N 144) (A_forget w q m)
theorem law_34 {A : pA} (hp : p + 6 ≤ L) (hL : L ≤ 3072) (w : WA A) (q : CA S A) (m : MA S A c) (hc : c < 2000000) (hN : 900 ≤ N) : Fin1 L S c (c_law_34 N (nI p) (mk L S)) :=
  fin0 (C := f_c10_fits N 10) (M := f_c11_fits2 N 144) (A_fits w q m hN)
theorem law_35 {A : pA} (hp : p + 6 ≤ L) (hL : L ≤ 3072) (w : WA A) (q : CA S A) (m : MA S A c) (hc : c < 2000000) (hN : 900 ≤ N) : Fin1 L S c (c_law_35 N (nI p) (mk L S)) :=
  fin0 (C := f_c10_asks N 10) (M := f_c11_asks N 144) (A_asks w q m hN)
theorem law_36 {A : pA} (hp : p + 6 ≤ L) (hL : L ≤ 3072) (w : WA A) (q : CA S A) (m : MA S A c) (hc : c < 2000000) (hN : 900 ≤ N) : Fin1 L S c (c_law_36 N (nI p) (mk L S)) :=
  fin5 (C := fun a0 a1 a2 a3 a4 => f_c10_meant N 10 a0 a1 a2 a3 a4) (M := fun a0 a1 a2 a3 a4 => f_c11_meant N 144 a0 a1 a2 a3 a4) hp hL (fun a0 a1 a2 a3 a4 => A_meant w q m hN)
theorem law_37 {A : pA} (hp : p + 6 ≤ L) (hL : L ≤ 3072) (w : WA A) (q : CA S A) (m : MA S A c) (hc : c < 2000000) (hN : 900 ≤ N) : Fin1 L S c (c_law_37 N (nI p) (mk L S)) :=
  fin0 (C := f_c10_waits N 10) (M := f_c11_waits N 144) (A_waits w q m hN)
theorem law_38 {A : pA} (hp : p + 6 ≤ L) (hL : L ≤ 3072) (w : WA A) (q : CA S A) (m : MA S A c) (hc : c < 2000000) (hN : 900 ≤ N) : Fin1 L S c (c_law_38 N (nI p) (mk L S)) :=
  fin1 (C := fun a0 => f_c10_shares N 10 a0) (M := fun a0 => f_c11_shares N 144 a0) hp hL (fun a0 => A_shares w q m hN)
theorem law_39 {A : pA} (hp : p + 6 ≤ L) (hL : L ≤ 3072) (w : WA A) (q : CA S A) (m : MA S A c) (hc : c < 2000000) (hN : 900 ≤ N) : Fin1 L S c (c_law_39 N (nI p) (mk L S)) :=
  fin1 (C := fun a0 => f_c10_squares N 10 a0) (M := fun a0 => f_c11_squares N 144 a0) hp hL (fun a0 => A_squares w q m hN)
theorem law_40 {A : pA} (hp : p + 6 ≤ L) (hL : L ≤ 3072) (w : WA A) (q : CA S A) (m : MA S A c) (hc : c < 2000000) (hN : 900 ≤ N) : Fin1 L S c (c_law_40 N (nI p) (mk L S)) :=
  fin1 (C := fun a0 => f_c10_rests N 10 a0) (M := fun a0 => f_c11_rests N 144 a0) hp hL (fun a0 => A_rests w q m hN)
theorem law_41 {A : pA} (hp : p + 6 ≤ L) (hL : L ≤ 3072) (w : WA A) (q : CA S A) (m : MA S A c) (hc : c < 2000000) (hN : 900 ≤ N) : Fin1 L S c (c_law_41 N (nI p) (mk L S)) :=
  fin0 (C := f_c10_law N 10) (M := f_c11_law N 144) (A_law w q m hN)
theorem law_42 {A : pA} (hp : p + 6 ≤ L) (hL : L ≤ 3072) (w : WA A) (q : CA S A) (m : MA S A c) (hc : c < 2000000) (hN : 900 ≤ N) : Fin1 L S c (c_law_42 N (nI p) (mk L S)) :=
  fin2 (C := fun a0 a1 => f_c10_years N 10 a0 a1) (M := fun a0 a1 => f_c11_years N 144 a0 a1) hp hL (fun a0 a1 => A_years w q m hN)
theorem law_43 {A : pA} (hp : p + 6 ≤ L) (hL : L ≤ 3072) (w : WA A) (q : CA S A) (m : MA S A c) (hc : c < 2000000) (hN : 900 ≤ N) : Fin1 L S c (c_law_43 N (nI p) (mk L S)) :=
  fin1 (C := fun a0 => f_c10_keep N 10 a0) (M := fun a0 => f_c11_keep N 144 a0) hp hL (fun a0 => A_keep w q m hN)
theorem law_44 {A : pA} (hp : p + 6 ≤ L) (hL : L ≤ 3072) (w : WA A) (q : CA S A) (m : MA S A c) (hc : c < 2000000) (hN : 900 ≤ N) : Fin1 L S c (c_law_44 N (nI p) (mk L S)) :=
  fin1 (C := fun a0 => f_c10_again N 10 a0) (M := fun a0 => f_c11_again N 144 a0) hp hL (fun a0 => A_again w q m hc hN)
theorem law_45 {A : pA} (hp : p + 6 ≤ L) (hL : L ≤ 3072) (w : WA A) (q : CA S A) (m : MA S A c) (hc : c < 2000000) (hN : 900 ≤ N) : Fin1 L S c (c_law_45 N (nI p) (mk L S)) :=
  law_count hp hL w q m hN
theorem law_46 {A : pA} (hp : p + 6 ≤ L) (hL : L ≤ 3072) (w : WA A) (q : CA S A) (m : MA S A c) (hc : c < 2000000) (hN : 900 ≤ N) : Fin1 L S c (c_law_46 N (nI p) (mk L S)) :=
  finT1 (C := fun a0 => f_lw_row N 10 a0 170) (M := fun a0 => f_c11_row N 144 a0) hp hL (fun a0 => A_row w q m)
theorem law_all {v : Int32} (hp : p + 6 ≤ L) (hL : L ≤ 3072) (hR : Rl S c) (hc : c < 2000000) (hN : 900 ≤ N) : Fin1 L S c (c_law N v (nI p) (mk L S)) := by
  obtain ⟨A, w, q, m⟩ := hR
  unfold c_law
  refine fin_ite (law_0 hp hL w q m hc hN) ?_
  refine fin_ite (law_1 hp hL w q m hc hN) ?_
  refine fin_ite (law_2 hp hL w q m hc hN) ?_
  refine fin_ite (law_3 hp hL w q m hc hN) ?_
  refine fin_ite (law_4 hp hL w q m hc hN) ?_
  refine fin_ite (law_5 hp hL w q m hc hN) ?_
  refine fin_ite (law_6 hp hL w q m hc hN) ?_
  refine fin_ite (law_7 hp hL w q m hc hN) ?_
  refine fin_ite (law_8 hp hL w q m hc hN) ?_
  refine fin_ite (law_9 hp hL w q m hc hN) ?_
  refine fin_ite (law_10 hp hL w q m hc hN) ?_
  refine fin_ite (law_11 hp hL w q m hc hN) ?_
  refine fin_ite (law_12 hp hL w q m hc hN) ?_
  refine fin_ite (law_13 hp hL w q m hc hN) ?_
  refine fin_ite (law_14 hp hL w q m hc hN) ?_
  refine fin_ite (law_15 hp hL w q m hc hN) ?_
  refine fin_ite (law_16 hp hL w q m hc hN) ?_
  refine fin_ite (law_17 hp hL w q m hc hN) ?_
  refine fin_ite (law_18 hp hL w q m hc hN) ?_
  refine fin_ite (law_19 hp hL w q m hc hN) ?_
  refine fin_ite (law_20 hp hL w q m hc hN) ?_
  refine fin_ite (law_21 hp hL w q m hc hN) ?_
  refine fin_ite (law_22 hp hL w q m hc hN) ?_
  refine fin_ite (law_23 hp hL w q m hc hN) ?_
  refine fin_ite (law_24 hp hL w q m hc hN) ?_
  refine fin_ite (law_25 hp hL w q m hc hN) ?_
  refine fin_ite (law_26 hp hL w q m hc hN) ?_
  refine fin_ite (law_27 hp hL w q m hc hN) ?_
  refine fin_ite (law_28 hp hL w q m hc hN) ?_
  refine fin_ite (law_29 hp hL w q m hc hN) ?_
  refine fin_ite (law_30 hp hL w q m hc hN) ?_
  refine fin_ite (law_31 hp hL w q m hc hN) ?_
  refine fin_ite (law_32 hp hL w q m hc hN) ?_
  refine fin_ite (law_33 hp hL w q m hc hN) ?_
  refine fin_ite (law_34 hp hL w q m hc hN) ?_
  refine fin_ite (law_35 hp hL w q m hc hN) ?_
  refine fin_ite (law_36 hp hL w q m hc hN) ?_
  refine fin_ite (law_37 hp hL w q m hc hN) ?_
  refine fin_ite (law_38 hp hL w q m hc hN) ?_
  refine fin_ite (law_39 hp hL w q m hc hN) ?_
  refine fin_ite (law_40 hp hL w q m hc hN) ?_
  refine fin_ite (law_41 hp hL w q m hc hN) ?_
  refine fin_ite (law_42 hp hL w q m hc hN) ?_
  refine fin_ite (law_43 hp hL w q m hc hN) ?_
  refine fin_ite (law_44 hp hL w q m hc hN) ?_
  refine fin_ite (law_45 hp hL w q m hc hN) ?_
  refine fin_ite (law_46 hp hL w q m hc hN) ?_
  exact ⟨S, c, rfl, rfl, by omega, A, w, q, m⟩
theorem low6 : ∀ n : Nat, n < 6 → nI n - 6 < 0 := by decide
theorem end_t {L p : Nat} (hL : L ≤ 3072) (hp : p ≤ 4000) (h : L < p + 6) : nI L - 6 < nI p := by
  by_cases z : L < 6
  · have h1 := low6 L z
    rw [i32_lt] at h1 ⊢
    rw [nI_toInt (by omega)]
    have : (0 : Int32).toInt = 0 := by decide
    omega
  · rw [k6, nI_sub (by omega)]
    exact nI_lt (by omega) (by omega)
theorem end_f {L p : Nat} (hL : L ≤ 3072) (h : p + 6 ≤ L) : ¬ nI L - 6 < nI p := by
  rw [k6, nI_sub (by omega)]
  exact nI_nlt (by omega) (by omega)
theorem law_run (hL : L ≤ 3072) (hN : 900 ≤ N) : ∀ (k p c : Nat) (S : gS), L < p + 6 * k + 6 → p ≤ 3072 → Rl S c → c + k < 2000000 → ∃ h0, lp_law N (k + 1) (nI p) (mk L S) = some h0 := by
  intro k
  induction k with
  | zero =>
    intro p c S h hp hR hc
    refine ⟨mk L S, ?_⟩
    rw [lp_law.eq_2, gsnL, Option.bind_some, if_pos (end_t hL (by omega) (by omega))]
  | succ k ih =>
    intro p c S h hp hR hc
    by_cases z : L < p + 6
    · refine ⟨mk L S, ?_⟩
      rw [lp_law.eq_2, gsnL, Option.bind_some, if_pos (end_t hL (by omega) z)]
    · obtain ⟨S', c', e1, e2, e3, e4⟩ := law_all (N := N) (v := S.1 0 p &&& 63) (show p + 6 ≤ L by omega) hL hR (by omega) hN
      obtain ⟨h0, e5⟩ := ih (p + 6) c' S' (by omega) (by omega) e4 (by omega)
      refine ⟨h0, ?_⟩
      rw [lp_law.eq_2, gsnL, Option.bind_some, if_neg (end_f hL (by omega)), gasL (by omega) hL, Option.bind_some, e1, Option.bind_some, k6, nI_add]
      exact e5
theorem g_pure : gPure := by
  intro L xs hL
  obtain ⟨tl, e1, e2⟩ := st_any L xs
  obtain ⟨r, e3⟩ := st_Rl (xs := xs) e2
  rw [← okT_mk e3] at e1
  obtain ⟨h0, e4⟩ := law_run (N := gFuel) hL (by decide) 999 0 0 (stS xs tl) (by omega) (by omega) r (by omega)
  exact ⟨mk L (stS xs tl), h0, st_made e1, e4⟩
end LAWS
theorem i_vc : Claimed_1_1 ∧ Claimed_1_2 := i_vc_of g_pure
