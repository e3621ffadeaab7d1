/-! WHAT CLASS AND REFERENCE HOLD IN COMMON -/
abbrev pX : Type := Nat × (Nat → Nat)
abbrev pN : Type := Nat × (Nat → pV)
abbrev pH : Type := Nat × (Nat → Nat) × (Nat → Nat)
/-- the plain, wells, the text, the row, the rule's text, what can be undone, what is kept, what was heard -/
abbrev pA : Type := pG × pV × pX × List Int64 × pX × pN × (Nat → Option pV) × pH
def hOk (w v : Nat) : Prop := w ≤ 4 ∧ (w = 0 → 1 ≤ v ∧ v ≤ 9) ∧ (w = 1 → v ≤ 1) ∧ (w = 2 → v ≤ 99) ∧ (3 ≤ w → v ≤ 5)
def XOk (x : pX) (m : Nat) : Prop := x.1 ≤ m ∧ ∀ j, j < x.1 → x.2 j < 256
def NOk (g : pG) (n : pN) : Prop := n.1 ≤ 12 ∧ ∀ i, i < n.1 → WV g (n.2 i)
def KOk (g : pG) (k : Nat → Option pV) : Prop := ∀ i, i < 2 → ∀ w, k i = some w → WV g w
def HOk (h : pH) : Prop := h.1 ≤ 12 ∧ ∀ j, j < h.1 → hOk (h.2.1 j) (h.2.2 j)
def WA (A : pA) : Prop := WG A.1 ∧ WV A.1 A.2.1 ∧ XOk A.2.2.1 80 ∧ A.2.2.2.1.length ≤ 8 ∧ (XOk A.2.2.2.2.1 40 ∧ ∃ code, ruleCode A.2.2.2.2.1.2 A.2.2.2.2.1.1 = .inl code) ∧ NOk A.1 A.2.2.2.2.2.1 ∧ KOk A.1 A.2.2.2.2.2.2.1 ∧ HOk A.2.2.2.2.2.2.2
-- ===== the class's side =====
def CT (S : gS) (x : pX) : Prop := S.1 11 1 = nI x.1 ∧ ∀ j, j < x.1 → S.1 12 j = nI (x.2 j)
def CR (S : gS) (l : List Int64) : Prop := S.1 13 1 = nI l.length ∧ ∀ j y, l[j]? = some y → S.2.1 14 j = y
def CUr (S : gS) (u : pX) : Prop := ∃ a b, S.2.2 10 11 = some a ∧ S.2.2 10 12 = some b ∧ ((a = 136 ∧ b = 140) ∨ (a = 140 ∧ b = 136)) ∧ ∃ code, ruleCode u.2 u.1 = .inl code ∧ CRu S a code
/-- the signs of the shapes of acts -/
def CStr (S : gS) : Prop := S.1 6 0 = 48 ∧ S.1 7 0 = 48 ∧ S.1 7 1 = 48 ∧ S.1 7 2 = 49 ∧ S.1 7 3 = 46 ∧ S.1 8 0 = 48 ∧ S.1 8 1 = 49
def C0 (S : gS) : Prop := S.1 1 0 = 100 ∧ S.1 1 1 = 45 ∧ S.1 1 2 = 97 ∧ S.1 1 3 = 42 ∧ S.1 1 4 = 50 ∧ CStr S
def CN (S : gS) (n : pN) : Prop := (S.1 40 3 = nI n.1 ∧ n.1 ≤ 12) ∧ ∃ π : Nat → Nat, (∀ i, i < 12 → π i < 12 ∧ S.2.2 41 i = some (44 + 6 * π i)) ∧ (∀ i j, i < 12 → j < 12 → π i = π j → i = j) ∧ ∀ i, i < n.1 → CV S (44 + 6 * π i) (n.2 i)
def CK (S : gS) (k : Nat → Option pV) : Prop := ∀ i, i < 2 → S.2.2 42 i = some (116 + 6 * i) ∧ (k i = none → S.1 43 i = 0) ∧ ∀ w, k i = some w → S.1 43 i = 1 ∧ CV S (116 + 6 * i) w
def CH (S : gS) (h : pH) : Prop := S.1 128 2 = nI h.1 ∧ ∀ j, j < h.1 → S.1 129 j = nI (h.2.1 j) ∧ S.1 130 j = nI (h.2.2 j)
def CA (S : gS) (A : pA) : Prop := CG S A.1 ∧ CV S 19 A.2.1 ∧ CT S A.2.2.1 ∧ CR S A.2.2.2.1 ∧ (CUr S A.2.2.2.2.1 ∧ C0 S) ∧ CN S A.2.2.2.2.2.1 ∧ CK S A.2.2.2.2.2.2.1 ∧ CH S A.2.2.2.2.2.2.2
-- ===== the reference's side =====
def MR (S : gS) (l : List Int64) : Prop := S.1 144 9 = nI l.length ∧ ∀ j y, l[j]? = some y → S.2.1 149 j = y
def MN (S : gS) (n : pN) : Prop := S.1 144 23 = nI n.1 ∧ ∀ i, i < n.1 → MV S 154 (43 * i) (n.2 i)
def MK (S : gS) (k : Nat → Option pV) (c : Nat) : Prop := S.1 144 38 = nI c ∧ ∀ i, i < 2 → (k i = none → S.1 168 i = 0 ∨ (S.1 168 i = 1 ∧ ∃ d, d < c ∧ S.1 169 i = nI d)) ∧ ∀ w, k i = some w → S.1 168 i = 1 ∧ S.1 169 i = nI c ∧ MV S 167 (43 * i) w
def MH (S : gS) (h : pH) : Prop := S.1 144 34 = nI h.1 ∧ ∀ j, j < h.1 → S.1 163 j = nI (h.2.1 j) ∧ S.1 164 j = nI (h.2.2 j)
def MA (S : gS) (A : pA) (c : Nat) : Prop := MG S A.1 ∧ MW S 145 A.2.1 ∧ MT S A.2.2.1.1 A.2.2.1.2 ∧ MR S A.2.2.2.1 ∧ (MU S 151 A.2.2.2.2.1.1 A.2.2.2.2.1.2 ∧ S.2.2 144 18 = some 152) ∧ MN S A.2.2.2.2.2.1 ∧ MK S A.2.2.2.2.2.2.1 c ∧ MH S A.2.2.2.2.2.2.2
def Rl (S : gS) (c : Nat) : Prop := ∃ A, WA A ∧ CA S A ∧ MA S A c
section FRAMES
variable {A K : Nat → Prop} {S S' : gS}
theorem CT.fr {x : pX} (h : Fr A S S') (h1 : ¬ A 11 ∧ ¬ A 12) (q : CT S x) : CT S' x := ⟨(h.i h1.1 1).trans q.1, fun j hj => (h.i h1.2 j).trans (q.2 j hj)⟩
theorem CR.fr {l : List Int64} (h : Fr A S S') (h1 : ¬ A 13 ∧ ¬ A 14) (q : CR S l) : CR S' l := ⟨(h.i h1.1 1).trans q.1, fun j y hy => (h.l h1.2 j).trans (q.2 j y hy)⟩
theorem C0.fr (h : Fr A S S') (h1 : ¬ A 1 ∧ ¬ A 6 ∧ ¬ A 7 ∧ ¬ A 8) (q : C0 S) : C0 S' := by
  unfold C0 CStr
  rw [h.i h1.1, h.i h1.1, h.i h1.1, h.i h1.1, h.i h1.1, h.i h1.2.1, h.i h1.2.2.1, h.i h1.2.2.1, h.i h1.2.2.1, h.i h1.2.2.1, h.i h1.2.2.2, h.i h1.2.2.2]
  exact q
theorem CUr.fr {u : pX} (h : Fr A S S') (h1 : ¬ A 10 ∧ (¬ A 136 ∧ ¬ A 137) ∧ (¬ A 140 ∧ ¬ A 141)) (q : CUr S u) : CUr S' u := by
  obtain ⟨a, b, q1, q2, q3, code, q4, q5⟩ := q
  refine ⟨a, b, (h.p h1.1 11).trans q1, (h.p h1.1 12).trans q2, q3, code, q4, q5.fr h ?_⟩
  rcases q3 with ⟨rfl, _⟩ | ⟨rfl, _⟩
  · exact h1.2.1
  · exact h1.2.2
theorem CN.fr {n : pN} (h : Fr A S S') (h1 : ∀ x, 40 ≤ x → x ≤ 115 → ¬ A x) (q : CN S n) : CN S' n := by
  obtain ⟨q0, π, q1, q2, q3⟩ := q
  refine ⟨⟨(h.i (h1 40 (by omega) (by omega)) 3).trans q0.1, q0.2⟩, π, fun i hi => ⟨(q1 i hi).1, (h.p (h1 41 (by omega) (by omega)) i).trans (q1 i hi).2⟩, q2, fun i hi => ?_⟩
  have h12 := q0.2
  have := (q1 i (by omega)).1
  exact (q3 i hi).fr h (fun x hx1 hx2 => h1 x (by omega) (by omega))
theorem CK.fr {k : Nat → Option pV} (h : Fr A S S') (h1 : ¬ A 42 ∧ ¬ A 43 ∧ ∀ x, 116 ≤ x → x ≤ 127 → ¬ A x) (q : CK S k) : CK S' k := by
  intro i hi
  obtain ⟨q1, q2, q3⟩ := q i hi
  refine ⟨(h.p h1.1 i).trans q1, fun z => (h.i h1.2.1 i).trans (q2 z), fun w hw => ⟨(h.i h1.2.1 i).trans (q3 w hw).1, (q3 w hw).2.fr h (fun x hx1 hx2 => h1.2.2 x (by omega) (by omega))⟩⟩
theorem CH.fr {k : pH} (h : Fr A S S') (h1 : ¬ A 128 ∧ ¬ A 129 ∧ ¬ A 130) (q : CH S k) : CH S' k :=
  ⟨(h.i h1.1 2).trans q.1, fun j hj => ⟨(h.i h1.2.1 j).trans (q.2 j hj).1, (h.i h1.2.2 j).trans (q.2 j hj).2⟩⟩
theorem MT.fm {m : Nat} {t : Nat → Nat} (h : FM A K S S') (h1 : ¬ A 148) (h2 : ¬ K 7) (q : MT S m t) : MT S' m t := ⟨(h.k h2).trans q.1, fun j hj => ⟨(q.2 j hj).1, (h.i (by omega) h1 j).trans (q.2 j hj).2⟩⟩
theorem MR.fm {l : List Int64} (h : FM A K S S') (h1 : ¬ A 149) (h2 : ¬ K 9) (q : MR S l) : MR S' l := ⟨(h.k h2).trans q.1, fun j y hy => (h.l (by omega) h1 j).trans (q.2 j y hy)⟩
theorem MN.fm {n : pN} (h : FM A K S S') (h1 : ¬ A 154) (h2 : ¬ K 23) (q : MN S n) : MN S' n := ⟨(h.k h2).trans q.1, fun i hi => (q.2 i hi).fm h (by omega) h1⟩
theorem MK.fm {k : Nat → Option pV} {c : Nat} (h : FM A K S S') (h1 : ¬ A 167 ∧ ¬ A 168 ∧ ¬ A 169) (h2 : ¬ K 38) (q : MK S k c) : MK S' k c := by
  refine ⟨(h.k h2).trans q.1, fun i hi => ?_⟩
  obtain ⟨q1, q2⟩ := q.2 i hi
  have e1 := h.i (by omega) h1.2.1 i
  have e2 := h.i (by omega) h1.2.2 i
  rw [e1, e2]
  exact ⟨q1, fun w hw => ⟨(q2 w hw).1, (q2 w hw).2.1, (q2 w hw).2.2.fm h (by omega) h1.1⟩⟩
theorem MH.fm {k : pH} (h : FM A K S S') (h1 : ¬ A 163 ∧ ¬ A 164) (h2 : ¬ K 34) (q : MH S k) : MH S' k :=
  ⟨(h.k h2).trans q.1, fun j hj => ⟨(h.i (by omega) h1.1 j).trans (q.2 j hj).1, (h.i (by omega) h1.2 j).trans (q.2 j hj).2⟩⟩
/-- cells of the class that hold nothing in common -/
def sC (x : Nat) : Prop := (25 ≤ x ∧ x ≤ 39) ∨ (131 ≤ x ∧ x ≤ 135) ∨ x = 139 ∨ x = 143 ∨ 144 ≤ x
theorem CA.fr {B : pA} (h : Fr A S S') (hA : ∀ x, A x → sC x) (q : CA S B) : CA S' B := by
  have n : ∀ x, ¬ sC x → ¬ A x := fun x hx z => hx (hA x z)
  obtain ⟨q1, q2, q3, q4, ⟨q5, q0⟩, q6, q7, q8⟩ := q
  refine ⟨q1.fr h (fun x h1 h2 => n x ?_), q2.fr h (fun x h1 h2 => n x ?_), q3.fr h ⟨n _ ?_, n _ ?_⟩, q4.fr h ⟨n _ ?_, n _ ?_⟩, ⟨q5.fr h ⟨n _ ?_, ⟨n _ ?_, n _ ?_⟩, ⟨n _ ?_, n _ ?_⟩⟩, q0.fr h ⟨n _ ?_, n _ ?_, n _ ?_, n _ ?_⟩⟩, q6.fr h (fun x h1 h2 => n x ?_), q7.fr h ⟨n _ ?_, n _ ?_, fun x h1 h2 => n x ?_⟩, q8.fr h ⟨n _ ?_, n _ ?_, n _ ?_⟩⟩
  all_goals unfold sC; omega
def sM (x : Nat) : Prop := x = 150 ∨ x = 152 ∨ x = 153 ∨ (155 ≤ x ∧ x ≤ 162) ∨ x = 165 ∨ x = 166 ∨ x = 170 ∨ x < 144
def sK (k : Nat) : Prop := (10 ≤ k ∧ k ≤ 15) ∨ k = 20 ∨ k = 37
theorem MA.fm {B : pA} {c : Nat} (h : FM A K S S') (hA : ∀ x, A x → sM x) (hK : ∀ k, K k → sK k) (q : MA S B c) : MA S' B c := by
  have n : ∀ x, ¬ sM x → ¬ A x := fun x hx z => hx (hA x z)
  have m : ∀ x, ¬ sK x → ¬ K x := fun x hx z => hx (hK x z)
  obtain ⟨q1, q2, q3, q4, ⟨q5, q0⟩, q6, q7, q8⟩ := q
  refine ⟨q1.fm h ⟨m _ ?_, m _ ?_, m _ ?_⟩ ⟨n _ ?_, n _ ?_⟩, q2.fm h (by omega) (n _ ?_), q3.fm h (n _ ?_) (m _ ?_), q4.fm h (n _ ?_) (m _ ?_), ⟨⟨(h.p (m _ ?_)).trans q5.1, (h.k (m _ ?_)).trans q5.2.1, q5.2.2.1, q5.2.2.2.1, fun j hj => ⟨(q5.2.2.2.2 j hj).1, (h.i (by omega) (n _ ?_) j).trans (q5.2.2.2.2 j hj).2⟩⟩, (h.p (m _ ?_)).trans q0⟩, q6.fm h (n _ ?_) (m _ ?_), q7.fm h ⟨n _ ?_, n _ ?_, n _ ?_⟩ (m _ ?_), q8.fm h ⟨n _ ?_, n _ ?_⟩ (m _ ?_)⟩
  all_goals first | (unfold sK; omega) | (unfold sM; omega)
def lowC (x : Nat) : Prop := 10 ≤ x ∧ x < 144
def highM (x : Nat) : Prop := 144 ≤ x
theorem MA.low {B : pA} {c : Nat} (h : Fr lowC S S') (q : MA S B c) : MA S' B c := by
  refine MA.fm (A := lowC) (K := fun _ => False) ⟨fun x _ hx => h x hx, fun k _ => ?_⟩ (fun x hx => by unfold lowC at hx; unfold sM; omega) (fun k z => z.elim) q
  have := h 144 (by unfold lowC; omega)
  exact ⟨by rw [this.1], by rw [this.2.2]⟩
theorem CA.high {B : pA} (h : Fr highM S S') (q : CA S B) : CA S' B := q.fr h (fun x hx => by unfold highM at hx; unfold sC; omega)
theorem FM.high (h : FM A K S S') (hA : ∀ x, A x → 144 ≤ x) : Fr highM S S' := fun x hx => h.1 x (by unfold highM at hx; omega) (fun z => hx (hA x z))
theorem Fr.low (h : Fr A S S') (hA : ∀ x, A x → 10 ≤ x ∧ x < 144) : Fr lowC S S' := h.mono hA
end FRAMES
-- ===== one component changed =====
section COMP
variable {S S' : gS} {g g' : pG} {v v' : pV} {x x' : pX} {l l' : List Int64} {u u' : pX} {n n' : pN} {k k' : Nat → Option pV} {h h' : pH} {c : Nat}
theorem CA.now (f : Fr (fun y => sC y ∨ (19 ≤ y ∧ y ≤ 24)) S S') (q : CA S (g, v, x, l, u, n, k, h)) (e : CV S' 19 v') : CA S' (g, v', x, l, u, n, k, h) := by
  obtain ⟨q1, q2, q3, q4, ⟨q5, q0⟩, q6, q7, q8⟩ := q
  refine ⟨q1.fr f ?_, e, q3.fr f ⟨?_, ?_⟩, q4.fr f ⟨?_, ?_⟩, ⟨q5.fr f ⟨?_, ⟨?_, ?_⟩, ⟨?_, ?_⟩⟩, q0.fr f ⟨?_, ?_, ?_, ?_⟩⟩, q6.fr f ?_, q7.fr f ⟨?_, ?_, ?_⟩, q8.fr f ⟨?_, ?_, ?_⟩⟩
  all_goals (try intro y h1 h2); unfold sC; omega
theorem CA.text (f : Fr (fun y => sC y ∨ y = 11 ∨ y = 12) S S') (q : CA S (g, v, x, l, u, n, k, h)) (e : CT S' x') : CA S' (g, v, x', l, u, n, k, h) := by
  obtain ⟨q1, q2, q3, q4, ⟨q5, q0⟩, q6, q7, q8⟩ := q
  refine ⟨q1.fr f ?_, q2.fr f ?_, e, q4.fr f ⟨?_, ?_⟩, ⟨q5.fr f ⟨?_, ⟨?_, ?_⟩, ⟨?_, ?_⟩⟩, q0.fr f ⟨?_, ?_, ?_, ?_⟩⟩, q6.fr f ?_, q7.fr f ⟨?_, ?_, ?_⟩, q8.fr f ⟨?_, ?_, ?_⟩⟩
  all_goals (try intro y h1 h2); unfold sC; omega
theorem CA.row (f : Fr (fun y => sC y ∨ y = 13 ∨ y = 14) S S') (q : CA S (g, v, x, l, u, n, k, h)) (e : CR S' l') : CA S' (g, v, x, l', u, n, k, h) := by
  obtain ⟨q1, q2, q3, q4, ⟨q5, q0⟩, q6, q7, q8⟩ := q
  refine ⟨q1.fr f ?_, q2.fr f ?_, q3.fr f ⟨?_, ?_⟩, e, ⟨q5.fr f ⟨?_, ⟨?_, ?_⟩, ⟨?_, ?_⟩⟩, q0.fr f ⟨?_, ?_, ?_, ?_⟩⟩, q6.fr f ?_, q7.fr f ⟨?_, ?_, ?_⟩, q8.fr f ⟨?_, ?_, ?_⟩⟩
  all_goals (try intro y h1 h2); unfold sC; omega
theorem CA.rule (f : Fr (fun y => sC y ∨ y = 10 ∨ (136 ≤ y ∧ y ≤ 143)) S S') (q : CA S (g, v, x, l, u, n, k, h)) (e : CUr S' u') : CA S' (g, v, x, l, u', n, k, h) := by
  obtain ⟨q1, q2, q3, q4, ⟨q5, q0⟩, q6, q7, q8⟩ := q
  refine ⟨q1.fr f ?_, q2.fr f ?_, q3.fr f ⟨?_, ?_⟩, q4.fr f ⟨?_, ?_⟩, ⟨e, q0.fr f ⟨?_, ?_, ?_, ?_⟩⟩, q6.fr f ?_, q7.fr f ⟨?_, ?_, ?_⟩, q8.fr f ⟨?_, ?_, ?_⟩⟩
  all_goals (try intro y h1 h2); unfold sC; omega
theorem CA.undo (f : Fr (fun y => sC y ∨ y = 40 ∨ y = 41 ∨ (44 ≤ y ∧ y ≤ 115)) S S') (q : CA S (g, v, x, l, u, n, k, h)) (e : CN S' n') : CA S' (g, v, x, l, u, n', k, h) := by
  obtain ⟨q1, q2, q3, q4, ⟨q5, q0⟩, q6, q7, q8⟩ := q
  refine ⟨q1.fr f ?_, q2.fr f ?_, q3.fr f ⟨?_, ?_⟩, q4.fr f ⟨?_, ?_⟩, ⟨q5.fr f ⟨?_, ⟨?_, ?_⟩, ⟨?_, ?_⟩⟩, q0.fr f ⟨?_, ?_, ?_, ?_⟩⟩, e, q7.fr f ⟨?_, ?_, ?_⟩, q8.fr f ⟨?_, ?_, ?_⟩⟩
  all_goals (try intro y h1 h2); unfold sC; omega
theorem CA.kept (f : Fr (fun y => sC y ∨ y = 43 ∨ (116 ≤ y ∧ y ≤ 127)) S S') (q : CA S (g, v, x, l, u, n, k, h)) (e : CK S' k') : CA S' (g, v, x, l, u, n, k', h) := by
  obtain ⟨q1, q2, q3, q4, ⟨q5, q0⟩, q6, q7, q8⟩ := q
  obtain ⟨n0, π, n1, n2, n3⟩ := q6
  refine ⟨q1.fr f ?_, q2.fr f ?_, q3.fr f ⟨?_, ?_⟩, q4.fr f ⟨?_, ?_⟩, ⟨q5.fr f ⟨?_, ⟨?_, ?_⟩, ⟨?_, ?_⟩⟩, q0.fr f ⟨?_, ?_, ?_, ?_⟩⟩, ⟨⟨(f.i ?_ 3).trans n0.1, n0.2⟩, π, fun i hi => ⟨(n1 i hi).1, (f.p ?_ i).trans (n1 i hi).2⟩, n2, fun i hi => (n3 i hi).fr f ?_⟩, e, q8.fr f ⟨?_, ?_, ?_⟩⟩
  all_goals (try intro y h1 h2); (try have := (n1 i (Nat.lt_of_lt_of_le hi n0.2)).1); unfold sC; omega
theorem CA.hear (f : Fr (fun y => sC y ∨ (128 ≤ y ∧ y ≤ 130)) S S') (q : CA S (g, v, x, l, u, n, k, h)) (e : CH S' h') : CA S' (g, v, x, l, u, n, k, h') := by
  obtain ⟨q1, q2, q3, q4, ⟨q5, q0⟩, q6, q7, q8⟩ := q
  refine ⟨q1.fr f ?_, q2.fr f ?_, q3.fr f ⟨?_, ?_⟩, q4.fr f ⟨?_, ?_⟩, ⟨q5.fr f ⟨?_, ⟨?_, ?_⟩, ⟨?_, ?_⟩⟩, q0.fr f ⟨?_, ?_, ?_, ?_⟩⟩, q6.fr f ?_, q7.fr f ⟨?_, ?_, ?_⟩, e⟩
  all_goals (try intro y h1 h2); unfold sC; omega
theorem MA.now (f : FM (fun y => sM y ∨ y = 145) sK S S') (q : MA S (g, v, x, l, u, n, k, h) c) (e : MW S' 145 v') : MA S' (g, v', x, l, u, n, k, h) c := by
  obtain ⟨q1, q2, q3, q4, ⟨q5, q0⟩, q6, q7, q8⟩ := q
  refine ⟨q1.fm f ⟨?_, ?_, ?_⟩ ⟨?_, ?_⟩, e, q3.fm f ?_ ?_, q4.fm f ?_ ?_, ⟨⟨(f.p ?_).trans q5.1, (f.k ?_).trans q5.2.1, q5.2.2.1, q5.2.2.2.1, fun j hj => ⟨(q5.2.2.2.2 j hj).1, (f.i (by omega) ?_ j).trans (q5.2.2.2.2 j hj).2⟩⟩, (f.p ?_).trans q0⟩, q6.fm f ?_ ?_, q7.fm f ⟨?_, ?_, ?_⟩ ?_, q8.fm f ⟨?_, ?_⟩ ?_⟩
  all_goals first | (unfold sK; omega) | (unfold sM; omega)
theorem MA.text (f : FM (fun y => sM y ∨ y = 148) (fun y => sK y ∨ y = 7) S S') (q : MA S (g, v, x, l, u, n, k, h) c) (e : MT S' x'.1 x'.2) : MA S' (g, v, x', l, u, n, k, h) c := by
  obtain ⟨q1, q2, q3, q4, ⟨q5, q0⟩, q6, q7, q8⟩ := q
  refine ⟨q1.fm f ⟨?_, ?_, ?_⟩ ⟨?_, ?_⟩, q2.fm f (by omega) ?_, e, q4.fm f ?_ ?_, ⟨⟨(f.p ?_).trans q5.1, (f.k ?_).trans q5.2.1, q5.2.2.1, q5.2.2.2.1, fun j hj => ⟨(q5.2.2.2.2 j hj).1, (f.i (by omega) ?_ j).trans (q5.2.2.2.2 j hj).2⟩⟩, (f.p ?_).trans q0⟩, q6.fm f ?_ ?_, q7.fm f ⟨?_, ?_, ?_⟩ ?_, q8.fm f ⟨?_, ?_⟩ ?_⟩
  all_goals first | (unfold sK; omega) | (unfold sM; omega)
theorem MA.row (f : FM (fun y => sM y ∨ y = 149) (fun y => sK y ∨ y = 9) S S') (q : MA S (g, v, x, l, u, n, k, h) c) (e : MR S' l') : MA S' (g, v, x, l', u, n, k, h) c := by
  obtain ⟨q1, q2, q3, q4, ⟨q5, q0⟩, q6, q7, q8⟩ := q
  refine ⟨q1.fm f ⟨?_, ?_, ?_⟩ ⟨?_, ?_⟩, q2.fm f (by omega) ?_, q3.fm f ?_ ?_, e, ⟨⟨(f.p ?_).trans q5.1, (f.k ?_).trans q5.2.1, q5.2.2.1, q5.2.2.2.1, fun j hj => ⟨(q5.2.2.2.2 j hj).1, (f.i (by omega) ?_ j).trans (q5.2.2.2.2 j hj).2⟩⟩, (f.p ?_).trans q0⟩, q6.fm f ?_ ?_, q7.fm f ⟨?_, ?_, ?_⟩ ?_, q8.fm f ⟨?_, ?_⟩ ?_⟩
  all_goals first | (unfold sK; omega) | (unfold sM; omega)
theorem MA.undo (f : FM (fun y => sM y ∨ y = 154) (fun y => sK y ∨ y = 23) S S') (q : MA S (g, v, x, l, u, n, k, h) c) (e : MN S' n') : MA S' (g, v, x, l, u, n', k, h) c := by
  obtain ⟨q1, q2, q3, q4, ⟨q5, q0⟩, q6, q7, q8⟩ := q
  refine ⟨q1.fm f ⟨?_, ?_, ?_⟩ ⟨?_, ?_⟩, q2.fm f (by omega) ?_, q3.fm f ?_ ?_, q4.fm f ?_ ?_, ⟨⟨(f.p ?_).trans q5.1, (f.k ?_).trans q5.2.1, q5.2.2.1, q5.2.2.2.1, fun j hj => ⟨(q5.2.2.2.2 j hj).1, (f.i (by omega) ?_ j).trans (q5.2.2.2.2 j hj).2⟩⟩, (f.p ?_).trans q0⟩, e, q7.fm f ⟨?_, ?_, ?_⟩ ?_, q8.fm f ⟨?_, ?_⟩ ?_⟩
  all_goals first | (unfold sK; omega) | (unfold sM; omega)
theorem MA.hear (f : FM (fun y => sM y ∨ y = 163 ∨ y = 164) (fun y => sK y ∨ y = 34) S S') (q : MA S (g, v, x, l, u, n, k, h) c) (e : MH S' h') : MA S' (g, v, x, l, u, n, k, h') c := by
  obtain ⟨q1, q2, q3, q4, ⟨q5, q0⟩, q6, q7, q8⟩ := q
  refine ⟨q1.fm f ⟨?_, ?_, ?_⟩ ⟨?_, ?_⟩, q2.fm f (by omega) ?_, q3.fm f ?_ ?_, q4.fm f ?_ ?_, ⟨⟨(f.p ?_).trans q5.1, (f.k ?_).trans q5.2.1, q5.2.2.1, q5.2.2.2.1, fun j hj => ⟨(q5.2.2.2.2 j hj).1, (f.i (by omega) ?_ j).trans (q5.2.2.2.2 j hj).2⟩⟩, (f.p ?_).trans q0⟩, q6.fm f ?_ ?_, q7.fm f ⟨?_, ?_, ?_⟩ ?_, e⟩
  all_goals first | (unfold sK; omega) | (unfold sM; omega)
theorem MA.kept {c' : Nat} (f : FM (fun y => sM y ∨ (167 ≤ y ∧ y ≤ 169)) (fun y => sK y ∨ y = 38) S S') (q : MA S (g, v, x, l, u, n, k, h) c) (e : MK S' k' c') : MA S' (g, v, x, l, u, n, k', h) c' := by
  obtain ⟨q1, q2, q3, q4, ⟨q5, q0⟩, q6, q7, q8⟩ := q
  refine ⟨q1.fm f ⟨?_, ?_, ?_⟩ ⟨?_, ?_⟩, q2.fm f (by omega) ?_, q3.fm f ?_ ?_, q4.fm f ?_ ?_, ⟨⟨(f.p ?_).trans q5.1, (f.k ?_).trans q5.2.1, q5.2.2.1, q5.2.2.2.1, fun j hj => ⟨(q5.2.2.2.2 j hj).1, (f.i (by omega) ?_ j).trans (q5.2.2.2.2 j hj).2⟩⟩, (f.p ?_).trans q0⟩, q6.fm f ?_ ?_, e, q8.fm f ⟨?_, ?_⟩ ?_⟩
  all_goals first | (unfold sK; omega) | (unfold sM; omega)
end COMP
