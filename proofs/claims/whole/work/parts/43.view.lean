/-! THE VIEW: what the class and the reference hold in common, in numbers -/
abbrev pV : Type := Nat × (Nat → Nat) × (Nat → Nat) × (Nat → Nat) × (Nat → Nat) × (Nat → Nat) × Nat × Nat
def vN (v : pV) : Nat := v.1
def vF (v : pV) : Nat → Nat := v.2.1
def vW (v : pV) : Nat → Nat := v.2.2.1
def vM (v : pV) : Nat → Nat := v.2.2.2.1
def vA (v : pV) : Nat → Nat := v.2.2.2.2.1
def vT (v : pV) : Nat → Nat := v.2.2.2.2.2.1
def vS (v : pV) : Nat := v.2.2.2.2.2.2.1
def vP (v : pV) : Nat := v.2.2.2.2.2.2.2
abbrev pG : Type := Nat × Nat × Nat × (Nat → Nat) × (Nat → Nat)
def gRw (g : pG) : Nat := g.1
def gCo (g : pG) : Nat := g.2.1
def gVm (g : pG) : Nat := g.2.2.1
def gHm (g : pG) : Nat → Nat := g.2.2.2.1
def gTh (g : pG) : Nat → Nat := g.2.2.2.2
def WG (g : pG) : Prop := 3 ≤ gRw g ∧ gRw g ≤ 6 ∧ 3 ≤ gCo g ∧ gCo g ≤ 6 ∧ gVm g ≤ 6 ∧ ∀ i, i < gVm g → gHm g i < gRw g * gCo g ∧ 1 ≤ gTh g i ∧ gTh g i ≤ 6
/-- no field has two wells -/
def VD (v : pV) : Prop := ∀ i j, i < j → j < vN v → vF v i ≠ vF v j
def WV (g : pG) (v : pV) : Prop := vN v ≤ 8 ∧ (vP v ≤ 9999 ∧ VD v) ∧ ∀ w, w < vN v → vF v w < gRw g * gCo g ∧ 1 ≤ vW v w ∧ vW v w ≤ 9 ∧ vM v w ≤ 1 ∧ vA v w ≤ 9 ∧ vT v w ≤ 99
def sDepth (v : pV) (w : Nat) : Nat := if vM v w = 1 then 10 - vW v w else 1
def sFar (g : pG) (a b : Nat) : Nat := ndist (a / gCo g) (b / gCo g) + ndist (a % gCo g) (b % gCo g)
def sCrowd (g : pG) (f : Nat) : Nat := sumN (fun i => if sFar g (gHm g i) f ≤ 2 then 1 else 0) (gVm g)
def sOn (v : pV) (f : Nat) : Option Nat := fstN (fun w => decide (vF v w = f)) 0 (vN v)
def sDry (v : pV) : Nat → Int32
  | 0 => 0
  | i + 1 => if vT v i = 0 then sDry v i ||| ((1 : Int32) <<< (nI i &&& 31)) else sDry v i
/-- the nearest well with water of the first so many -/
def sNear (g : pG) (v : pV) (f : Nat) : Nat → Option Nat
  | 0 => none
  | i + 1 => if vT v i = 0 then sNear g v f i else match sNear g v f i with
    | none => some i
    | some b => if sFar g f (vF v i) < sFar g f (vF v b) then some i else some b
/-- a State of the class holds a view -/
def CV (S : gS) (a : Nat) (v : pV) : Prop := S.1 a 0 = nI (vN v) ∧ S.1 a 6 = nI (vS v) ∧ S.1 a 7 = nI (vP v) ∧ ∀ w, w < vN v → S.1 (a + 1) w = nI (vF v w) ∧ S.1 (a + 2) w = nI (vW v w) ∧ S.1 (a + 3) w = nI (vM v w) ∧ S.1 (a + 4) w = nI (vA v w) ∧ S.1 (a + 5) w = nI (vT v w)
/-- a row of the reference, from o on, holds a view -/
def MV (S : gS) (r o : Nat) (v : pV) : Prop := S.1 r (o + 40) = nI (vN v) ∧ S.1 r (o + 41) = nI (vS v) ∧ S.1 r (o + 42) = nI (vP v) ∧ ∀ w, w < vN v → S.1 r (o + w) = nI (vF v w) ∧ S.1 r (o + (8 + w)) = nI (vW v w) ∧ S.1 r (o + (16 + w)) = nI (vM v w) ∧ S.1 r (o + (24 + w)) = nI (vA v w) ∧ S.1 r (o + (32 + w)) = nI (vT v w)
/-- the same at 0 -/
def MW (S : gS) (r : Nat) (v : pV) : Prop := S.1 r 40 = nI (vN v) ∧ S.1 r 41 = nI (vS v) ∧ S.1 r 42 = nI (vP v) ∧ ∀ w, w < vN v → S.1 r w = nI (vF v w) ∧ S.1 r (8 + w) = nI (vW v w) ∧ S.1 r (16 + w) = nI (vM v w) ∧ S.1 r (24 + w) = nI (vA v w) ∧ S.1 r (32 + w) = nI (vT v w)
/-- the plain, in the class and in the reference -/
def CG (S : gS) (g : pG) : Prop := S.1 15 0 = nI (gRw g) ∧ S.1 15 1 = nI (gCo g) ∧ S.1 15 2 = nI (gVm g) ∧ (∀ i, i < gVm g → S.1 16 i = nI (gHm g i) ∧ S.1 17 i = nI (gTh g i)) ∧ ∀ f, f < gRw g * gCo g → S.1 18 f = nI (sCrowd g f)
def MG (S : gS) (g : pG) : Prop := S.1 144 1 = nI (gRw g) ∧ S.1 144 2 = nI (gCo g) ∧ S.1 144 3 = nI (gVm g) ∧ ∀ i, i < gVm g → S.1 146 i = nI (gHm g i) ∧ S.1 147 i = nI (gTh g i)
theorem CV.fr {A : Nat → Prop} {S S' : gS} {a : Nat} {v : pV} (h : Fr A S S') (hA : ∀ x, a ≤ x → x ≤ a + 5 → ¬ A x) (q : CV S a v) : CV S' a v := by
  refine ⟨(h.i (hA a (by omega) (by omega)) 0).trans q.1, (h.i (hA a (by omega) (by omega)) 6).trans q.2.1, (h.i (hA a (by omega) (by omega)) 7).trans q.2.2.1, fun w hw => ?_⟩
  have z := q.2.2.2 w hw
  exact ⟨(h.i (hA _ (by omega) (by omega)) w).trans z.1, (h.i (hA _ (by omega) (by omega)) w).trans z.2.1, (h.i (hA _ (by omega) (by omega)) w).trans z.2.2.1, (h.i (hA _ (by omega) (by omega)) w).trans z.2.2.2.1, (h.i (hA _ (by omega) (by omega)) w).trans z.2.2.2.2⟩
theorem MV.fr {A : Nat → Prop} {S S' : gS} {r o : Nat} {v : pV} (h : Fr A S S') (hA : ¬ A r) (q : MV S r o v) : MV S' r o v := by
  refine ⟨(h.i hA _).trans q.1, (h.i hA _).trans q.2.1, (h.i hA _).trans q.2.2.1, fun w hw => ?_⟩
  have z := q.2.2.2 w hw
  exact ⟨(h.i hA _).trans z.1, (h.i hA _).trans z.2.1, (h.i hA _).trans z.2.2.1, (h.i hA _).trans z.2.2.2.1, (h.i hA _).trans z.2.2.2.2⟩
theorem MW.fr {A : Nat → Prop} {S S' : gS} {r : Nat} {v : pV} (h : Fr A S S') (hA : ¬ A r) (q : MW S r v) : MW S' r v := by
  refine ⟨(h.i hA _).trans q.1, (h.i hA _).trans q.2.1, (h.i hA _).trans q.2.2.1, fun w hw => ?_⟩
  have z := q.2.2.2 w hw
  exact ⟨(h.i hA _).trans z.1, (h.i hA _).trans z.2.1, (h.i hA _).trans z.2.2.1, (h.i hA _).trans z.2.2.2.1, (h.i hA _).trans z.2.2.2.2⟩
theorem CG.fr {A : Nat → Prop} {S S' : gS} {g : pG} (h : Fr A S S') (hA : ∀ x, 15 ≤ x → x ≤ 18 → ¬ A x) (q : CG S g) : CG S' g :=
  ⟨(h.i (hA _ (by omega) (by omega)) _).trans q.1, (h.i (hA _ (by omega) (by omega)) _).trans q.2.1, (h.i (hA _ (by omega) (by omega)) _).trans q.2.2.1, fun i hi => ⟨(h.i (hA _ (by omega) (by omega)) _).trans (q.2.2.2.1 i hi).1, (h.i (hA _ (by omega) (by omega)) _).trans (q.2.2.2.1 i hi).2⟩, fun f hf => (h.i (hA _ (by omega) (by omega)) _).trans (q.2.2.2.2 f hf)⟩
theorem MG.fr {A : Nat → Prop} {S S' : gS} {g : pG} (h : Fr A S S') (h1 : ∀ k, k = 1 ∨ k = 2 ∨ k = 3 → S'.1 144 k = S.1 144 k) (hA : ¬ A 146 ∧ ¬ A 147) (q : MG S g) : MG S' g :=
  ⟨(h1 1 (by omega)).trans q.1, (h1 2 (by omega)).trans q.2.1, (h1 3 (by omega)).trans q.2.2.1, fun i hi => ⟨(h.i hA.1 _).trans (q.2.2.2 i hi).1, (h.i hA.2 _).trans (q.2.2.2 i hi).2⟩⟩
theorem WG.f {g : pG} (h : WG g) : 9 ≤ gRw g * gCo g ∧ gRw g * gCo g ≤ 36 :=
  ⟨Nat.mul_le_mul h.1 h.2.2.1, Nat.mul_le_mul h.2.1 h.2.2.2.1⟩
theorem MA_145 : kA 145 = some (0, 43) := by rfl
theorem MA_155 : kA 155 = some (0, 43) := by rfl
theorem MA_156 : kA 156 = some (0, 43) := by rfl
theorem mg {L r j : Nat} {S : gS} (h : kA r = some (0, 43)) (hj : j < 43) : ga 0 (mk L S) r (nI j) = some (S.1 r j) := ga_nI h (by decide) hj (by decide)
theorem mp {L r j : Nat} {S : gS} {v : Int32} (h : kA r = some (0, 43)) (hj : j < 43) : sa 0 (mk L S) r (nI j) v = some (mk L (stI S r j v)) := sa_nI h (by decide) hj (by decide)
theorem k0 : (0 : Int32) = nI 0 := rfl
theorem k4 : (4 : Int32) = nI 4 := rfl
theorem k5 : (5 : Int32) = nI 5 := rfl
theorem k6 : (6 : Int32) = nI 6 := rfl
theorem k7 : (7 : Int32) = nI 7 := rfl
theorem k8 : (8 : Int32) = nI 8 := rfl
theorem k9 : (9 : Int32) = nI 9 := rfl
theorem k10 : (10 : Int32) = nI 10 := rfl
theorem k11 : (11 : Int32) = nI 11 := rfl
theorem k12 : (12 : Int32) = nI 12 := rfl
theorem k13 : (13 : Int32) = nI 13 := rfl
theorem k14 : (14 : Int32) = nI 14 := rfl
theorem k15 : (15 : Int32) = nI 15 := rfl
theorem k16 : (16 : Int32) = nI 16 := rfl
theorem k17 : (17 : Int32) = nI 17 := rfl
theorem k18 : (18 : Int32) = nI 18 := rfl
theorem k19 : (19 : Int32) = nI 19 := rfl
theorem k20 : (20 : Int32) = nI 20 := rfl
theorem k21 : (21 : Int32) = nI 21 := rfl
theorem k22 : (22 : Int32) = nI 22 := rfl
theorem k23 : (23 : Int32) = nI 23 := rfl
theorem k24 : (24 : Int32) = nI 24 := rfl
theorem k25 : (25 : Int32) = nI 25 := rfl
theorem k26 : (26 : Int32) = nI 26 := rfl
theorem k27 : (27 : Int32) = nI 27 := rfl
theorem k28 : (28 : Int32) = nI 28 := rfl
theorem k29 : (29 : Int32) = nI 29 := rfl
theorem k30 : (30 : Int32) = nI 30 := rfl
theorem k31 : (31 : Int32) = nI 31 := rfl
theorem k32 : (32 : Int32) = nI 32 := rfl
theorem k33 : (33 : Int32) = nI 33 := rfl
theorem k34 : (34 : Int32) = nI 34 := rfl
theorem k35 : (35 : Int32) = nI 35 := rfl
theorem k36 : (36 : Int32) = nI 36 := rfl
theorem k37 : (37 : Int32) = nI 37 := rfl
theorem k38 : (38 : Int32) = nI 38 := rfl
theorem k39 : (39 : Int32) = nI 39 := rfl
theorem k40 : (40 : Int32) = nI 40 := rfl
theorem k41 : (41 : Int32) = nI 41 := rfl
theorem k42 : (42 : Int32) = nI 42 := rfl
theorem k43 : (43 : Int32) = nI 43 := rfl
theorem k44 : (44 : Int32) = nI 44 := rfl
theorem k45 : (45 : Int32) = nI 45 := rfl
theorem k46 : (46 : Int32) = nI 46 := rfl
theorem k47 : (47 : Int32) = nI 47 := rfl
theorem k48 : (48 : Int32) = nI 48 := rfl
theorem k49 : (49 : Int32) = nI 49 := rfl
theorem k51 : (51 : Int32) = nI 51 := rfl
theorem k54 : (54 : Int32) = nI 54 := rfl
theorem k57 : (57 : Int32) = nI 57 := rfl
theorem k59 : (59 : Int32) = nI 59 := rfl
theorem k60 : (60 : Int32) = nI 60 := rfl
theorem k61 : (61 : Int32) = nI 61 := rfl
theorem k62 : (62 : Int32) = nI 62 := rfl
theorem k63 : (63 : Int32) = nI 63 := rfl
theorem k64 : (64 : Int32) = nI 64 := rfl
theorem k76 : (76 : Int32) = nI 76 := rfl
theorem k80 : (80 : Int32) = nI 80 := rfl
theorem k97 : (97 : Int32) = nI 97 := rfl
theorem k99 : (99 : Int32) = nI 99 := rfl
theorem k100 : (100 : Int32) = nI 100 := rfl
theorem k108 : (108 : Int32) = nI 108 := rfl
theorem k109 : (109 : Int32) = nI 109 := rfl
theorem k110 : (110 : Int32) = nI 110 := rfl
theorem k114 : (114 : Int32) = nI 114 := rfl
theorem k115 : (115 : Int32) = nI 115 := rfl
theorem k118 : (118 : Int32) = nI 118 := rfl
theorem k119 : (119 : Int32) = nI 119 := rfl
theorem k127 : (127 : Int32) = nI 127 := rfl
theorem k255 : (255 : Int32) = nI 255 := rfl
theorem k256 : (256 : Int32) = nI 256 := rfl
theorem k473 : (473 : Int32) = nI 473 := rfl
theorem k1000 : (1000 : Int32) = nI 1000 := rfl
theorem k9999 : (9999 : Int32) = nI 9999 := rfl
theorem k1000000 : (1000000 : Int32) = nI 1000000 := rfl
theorem k2 : (2 : Int32) = nI 2 := rfl
theorem k3 : (3 : Int32) = nI 3 := rfl
theorem k1 : (1 : Int32) = nI 1 := rfl
