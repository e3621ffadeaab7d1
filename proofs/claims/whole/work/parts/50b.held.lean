/-! comparisons, and all of it -/
theorem bE {α β : Type} {o : Option α} {x : α} {f : α → Option β} {r : Option β} (h : o = some x) (k : f x = r) : o.bind f = r := by rw [h]; exact k
theorem iT {α : Type} {c : Prop} [Decidable c] {a b r : α} (h : c) (k : a = r) : (if c then a else b) = r := by rw [if_pos h]; exact k
theorem iF {α : Type} {c : Prop} [Decidable c] {a b r : α} (h : ¬ c) (k : b = r) : (if c then a else b) = r := by rw [if_neg h]; exact k
theorem n10 : ¬ ((1 : Int32) = 0) := by decide
section HELD
variable {N : Nat} {F : Nat → Nat → Int32 → gH → Option (Int32 × gH)} {d v v2 : Int32} {h h1 h2 h3 : gH}
theorem held_n (hg : gcl h 144 11 = some ()) (e1 : F 1 144 d h = some (v, h1)) (p60 : f_c11_passes N 144 60 h1 = some (0, h1)) (p62 : f_c11_passes N 144 62 h1 = some (0, h1)) (p61 : f_c11_passes N 144 61 h1 = some (0, h1)) : b_fn_c11_held N F 144 d h = some (v, h1) :=
  bE hg (bE e1 (bE p60 (iT rfl (bE p62 (iT rfl (bE p61 (iT rfl rfl)))))))
theorem held_l (hg : gcl h 144 11 = some ()) (e1 : F 1 144 d h = some (v, h1)) (p60 : f_c11_passes N 144 60 h1 = some (1, h2)) (e2 : F 1 144 d h2 = some (v2, h3)) : b_fn_c11_held N F 144 d h = some (if v2 ≤ v then 0 else 1, h3) :=
  bE hg (bE e1 (bE p60 (iF n10 (bE e2 rfl))))
theorem held_g (hg : gcl h 144 11 = some ()) (e1 : F 1 144 d h = some (v, h1)) (p60 : f_c11_passes N 144 60 h1 = some (0, h1)) (p62 : f_c11_passes N 144 62 h1 = some (1, h2)) (e2 : F 1 144 d h2 = some (v2, h3)) : b_fn_c11_held N F 144 d h = some (if v ≤ v2 then 0 else 1, h3) :=
  bE hg (bE e1 (bE p60 (iT rfl (bE p62 (iF n10 (bE e2 rfl))))))
theorem held_e (hg : gcl h 144 11 = some ()) (e1 : F 1 144 d h = some (v, h1)) (p60 : f_c11_passes N 144 60 h1 = some (0, h1)) (p62 : f_c11_passes N 144 62 h1 = some (0, h1)) (p61 : f_c11_passes N 144 61 h1 = some (1, h2)) (e2 : F 1 144 d h2 = some (v2, h3)) : b_fn_c11_held N F 144 d h = some (if v = v2 then 1 else 0, h3) :=
  bE hg (bE e1 (bE p60 (iT rfl (bE p62 (iT rfl (bE p61 (iF n10 (bE e2 rfl))))))))
end HELD
section CLAIM3
variable {L N id len : Nat} {S : gS} {t : Nat → Nat} {over : Bool} {ask : Nat → Int32} {n : Nat}
theorem T_held {p deep : Nat} {O : List Int32} {W : List Nat} {m : Nat → Bool} {d : Nat} (h : RC S id len 40 t) (hp : p ≤ min len 40) (hd : deep ≤ 4) (hW : cLow 1 W) (hm : m deep = false) (hN : 4 * (min len 40 - p) + 3 ≤ N) (ih : Cl L S t (min len 40) over ask N) :
    Res L S t (min len 40) over ask (b_fn_c11_held N (F_rule N) 144 (nI deep) (mk L (ms S (nI p) (-1)))) 0 p deep O W m d := by
  have hlen := h.2.2.2.1
  have hW2 : cLow 2 W := by
    cases W with
    | nil => trivial
    | cons c W => have : cRank c < 1 := hW; show cRank c < 2; omega
  rcases ih 1 p deep O W m d (by omega) hp hd (by omega) (fun _ => hW2) (fun q => by omega) with ⟨v, x, q, e1, e2, e3⟩ | ⟨v, p1, c, pend, m1, d1, e1, e2, e3, e4, q1, q2, q3, q4, q5, q6, q7, q8⟩
  · refine Or.inl ⟨v, x, q, ?_, e2, e3⟩
    exact held_n zc144 e1 (M_passes_f (by omega)) (M_passes_f (by omega)) (M_passes_f (by omega))
  · by_cases z : p1 < min len 40 ∧ (t p1 = 60 ∨ t p1 = 61 ∨ t p1 = 62)
    · have e0 : cFin t over p (min len 40 - p) (O, W, deep, m, d, true) = cFin t over (p1 + 1) (min len 40 - (p1 + 1)) ((pend.map cNeg).reverse ++ (c ++ O), t p1 :: W, deep, (fun j => if j = deep then true else m1 j), 0, true) := by
        rw [e4]
        exact opCmp z.2 (by rw [q4 (by omega)]; exact hm) hW q1 z.1 rfl
      have hop : t p1 = 60 ∨ t p1 = 61 ∨ t p1 = 62 ∨ t p1 = 43 ∨ t p1 = 45 ∨ t p1 = 42 ∨ t p1 = 47 := by omega
      have hlow : cLow (1 + 1) (t p1 :: W) := by
        show cRank (t p1) < 2
        rcases z.2 with y | y | y <;> rw [y] <;> decide
      have ep : ∀ c0 : Nat, t p1 ≠ c0 → c0 < 256 → f_c11_passes N 144 (nI c0) (mk L (ms S (nI p1) (-1))) = some (0, mk L (ms S (nI p1) (-1))) := fun c0 hc hc2 => M_passes_n h (by omega) (fun _ => hc) hc2
      rcases ih 1 (p1 + 1) deep ((pend.map cNeg).reverse ++ (c ++ O)) (t p1 :: W) (fun j => if j = deep then true else m1 j) 0 (by omega) (by omega) hd (by omega) (fun _ => hlow) (fun q => by omega) with ⟨v2, x, q, f1, f2, f3⟩ | ⟨v2, p2, c2, pend2, m2, d2, f1, f2, f3, f4, r1, r2, r3, r4, r5, r6, r7, r8⟩
      · rcases z.2 with y | y | y
        · refine Or.inl ⟨if v2 ≤ v then 0 else 1, x, q, ?_, f2, by rw [e0]; exact f3⟩
          exact held_l zc144 e1 (M_passes_t h z.1 y) f1
        · refine Or.inl ⟨if v = v2 then 1 else 0, x, q, ?_, f2, by rw [e0]; exact f3⟩
          exact held_e zc144 e1 (ep 60 (by omega) (by omega)) (ep 62 (by omega) (by omega)) (M_passes_t h z.1 y) f1
        · refine Or.inl ⟨if v ≤ v2 then 0 else 1, x, q, ?_, f2, by rw [e0]; exact f3⟩
          exact held_g zc144 e1 (ep 60 (by omega) (by omega)) (M_passes_t h z.1 y) f1
      · have hC2 : cFin t over p (min len 40 - p) (O, W, deep, m, d, true) = cFin t over p2 (min len 40 - p2) ((c2 ++ ((pend.map cNeg).reverse ++ c)) ++ O, (pend2 ++ [t p1]) ++ W, deep, m2, d2, false) := by
          rw [e0, f4, opApp1, opApp2]
        have hpv := opPev (ask := ask) hop q2 r2
        have hmem := opMem (k := 1) r1 (c0 := t p1) (by rcases z.2 with y | y | y <;> rw [y] <;> decide)
        have hm3 : ∀ j, j < deep → m2 j = m j := by
          intro j hj
          rw [r3 j hj, ← q3 j hj]
          exact if_neg (by omega)
        have hm4 : m2 deep = true := by rw [r4 (by omega)]; exact if_pos rfl
        rcases z.2 with y | y | y
        · refine Or.inr ⟨if v2 ≤ v then 0 else 1, p2, c2 ++ ((pend.map cNeg).reverse ++ c), pend2 ++ [t p1], m2, d2, ?_, by omega, f3, hC2, hmem, fun st => ?_, hm3, fun q => absurd rfl q, r5, fun _ => r6 (by omega), fun _ => r7 (by omega), fun _ => Or.inl hm4⟩
          · exact held_l zc144 e1 (M_passes_t h z.1 y) f1
          · rw [hpv st, y]; rfl
        · refine Or.inr ⟨if v = v2 then 1 else 0, p2, c2 ++ ((pend.map cNeg).reverse ++ c), pend2 ++ [t p1], m2, d2, ?_, by omega, f3, hC2, hmem, fun st => ?_, hm3, fun q => absurd rfl q, r5, fun _ => r6 (by omega), fun _ => r7 (by omega), fun _ => Or.inl hm4⟩
          · exact held_e zc144 e1 (ep 60 (by omega) (by omega)) (ep 62 (by omega) (by omega)) (M_passes_t h z.1 y) f1
          · rw [hpv st, y]; rfl
        · refine Or.inr ⟨if v ≤ v2 then 0 else 1, p2, c2 ++ ((pend.map cNeg).reverse ++ c), pend2 ++ [t p1], m2, d2, ?_, by omega, f3, hC2, hmem, fun st => ?_, hm3, fun q => absurd rfl q, r5, fun _ => r6 (by omega), fun _ => r7 (by omega), fun _ => Or.inl hm4⟩
          · exact held_g zc144 e1 (ep 60 (by omega) (by omega)) (M_passes_t h z.1 y) f1
          · rw [hpv st, y]; rfl
    · have ep : ∀ c0 : Nat, (c0 = 60 ∨ c0 = 61 ∨ c0 = 62) → f_c11_passes N 144 (nI c0) (mk L (ms S (nI p1) (-1))) = some (0, mk L (ms S (nI p1) (-1))) := fun c0 hc => M_passes_n h (by omega) (fun z1 z2 => z ⟨z1, by omega⟩) (by omega)
      refine Or.inr ⟨v, p1, c, pend, m1, d1, ?_, e2, e3, e4, fun x hx => by have := q1 x hx; omega, q2, q3, fun q => absurd rfl q, q5, fun _ => q6 (by omega), fun _ => q7 (by omega), fun _ => Or.inr (fun z1 => ⟨fun y => z ⟨z1, by omega⟩, fun y => z ⟨z1, by omega⟩, fun y => z ⟨z1, by omega⟩⟩)⟩
      exact held_n zc144 e1 (ep 60 (by omega)) (ep 62 (by omega)) (ep 61 (by omega))
theorem T_all (h : RC S id len 40 t) (ha : AskOk S ask) : ∀ N, Cl L S t (min len 40) over ask N := by
  intro N
  induction N with
  | zero => intro kind p deep O W m d h1 h2 h3 h4; omega
  | succ N ih =>
    intro kind p deep O W m d h1 h2 h3 h4 h5 h6
    rw [F_rule.eq_2]
    match kind, h1, h4, h5, h6 with
    | 0, _, h4, h5, h6 => rw [if_pos rfl]; exact T_held h h2 h3 (h5 (by omega)) (h6 rfl) (by omega) ih
    | 1, _, h4, h5, h6 => rw [if_neg (by omega), if_pos rfl]; exact T_sum h h2 h3 (h5 (by omega)) (by omega) ih
    | 2, _, h4, h5, h6 => rw [if_neg (by omega), if_neg (by omega), if_pos rfl]; exact T_product h h2 h3 (h5 (by omega)) (by omega) ih
    | 3, _, h4, h5, h6 => rw [if_neg (by omega), if_neg (by omega), if_neg (by omega)]; exact T_thing h ha h2 h3 (by omega) ih
    | k + 4, h1, _, _, _ => omega
end CLAIM3
