/-! STEPS, the reference -/
def lyI (n : Nat) (d : Nat → Nat → Nat) (r t R : Nat) (s : Nat → Nat) : Prop := (∀ a, a < n → s a ≤ 1000000 ∧ (s a < 1000000 → ∃ k, s a = k + 1 ∧ rP n d r t k a)) ∧ ∀ k, k ≤ R → ∀ a, a < n → rP n d r t k a → s a ≤ k + 1
def lyR (n : Nat) (d : Nat → Nat → Nat) (r t R a b : Nat) (s : Nat → Nat) : Prop := ∀ b', b' < b → d a b' ≤ r → ∀ k, k ≤ R → rP n d r t k b' → s a ≤ k + 2
def lyQ (n : Nat) (d : Nat → Nat → Nat) (r t R a b : Nat) (s : Nat → Nat) : Prop := lyI n d r t R s ∧ (∀ a', a' < a → lyR n d r t R a' n s) ∧ lyR n d r t R a b s
section LAYP
variable {n : Nat} {d : Nat → Nat → Nat} {r t R a b : Nat} {s : Nat → Nat}
theorem ly_skip (h : lyQ n d r t R a b s) (ha : a < n) (hb : b < n) (z : a = b ∨ r < d a b) : lyQ n d r t R a (b + 1) s := by
  refine ⟨h.1, h.2.1, fun b' hb' h1 k hk h2 => ?_⟩
  by_cases y : b' = b
  · rw [y] at h1 h2
    rcases z with z | z
    · rw [← z] at h2
      have := h.1.2 k hk a ha h2
      omega
    · omega
  · exact h.2.2 b' (by omega) h1 k hk h2
theorem ly_take (h : lyQ n d r t R a b s) (ha : a < n) (hb : b < n) (z : d a b ≤ r) : lyQ n d r t R a (b + 1) (nup s a (min (s a) (s b + 1))) := by
  obtain ⟨⟨h1, h2⟩, h3, h4⟩ := h
  have le : ∀ j, nup s a (min (s a) (s b + 1)) j ≤ s j := fun j => by
    by_cases y : j = a
    · rw [y, nup_eq]; omega
    · rw [nup_ne y]; exact Nat.le_refl _
  refine ⟨⟨fun j hj => ⟨Nat.le_trans (le j) (h1 j hj).1, fun hl => ?_⟩, fun k hk j hj hp => Nat.le_trans (le j) (h2 k hk j hj hp)⟩, fun a' ha' b' hb' w1 k hk w2 => Nat.le_trans (le a') (h3 a' ha' b' hb' w1 k hk w2), fun b' hb' w1 k hk w2 => ?_⟩
  · by_cases y : j = a
    · rw [y, nup_eq] at hl ⊢
      by_cases w : s a ≤ s b + 1
      · rw [Nat.min_eq_left w] at hl ⊢
        exact (h1 a ha).2 hl
      · rw [Nat.min_eq_right (by omega)] at hl ⊢
        obtain ⟨k, e1, e2⟩ := (h1 b hb).2 (by omega)
        exact ⟨k + 1, by omega, Or.inr ⟨b, hb, z, e2⟩⟩
    · rw [nup_ne y] at hl ⊢
      exact (h1 j hj).2 hl
  · by_cases y : b' = b
    · rw [y] at w2
      have := h2 k hk b hb w2
      rw [nup_eq]
      omega
    · exact Nat.le_trans (le a) (h4 b' (by omega) w1 k hk w2)
theorem ly_row (h : lyQ n d r t R a n s) : lyQ n d r t R (a + 1) 0 s := by
  refine ⟨h.1, fun a' ha' => ?_, fun b' hb' => by omega⟩
  by_cases y : a' = a
  · rw [y]; exact h.2.2
  · exact h.2.1 a' (by omega)
theorem ly_round (h : lyQ n d r t R n 0 s) : lyI n d r t (R + 1) s := by
  refine ⟨h.1.1, fun k hk j hj hp => ?_⟩
  by_cases y : k ≤ R
  · exact h.1.2 k y j hj hp
  · have : k = R + 1 := by omega
    subst this
    rcases hp with hp | ⟨b, h1, h2, h3⟩
    · have := h.1.2 R (Nat.le_refl _) j hj hp
      omega
    · have := h.2.1 j hj b h1 h2 R (Nat.le_refl _) h3
      omega
theorem ly_begin (h : lyI n d r t R s) : lyQ n d r t R 0 0 s := ⟨h, fun a' ha' => by omega, fun b' hb' => by omega⟩
end LAYP
section LAY
variable {L N : Nat} {S T : gS} {c : Nat} {g : pG} {v : pV} {x : pX} {l : List Int64} {u : pX} {n : pN} {k : Nat → Option pV} {h : pH} {A : pA} {r t : Nat}
def lyC (T : gS) (n : Nat) (s : Nat → Nat) : Prop := ∀ a, a < n → T.1 162 a = nI (s a)
theorem M_ly2 (hN : 900 ≤ N) : ∃ T', lp_c11_laySteps_2 N 144 N 0 (mk L T) = some (mk L T') ∧ FM (fun y => y = 162) (fun _ => False) T T' ∧ ∀ i, i < 8 → T'.1 162 i = nI 1000000 := by
  have e : ∃ z, lp_c11_laySteps_2 N 144 N (nI 0) (mk L T) = some z ∧ ∃ T', z = mk L T' ∧ FM (fun y => y = 162) (fun _ => False) T T' ∧ ∀ i, i < 8 → T'.1 162 i = nI 1000000 := by
    refine lp_inv (Lp := fun kk (s : gS) i => lp_c11_laySteps_2 N 144 kk (nI i) (mk L s)) (n := 8) (P := fun i s => FM (fun y => y = 162) (fun _ => False) T s ∧ ∀ j, j < i → s.1 162 j = nI 1000000) (fun kk i s hi hs => Or.inr ?_) (fun kk s hs => ⟨mk L s, ?_, s, rfl, hs.1, hs.2⟩) 8 N 0 T (by omega) (by omega) ⟨FM.refl, fun j hj => by omega⟩
    · refine ⟨stI s 162 i (nI 1000000), ?_, hs.1.tr (FM.stA rfl (by omega)), fun j hj => ?_⟩
      · show lp_c11_laySteps_2 N 144 (kk + 1) (nI i) (mk L s) = lp_c11_laySteps_2 N 144 kk (nI (i + 1)) _
        rw [lp_c11_laySteps_2.eq_2, k8, ile_f hi (by omega), zr144_31, Option.bind_some, zp162 (by omega), Option.bind_some, nI_1]
        rfl
      · by_cases z : j = i
        · rw [z, rdI_eq]
        · rw [rdI_ne (by omega)]; exact hs.2 j (by omega)
    · show lp_c11_laySteps_2 N 144 (kk + 1) (nI 8) _ = _
      rw [lp_c11_laySteps_2.eq_2, k8, ile_t (Nat.le_refl _) (by omega)]
  obtain ⟨z, e, S1, er, e2, e3⟩ := e
  rw [er] at e
  exact ⟨S1, e, e2, e3⟩
theorem M_ly61 {a R : Nat} {s0 : Nat → Nat} (cg : MG T g) (cv : MW T 145 v) (wg : WG g) (wv : WV g v) (hr : r < 1000) (ha : a < vN v) (h0 : lyQ (vN v) (pD g v) r t R a 0 s0) (hc : lyC T (vN v) s0) (hN : 900 ≤ N) : ∃ T' s1, lp_c11_laySteps_61 N 144 (nI r) (nI a) N 0 (mk L T) = some (mk L T') ∧ FM (fun y => y = 162) (fun _ => False) T T' ∧ lyC T' (vN v) s1 ∧ lyQ (vN v) (pD g v) r t R a (vN v) s1 := by
  have h8 := wv.1
  have e : ∃ z, lp_c11_laySteps_61 N 144 (nI r) (nI a) N (nI 0) (mk L T) = some z ∧ ∃ T' s1, z = mk L T' ∧ FM (fun y => y = 162) (fun _ => False) T T' ∧ lyC T' (vN v) s1 ∧ lyQ (vN v) (pD g v) r t R a (vN v) s1 := by
    refine lp_inv (Lp := fun kk (s : gS) i => lp_c11_laySteps_61 N 144 (nI r) (nI a) kk (nI i) (mk L s)) (n := vN v) (P := fun i s => FM (fun y => y = 162) (fun _ => False) T s ∧ ∃ s1, lyC s (vN v) s1 ∧ lyQ (vN v) (pD g v) r t R a i s1) (fun kk b s hb hs => Or.inr ?_) (fun kk s hs => ?_) (vN v) N 0 T (by omega) (by omega) ⟨FM.refl, s0, hc, h0⟩
    · obtain ⟨f, s1, hC, hQ⟩ := hs
      have mg : MG s g := cg.fm f ⟨fun z => z, fun z => z, fun z => z⟩ ⟨by omega, by omega⟩
      have mv : MW s 145 v := cv.fm f (by omega) (by omega)
      have l1 := pD_lt wg wv ha hb
      show ∃ s', lp_c11_laySteps_61 N 144 (nI r) (nI a) (kk + 1) (nI b) (mk L s) = lp_c11_laySteps_61 N 144 (nI r) (nI a) kk (nI (b + 1)) (mk L s') ∧ (FM (fun y => y = 162) (fun _ => False) T s' ∧ ∃ s1, lyC s' (vN v) s1 ∧ lyQ (vN v) (pD g v) r t R a (b + 1) s1)
      rw [lp_c11_laySteps_61.eq_2, zr144_0, Option.bind_some, k40, zg145 (by omega), Option.bind_some, mv.1, ile_f hb (by omega)]
      by_cases z : a = b
      · rw [ieq_t z]
        exact ⟨s, by rw [Option.bind_some, nI_1], f, s1, hC, ly_skip hQ ha hb (Or.inl z)⟩
      · rw [ieq_f z (by omega) (by omega), Option.bind_some, zg145 (by omega), Option.bind_some, Option.bind_some, zg145 (by omega), Option.bind_some, (mv.2.2.2 a ha).1, (mv.2.2.2 b hb).1, M_apart mg wg wv ha hb, Option.bind_some]
        by_cases y : r < pD g v a b
        · rw [ilt_t y (by omega)]
          exact ⟨s, by rw [Option.bind_some, nI_1], f, s1, hC, ly_skip hQ ha hb (Or.inr y)⟩
        · have b1 := (hQ.1.1 a ha).1
          have b2 := (hQ.1.1 b hb).1
          rw [ilt_f (by omega) (by omega), zr144_31, Option.bind_some, Option.bind_some, zg162 (by omega), Option.bind_some, Option.bind_some, zg162 (by omega), Option.bind_some, hC a ha, hC b hb, nI_1, gmin_nI (by omega) (by omega), zp162 (by omega), Option.bind_some]
          refine ⟨stI s 162 a (nI (min (s1 a) (s1 b + 1))), by rw [Option.bind_some, nI_1], f.tr (FM.stA rfl (by omega)), nup s1 a (min (s1 a) (s1 b + 1)), fun j hj => ?_, ly_take hQ ha hb (by omega)⟩
          by_cases w : j = a
          · rw [w, rdI_eq, nup_eq]
          · rw [rdI_ne (by omega), nup_ne w]; exact hC j hj
    · obtain ⟨f, s1, hC, hQ⟩ := hs
      have mv : MW s 145 v := cv.fm f (by omega) (by omega)
      refine ⟨mk L s, ?_, s, s1, rfl, f, hC, hQ⟩
      show lp_c11_laySteps_61 N 144 (nI r) (nI a) (kk + 1) (nI (vN v)) (mk L s) = _
      rw [lp_c11_laySteps_61.eq_2, zr144_0, Option.bind_some, k40, zg145 (by omega), Option.bind_some, mv.1, ile_t (Nat.le_refl _) (by omega)]
  obtain ⟨z, e, S1, s1, er, e2⟩ := e
  rw [er] at e
  exact ⟨S1, s1, e, e2⟩
theorem M_ly46 {R : Nat} {s0 : Nat → Nat} (cg : MG T g) (cv : MW T 145 v) (wg : WG g) (wv : WV g v) (hr : r < 1000) (h0 : lyI (vN v) (pD g v) r t R s0) (hc : lyC T (vN v) s0) (hN : 900 ≤ N) : ∃ T' s1, lp_c11_laySteps_46 N 144 (nI r) N 0 (mk L T) = some (mk L T') ∧ FM (fun y => y = 162) (fun _ => False) T T' ∧ lyC T' (vN v) s1 ∧ lyI (vN v) (pD g v) r t (R + 1) s1 := by
  have h8 := wv.1
  have e : ∃ z, lp_c11_laySteps_46 N 144 (nI r) N (nI 0) (mk L T) = some z ∧ ∃ T' s1, z = mk L T' ∧ FM (fun y => y = 162) (fun _ => False) T T' ∧ lyC T' (vN v) s1 ∧ lyQ (vN v) (pD g v) r t R (vN v) 0 s1 := by
    refine lp_inv (Lp := fun kk (s : gS) i => lp_c11_laySteps_46 N 144 (nI r) kk (nI i) (mk L s)) (n := vN v) (P := fun i s => FM (fun y => y = 162) (fun _ => False) T s ∧ ∃ s1, lyC s (vN v) s1 ∧ lyQ (vN v) (pD g v) r t R i 0 s1) (fun kk a s ha hs => Or.inr ?_) (fun kk s hs => ?_) (vN v) N 0 T (by omega) (by omega) ⟨FM.refl, s0, hc, ly_begin h0⟩
    · obtain ⟨f, s1, hC, hQ⟩ := hs
      have mg : MG s g := cg.fm f ⟨fun z => z, fun z => z, fun z => z⟩ ⟨by omega, by omega⟩
      have mv : MW s 145 v := cv.fm f (by omega) (by omega)
      obtain ⟨s2, s3, e2, f2, c2, q2⟩ := M_ly61 (L := L) (N := N) mg mv wg wv hr ha hQ hC hN
      refine ⟨s2, ?_, f.tr f2, s3, c2, ly_row q2⟩
      show lp_c11_laySteps_46 N 144 (nI r) (kk + 1) (nI a) (mk L s) = lp_c11_laySteps_46 N 144 (nI r) kk (nI (a + 1)) (mk L s2)
      rw [lp_c11_laySteps_46.eq_2, zr144_0, Option.bind_some, k40, zg145 (by omega), Option.bind_some, mv.1, ile_f ha (by omega), e2, Option.bind_some, nI_1]
    · obtain ⟨f, s1, hC, hQ⟩ := hs
      have mv : MW s 145 v := cv.fm f (by omega) (by omega)
      refine ⟨mk L s, ?_, s, s1, rfl, f, hC, hQ⟩
      show lp_c11_laySteps_46 N 144 (nI r) (kk + 1) (nI (vN v)) (mk L s) = _
      rw [lp_c11_laySteps_46.eq_2, zr144_0, Option.bind_some, k40, zg145 (by omega), Option.bind_some, mv.1, ile_t (Nat.le_refl _) (by omega)]
  obtain ⟨z, e, S1, s1, er, e2, e3, e4⟩ := e
  rw [er] at e
  exact ⟨S1, s1, e, e2, e3, ly_round e4⟩
/-- all cells of the reference, at the end -/
def lyD (T : gS) (g : pG) (v : pV) (r t : Nat) : Prop := ∀ i, i < vN v → (∀ m, rL (vN v) (pD g v) r t m i → T.1 162 i = nI (m + 1)) ∧ ((∀ m, ¬ rL (vN v) (pD g v) r t m i) → T.1 162 i = nI 1000000)
theorem M_layS (cg : MG T g) (cv : MW T 145 v) (wg : WG g) (wv : WV g v) (hr : r < 1000) (ht : t < vN v) (hN : 900 ≤ N) : ∃ T', f_c11_laySteps N 144 (nI t) (nI r) (mk L T) = some (mk L T') ∧ FM (fun y => y = 162) (fun _ => False) T T' ∧ lyD T' g v r t := by
  have h8 := wv.1
  obtain ⟨T1, e1, f1, q1⟩ := M_ly2 (L := L) (N := N) (T := T) hN
  have f2 : FM (fun y => y = 162) (fun _ => False) T (stI T1 162 t 1) := f1.tr (FM.stA rfl (by omega))
  have hz : lyI (vN v) (pD g v) r t 0 (fun a => if a = t then 1 else 1000000) := by
    refine ⟨fun a ha => ⟨by show (if a = t then 1 else 1000000) ≤ 1000000; split <;> omega, fun hl => ?_⟩, fun k hk a ha hp => ?_⟩
    · by_cases z : a = t
      · exact ⟨0, by show (if a = t then 1 else 1000000) = 0 + 1; rw [if_pos z], z⟩
      · have hl2 : (if a = t then 1 else 1000000) < 1000000 := hl
        rw [if_neg z] at hl2
        omega
    · rw [show k = 0 by omega] at hp ⊢
      have hp2 : a = t := hp
      show (if a = t then 1 else 1000000) ≤ 0 + 1
      rw [if_pos hp2]
      exact Nat.le_refl _
  have hc0 : lyC (stI T1 162 t 1) (vN v) (fun a => if a = t then 1 else 1000000) := fun a ha => by
    show _ = nI (if a = t then 1 else 1000000)
    by_cases z : a = t
    · rw [z, rdI_eq, if_pos rfl]; rfl
    · rw [rdI_ne (by omega), if_neg z]; exact q1 a (by omega)
  have e : ∃ z, lp_c11_laySteps_32 N 144 (nI r) N (nI 0) (mk L (stI T1 162 t 1)) = some z ∧ ∃ T' s1, z = mk L T' ∧ FM (fun y => y = 162) (fun _ => False) T T' ∧ lyC T' (vN v) s1 ∧ lyI (vN v) (pD g v) r t (vN v) s1 := by
    refine lp_inv (Lp := fun kk (s : gS) i => lp_c11_laySteps_32 N 144 (nI r) kk (nI i) (mk L s)) (n := vN v) (P := fun i s => FM (fun y => y = 162) (fun _ => False) T s ∧ ∃ s1, lyC s (vN v) s1 ∧ lyI (vN v) (pD g v) r t i s1) (fun kk a s ha hs => Or.inr ?_) (fun kk s hs => ?_) (vN v) N 0 _ (by omega) (by omega) ⟨f2, _, hc0, hz⟩
    · obtain ⟨f, s1, hC, hQ⟩ := hs
      have mg : MG s g := cg.fm f ⟨fun z => z, fun z => z, fun z => z⟩ ⟨by omega, by omega⟩
      have mv : MW s 145 v := cv.fm f (by omega) (by omega)
      obtain ⟨s2, s3, e2, f2, c2, q2⟩ := M_ly46 (L := L) (N := N) mg mv wg wv hr hQ hC hN
      refine ⟨s2, ?_, f.tr f2, s3, c2, q2⟩
      show lp_c11_laySteps_32 N 144 (nI r) (kk + 1) (nI a) (mk L s) = lp_c11_laySteps_32 N 144 (nI r) kk (nI (a + 1)) (mk L s2)
      rw [lp_c11_laySteps_32.eq_2, zr144_0, Option.bind_some, k40, zg145 (by omega), Option.bind_some, mv.1, ile_f ha (by omega), e2, Option.bind_some, nI_1]
    · obtain ⟨f, s1, hC, hQ⟩ := hs
      have mv : MW s 145 v := cv.fm f (by omega) (by omega)
      refine ⟨mk L s, ?_, s, s1, rfl, f, hC, hQ⟩
      show lp_c11_laySteps_32 N 144 (nI r) (kk + 1) (nI (vN v)) (mk L s) = _
      rw [lp_c11_laySteps_32.eq_2, zr144_0, Option.bind_some, k40, zg145 (by omega), Option.bind_some, mv.1, ile_t (Nat.le_refl _) (by omega)]
  obtain ⟨z, e, T2, s1, er, e2, hC, hQ⟩ := e
  rw [er, nI_0] at e
  refine ⟨T2, ?_, e2, fun i hi => ⟨fun m hm => ?_, fun hno => ?_⟩⟩
  · unfold f_c11_laySteps
    rw [zc144, Option.bind_some, e1, Option.bind_some, zr144_31, Option.bind_some, zp162 (by omega), Option.bind_some, e, Option.bind_some]
  · have hm2 := rL_lt hi hm
    have u1 := hQ.2 m (by omega) i hi hm.1
    obtain ⟨k, e4, e5⟩ := (hQ.1 i hi).2 (by omega)
    have : s1 i = m + 1 := by
      rcases Nat.lt_or_ge k m with y | y
      · exact absurd e5 (hm.2 k y)
      · omega
    rw [hC i hi, this]
  · have u1 := (hQ.1 i hi).1
    have : s1 i = 1000000 := by
      rcases Nat.lt_or_ge (s1 i) 1000000 with y | y
      · obtain ⟨k, -, e5⟩ := (hQ.1 i hi).2 y
        obtain ⟨m, -, h2⟩ := rL_ex k e5
        exact absurd h2 (hno m)
      · omega
    rw [hC i hi, this]
end LAY
