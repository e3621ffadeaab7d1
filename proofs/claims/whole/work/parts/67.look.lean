/-! CALLS that only look: what was heard, counts, wells, villages, the row -/
section LOOKS
variable {L N : Nat} {S T : gS} {c : Nat} {A : pA}
-- heard
theorem A_heard {p y : Int32} (w : WA A) (q : CA S A) (m : MA S A c) : Agr L S c (f_c10_heard N 10 p y) (f_c11_heard N 144 p y) := by
  obtain ⟨g, v, x, l, u, n, k, h⟩ := A
  have h12 : h.1 ≤ 12 := w.2.2.2.2.2.2.2.1
  have hok := w.2.2.2.2.2.2.2.2
  have e128 : S.1 128 2 = nI h.1 := q.2.2.2.2.2.2.2.1
  -- for a kind with its bounds
  have go : ∀ (d lo hi : Nat), p = nI d → d ≤ 4 → (if p = 0 then (1 : Int32) else 0) = nI lo → (if p = 0 then (9 : Int32) else (if p = 1 then 1 else (if p = 2 then 99 else 5))) = nI hi → hi ≤ 99 → lo ≤ 1 → (∀ e, lo ≤ e → e ≤ hi → hOk d e) → Agr L S c (f_c10_heard N 10 p y) (f_c11_heard N 144 p y) := by
    intro d lo hi hp hd hlo hhi h99 hl1 hO
    have p0 : ¬ p < 0 := by rw [hp]; exact nI_pos (by omega)
    have p4 : ¬ (4 : Int32) < p := by rw [hp]; exact nI_nlt (a := 4) hd (by omega)
    have eL : ∀ T : gS, f_c2_least N 128 p (mk L T) = some (nI lo) := fun T => by
      simp (disch := omega) only [Option.bind_some, ↓ile_t, ↓ile_f, ↓ilt_t, ↓ilt_f, ↓ieq_t, ↓ieq_f, ↓iz_t, ↓iz_f, ↓iltz, ↓izle, ↓ilez_t, ↓ilez_f, ↓im1, ile_t, ile_f, ilt_t, ilt_f, ieq_t, ieq_f, iz_t, iz_f, iltz, izle, ilez_t, ilez_f, im1, gZ_0, gZ_1, e10, e00, ↓reduceIte, Sum.elim_inl, Sum.elim_inr, nI_1, nI_add, Int32.sub_zero, f_c2_least, zc128]
      rw [hlo]
    have eG : ∀ T : gS, f_c2_greatest N 128 p (mk L T) = some (nI hi) := fun T => by
      rw [← hhi]
      unfold f_c2_greatest
      rw [zc128, Option.bind_some]
      by_cases z0 : p = 0
      · rw [if_pos z0, if_pos z0]
      · rw [if_neg z0, if_neg z0]
        by_cases z1 : p = 1
        · rw [if_pos z1, if_pos z1]
        · rw [if_neg z1, if_neg z1]
          by_cases z2 : p = 2
          · rw [if_pos z2, if_pos z2]
          · rw [if_neg z2, if_neg z2]
    have ei : ∀ T : gS, f_c11_in N p 0 4 (mk L T) = some 1 := fun T => by rw [hp]; exact M_inT (lo := 0) (hi := 4) (by omega) hd (by omega)
    rcases cas y lo hi (by omega) (by omega) with hy | ⟨e, he1, he2, rfl⟩
    · refine AgrR w q m (r := -1) ?_ (fun T _ t1 => ?_)
      · rcases hy with hy | ⟨h1, hy⟩
        · simp (disch := omega) only [Option.bind_some, ↓ile_t, ↓ile_f, ↓ilt_t, ↓ilt_f, ↓ieq_t, ↓ieq_f, ↓iz_t, ↓iz_f, ↓iltz, ↓izle, ↓ilez_t, ↓ilez_f, ↓im1, ile_t, ile_f, ilt_t, ilt_f, ieq_t, ieq_f, iz_t, iz_f, iltz, izle, ilez_t, ilez_f, im1, gZ_0, gZ_1, e10, e00, ↓reduceIte, Sum.elim_inl, Sum.elim_inr, nI_1, nI_add, Int32.sub_zero, f_c10_heard, zc10, zr10_0, zr10_1, zr10_2, zr10_3, zr10_4, zr10_5, zr10_6, zr10_7, zr10_8, zr10_9, zr10_10, zs10_11, zs10_12, f_c2_add, zc128, if_neg p0, if_neg p4, eL, if_pos hy]
        · have hy2 := i32_nle hy
          simp (disch := omega) only [Option.bind_some, ↓ile_t, ↓ile_f, ↓ilt_t, ↓ilt_f, ↓ieq_t, ↓ieq_f, ↓iz_t, ↓iz_f, ↓iltz, ↓izle, ↓ilez_t, ↓ilez_f, ↓im1, ile_t, ile_f, ilt_t, ilt_f, ieq_t, ieq_f, iz_t, iz_f, iltz, izle, ilez_t, ilez_f, im1, gZ_0, gZ_1, e10, e00, ↓reduceIte, Sum.elim_inl, Sum.elim_inr, nI_1, nI_add, Int32.sub_zero, f_c10_heard, zc10, zr10_0, zr10_1, zr10_2, zr10_3, zr10_4, zr10_5, zr10_6, zr10_7, zr10_8, zr10_9, zr10_10, zs10_11, zs10_12, f_c2_add, zc128, if_neg p0, if_neg p4, eL, if_neg h1, eG, if_pos hy2]
      · simp (disch := omega) only [Option.bind_some, ↓ile_t, ↓ile_f, ↓ilt_t, ↓ilt_f, ↓ieq_t, ↓ieq_f, ↓iz_t, ↓iz_f, ↓iltz, ↓izle, ↓ilez_t, ↓ilez_f, ↓im1, ile_t, ile_f, ilt_t, ilt_f, ieq_t, ieq_f, iz_t, iz_f, iltz, izle, ilez_t, ilez_f, im1, gZ_0, gZ_1, e10, e00, ↓reduceIte, Sum.elim_inl, Sum.elim_inr, nI_1, nI_add, Int32.sub_zero, f_c11_heard, zc144, zs144_10, ei]
        rw [hlo, hhi, M_inF hy]
        rfl
    · have c1 : ¬ nI e < nI lo := nI_nlt he1 (by omega)
      have c2 : ¬ nI hi < nI e := nI_nlt he2 (by omega)
      have ei2 : ∀ T : gS, f_c11_in N (nI e) (nI lo) (nI hi) (mk L T) = some 1 := fun T => M_inT he1 he2 (by omega)
      by_cases hf : h.1 = 12
      · have n12 : ¬ nI h.1 < 12 := nI_nlt (b := 12) (by omega) (by omega)
        have p12 : nI h.1 = 12 := by rw [hf]; rfl
        refine AgrR w q m (r := -1) ?_ (fun T _ t1 => ?_)
        · simp (disch := omega) only [Option.bind_some, ↓ile_t, ↓ile_f, ↓ilt_t, ↓ilt_f, ↓ieq_t, ↓ieq_f, ↓iz_t, ↓iz_f, ↓iltz, ↓izle, ↓ilez_t, ↓ilez_f, ↓im1, ile_t, ile_f, ilt_t, ilt_f, ieq_t, ieq_f, iz_t, iz_f, iltz, izle, ilez_t, ilez_f, im1, gZ_0, gZ_1, e10, e00, ↓reduceIte, Sum.elim_inl, Sum.elim_inr, nI_1, nI_add, Int32.sub_zero, f_c10_heard, zc10, zr10_0, zr10_1, zr10_2, zr10_3, zr10_4, zr10_5, zr10_6, zr10_7, zr10_8, zr10_9, zr10_10, zs10_11, zs10_12, f_c2_add, zc128, zr128_0, zr128_1, zi128_2, zs128_2, if_neg p0, if_neg p4, eL, if_neg c1, eG, if_neg c2, e10, e128, if_neg n12]
        · have e34 : (stI T 144 10 0).1 144 34 = nI h.1 := t1.2.2.2.2.2.2.2.1
          simp (disch := omega) only [Option.bind_some, ↓ile_t, ↓ile_f, ↓ilt_t, ↓ilt_f, ↓ieq_t, ↓ieq_f, ↓iz_t, ↓iz_f, ↓iltz, ↓izle, ↓ilez_t, ↓ilez_f, ↓im1, ile_t, ile_f, ilt_t, ilt_f, ieq_t, ieq_f, iz_t, iz_f, iltz, izle, ilez_t, ilez_f, im1, gZ_0, gZ_1, e10, e00, ↓reduceIte, Sum.elim_inl, Sum.elim_inr, nI_1, nI_add, Int32.sub_zero, f_c11_heard, zc144, zs144_10, ei]
          rw [hlo, hhi, ei2]
          simp (disch := omega) only [Option.bind_some, ↓ile_t, ↓ile_f, ↓ilt_t, ↓ilt_f, ↓ieq_t, ↓ieq_f, ↓iz_t, ↓iz_f, ↓iltz, ↓izle, ↓ilez_t, ↓ilez_f, ↓im1, ile_t, ile_f, ilt_t, ilt_f, ieq_t, ieq_f, iz_t, iz_f, iltz, izle, ilez_t, ilez_f, im1, gZ_0, gZ_1, e10, e00, ↓reduceIte, Sum.elim_inl, Sum.elim_inr, nI_1, nI_add, Int32.sub_zero, zi144_34, e34, if_pos p12]
      · have n12 : nI h.1 < 12 := nI_lt (b := 12) (by omega) (by omega)
        have p12 : ¬ nI h.1 = 12 := fun z => hf ((nI_eq (b := 12) (by omega) (by omega)).mp z)
        have q2 : CA (stI (stI (stI S 129 h.1 (nI d)) 130 h.1 (nI e)) 128 2 (nI (h.1 + 1))) (g, v, x, l, u, n, k, (h.1 + 1, nup h.2.1 h.1 d, nup h.2.2 h.1 e)) := by
          refine q.hear (Fr.trans (C := fun y => sC y ∨ (128 ≤ y ∧ y ≤ 130)) ((Fr.stI (A := fun y => sC y ∨ (128 ≤ y ∧ y ≤ 130)) (by omega)).trans (Fr.stI (A := fun y => sC y ∨ (128 ≤ y ∧ y ≤ 130)) (by omega)) (fun _ z => z) (fun _ z => z)) (Fr.stI (A := fun y => sC y ∨ (128 ≤ y ∧ y ≤ 130)) (by omega)) (fun _ z => z) (fun _ z => z)) ⟨rdI_eq, fun j hj => ?_⟩
          have hj2 : j < h.1 + 1 := hj
          show _ = nI (nup h.2.1 h.1 d j) ∧ _ = nI (nup h.2.2 h.1 e j)
          by_cases z : j = h.1
          · rw [z, nup_eq, nup_eq]
            exact ⟨by rw [rdI_ne (by omega), rdI_ne (by omega), rdI_eq], by rw [rdI_ne (by omega), rdI_eq]⟩
          · rw [nup_ne z, nup_ne z]
            have := q.2.2.2.2.2.2.2.2 j (by show j < h.1; omega)
            exact ⟨by rw [rdI_ne (by omega), rdI_ne (by omega), rdI_ne (by omega)]; exact this.1, by rw [rdI_ne (by omega), rdI_ne (by omega), rdI_ne (by omega)]; exact this.2⟩
        have w2 : WA (g, v, x, l, u, n, k, (h.1 + 1, nup h.2.1 h.1 d, nup h.2.2 h.1 e)) := by
          refine ⟨w.1, w.2.1, w.2.2.1, w.2.2.2.1, w.2.2.2.2.1, w.2.2.2.2.2.1, w.2.2.2.2.2.2.1, ⟨by show h.1 + 1 ≤ 12; omega, fun j hj => ?_⟩⟩
          have hj2 : j < h.1 + 1 := hj
          show hOk (nup h.2.1 h.1 d j) (nup h.2.2 h.1 e j)
          by_cases z : j = h.1
          · rw [z, nup_eq, nup_eq]; exact hO e he1 he2
          · rw [nup_ne z, nup_ne z]; exact hok j (by show j < h.1; omega)
        refine AgrI (r := nI (h.1 + 1)) (c' := c) m (S1 := stI (stI (stI S 129 h.1 (nI d)) 130 h.1 (nI e)) 128 2 (nI (h.1 + 1))) ?_ (lowTr (Fr.stI (by unfold lowC; omega)) (lowTr (Fr.stI (by unfold lowC; omega)) (Fr.stI (by unfold lowC; omega)))) q2 w2 (by omega) (fun T mt => ?_)
        · simp (disch := omega) only [Option.bind_some, ↓ile_t, ↓ile_f, ↓ilt_t, ↓ilt_f, ↓ieq_t, ↓ieq_f, ↓iz_t, ↓iz_f, ↓iltz, ↓izle, ↓ilez_t, ↓ilez_f, ↓im1, ile_t, ile_f, ilt_t, ilt_f, ieq_t, ieq_f, iz_t, iz_f, iltz, izle, ilez_t, ilez_f, im1, gZ_0, gZ_1, e10, e00, ↓reduceIte, Sum.elim_inl, Sum.elim_inr, nI_1, nI_add, Int32.sub_zero, f_c10_heard, zc10, zr10_0, zr10_1, zr10_2, zr10_3, zr10_4, zr10_5, zr10_6, zr10_7, zr10_8, zr10_9, zr10_10, zs10_11, zs10_12, f_c2_add, zc128, zr128_0, zr128_1, zi128_2, zs128_2, if_neg p0, if_neg p4, eL, if_neg c1, eG, if_neg c2, e10, e128, if_pos n12, zp129, rdI_ne, zp130, rdI_eq]
          rw [hp]
        · have t1 := mt.thr
          have e34 : (stI T 144 10 0).1 144 34 = nI h.1 := t1.2.2.2.2.2.2.2.1
          have e34' : T.1 144 34 = nI h.1 := mt.2.2.2.2.2.2.2.1
          refine ⟨stI (stI (stI (stI T 144 10 0) 163 h.1 (nI d)) 164 h.1 (nI e)) 144 34 (nI (h.1 + 1)), ?_, highTr thrH (highTr (Fr.stI (by unfold highM; omega)) (highTr (Fr.stI (by unfold highM; omega)) (Fr.stI (by unfold highM; omega)))), t1.hear (((FM.stA (A := fun y => sM y ∨ y = 163 ∨ y = 164) (K := fun y => sK y ∨ y = 34) (by omega) (by omega)).tr (FM.stA (by omega) (by omega))).tr (FM.stK (by omega))) ⟨rdI_eq, fun j hj => ?_⟩⟩
          · simp (disch := omega) only [Option.bind_some, ↓ile_t, ↓ile_f, ↓ilt_t, ↓ilt_f, ↓ieq_t, ↓ieq_f, ↓iz_t, ↓iz_f, ↓iltz, ↓izle, ↓ilez_t, ↓ilez_f, ↓im1, ile_t, ile_f, ilt_t, ilt_f, ieq_t, ieq_f, iz_t, iz_f, iltz, izle, ilez_t, ilez_f, im1, gZ_0, gZ_1, e10, e00, ↓reduceIte, Sum.elim_inl, Sum.elim_inr, nI_1, nI_add, Int32.sub_zero, f_c11_heard, zc144, zs144_10, ei]
            rw [hlo, hhi, ei2]
            simp (disch := omega) only [Option.bind_some, ↓ile_t, ↓ile_f, ↓ilt_t, ↓ilt_f, ↓ieq_t, ↓ieq_f, ↓iz_t, ↓iz_f, ↓iltz, ↓izle, ↓ilez_t, ↓ilez_f, ↓im1, ile_t, ile_f, ilt_t, ilt_f, ieq_t, ieq_f, iz_t, iz_f, iltz, izle, ilez_t, ilez_f, im1, gZ_0, gZ_1, e10, e00, ↓reduceIte, Sum.elim_inl, Sum.elim_inr, nI_1, nI_add, Int32.sub_zero, zi144_34, e34, e34', if_neg p12, zr144_32, zp163, zr144_33, rdI_ne, zp164, zs144_34, rdI_eq, e10]
            rw [hp]
          · have hj2 : j < h.1 + 1 := hj
            show _ = nI (nup h.2.1 h.1 d j) ∧ _ = nI (nup h.2.2 h.1 e j)
            by_cases z : j = h.1
            · rw [z, nup_eq, nup_eq]
              exact ⟨by rw [rdI_ne (by omega), rdI_ne (by omega), rdI_eq], by rw [rdI_ne (by omega), rdI_eq]⟩
            · rw [nup_ne z, nup_ne z]
              have := t1.2.2.2.2.2.2.2.2 j (by show j < h.1; omega)
              exact ⟨by rw [rdI_ne (by omega), rdI_ne (by omega), rdI_ne (by omega)]; exact this.1, by rw [rdI_ne (by omega), rdI_ne (by omega), rdI_ne (by omega)]; exact this.2⟩
  rcases (show (p < 0 ∨ (¬ p < 0 ∧ ¬ p ≤ 4)) ∨ ∃ d, 0 ≤ d ∧ d ≤ 4 ∧ p = nI d from cas p 0 4 (by omega) (by omega)) with hp | ⟨d, -, hd, hp⟩
  · refine AgrR w q m (r := -1) ?_ (fun T _ t1 => ?_)
    · rcases hp with hp | ⟨h1, hp⟩
      · simp (disch := omega) only [Option.bind_some, ↓ile_t, ↓ile_f, ↓ilt_t, ↓ilt_f, ↓ieq_t, ↓ieq_f, ↓iz_t, ↓iz_f, ↓iltz, ↓izle, ↓ilez_t, ↓ilez_f, ↓im1, ile_t, ile_f, ilt_t, ilt_f, ieq_t, ieq_f, iz_t, iz_f, iltz, izle, ilez_t, ilez_f, im1, gZ_0, gZ_1, e10, e00, ↓reduceIte, Sum.elim_inl, Sum.elim_inr, nI_1, nI_add, Int32.sub_zero, f_c10_heard, zc10, zr10_0, zr10_1, zr10_2, zr10_3, zr10_4, zr10_5, zr10_6, zr10_7, zr10_8, zr10_9, zr10_10, zs10_11, zs10_12, f_c2_add, zc128, if_pos hp]
      · have h3 := i32_nle hp
        simp (disch := omega) only [Option.bind_some, ↓ile_t, ↓ile_f, ↓ilt_t, ↓ilt_f, ↓ieq_t, ↓ieq_f, ↓iz_t, ↓iz_f, ↓iltz, ↓izle, ↓ilez_t, ↓ilez_f, ↓im1, ile_t, ile_f, ilt_t, ilt_f, ieq_t, ieq_f, iz_t, iz_f, iltz, izle, ilez_t, ilez_f, im1, gZ_0, gZ_1, e10, e00, ↓reduceIte, Sum.elim_inl, Sum.elim_inr, nI_1, nI_add, Int32.sub_zero, f_c10_heard, zc10, zr10_0, zr10_1, zr10_2, zr10_3, zr10_4, zr10_5, zr10_6, zr10_7, zr10_8, zr10_9, zr10_10, zs10_11, zs10_12, f_c2_add, zc128, if_neg h1, if_pos h3]
    · simp (disch := omega) only [Option.bind_some, ↓ile_t, ↓ile_f, ↓ilt_t, ↓ilt_f, ↓ieq_t, ↓ieq_f, ↓iz_t, ↓iz_f, ↓iltz, ↓izle, ↓ilez_t, ↓ilez_f, ↓im1, ile_t, ile_f, ilt_t, ilt_f, ieq_t, ieq_f, iz_t, iz_f, iltz, izle, ilez_t, ilez_f, im1, gZ_0, gZ_1, e10, e00, ↓reduceIte, Sum.elim_inl, Sum.elim_inr, nI_1, nI_add, Int32.sub_zero, f_c11_heard, zc144, zs144_10, M_inF (N := N) hp, eq_self_iff_true]
  · match d, hd, hp with
    | 0, hd, hp => exact go 0 1 9 hp hd (by rw [hp]; decide) (by rw [hp]; decide) (by omega) (by omega) (fun e h1 h2 => ⟨by omega, fun _ => ⟨h1, h2⟩, fun z => by omega, fun z => by omega, fun z => by omega⟩)
    | 1, hd, hp => exact go 1 0 1 hp hd (by rw [hp]; decide) (by rw [hp]; decide) (by omega) (by omega) (fun e h1 h2 => ⟨by omega, fun z => by omega, fun _ => h2, fun z => by omega, fun z => by omega⟩)
    | 2, hd, hp => exact go 2 0 99 hp hd (by rw [hp]; decide) (by rw [hp]; decide) (by omega) (by omega) (fun e h1 h2 => ⟨by omega, fun z => by omega, fun z => by omega, fun _ => h2, fun z => by omega⟩)
    | 3, hd, hp => exact go 3 0 5 hp hd (by rw [hp]; decide) (by rw [hp]; decide) (by omega) (by omega) (fun e h1 h2 => ⟨by omega, fun z => by omega, fun z => by omega, fun z => by omega, fun _ => h2⟩)
    | 4, hd, hp => exact go 4 0 5 hp hd (by rw [hp]; decide) (by rw [hp]; decide) (by omega) (by omega) (fun e h1 h2 => ⟨by omega, fun z => by omega, fun z => by omega, fun z => by omega, fun _ => h2⟩)
    | d + 5, hd, _ => omega
-- count
theorem A_count {p : Int32} (w : WA A) (q : CA S A) (m : MA S A c) (hN : 900 ≤ N) : ∃ r, f_c10_count N 10 p (mk L S) = some r ∧ f_c11_count N 144 p (mk L S) = some (r, mk L (stI S 144 10 0)) := by
  obtain ⟨g, v, x, l, u, n, k, h⟩ := A
  have wv : WV g v := w.2.1
  have wg : WG g := w.1
  have h8 := wv.1
  have t1 := m.thr
  by_cases z0 : p = 0
  · exact ⟨nI (gRw g), by unfold f_c10_count; rw [zc10, Option.bind_some, if_pos z0]; simp (disch := omega) only [Option.bind_some, ↓ile_t, ↓ile_f, ↓ilt_t, ↓ilt_f, ↓ieq_t, ↓ieq_f, ↓iz_t, ↓iz_f, ↓iltz, ↓izle, ↓ilez_t, ↓ilez_f, ↓im1, ile_t, ile_f, ilt_t, ilt_f, ieq_t, ieq_f, iz_t, iz_f, iltz, izle, ilez_t, ilez_f, im1, gZ_0, gZ_1, e10, e00, ↓reduceIte, Sum.elim_inl, Sum.elim_inr, nI_1, nI_add, Int32.sub_zero, zc10, zr10_0, zr10_1, zr10_2, zr10_3, zr10_4, zr10_5, zr10_6, zr10_7, zr10_8, zr10_9, zr10_10, zs10_11, zs10_12, zc15, zi15_0, zs15_0, zi15_1, zs15_1, zi15_2, zs15_2, zr15_3, zr15_4, zr15_5, q.1.1], by unfold f_c11_count; rw [zc144, Option.bind_some, zs144_10, Option.bind_some, if_pos z0]; simp (disch := omega) only [Option.bind_some, ↓ile_t, ↓ile_f, ↓ilt_t, ↓ilt_f, ↓ieq_t, ↓ieq_f, ↓iz_t, ↓iz_f, ↓iltz, ↓izle, ↓ilez_t, ↓ilez_f, ↓im1, ile_t, ile_f, ilt_t, ilt_f, ieq_t, ieq_f, iz_t, iz_f, iltz, izle, ilez_t, ilez_f, im1, gZ_0, gZ_1, e10, e00, ↓reduceIte, Sum.elim_inl, Sum.elim_inr, nI_1, nI_add, Int32.sub_zero, zi144_1, t1.1.1]⟩
  by_cases z1 : p = 1
  · exact ⟨nI (gCo g), by unfold f_c10_count; rw [zc10, Option.bind_some, if_neg z0, if_pos z1]; simp (disch := omega) only [Option.bind_some, ↓ile_t, ↓ile_f, ↓ilt_t, ↓ilt_f, ↓ieq_t, ↓ieq_f, ↓iz_t, ↓iz_f, ↓iltz, ↓izle, ↓ilez_t, ↓ilez_f, ↓im1, ile_t, ile_f, ilt_t, ilt_f, ieq_t, ieq_f, iz_t, iz_f, iltz, izle, ilez_t, ilez_f, im1, gZ_0, gZ_1, e10, e00, ↓reduceIte, Sum.elim_inl, Sum.elim_inr, nI_1, nI_add, Int32.sub_zero, zc10, zr10_0, zr10_1, zr10_2, zr10_3, zr10_4, zr10_5, zr10_6, zr10_7, zr10_8, zr10_9, zr10_10, zs10_11, zs10_12, zc15, zi15_0, zs15_0, zi15_1, zs15_1, zi15_2, zs15_2, zr15_3, zr15_4, zr15_5, q.1.2.1], by unfold f_c11_count; rw [zc144, Option.bind_some, zs144_10, Option.bind_some, if_neg z0, if_pos z1]; simp (disch := omega) only [Option.bind_some, ↓ile_t, ↓ile_f, ↓ilt_t, ↓ilt_f, ↓ieq_t, ↓ieq_f, ↓iz_t, ↓iz_f, ↓iltz, ↓izle, ↓ilez_t, ↓ilez_f, ↓im1, ile_t, ile_f, ilt_t, ilt_f, ieq_t, ieq_f, iz_t, iz_f, iltz, izle, ilez_t, ilez_f, im1, gZ_0, gZ_1, e10, e00, ↓reduceIte, Sum.elim_inl, Sum.elim_inr, nI_1, nI_add, Int32.sub_zero, zi144_2, t1.1.2.1]⟩
  by_cases z2 : p = 2
  · exact ⟨nI (gVm g), by unfold f_c10_count; rw [zc10, Option.bind_some, if_neg z0, if_neg z1, if_pos z2]; simp (disch := omega) only [Option.bind_some, ↓ile_t, ↓ile_f, ↓ilt_t, ↓ilt_f, ↓ieq_t, ↓ieq_f, ↓iz_t, ↓iz_f, ↓iltz, ↓izle, ↓ilez_t, ↓ilez_f, ↓im1, ile_t, ile_f, ilt_t, ilt_f, ieq_t, ieq_f, iz_t, iz_f, iltz, izle, ilez_t, ilez_f, im1, gZ_0, gZ_1, e10, e00, ↓reduceIte, Sum.elim_inl, Sum.elim_inr, nI_1, nI_add, Int32.sub_zero, zc10, zr10_0, zr10_1, zr10_2, zr10_3, zr10_4, zr10_5, zr10_6, zr10_7, zr10_8, zr10_9, zr10_10, zs10_11, zs10_12, zc15, zi15_0, zs15_0, zi15_1, zs15_1, zi15_2, zs15_2, zr15_3, zr15_4, zr15_5, q.1.2.2.1], by unfold f_c11_count; rw [zc144, Option.bind_some, zs144_10, Option.bind_some, if_neg z0, if_neg z1, if_pos z2]; simp (disch := omega) only [Option.bind_some, ↓ile_t, ↓ile_f, ↓ilt_t, ↓ilt_f, ↓ieq_t, ↓ieq_f, ↓iz_t, ↓iz_f, ↓iltz, ↓izle, ↓ilez_t, ↓ilez_f, ↓im1, ile_t, ile_f, ilt_t, ilt_f, ieq_t, ieq_f, iz_t, iz_f, iltz, izle, ilez_t, ilez_f, im1, gZ_0, gZ_1, e10, e00, ↓reduceIte, Sum.elim_inl, Sum.elim_inr, nI_1, nI_add, Int32.sub_zero, zi144_3, t1.1.2.2.1]⟩
  by_cases z3 : p = 3
  · exact ⟨nI (vN v), by unfold f_c10_count; rw [zc10, Option.bind_some, if_neg z0, if_neg z1, if_neg z2, if_pos z3]; simp (disch := omega) only [Option.bind_some, ↓ile_t, ↓ile_f, ↓ilt_t, ↓ilt_f, ↓ieq_t, ↓ieq_f, ↓iz_t, ↓iz_f, ↓iltz, ↓izle, ↓ilez_t, ↓ilez_f, ↓im1, ile_t, ile_f, ilt_t, ilt_f, ieq_t, ieq_f, iz_t, iz_f, iltz, izle, ilez_t, ilez_f, im1, gZ_0, gZ_1, e10, e00, ↓reduceIte, Sum.elim_inl, Sum.elim_inr, nI_1, nI_add, Int32.sub_zero, zc10, zr10_0, zr10_1, zr10_2, zr10_3, zr10_4, zr10_5, zr10_6, zr10_7, zr10_8, zr10_9, zr10_10, zs10_11, zs10_12, qc SA_19, qi0 SA_19, qs0 SA_19, qr1 SA_19, qr2 SA_19, qr3 SA_19, qr4 SA_19, qr5 SA_19, qi6 SA_19, qs6 SA_19, qi7 SA_19, qs7 SA_19, q.2.1.1], by unfold f_c11_count; rw [zc144, Option.bind_some, zs144_10, Option.bind_some, if_neg z0, if_neg z1, if_neg z2, if_pos z3]; simp (disch := omega) only [Option.bind_some, ↓ile_t, ↓ile_f, ↓ilt_t, ↓ilt_f, ↓ieq_t, ↓ieq_f, ↓iz_t, ↓iz_f, ↓iltz, ↓izle, ↓ilez_t, ↓ilez_f, ↓im1, ile_t, ile_f, ilt_t, ilt_f, ieq_t, ieq_f, iz_t, iz_f, iltz, izle, ilez_t, ilez_f, im1, gZ_0, gZ_1, e10, e00, ↓reduceIte, Sum.elim_inl, Sum.elim_inr, nI_1, nI_add, Int32.sub_zero, zr144_0, k40, zg145, t1.2.1.1]⟩
  by_cases z4 : p = 4
  · exact ⟨nI (vS v), by unfold f_c10_count; rw [zc10, Option.bind_some, if_neg z0, if_neg z1, if_neg z2, if_neg z3, if_pos z4]; simp (disch := omega) only [Option.bind_some, ↓ile_t, ↓ile_f, ↓ilt_t, ↓ilt_f, ↓ieq_t, ↓ieq_f, ↓iz_t, ↓iz_f, ↓iltz, ↓izle, ↓ilez_t, ↓ilez_f, ↓im1, ile_t, ile_f, ilt_t, ilt_f, ieq_t, ieq_f, iz_t, iz_f, iltz, izle, ilez_t, ilez_f, im1, gZ_0, gZ_1, e10, e00, ↓reduceIte, Sum.elim_inl, Sum.elim_inr, nI_1, nI_add, Int32.sub_zero, zc10, zr10_0, zr10_1, zr10_2, zr10_3, zr10_4, zr10_5, zr10_6, zr10_7, zr10_8, zr10_9, zr10_10, zs10_11, zs10_12, qc SA_19, qi0 SA_19, qs0 SA_19, qr1 SA_19, qr2 SA_19, qr3 SA_19, qr4 SA_19, qr5 SA_19, qi6 SA_19, qs6 SA_19, qi7 SA_19, qs7 SA_19, q.2.1.2.1], by unfold f_c11_count; rw [zc144, Option.bind_some, zs144_10, Option.bind_some, if_neg z0, if_neg z1, if_neg z2, if_neg z3, if_pos z4]; simp (disch := omega) only [Option.bind_some, ↓ile_t, ↓ile_f, ↓ilt_t, ↓ilt_f, ↓ieq_t, ↓ieq_f, ↓iz_t, ↓iz_f, ↓iltz, ↓izle, ↓ilez_t, ↓ilez_f, ↓im1, ile_t, ile_f, ilt_t, ilt_f, ieq_t, ieq_f, iz_t, iz_f, iltz, izle, ilez_t, ilez_f, im1, gZ_0, gZ_1, e10, e00, ↓reduceIte, Sum.elim_inl, Sum.elim_inr, nI_1, nI_add, Int32.sub_zero, zr144_0, k41, zg145, t1.2.1.2.1]⟩
  by_cases z5 : p = 5
  · exact ⟨nI (vP v), by unfold f_c10_count; rw [zc10, Option.bind_some, if_neg z0, if_neg z1, if_neg z2, if_neg z3, if_neg z4, if_pos z5]; simp (disch := omega) only [Option.bind_some, ↓ile_t, ↓ile_f, ↓ilt_t, ↓ilt_f, ↓ieq_t, ↓ieq_f, ↓iz_t, ↓iz_f, ↓iltz, ↓izle, ↓ilez_t, ↓ilez_f, ↓im1, ile_t, ile_f, ilt_t, ilt_f, ieq_t, ieq_f, iz_t, iz_f, iltz, izle, ilez_t, ilez_f, im1, gZ_0, gZ_1, e10, e00, ↓reduceIte, Sum.elim_inl, Sum.elim_inr, nI_1, nI_add, Int32.sub_zero, zc10, zr10_0, zr10_1, zr10_2, zr10_3, zr10_4, zr10_5, zr10_6, zr10_7, zr10_8, zr10_9, zr10_10, zs10_11, zs10_12, qc SA_19, qi0 SA_19, qs0 SA_19, qr1 SA_19, qr2 SA_19, qr3 SA_19, qr4 SA_19, qr5 SA_19, qi6 SA_19, qs6 SA_19, qi7 SA_19, qs7 SA_19, q.2.1.2.2.1], by unfold f_c11_count; rw [zc144, Option.bind_some, zs144_10, Option.bind_some, if_neg z0, if_neg z1, if_neg z2, if_neg z3, if_neg z4, if_pos z5]; simp (disch := omega) only [Option.bind_some, ↓ile_t, ↓ile_f, ↓ilt_t, ↓ilt_f, ↓ieq_t, ↓ieq_f, ↓iz_t, ↓iz_f, ↓iltz, ↓izle, ↓ilez_t, ↓ilez_f, ↓im1, ile_t, ile_f, ilt_t, ilt_f, ieq_t, ieq_f, iz_t, iz_f, iltz, izle, ilez_t, ilez_f, im1, gZ_0, gZ_1, e10, e00, ↓reduceIte, Sum.elim_inl, Sum.elim_inr, nI_1, nI_add, Int32.sub_zero, zr144_0, k42, zg145, t1.2.1.2.2.1]⟩
  by_cases z6 : p = 6
  · exact ⟨nI (sumN (vT v) (vN v)), by unfold f_c10_count; rw [zc10, Option.bind_some, if_neg z0, if_neg z1, if_neg z2, if_neg z3, if_neg z4, if_neg z5, if_pos z6]; simp (disch := omega) only [Option.bind_some, ↓ile_t, ↓ile_f, ↓ilt_t, ↓ilt_f, ↓ieq_t, ↓ieq_f, ↓iz_t, ↓iz_f, ↓iltz, ↓izle, ↓ilez_t, ↓ilez_f, ↓im1, ile_t, ile_f, ilt_t, ilt_f, ieq_t, ieq_f, iz_t, iz_f, iltz, izle, ilez_t, ilez_f, im1, gZ_0, gZ_1, e10, e00, ↓reduceIte, Sum.elim_inl, Sum.elim_inr, nI_1, nI_add, Int32.sub_zero, zc10, zr10_0, zr10_1, zr10_2, zr10_3, zr10_4, zr10_5, zr10_6, zr10_7, zr10_8, zr10_9, zr10_10, zs10_11, zs10_12, C_waters SA_19 q.2.1 h8 hN], by unfold f_c11_count; rw [zc144, Option.bind_some, zs144_10, Option.bind_some, if_neg z0, if_neg z1, if_neg z2, if_neg z3, if_neg z4, if_neg z5, if_pos z6]; simp (disch := omega) only [Option.bind_some, ↓ile_t, ↓ile_f, ↓ilt_t, ↓ilt_f, ↓ieq_t, ↓ieq_f, ↓iz_t, ↓iz_f, ↓iltz, ↓izle, ↓ilez_t, ↓ilez_f, ↓im1, ile_t, ile_f, ilt_t, ilt_f, ieq_t, ieq_f, iz_t, iz_f, iltz, izle, ilez_t, ilez_f, im1, gZ_0, gZ_1, e10, e00, ↓reduceIte, Sum.elim_inl, Sum.elim_inr, nI_1, nI_add, Int32.sub_zero, zr144_0, M_waters MA_145 t1.2.1 h8 hN]⟩
  by_cases z7 : p = 7
  · exact ⟨nI (sumN (gTh g) (gVm g)), by unfold f_c10_count; rw [zc10, Option.bind_some, if_neg z0, if_neg z1, if_neg z2, if_neg z3, if_neg z4, if_neg z5, if_neg z6, if_pos z7]; simp (disch := omega) only [Option.bind_some, ↓ile_t, ↓ile_f, ↓ilt_t, ↓ilt_f, ↓ieq_t, ↓ieq_f, ↓iz_t, ↓iz_f, ↓iltz, ↓izle, ↓ilez_t, ↓ilez_f, ↓im1, ile_t, ile_f, ilt_t, ilt_f, ieq_t, ieq_f, iz_t, iz_f, iltz, izle, ilez_t, ilez_f, im1, gZ_0, gZ_1, e10, e00, ↓reduceIte, Sum.elim_inl, Sum.elim_inr, nI_1, nI_add, Int32.sub_zero, zc10, zr10_0, zr10_1, zr10_2, zr10_3, zr10_4, zr10_5, zr10_6, zr10_7, zr10_8, zr10_9, zr10_10, zs10_11, zs10_12, C_thirsts q.1 wg hN], by unfold f_c11_count; rw [zc144, Option.bind_some, zs144_10, Option.bind_some, if_neg z0, if_neg z1, if_neg z2, if_neg z3, if_neg z4, if_neg z5, if_neg z6, if_pos z7]; simp (disch := omega) only [Option.bind_some, ↓ile_t, ↓ile_f, ↓ilt_t, ↓ilt_f, ↓ieq_t, ↓ieq_f, ↓iz_t, ↓iz_f, ↓iltz, ↓izle, ↓ilez_t, ↓ilez_f, ↓im1, ile_t, ile_f, ilt_t, ilt_f, ieq_t, ieq_f, iz_t, iz_f, iltz, izle, ilez_t, ilez_f, im1, gZ_0, gZ_1, e10, e00, ↓reduceIte, Sum.elim_inl, Sum.elim_inr, nI_1, nI_add, Int32.sub_zero, M_thirsts t1.1 wg hN]⟩
  by_cases z8 : p = 8
  · exact ⟨nI (sumN (vA v) (vN v)), by unfold f_c10_count; rw [zc10, Option.bind_some, if_neg z0, if_neg z1, if_neg z2, if_neg z3, if_neg z4, if_neg z5, if_neg z6, if_neg z7, if_pos z8]; simp (disch := omega) only [Option.bind_some, ↓ile_t, ↓ile_f, ↓ilt_t, ↓ilt_f, ↓ieq_t, ↓ieq_f, ↓iz_t, ↓iz_f, ↓iltz, ↓izle, ↓ilez_t, ↓ilez_f, ↓im1, ile_t, ile_f, ilt_t, ilt_f, ieq_t, ieq_f, iz_t, iz_f, iltz, izle, ilez_t, ilez_f, im1, gZ_0, gZ_1, e10, e00, ↓reduceIte, Sum.elim_inl, Sum.elim_inr, nI_1, nI_add, Int32.sub_zero, zc10, zr10_0, zr10_1, zr10_2, zr10_3, zr10_4, zr10_5, zr10_6, zr10_7, zr10_8, zr10_9, zr10_10, zs10_11, zs10_12, C_ands SA_19 q.2.1 h8 hN], by unfold f_c11_count; rw [zc144, Option.bind_some, zs144_10, Option.bind_some, if_neg z0, if_neg z1, if_neg z2, if_neg z3, if_neg z4, if_neg z5, if_neg z6, if_neg z7, if_pos z8]; simp (disch := omega) only [Option.bind_some, ↓ile_t, ↓ile_f, ↓ilt_t, ↓ilt_f, ↓ieq_t, ↓ieq_f, ↓iz_t, ↓iz_f, ↓iltz, ↓izle, ↓ilez_t, ↓ilez_f, ↓im1, ile_t, ile_f, ilt_t, ilt_f, ieq_t, ieq_f, iz_t, iz_f, iltz, izle, ilez_t, ilez_f, im1, gZ_0, gZ_1, e10, e00, ↓reduceIte, Sum.elim_inl, Sum.elim_inr, nI_1, nI_add, Int32.sub_zero, M_allAnds t1.2.1 h8 hN]⟩
  by_cases z9 : p = 9
  · exact ⟨sDry v (vN v), by unfold f_c10_count; rw [zc10, Option.bind_some, if_neg z0, if_neg z1, if_neg z2, if_neg z3, if_neg z4, if_neg z5, if_neg z6, if_neg z7, if_neg z8, if_pos z9]; simp (disch := omega) only [Option.bind_some, ↓ile_t, ↓ile_f, ↓ilt_t, ↓ilt_f, ↓ieq_t, ↓ieq_f, ↓iz_t, ↓iz_f, ↓iltz, ↓izle, ↓ilez_t, ↓ilez_f, ↓im1, ile_t, ile_f, ilt_t, ilt_f, ieq_t, ieq_f, iz_t, iz_f, iltz, izle, ilez_t, ilez_f, im1, gZ_0, gZ_1, e10, e00, ↓reduceIte, Sum.elim_inl, Sum.elim_inr, nI_1, nI_add, Int32.sub_zero, zc10, zr10_0, zr10_1, zr10_2, zr10_3, zr10_4, zr10_5, zr10_6, zr10_7, zr10_8, zr10_9, zr10_10, zs10_11, zs10_12, C_dry SA_19 q.2.1 wv hN], by unfold f_c11_count; rw [zc144, Option.bind_some, zs144_10, Option.bind_some, if_neg z0, if_neg z1, if_neg z2, if_neg z3, if_neg z4, if_neg z5, if_neg z6, if_neg z7, if_neg z8, if_pos z9]; simp (disch := omega) only [Option.bind_some, ↓ile_t, ↓ile_f, ↓ilt_t, ↓ilt_f, ↓ieq_t, ↓ieq_f, ↓iz_t, ↓iz_f, ↓iltz, ↓izle, ↓ilez_t, ↓ilez_f, ↓im1, ile_t, ile_f, ilt_t, ilt_f, ieq_t, ieq_f, iz_t, iz_f, iltz, izle, ilez_t, ilez_f, im1, gZ_0, gZ_1, e10, e00, ↓reduceIte, Sum.elim_inl, Sum.elim_inr, nI_1, nI_add, Int32.sub_zero, zr144_0, M_dry MA_145 t1.2.1 wv hN]⟩
  by_cases z10 : p = 10
  · exact ⟨nI h.1, by unfold f_c10_count; rw [zc10, Option.bind_some, if_neg z0, if_neg z1, if_neg z2, if_neg z3, if_neg z4, if_neg z5, if_neg z6, if_neg z7, if_neg z8, if_neg z9, if_pos z10]; simp (disch := omega) only [Option.bind_some, ↓ile_t, ↓ile_f, ↓ilt_t, ↓ilt_f, ↓ieq_t, ↓ieq_f, ↓iz_t, ↓iz_f, ↓iltz, ↓izle, ↓ilez_t, ↓ilez_f, ↓im1, ile_t, ile_f, ilt_t, ilt_f, ieq_t, ieq_f, iz_t, iz_f, iltz, izle, ilez_t, ilez_f, im1, gZ_0, gZ_1, e10, e00, ↓reduceIte, Sum.elim_inl, Sum.elim_inr, nI_1, nI_add, Int32.sub_zero, zc10, zr10_0, zr10_1, zr10_2, zr10_3, zr10_4, zr10_5, zr10_6, zr10_7, zr10_8, zr10_9, zr10_10, zs10_11, zs10_12, zc128, zr128_0, zr128_1, zi128_2, zs128_2, q.2.2.2.2.2.2.2.1], by unfold f_c11_count; rw [zc144, Option.bind_some, zs144_10, Option.bind_some, if_neg z0, if_neg z1, if_neg z2, if_neg z3, if_neg z4, if_neg z5, if_neg z6, if_neg z7, if_neg z8, if_neg z9, if_pos z10]; simp (disch := omega) only [Option.bind_some, ↓ile_t, ↓ile_f, ↓ilt_t, ↓ilt_f, ↓ieq_t, ↓ieq_f, ↓iz_t, ↓iz_f, ↓iltz, ↓izle, ↓ilez_t, ↓ilez_f, ↓im1, ile_t, ile_f, ilt_t, ilt_f, ieq_t, ieq_f, iz_t, iz_f, iltz, izle, ilez_t, ilez_f, im1, gZ_0, gZ_1, e10, e00, ↓reduceIte, Sum.elim_inl, Sum.elim_inr, nI_1, nI_add, Int32.sub_zero, zi144_34, t1.2.2.2.2.2.2.2.1]⟩
  by_cases z11 : p = 11
  · exact ⟨nI n.1, by unfold f_c10_count; rw [zc10, Option.bind_some, if_neg z0, if_neg z1, if_neg z2, if_neg z3, if_neg z4, if_neg z5, if_neg z6, if_neg z7, if_neg z8, if_neg z9, if_neg z10, if_pos z11]; simp (disch := omega) only [Option.bind_some, ↓ile_t, ↓ile_f, ↓ilt_t, ↓ilt_f, ↓ieq_t, ↓ieq_f, ↓iz_t, ↓iz_f, ↓iltz, ↓izle, ↓ilez_t, ↓ilez_f, ↓im1, ile_t, ile_f, ilt_t, ilt_f, ieq_t, ieq_f, iz_t, iz_f, iltz, izle, ilez_t, ilez_f, im1, gZ_0, gZ_1, e10, e00, ↓reduceIte, Sum.elim_inl, Sum.elim_inr, nI_1, nI_add, Int32.sub_zero, zc10, zr10_0, zr10_1, zr10_2, zr10_3, zr10_4, zr10_5, zr10_6, zr10_7, zr10_8, zr10_9, zr10_10, zs10_11, zs10_12, zc40, zr40_0, zr40_1, zr40_2, zi40_3, zs40_3, q.2.2.2.2.2.1.1.1], by unfold f_c11_count; rw [zc144, Option.bind_some, zs144_10, Option.bind_some, if_neg z0, if_neg z1, if_neg z2, if_neg z3, if_neg z4, if_neg z5, if_neg z6, if_neg z7, if_neg z8, if_neg z9, if_neg z10, if_pos z11]; simp (disch := omega) only [Option.bind_some, ↓ile_t, ↓ile_f, ↓ilt_t, ↓ilt_f, ↓ieq_t, ↓ieq_f, ↓iz_t, ↓iz_f, ↓iltz, ↓izle, ↓ilez_t, ↓ilez_f, ↓im1, ile_t, ile_f, ilt_t, ilt_f, ieq_t, ieq_f, iz_t, iz_f, iltz, izle, ilez_t, ilez_f, im1, gZ_0, gZ_1, e10, e00, ↓reduceIte, Sum.elim_inl, Sum.elim_inr, nI_1, nI_add, Int32.sub_zero, zi144_23, t1.2.2.2.2.2.1.1]⟩
  by_cases z12 : p = 12
  · exact ⟨nI l.length, by unfold f_c10_count; rw [zc10, Option.bind_some, if_neg z0, if_neg z1, if_neg z2, if_neg z3, if_neg z4, if_neg z5, if_neg z6, if_neg z7, if_neg z8, if_neg z9, if_neg z10, if_neg z11, if_pos z12]; simp (disch := omega) only [Option.bind_some, ↓ile_t, ↓ile_f, ↓ilt_t, ↓ilt_f, ↓ieq_t, ↓ieq_f, ↓iz_t, ↓iz_f, ↓iltz, ↓izle, ↓ilez_t, ↓ilez_f, ↓im1, ile_t, ile_f, ilt_t, ilt_f, ieq_t, ieq_f, iz_t, iz_f, iltz, izle, ilez_t, ilez_f, im1, gZ_0, gZ_1, e10, e00, ↓reduceIte, Sum.elim_inl, Sum.elim_inr, nI_1, nI_add, Int32.sub_zero, zc10, zr10_0, zr10_1, zr10_2, zr10_3, zr10_4, zr10_5, zr10_6, zr10_7, zr10_8, zr10_9, zr10_10, zs10_11, zs10_12, zc13, zr13_0, zi13_1, zs13_1, q.2.2.2.1.1], by unfold f_c11_count; rw [zc144, Option.bind_some, zs144_10, Option.bind_some, if_neg z0, if_neg z1, if_neg z2, if_neg z3, if_neg z4, if_neg z5, if_neg z6, if_neg z7, if_neg z8, if_neg z9, if_neg z10, if_neg z11, if_pos z12]; simp (disch := omega) only [Option.bind_some, ↓ile_t, ↓ile_f, ↓ilt_t, ↓ilt_f, ↓ieq_t, ↓ieq_f, ↓iz_t, ↓iz_f, ↓iltz, ↓izle, ↓ilez_t, ↓ilez_f, ↓im1, ile_t, ile_f, ilt_t, ilt_f, ieq_t, ieq_f, iz_t, iz_f, iltz, izle, ilez_t, ilez_f, im1, gZ_0, gZ_1, e10, e00, ↓reduceIte, Sum.elim_inl, Sum.elim_inr, nI_1, nI_add, Int32.sub_zero, zi144_9, t1.2.2.2.1.1]⟩
  by_cases z13 : p = 13
  · exact ⟨nI x.1, by unfold f_c10_count; rw [zc10, Option.bind_some, if_neg z0, if_neg z1, if_neg z2, if_neg z3, if_neg z4, if_neg z5, if_neg z6, if_neg z7, if_neg z8, if_neg z9, if_neg z10, if_neg z11, if_neg z12, if_pos z13]; simp (disch := omega) only [Option.bind_some, ↓ile_t, ↓ile_f, ↓ilt_t, ↓ilt_f, ↓ieq_t, ↓ieq_f, ↓iz_t, ↓iz_f, ↓iltz, ↓izle, ↓ilez_t, ↓ilez_f, ↓im1, ile_t, ile_f, ilt_t, ilt_f, ieq_t, ieq_f, iz_t, iz_f, iltz, izle, ilez_t, ilez_f, im1, gZ_0, gZ_1, e10, e00, ↓reduceIte, Sum.elim_inl, Sum.elim_inr, nI_1, nI_add, Int32.sub_zero, zc10, zr10_0, zr10_1, zr10_2, zr10_3, zr10_4, zr10_5, zr10_6, zr10_7, zr10_8, zr10_9, zr10_10, zs10_11, zs10_12, zc11, zr11_0, zi11_1, zs11_1, q.2.2.1.1], by unfold f_c11_count; rw [zc144, Option.bind_some, zs144_10, Option.bind_some, if_neg z0, if_neg z1, if_neg z2, if_neg z3, if_neg z4, if_neg z5, if_neg z6, if_neg z7, if_neg z8, if_neg z9, if_neg z10, if_neg z11, if_neg z12, if_pos z13]; simp (disch := omega) only [Option.bind_some, ↓ile_t, ↓ile_f, ↓ilt_t, ↓ilt_f, ↓ieq_t, ↓ieq_f, ↓iz_t, ↓iz_f, ↓iltz, ↓izle, ↓ilez_t, ↓ilez_f, ↓im1, ile_t, ile_f, ilt_t, ilt_f, ieq_t, ieq_f, iz_t, iz_f, iltz, izle, ilez_t, ilez_f, im1, gZ_0, gZ_1, e10, e00, ↓reduceIte, Sum.elim_inl, Sum.elim_inr, nI_1, nI_add, Int32.sub_zero, zi144_7, t1.2.2.1.1]⟩
  exact ⟨-1, by unfold f_c10_count; rw [zc10, Option.bind_some, if_neg z0, if_neg z1, if_neg z2, if_neg z3, if_neg z4, if_neg z5, if_neg z6, if_neg z7, if_neg z8, if_neg z9, if_neg z10, if_neg z11, if_neg z12, if_neg z13], by unfold f_c11_count; rw [zc144, Option.bind_some, zs144_10, Option.bind_some, if_neg z0, if_neg z1, if_neg z2, if_neg z3, if_neg z4, if_neg z5, if_neg z6, if_neg z7, if_neg z8, if_neg z9, if_neg z10, if_neg z11, if_neg z12, if_neg z13]⟩
-- what throws
def AgrT {α : Type} (L : Nat) (S : gS) (c : Nat) (f : α → Int64) (C : gH → Option (Int32 × gH)) (M : gH → Option (α × gH)) : Prop :=
  ∃ (S1 S2 : gS) (b : Int32) (r : α), C (mk L S) = some (b, mk L S1) ∧ M (mk L S1) = some (r, mk L S2) ∧ S1.1 0 = S.1 0 ∧ S2.1 0 = S.1 0 ∧ S2.1 144 10 = b ∧ (b = 0 → S2.2.1 170 0 = f r) ∧ Rl S2 c
theorem lostT {α : Type} {f : α → Int64} {C : gH → Option (Int32 × gH)} {M : gH → Option (α × gH)} {r : α} (w : WA A) (q : CA S A) (m : MA S A c) (e : C (mk L S) = some (1, mk L S)) (e2 : M (mk L S) = some (r, mk L (stI (stI S 144 10 0) 144 10 1))) : AgrT L S c f C M := by
  have m1 : MA (stI (stI S 144 10 0) 144 10 1) A c := m.thr.fm (FM.stK (A := fun _ => False) (K := fun k => k = 10) rfl) (fun _ z => z.elim) (fun k z => by unfold sK; omega)
  exact ⟨S, _, 1, r, e, e2, rfl, by rw [stI_1 (by omega), stI_1 (by omega)], rdI_eq, fun z => absurd z (by decide), A, w, (q.high thrH).high thrH, m1⟩
theorem wentT {α : Type} {f : α → Int64} {C : gH → Option (Int32 × gH)} {M : gH → Option (α × gH)} {r : α} {S1 S2 : gS} (w : WA A) (q1 : CA S1 A) (e : C (mk L S) = some (0, mk L (stL S1 170 0 (f r)))) (f1 : Fr lowC S S1) (m : MA S A c) (e2 : ∀ T, MA T A c → T.2.1 170 0 = f r → ∃ T', M (mk L T) = some (r, mk L T') ∧ Fr highM T T' ∧ T'.1 144 10 = 0 ∧ T'.2.1 170 0 = f r ∧ MA T' A c) : AgrT L S c f C M := by
  have m1 : MA (stL S1 170 0 (f r)) A c := (m.low f1).fm (FM.stL (A := fun y => y = 170) (K := fun _ => False) rfl (by omega)) (fun y z => by unfold sM; omega) (fun _ z => z.elim)
  obtain ⟨T', a1, a2, a3, a4, a5⟩ := e2 _ m1 rdL_eq
  have x1 := (f1 0 (by unfold lowC; omega)).1
  have x2 := (a2 0 (by unfold highM; omega)).1
  exact ⟨_, T', 0, r, e, a1, x1, x2.trans x1, a3, fun _ => a4, A, w, (q1.high (Fr.stL (by unfold highM; omega))).high a2, a5⟩
theorem zp170' {v : Int64} : saL (mk L S) 170 (0 : Int32) v = some (mk L (stL S 170 0 v)) := zp170 (j := 0) (by omega)
-- row
theorem A_row {p : Int32} (w : WA A) (q : CA S A) (m : MA S A c) : AgrT L S c id (f_lw_row N 10 p 170) (f_c11_row N 144 p) := by
  obtain ⟨g, v, x, l, u, n, k, h⟩ := A
  have l8 : l.length ≤ 8 := w.2.2.2.1
  have e13 : S.1 13 1 = nI l.length := q.2.2.2.1.1
  have e9 : (stI S 144 10 0).1 144 9 = nI l.length := m.thr.2.2.2.1.1
  rcases in_or (n := l.length) p (by omega) with ⟨i, hi, rfl⟩ | hp
  · obtain ⟨y, hy⟩ : ∃ y, l[i]? = some y := ⟨_, List.getElem?_eq_getElem hi⟩
    have p0 : ¬ nI i < 0 := nI_pos (by omega)
    have e14 : S.2.1 14 i = y := q.2.2.2.1.2 i y hy
    refine wentT (r := y) (f := id) w q (S1 := S) (S2 := S) ?_ Fr.refl m (fun T mt hT => ⟨stI T 144 10 0, ?_, thrH, rdI_eq, hT, mt.thr⟩)
    · have et : t_c10_row N 10 (nI i) (mk L S) = none := by
        simp (disch := omega) only [Option.bind_some, ↓ile_t, ↓ile_f, ↓ilt_t, ↓ilt_f, ↓ieq_t, ↓ieq_f, ↓iz_t, ↓iz_f, ↓iltz, ↓izle, ↓ilez_t, ↓ilez_f, ↓im1, ile_t, ile_f, ilt_t, ilt_f, ieq_t, ieq_f, iz_t, iz_f, iltz, izle, ilez_t, ilez_f, im1, gZ_0, gZ_1, e10, e00, ↓reduceIte, Sum.elim_inl, Sum.elim_inr, nI_1, nI_add, Int32.sub_zero, t_c10_row, zc10, zr10_0, zr10_1, zr10_2, zr10_3, zr10_4, zr10_5, zr10_6, zr10_7, zr10_8, zr10_9, zr10_10, zs10_11, zs10_12, zc13, zr13_0, zi13_1, zs13_1, e13]
      unfold f_lw_row
      rw [et]
      show g_lw_row N 10 (nI i) 170 (mk L S) = _
      simp (disch := omega) only [Option.bind_some, ↓ile_t, ↓ile_f, ↓ilt_t, ↓ilt_f, ↓ieq_t, ↓ieq_f, ↓iz_t, ↓iz_f, ↓iltz, ↓izle, ↓ilez_t, ↓ilez_f, ↓im1, ile_t, ile_f, ilt_t, ilt_f, ieq_t, ieq_f, iz_t, iz_f, iltz, izle, ilez_t, ilez_f, im1, gZ_0, gZ_1, e10, e00, ↓reduceIte, Sum.elim_inl, Sum.elim_inr, nI_1, nI_add, Int32.sub_zero, g_lw_row, f_c10_row, zc10, zr10_0, zr10_1, zr10_2, zr10_3, zr10_4, zr10_5, zr10_6, zr10_7, zr10_8, zr10_9, zr10_10, zs10_11, zs10_12, zc13, zr13_0, zi13_1, zs13_1, e13, zg14, e14, zp170']
      rfl
    · have t1 := mt.thr
      have e9' : (stI T 144 10 0).1 144 9 = nI l.length := t1.2.2.2.1.1
      have e149 : (stI T 144 10 0).2.1 149 i = y := t1.2.2.2.1.2 i y hy
      simp (disch := omega) only [Option.bind_some, ↓ile_t, ↓ile_f, ↓ilt_t, ↓ilt_f, ↓ieq_t, ↓ieq_f, ↓iz_t, ↓iz_f, ↓iltz, ↓izle, ↓ilez_t, ↓ilez_f, ↓im1, ile_t, ile_f, ilt_t, ilt_f, ieq_t, ieq_f, iz_t, iz_f, iltz, izle, ilez_t, ilez_f, im1, gZ_0, gZ_1, e10, e00, ↓reduceIte, Sum.elim_inl, Sum.elim_inr, nI_1, nI_add, Int32.sub_zero, f_c11_row, zc144, zs144_10, zi144_9, e9', M_in_nI hi, zr144_8, zg149, e149]
  · refine lostT (r := (0 : Int32).toInt64) w q m ?_ ?_
    · have et : t_c10_row N 10 p (mk L S) = some () := by
        rcases hp with hp | ⟨h1, hp⟩
        · simp (disch := omega) only [Option.bind_some, ↓ile_t, ↓ile_f, ↓ilt_t, ↓ilt_f, ↓ieq_t, ↓ieq_f, ↓iz_t, ↓iz_f, ↓iltz, ↓izle, ↓ilez_t, ↓ilez_f, ↓im1, ile_t, ile_f, ilt_t, ilt_f, ieq_t, ieq_f, iz_t, iz_f, iltz, izle, ilez_t, ilez_f, im1, gZ_0, gZ_1, e10, e00, ↓reduceIte, Sum.elim_inl, Sum.elim_inr, nI_1, nI_add, Int32.sub_zero, t_c10_row, zc10, zr10_0, zr10_1, zr10_2, zr10_3, zr10_4, zr10_5, zr10_6, zr10_7, zr10_8, zr10_9, zr10_10, zs10_11, zs10_12, zc13, zr13_0, zi13_1, zs13_1, if_pos hp]
        · have n1 : ¬ p < nI l.length := fun z => by rw [i32_le] at hp; rw [i32_lt] at z; exact absurd (Int.lt_of_le_of_lt hp z) (Int.lt_irrefl _)
          simp (disch := omega) only [Option.bind_some, ↓ile_t, ↓ile_f, ↓ilt_t, ↓ilt_f, ↓ieq_t, ↓ieq_f, ↓iz_t, ↓iz_f, ↓iltz, ↓izle, ↓ilez_t, ↓ilez_f, ↓im1, ile_t, ile_f, ilt_t, ilt_f, ieq_t, ieq_f, iz_t, iz_f, iltz, izle, ilez_t, ilez_f, im1, gZ_0, gZ_1, e10, e00, ↓reduceIte, Sum.elim_inl, Sum.elim_inr, nI_1, nI_add, Int32.sub_zero, t_c10_row, zc10, zr10_0, zr10_1, zr10_2, zr10_3, zr10_4, zr10_5, zr10_6, zr10_7, zr10_8, zr10_9, zr10_10, zs10_11, zs10_12, zc13, zr13_0, zi13_1, zs13_1, if_neg h1, e13, if_neg n1]
      unfold f_lw_row
      rw [et]
    · simp (disch := omega) only [Option.bind_some, ↓ile_t, ↓ile_f, ↓ilt_t, ↓ilt_f, ↓ieq_t, ↓ieq_f, ↓iz_t, ↓iz_f, ↓iltz, ↓izle, ↓ilez_t, ↓ilez_f, ↓im1, ile_t, ile_f, ilt_t, ilt_f, ieq_t, ieq_f, iz_t, iz_f, iltz, izle, ilez_t, ilez_f, im1, gZ_0, gZ_1, e10, e00, ↓reduceIte, Sum.elim_inl, Sum.elim_inr, nI_1, nI_add, Int32.sub_zero, f_c11_row, zc144, zs144_10, zi144_9, e9, M_in_out (n := l.length) (by omega) hp, f_c11_lost, eq_self_iff_true]
-- villages that draw from a well
def sDrw (g : pG) (v : pV) (p : Int32) : Nat → Int32
  | 0 => 0
  | i + 1 => if oI (sNear g v (gHm g i) (vN v)) = p then sDrw g v p i ||| ((1 : Int32) <<< (nI i &&& 31)) else sDrw g v p i
theorem C_drw {g : pG} {v : pV} {p : Int32} (cg : CG S g) (cv : CV S 19 v) (wg : WG g) (wv : WV g v) (hN : 900 ≤ N) : f_c10_drawersFrom N 10 p (mk L S) = some (sDrw g v p (gVm g)) := by
  have h6 := wg.2.2.2.2.1
  have e : lp_c10_drawersFrom_4 N 10 p (mk L S) N 0 (nI 0) = some (sDrw g v p (gVm g)) := by
    refine lp_seq (Lp := fun kk (s : Int32) i => lp_c10_drawersFrom_4 N 10 p (mk L S) kk s (nI i)) (sp := fun i => sDrw g v p i) (n := gVm g) (fun kk i hi => ?_) (fun kk => ?_) (by omega)
    · show lp_c10_drawersFrom_4 N 10 p (mk L S) (kk + 1) _ _ = _
      rw [lp_c10_drawersFrom_4.eq_2]
      have hH := wg.H hi
      have en := C_near (L := L) (N := N) (f := gHm g i) SA_19 cv cg wg wv (by omega) hN
      by_cases z : oI (sNear g v (gHm g i) (vN v)) = p
      · simp (disch := omega) only [Option.bind_some, ↓ile_t, ↓ile_f, ↓ilt_t, ↓ilt_f, ↓ieq_t, ↓ieq_f, ↓iz_t, ↓iz_f, ↓iltz, ↓izle, ↓ilez_t, ↓ilez_f, ↓im1, ile_t, ile_f, ilt_t, ilt_f, ieq_t, ieq_f, iz_t, iz_f, iltz, izle, ilez_t, ilez_f, im1, gZ_0, gZ_1, e10, e00, ↓reduceIte, Sum.elim_inl, Sum.elim_inr, nI_1, nI_add, Int32.sub_zero, zc10, zr10_0, zr10_1, zr10_2, zr10_3, zr10_4, zr10_5, zr10_6, zr10_7, zr10_8, zr10_9, zr10_10, zs10_11, zs10_12, zc15, zi15_0, zs15_0, zi15_1, zs15_1, zi15_2, zs15_2, zr15_3, zr15_4, zr15_5, cg.2.2.1, zg16, (cg.2.2.2.1 i hi).1, en, if_pos z, sDrw]
      · simp (disch := omega) only [Option.bind_some, ↓ile_t, ↓ile_f, ↓ilt_t, ↓ilt_f, ↓ieq_t, ↓ieq_f, ↓iz_t, ↓iz_f, ↓iltz, ↓izle, ↓ilez_t, ↓ilez_f, ↓im1, ile_t, ile_f, ilt_t, ilt_f, ieq_t, ieq_f, iz_t, iz_f, iltz, izle, ilez_t, ilez_f, im1, gZ_0, gZ_1, e10, e00, ↓reduceIte, Sum.elim_inl, Sum.elim_inr, nI_1, nI_add, Int32.sub_zero, zc10, zr10_0, zr10_1, zr10_2, zr10_3, zr10_4, zr10_5, zr10_6, zr10_7, zr10_8, zr10_9, zr10_10, zs10_11, zs10_12, zc15, zi15_0, zs15_0, zi15_1, zs15_1, zi15_2, zs15_2, zr15_3, zr15_4, zr15_5, cg.2.2.1, zg16, (cg.2.2.2.1 i hi).1, en, if_neg z, sDrw]
    · show lp_c10_drawersFrom_4 N 10 p (mk L S) (kk + 1) _ _ = _
      rw [lp_c10_drawersFrom_4.eq_2]
      simp (disch := omega) only [Option.bind_some, ↓ile_t, ↓ile_f, ↓ilt_t, ↓ilt_f, ↓ieq_t, ↓ieq_f, ↓iz_t, ↓iz_f, ↓iltz, ↓izle, ↓ilez_t, ↓ilez_f, ↓im1, ile_t, ile_f, ilt_t, ilt_f, ieq_t, ieq_f, iz_t, iz_f, iltz, izle, ilez_t, ilez_f, im1, gZ_0, gZ_1, e10, e00, ↓reduceIte, Sum.elim_inl, Sum.elim_inr, nI_1, nI_add, Int32.sub_zero, zc10, zr10_0, zr10_1, zr10_2, zr10_3, zr10_4, zr10_5, zr10_6, zr10_7, zr10_8, zr10_9, zr10_10, zs10_11, zs10_12, zc15, zi15_0, zs15_0, zi15_1, zs15_1, zi15_2, zs15_2, zr15_3, zr15_4, zr15_5, cg.2.2.1]
  rw [nI_0] at e
  simp (disch := omega) only [Option.bind_some, ↓ile_t, ↓ile_f, ↓ilt_t, ↓ilt_f, ↓ieq_t, ↓ieq_f, ↓iz_t, ↓iz_f, ↓iltz, ↓izle, ↓ilez_t, ↓ilez_f, ↓im1, ile_t, ile_f, ilt_t, ilt_f, ieq_t, ieq_f, iz_t, iz_f, iltz, izle, ilez_t, ilez_f, im1, gZ_0, gZ_1, e10, e00, ↓reduceIte, Sum.elim_inl, Sum.elim_inr, nI_1, nI_add, Int32.sub_zero, f_c10_drawersFrom, zc10, zr10_0, zr10_1, zr10_2, zr10_3, zr10_4, zr10_5, zr10_6, zr10_7, zr10_8, zr10_9, zr10_10, zs10_11, zs10_12, e]
theorem M_drw {g : pG} {v : pV} {p : Int32} (cg : MG S g) (cv : MW S 145 v) (wg : WG g) (wv : WV g v) (hN : 900 ≤ N) : f_c11_drawers N 144 p (mk L S) = some (sDrw g v p (gVm g)) := by
  have h6 := wg.2.2.2.2.1
  have e : lp_c11_drawers_4 N 144 p (mk L S) N 0 (nI 0) = some (sDrw g v p (gVm g)) := by
    refine lp_seq (Lp := fun kk (s : Int32) i => lp_c11_drawers_4 N 144 p (mk L S) kk s (nI i)) (sp := fun i => sDrw g v p i) (n := gVm g) (fun kk i hi => ?_) (fun kk => ?_) (by omega)
    · show lp_c11_drawers_4 N 144 p (mk L S) (kk + 1) _ _ = _
      rw [lp_c11_drawers_4.eq_2]
      have en := M_near (L := L) (N := N) MA_145 cv cg wg wv hi hN
      by_cases z : oI (sNear g v (gHm g i) (vN v)) = p
      · simp (disch := omega) only [Option.bind_some, ↓ile_t, ↓ile_f, ↓ilt_t, ↓ilt_f, ↓ieq_t, ↓ieq_f, ↓iz_t, ↓iz_f, ↓iltz, ↓izle, ↓ilez_t, ↓ilez_f, ↓im1, ile_t, ile_f, ilt_t, ilt_f, ieq_t, ieq_f, iz_t, iz_f, iltz, izle, ilez_t, ilez_f, im1, gZ_0, gZ_1, e10, e00, ↓reduceIte, Sum.elim_inl, Sum.elim_inr, nI_1, nI_add, Int32.sub_zero, zi144_3, cg.2.2.1, zr144_0, en, if_pos z, sDrw]
      · simp (disch := omega) only [Option.bind_some, ↓ile_t, ↓ile_f, ↓ilt_t, ↓ilt_f, ↓ieq_t, ↓ieq_f, ↓iz_t, ↓iz_f, ↓iltz, ↓izle, ↓ilez_t, ↓ilez_f, ↓im1, ile_t, ile_f, ilt_t, ilt_f, ieq_t, ieq_f, iz_t, iz_f, iltz, izle, ilez_t, ilez_f, im1, gZ_0, gZ_1, e10, e00, ↓reduceIte, Sum.elim_inl, Sum.elim_inr, nI_1, nI_add, Int32.sub_zero, zi144_3, cg.2.2.1, zr144_0, en, if_neg z, sDrw, Int32.or_zero]
    · show lp_c11_drawers_4 N 144 p (mk L S) (kk + 1) _ _ = _
      rw [lp_c11_drawers_4.eq_2]
      simp (disch := omega) only [Option.bind_some, ↓ile_t, ↓ile_f, ↓ilt_t, ↓ilt_f, ↓ieq_t, ↓ieq_f, ↓iz_t, ↓iz_f, ↓iltz, ↓izle, ↓ilez_t, ↓ilez_f, ↓im1, ile_t, ile_f, ilt_t, ilt_f, ieq_t, ieq_f, iz_t, iz_f, iltz, izle, ilez_t, ilez_f, im1, gZ_0, gZ_1, e10, e00, ↓reduceIte, Sum.elim_inl, Sum.elim_inr, nI_1, nI_add, Int32.sub_zero, zi144_3, cg.2.2.1]
  rw [nI_0] at e
  simp (disch := omega) only [Option.bind_some, ↓ile_t, ↓ile_f, ↓ilt_t, ↓ilt_f, ↓ieq_t, ↓ieq_f, ↓iz_t, ↓iz_f, ↓iltz, ↓izle, ↓ilez_t, ↓ilez_f, ↓im1, ile_t, ile_f, ilt_t, ilt_f, ieq_t, ieq_f, iz_t, iz_f, iltz, izle, ilez_t, ilez_f, im1, gZ_0, gZ_1, e10, e00, ↓reduceIte, Sum.elim_inl, Sum.elim_inr, nI_1, nI_add, Int32.sub_zero, f_c11_drawers, zc144, e]
end LOOKS
