/-! CALLS: what a well bears, the most words -/
theorem sMax_t {p : Nat → Bool} {k : Nat} (h : p (k + 1) = true) : sMax p (k + 1) = k + 1 := by rw [sMax, if_pos h]
theorem sMax_f {p : Nat → Bool} {k : Nat} (h : p (k + 1) = false) : sMax p (k + 1) = sMax p k := by rw [sMax, if_neg (by rw [h]; decide)]
/-- whether a village drinks its fill so many seasons long -/
def sWet (code : List Int32) (g : pG) (v : pV) (p : Nat) : Nat → Bool
  | 0 => true
  | i + 1 => sWet code g v p i && decide (gTh g p ≤ sDrew code g (vSeas code g v i) p)
theorem sWet_f {code : List Int32} {g : pG} {v : pV} {p : Nat} : ∀ d i, sWet code g v p i = false → sWet code g v p (i + d) = false := by
  intro d
  induction d with
  | zero => intro i h; exact h
  | succ d ih =>
    intro i h
    show (sWet code g v p (i + d) && _) = false
    rw [ih i h]
    rfl
section BEARS
variable {L N : Nat} {S T : gS} {c : Nat} {g : pG} {v v' : pV} {x : pX} {l : List Int64} {u : pX} {n : pN} {k : Nat → Option pV} {h : pH} {A : pA} {code : List Int32}
theorem vSetA_same {v : pV} {i : Nat} : vSetA v i (vA v i) = v := by
  have e : nup (vA v) i (vA v i) = vA v := by
    funext j
    unfold nup
    by_cases q : j = i
    · rw [if_pos q, q]
    · rw [if_neg q]
  unfold vSetA
  rw [e]
  rfl
theorem A_bears {p y : Int32} (w : WA A) (q : CA S A) (m : MA S A c) (hN : 900 ≤ N) : Agr L S c (f_c10_bears N 10 p y) (f_c11_bears N 144 p y) := by
  obtain ⟨g, v, x, l, u, n, k, h⟩ := A
  have wv : WV g v := w.2.1
  have wg : WG g := w.1
  have h8 := wv.1
  obtain ⟨code, hc⟩ : ∃ code, ruleCode u.2 u.1 = .inl code := w.2.2.2.2.1.2
  rcases in_or (n := vN v) p (by omega) with ⟨i, hi, rfl⟩ | hp
  · have e0 := C_has_t (L := L) (N := N) SA_19 q.2.1 hi h8
    rcases (show (y < 1 ∨ (¬ y < 1 ∧ ¬ y ≤ 30)) ∨ ∃ d, 1 ≤ d ∧ d ≤ 30 ∧ y = nI d from cas y 1 30 (by omega) (by omega)) with hy | ⟨d, d1, d2, rfl⟩
    · refine AgrR w q m (r := -1) ?_ (fun T _ t1 => ?_)
      · simp (disch := omega) only [Option.bind_some, ↓ile_t, ↓ile_f, ↓ilt_t, ↓ilt_f, ↓ieq_t, ↓ieq_f, ↓iz_t, ↓iz_f, ↓iltz, ↓izle, ↓ilez_t, ↓ilez_f, ↓im1, ile_t, ile_f, ilt_t, ilt_f, ieq_t, ieq_f, iz_t, iz_f, iltz, izle, ilez_t, ilez_f, im1, gZ_0, gZ_1, e10, e00, ↓reduceIte, Sum.elim_inl, Sum.elim_inr, nI_1, nI_add, Int32.sub_zero, f_c10_bears, zc10, zr10_0, zr10_1, zr10_2, zr10_3, zr10_4, zr10_5, zr10_6, zr10_7, zr10_8, zr10_9, zr10_10, zs10_11, zs10_12, e0, C_tried_f hy, eq_self_iff_true]
      · simp (disch := omega) only [Option.bind_some, ↓ile_t, ↓ile_f, ↓ilt_t, ↓ilt_f, ↓ieq_t, ↓ieq_f, ↓iz_t, ↓iz_f, ↓iltz, ↓izle, ↓ilez_t, ↓ilez_f, ↓im1, ile_t, ile_f, ilt_t, ilt_f, ieq_t, ieq_f, iz_t, iz_f, iltz, izle, ilez_t, ilez_f, im1, gZ_0, gZ_1, e10, e00, ↓reduceIte, Sum.elim_inl, Sum.elim_inr, nI_1, nI_add, Int32.sub_zero, f_c11_bears, zc144, zs144_10, M_isWell_t t1.2.1 h8 hi, M_span_f hy, eq_self_iff_true]
    · have hA9 := (wv.2.2 i hi).2.2.2.2.1
      have wb : ∀ b, vA v i + b ≤ 9 → WV g (vSetA v i (vA v i + b)) := fun b hb => wv.setA hb
      have hWO : sMore code g v d ≤ 9999 := sMore_le wv
      generalize hwo : sMore code g v d = wo at hWO
      generalize hV : (fun b => if vA v i + b ≤ 9 then sMore code g (vSetA v i (vA v i + b)) d else 0) = val
      have hval : ∀ b, vA v i + b ≤ 9 → sMore code g (vSetA v i (vA v i + b)) d = val b := fun b hb => by rw [← hV]; exact (if_pos hb).symm
      have hB : ∀ b, val b ≤ 9999 := fun b => by
        rw [← hV]
        show (if _ then _ else _) ≤ 9999
        split
        · rename_i hb; exact sMore_le (wb b hb)
        · omega
      have hv0 : val 0 = wo := by
        rw [← hval 0 (by omega), ← hwo]
        show sMore code g (vSetA v i (vA v i)) d = _
        rw [vSetA_same]
      generalize hpf : (fun b => decide (val b ≤ wo)) = pf
      have hpt : ∀ b, val b ≤ wo → pf b = true := fun b hb => by rw [← hpf]; exact decide_eq_true hb
      have hpn : ∀ b, ¬ val b ≤ wo → pf b = false := fun b hb => by rw [← hpf]; exact decide_eq_false hb
      have hml := sMax_le (p := pf) (9 - vA v i)
      -- the class comes down
      have hC : ∀ S1 : gS, CA S1 (g, v, x, l, u, n, k, h) → ∃ r, lp_c10_bears_40 N 10 (nI i) (nI d) (nI wo) N (nI (9 - vA v i - 0)) (mk L S1) = some r ∧ if sMax pf (9 - vA v i) = 0 then ∃ S2, r = .inr (mk L S2) ∧ CA S2 (g, v, x, l, u, n, k, h) ∧ Fr lowC S1 S2 else ∃ S2, r = .inl (nI (sMax pf (9 - vA v i)), mk L S2) ∧ CA S2 (g, v, x, [(nI (val (sMax pf (9 - vA v i)))).toInt64], u, n, k, h) ∧ Fr lowC S1 S2 := by
        intro S1 q1
        refine lp_inv (Lp := fun kk (s : gS) j => lp_c10_bears_40 N 10 (nI i) (nI d) (nI wo) kk (nI (9 - vA v i - j)) (mk L s)) (n := 9 - vA v i) (P := fun j s => CA s (g, v, x, l, u, n, k, h) ∧ Fr lowC S1 s ∧ sMax pf (9 - vA v i) = sMax pf (9 - vA v i - j)) (fun kk j s hj hs => ?_) (fun kk s hs => ?_) (9 - vA v i) N 0 S1 (by omega) (by omega) ⟨q1, Fr.refl, rfl⟩
        · obtain ⟨qs, fs, hm⟩ := hs
          obtain ⟨b, hb⟩ : ∃ b, 9 - vA v i - j = b + 1 := ⟨9 - vA v i - j - 1, by omega⟩
          rw [hb] at hm
          have n1 : ¬ nI (b + 1) < 1 := nI_nlt (b := 1) (by omega) (by omega)
          obtain ⟨s1, a1, b1, b2, b3⟩ := C_to31 (L := L) (N := N) qs w hN
          have eA : s1.1 35 i = nI (vA v i) := (b2.2.2.2 i hi).2.2.2.1
          have b5 : CV (stI s1 35 i (nI (vA v i + (b + 1)))) 31 (vSetA v i (vA v i + (b + 1))) := CV_A b2
          have b6 := b1.tri (Fr.stI (A := fun y => 31 ≤ y ∧ y ≤ 36) (a := 35) (k := i) (v := nI (vA v i + (b + 1))) (by omega))
          obtain ⟨a, r1, r2, r3⟩ := b6.1.ru hc
          obtain ⟨s3, a3, b7, -, b8, -⟩ := C_pass31 (L := L) (N := N) (d := d) b6.1 w hc r2 r3 b5 (wb (b + 1) (by omega)) (by omega) hN
          rw [hval (b + 1) (by omega)] at a3
          have hVb := hB (b + 1)
          by_cases z : val (b + 1) ≤ wo
          · left
            rw [sMax_t (hpt _ z)] at hm
            obtain ⟨s4, a4, b9, b10⟩ := C_tell1A (L := L) (N := N) (r := nI (b + 1)) (y := (nI (val (b + 1))).toInt64) b7
            refine ⟨.inl (nI (b + 1), mk L s4), ?_, ?_⟩
            · show lp_c10_bears_40 N 10 (nI i) (nI d) (nI wo) (kk + 1) (nI (9 - vA v i - j)) _ = _
              rw [hb, lp_c10_bears_40.eq_2]
              simp (disch := omega) only [Option.bind_some, ↓ile_t, ↓ile_f, ↓ilt_t, ↓ilt_f, ↓ieq_t, ↓ieq_f, ↓iz_t, ↓iz_f, ↓iltz, ↓izle, ↓ilez_t, ↓ilez_f, ↓im1, ile_t, ile_f, ilt_t, ilt_f, ieq_t, ieq_f, iz_t, iz_f, iltz, izle, ilez_t, ilez_f, im1, gZ_0, gZ_1, e10, e00, ↓reduceIte, Sum.elim_inl, Sum.elim_inr, nI_1, nI_add, Int32.sub_zero, if_neg n1, zc10, zr10_0, zr10_1, zr10_2, zr10_3, zr10_4, zr10_5, zr10_6, zr10_7, zr10_8, zr10_9, zr10_10, zs10_11, zs10_12, a1, qc SA_31, qi0 SA_31, qs0 SA_31, qr1 SA_31, qr2 SA_31, qr3 SA_31, qr4 SA_31, qr5 SA_31, qi6 SA_31, qs6 SA_31, qi7 SA_31, qs7 SA_31, qg4 SA_31, qp4 SA_31, eA, zr10_11 r1, a3, a4]
            · rw [hm, if_neg (by omega)]
              exact ⟨s4, rfl, b9, lowTr fs (lowTr b3 (lowTr b6.2 (lowTr b8 b10)))⟩
          · right
            rw [sMax_f (hpn _ z)] at hm
            refine ⟨s3, ?_, b7, lowTr fs (lowTr b3 (lowTr b6.2 b8)), by rw [hm, show 9 - vA v i - (j + 1) = b by omega]⟩
            show lp_c10_bears_40 N 10 (nI i) (nI d) (nI wo) (kk + 1) (nI (9 - vA v i - j)) _ = lp_c10_bears_40 N 10 (nI i) (nI d) (nI wo) kk (nI (9 - vA v i - (j + 1))) _
            rw [hb, show 9 - vA v i - (j + 1) = b by omega, lp_c10_bears_40.eq_2]
            simp (disch := omega) only [Option.bind_some, ↓ile_t, ↓ile_f, ↓ilt_t, ↓ilt_f, ↓ieq_t, ↓ieq_f, ↓iz_t, ↓iz_f, ↓iltz, ↓izle, ↓ilez_t, ↓ilez_f, ↓im1, ile_t, ile_f, ilt_t, ilt_f, ieq_t, ieq_f, iz_t, iz_f, iltz, izle, ilez_t, ilez_f, im1, gZ_0, gZ_1, e10, e00, ↓reduceIte, Sum.elim_inl, Sum.elim_inr, nI_1, nI_add, Int32.sub_zero, if_neg n1, zc10, zr10_0, zr10_1, zr10_2, zr10_3, zr10_4, zr10_5, zr10_6, zr10_7, zr10_8, zr10_9, zr10_10, zs10_11, zs10_12, a1, qc SA_31, qi0 SA_31, qs0 SA_31, qr1 SA_31, qr2 SA_31, qr3 SA_31, qr4 SA_31, qr5 SA_31, qi6 SA_31, qs6 SA_31, qi7 SA_31, qs7 SA_31, qg4 SA_31, qp4 SA_31, eA, zr10_11 r1, a3, nI_dec]
        · obtain ⟨qs, fs, hm⟩ := hs
          rw [Nat.sub_self] at hm
          refine ⟨.inr (mk L s), ?_, ?_⟩
          · show lp_c10_bears_40 N 10 (nI i) (nI d) (nI wo) (kk + 1) (nI (9 - vA v i - (9 - vA v i))) _ = _
            have n1 : nI 0 < 1 := by decide
            rw [Nat.sub_self, lp_c10_bears_40.eq_2, if_pos n1]
          · rw [hm, if_pos (show sMax pf 0 = 0 from rfl)]
            exact ⟨s, rfl, qs, fs⟩
      -- the reference goes up
      have hM : ∀ T1 : gS, MA T1 (g, v, x, l, u, n, k, h) c → ∃ r, lp_c11_bears_46 N 144 (nI i) (nI d) (nI wo) N (nI 0) (nI (0 + 1)) (mk L T1) = some r ∧ ∃ T2, r = (nI (sMax pf (9 - vA v i)), mk L T2) ∧ MA T2 (g, v, x, l, u, n, k, h) c ∧ Fr highM T1 T2 := by
        intro T1 t1
        refine lp_inv (Lp := fun kk (s : Int32 × gS) j => lp_c11_bears_46 N 144 (nI i) (nI d) (nI wo) kk s.1 (nI (j + 1)) (mk L s.2)) (n := 9 - vA v i) (P := fun j s => s.1 = nI (sMax pf j) ∧ MA s.2 (g, v, x, l, u, n, k, h) c ∧ Fr highM T1 s.2) (fun kk j s hj hs => Or.inr ?_) (fun kk s hs => ?_) (9 - vA v i) N 0 (nI 0, T1) (by omega) (by omega) ⟨rfl, t1, Fr.refl⟩
        · obtain ⟨x1, s⟩ := s
          obtain ⟨rfl, qs, fs⟩ := hs
          dsimp only at qs fs
          have eA0 : s.1 145 (24 + i) = nI (vA v i) := (qs.2.1.2.2.2 i hi).2.2.2.1
          have n9 : ¬ (9 : Int32) < nI (vA v i + (j + 1)) := nI_nlt (a := 9) (by omega) (by omega)
          obtain ⟨s1, a1, b1, b2, b3⟩ := M_then (L := L) (N := N) qs w hN
          have eA : s1.1 156 (24 + i) = nI (vA v i) := (b2.2.2.2 i hi).2.2.2.1
          have b5 : MW (stI s1 156 (24 + i) (nI (vA v i + (j + 1)))) 156 (vSetA v i (vA v i + (j + 1))) := MW_A b2 h8 (by omega)
          have b6 := b1.tri (FM.stA (A := fun y => y = 156) (K := fun _ => False) (a := 156) (k := 24 + i) (v := nI (vA v i + (j + 1))) rfl (by omega))
          obtain ⟨s3, a3, b7, -, b8⟩ := M_pin (L := L) (N := N) (d := d) b6.1 w hc b5 (wb (j + 1) (by omega)) (by omega) hN
          rw [hval (j + 1) (by omega)] at a3
          have hVb := hB (j + 1)
          have hmj := sMax_le (p := pf) j
          refine ⟨(nI (sMax pf (j + 1)), s3), ?_, rfl, b7, highTr fs (highTr b3 (highTr b6.2 b8))⟩
          show lp_c11_bears_46 N 144 (nI i) (nI d) (nI wo) (kk + 1) _ _ _ = lp_c11_bears_46 N 144 (nI i) (nI d) (nI wo) kk _ _ _
          rw [lp_c11_bears_46.eq_2]
          by_cases z : val (j + 1) ≤ wo
          · rw [sMax_t (hpt _ z)]
            simp (disch := omega) only [Option.bind_some, ↓ile_t, ↓ile_f, ↓ilt_t, ↓ilt_f, ↓ieq_t, ↓ieq_f, ↓iz_t, ↓iz_f, ↓iltz, ↓izle, ↓ilez_t, ↓ilez_f, ↓im1, ile_t, ile_f, ilt_t, ilt_f, ieq_t, ieq_f, iz_t, iz_f, iltz, izle, ilez_t, ilez_f, im1, gZ_0, gZ_1, e10, e00, ↓reduceIte, Sum.elim_inl, Sum.elim_inr, nI_1, nI_add, Int32.sub_zero, zr144_0, k24, zg145, eA0, if_neg n9, zr144_25, a1, zg156, eA, zp156, a3]
          · rw [sMax_f (hpn _ z)]
            simp (disch := omega) only [Option.bind_some, ↓ile_t, ↓ile_f, ↓ilt_t, ↓ilt_f, ↓ieq_t, ↓ieq_f, ↓iz_t, ↓iz_f, ↓iltz, ↓izle, ↓ilez_t, ↓ilez_f, ↓im1, ile_t, ile_f, ilt_t, ilt_f, ieq_t, ieq_f, iz_t, iz_f, iltz, izle, ilez_t, ilez_f, im1, gZ_0, gZ_1, e10, e00, ↓reduceIte, Sum.elim_inl, Sum.elim_inr, nI_1, nI_add, Int32.sub_zero, zr144_0, k24, zg145, eA0, if_neg n9, zr144_25, a1, zg156, eA, zp156, a3]
        · obtain ⟨x1, s⟩ := s
          obtain ⟨rfl, qs, fs⟩ := hs
          have eA0 : s.1 145 (24 + i) = nI (vA v i) := (qs.2.1.2.2.2 i hi).2.2.2.1
          have n9 : (9 : Int32) < nI (vA v i + (9 - vA v i + 1)) := nI_lt (a := 9) (by omega) (by omega)
          refine ⟨_, ?_, s, rfl, qs, fs⟩
          show lp_c11_bears_46 N 144 (nI i) (nI d) (nI wo) (kk + 1) _ _ _ = _
          rw [lp_c11_bears_46.eq_2]
          simp (disch := omega) only [Option.bind_some, ↓ile_t, ↓ile_f, ↓ilt_t, ↓ilt_f, ↓ieq_t, ↓ieq_f, ↓iz_t, ↓iz_f, ↓iltz, ↓izle, ↓ilez_t, ↓ilez_f, ↓im1, ile_t, ile_f, ilt_t, ilt_f, ieq_t, ieq_f, iz_t, iz_f, iltz, izle, ilez_t, ilez_f, im1, gZ_0, gZ_1, e10, e00, ↓reduceIte, Sum.elim_inl, Sum.elim_inr, nI_1, nI_add, Int32.sub_zero, zr144_0, k24, zg145, eA0, if_pos n9]
      obtain ⟨S1, e1, q1, s1, f1, -⟩ := C_try (L := L) (N := N) (d := d) q w hc (by omega) hN
      rw [hwo] at e1
      have eA1 : S1.1 23 i = nI (vA v i) := (q1.2.1.2.2.2 i hi).2.2.2.1
      have e9 : (9 : Int32) - nI (vA v i) = nI (9 - vA v i) := nI_sub (a := 9) hA9
      obtain ⟨r, er, hr⟩ := hC S1 q1
      rw [Nat.sub_zero] at er
      -- the answer
      have hend : ∃ S2, f_c10_bears N 10 (nI i) (nI d) (mk L S) = some (nI (sMax pf (9 - vA v i)), mk L S2) ∧ CA S2 (g, v, x, [(nI (val (sMax pf (9 - vA v i)))).toInt64], u, n, k, h) ∧ Fr lowC S S2 := by
        by_cases z : sMax pf (9 - vA v i) = 0
        · rw [if_pos z] at hr
          obtain ⟨S2, rfl, q2, f2⟩ := hr
          obtain ⟨S3, e3, q3, f3⟩ := C_tell1A (L := L) (N := N) (r := 0) (y := (nI wo).toInt64) q2
          rw [z, hv0]
          refine ⟨S3, ?_, q3, lowTr f1 (lowTr f2 f3)⟩
          simp (disch := omega) only [Option.bind_some, ↓ile_t, ↓ile_f, ↓ilt_t, ↓ilt_f, ↓ieq_t, ↓ieq_f, ↓iz_t, ↓iz_f, ↓iltz, ↓izle, ↓ilez_t, ↓ilez_f, ↓im1, ile_t, ile_f, ilt_t, ilt_f, ieq_t, ieq_f, iz_t, iz_f, iltz, izle, ilez_t, ilez_f, im1, gZ_0, gZ_1, e10, e00, ↓reduceIte, Sum.elim_inl, Sum.elim_inr, nI_1, nI_add, Int32.sub_zero, f_c10_bears, zc10, zr10_0, zr10_1, zr10_2, zr10_3, zr10_4, zr10_5, zr10_6, zr10_7, zr10_8, zr10_9, zr10_10, zs10_11, zs10_12, e0, C_tried_t d1 d2, e1, qc SA_19, qi0 SA_19, qs0 SA_19, qr1 SA_19, qr2 SA_19, qr3 SA_19, qr4 SA_19, qr5 SA_19, qi6 SA_19, qs6 SA_19, qi7 SA_19, qs7 SA_19, qg4 SA_19, eA1, e9, er, e3, nI_0]
        · rw [if_neg z] at hr
          obtain ⟨S2, rfl, q2, f2⟩ := hr
          refine ⟨S2, ?_, q2, lowTr f1 f2⟩
          simp (disch := omega) only [Option.bind_some, ↓ile_t, ↓ile_f, ↓ilt_t, ↓ilt_f, ↓ieq_t, ↓ieq_f, ↓iz_t, ↓iz_f, ↓iltz, ↓izle, ↓ilez_t, ↓ilez_f, ↓im1, ile_t, ile_f, ilt_t, ilt_f, ieq_t, ieq_f, iz_t, iz_f, iltz, izle, ilez_t, ilez_f, im1, gZ_0, gZ_1, e10, e00, ↓reduceIte, Sum.elim_inl, Sum.elim_inr, nI_1, nI_add, Int32.sub_zero, f_c10_bears, zc10, zr10_0, zr10_1, zr10_2, zr10_3, zr10_4, zr10_5, zr10_6, zr10_7, zr10_8, zr10_9, zr10_10, zs10_11, zs10_12, e0, C_tried_t d1 d2, e1, qc SA_19, qi0 SA_19, qs0 SA_19, qr1 SA_19, qr2 SA_19, qr3 SA_19, qr4 SA_19, qr5 SA_19, qi6 SA_19, qs6 SA_19, qi7 SA_19, qs7 SA_19, qg4 SA_19, eA1, e9, er]
      obtain ⟨S2, e2, q2, f2⟩ := hend
      refine AgrI (c' := c) m (S1 := S2) (r := nI (sMax pf (9 - vA v i))) e2 f2 q2 (w.rw (by show 1 ≤ 8; omega)) (by omega) (fun T mt => ?_)
      have t1 := mt.thr
      obtain ⟨T1, a1, t2, m1, g1⟩ := M_then (L := L) (N := N) t1 w hN
      obtain ⟨T2, a2, t3, -, g2⟩ := M_pin (L := L) (N := N) (d := d) t2 w hc m1 wv (by omega) hN
      rw [hwo] at a2
      obtain ⟨r', er', T3, er2, t4, g3⟩ := hM T2 t3
      rw [er2, nI_0] at er'
      change lp_c11_bears_46 N 144 (nI i) (nI d) (nI wo) N 0 1 (mk L T2) = _ at er'
      obtain ⟨T4, a4, t5, m4, g4⟩ := M_then (L := L) (N := N) t4 w hN
      have eA : T4.1 156 (24 + i) = nI (vA v i) := (m4.2.2.2 i hi).2.2.2.1
      have b5 : MW (stI T4 156 (24 + i) (nI (vA v i + sMax pf (9 - vA v i)))) 156 (vSetA v i (vA v i + sMax pf (9 - vA v i))) := MW_A m4 h8 (by omega)
      have b6 := t5.tri (FM.stA (A := fun y => y = 156) (K := fun _ => False) (a := 156) (k := 24 + i) (v := nI (vA v i + sMax pf (9 - vA v i))) rfl (by omega))
      have t6 := b6.1.clr
      have w6 : WA (g, v, x, [], u, n, k, h) := w.rw (by show 0 ≤ 8; omega)
      obtain ⟨T7, a7, t7, -, g7⟩ := M_pin (L := L) (N := N) (d := d) t6 w6 hc (clrW (by omega) b5) (wb _ (by omega)) (by omega) hN
      rw [hval _ (by omega)] at a7
      obtain ⟨T8, a8, t8, -, g8⟩ := M_tellA (L := L) (N := N) (y := (nI (val (sMax pf (9 - vA v i)))).toInt64) t7 (by show 0 < 8; omega)
      refine ⟨T8, ?_, highTr thrH (highTr g1 (highTr g2 (highTr g3 (highTr g4 (highTr b6.2 (highTr clrH (highTr g7 g8))))))), t8⟩
      simp (disch := omega) only [Option.bind_some, ↓ile_t, ↓ile_f, ↓ilt_t, ↓ilt_f, ↓ieq_t, ↓ieq_f, ↓iz_t, ↓iz_f, ↓iltz, ↓izle, ↓ilez_t, ↓ilez_f, ↓im1, ile_t, ile_f, ilt_t, ilt_f, ieq_t, ieq_f, iz_t, iz_f, iltz, izle, ilez_t, ilez_f, im1, gZ_0, gZ_1, e10, e00, ↓reduceIte, Sum.elim_inl, Sum.elim_inr, nI_1, nI_add, Int32.sub_zero, f_c11_bears, zc144, zs144_10, M_isWell_t t1.2.1 h8 hi, M_span_t d1 d2, zr144_0, zr144_25, a1, a2, er', a4, k24, zg156, eA, zp156, zs144_9, a7, a8]
  · refine AgrR w q m (r := -1) ?_ (fun T _ t1 => ?_)
    · simp (disch := omega) only [Option.bind_some, ↓ile_t, ↓ile_f, ↓ilt_t, ↓ilt_f, ↓ieq_t, ↓ieq_f, ↓iz_t, ↓iz_f, ↓iltz, ↓izle, ↓ilez_t, ↓ilez_f, ↓im1, ile_t, ile_f, ilt_t, ilt_f, ieq_t, ieq_f, iz_t, iz_f, iltz, izle, ilez_t, ilez_f, im1, gZ_0, gZ_1, e10, e00, ↓reduceIte, Sum.elim_inl, Sum.elim_inr, nI_1, nI_add, Int32.sub_zero, f_c10_bears, zc10, zr10_0, zr10_1, zr10_2, zr10_3, zr10_4, zr10_5, zr10_6, zr10_7, zr10_8, zr10_9, zr10_10, zs10_11, zs10_12, C_has_f (L := L) (N := N) SA_19 q.2.1 hp]
    · simp (disch := omega) only [Option.bind_some, ↓ile_t, ↓ile_f, ↓ilt_t, ↓ilt_f, ↓ieq_t, ↓ieq_f, ↓iz_t, ↓iz_f, ↓iltz, ↓izle, ↓ilez_t, ↓ilez_f, ↓im1, ile_t, ile_f, ilt_t, ilt_f, ieq_t, ieq_f, iz_t, iz_f, iltz, izle, ilez_t, ilez_f, im1, gZ_0, gZ_1, e10, e00, ↓reduceIte, Sum.elim_inl, Sum.elim_inr, nI_1, nI_add, Int32.sub_zero, f_c11_bears, zc144, zs144_10, M_isWell_f t1.2.1 h8 hp, eq_self_iff_true]
-- drinking its fill
theorem C_fill {p d : Nat} (q : CA S (g, v, x, l, u, n, k, h)) (w : WA (g, v, x, l, u, n, k, h)) (hc : ruleCode u.2 u.1 = .inl code) (hs : CV S 31 v') (hv : WV g v') (hp : p < gVm g) (hd : d ≤ 800) (hN : 900 ≤ N) :
    ∃ S1, CA S1 (g, v, x, l, u, n, k, h) ∧ Fr lowC S S1 ∧ if sWet code g v' p d = true then f_c10_drinksItsFill N 10 (nI p) (nI d) (mk L S) = some (1, mk L S1) ∧ CV S1 31 (vSeas code g v' d) else f_c10_drinksItsFill N 10 (nI p) (nI d) (mk L S) = some (0, mk L S1) := by
  have wg : WG g := w.1
  have hth := wg.2.2.2.2.2 p hp
  have h6 := wg.2.2.2.2.1
  have h0 : ∃ r, lp_c10_drinksItsFill_2 N 10 (nI p) (nI d) N (nI 0) (mk L S) = some r ∧ ∃ S1, CA S1 (g, v, x, l, u, n, k, h) ∧ Fr lowC S S1 ∧ if sWet code g v' p d = true then r = .inr (mk L S1) ∧ CV S1 31 (vSeas code g v' d) else r = .inl (0, mk L S1) := by
    refine lp_inv (Lp := fun kk (s : gS) j => lp_c10_drinksItsFill_2 N 10 (nI p) (nI d) kk (nI j) (mk L s)) (n := d) (P := fun j s => CA s (g, v, x, l, u, n, k, h) ∧ Fr lowC S s ∧ CV s 31 (vSeas code g v' j) ∧ sWet code g v' p j = true) (fun kk j s hj hs' => ?_) (fun kk s hs' => ?_) d N 0 S (by omega) (by omega) ⟨q, Fr.refl, hs, rfl⟩
    · obtain ⟨qs, fs, ss, hw⟩ := hs'
      obtain ⟨a, a1, a2, a3⟩ := qs.ru hc
      obtain ⟨s2, e2, q2, v2, f2, d2⟩ := C_one31 (L := L) (N := N) qs w hc a2 a3 ss (hv.seas j) hN
      have x38 := (d2 p hp).1
      have x17 : s2.1 17 p = nI (gTh g p) := (q2.1.2.2.2.1 p hp).2
      have dl : sDrew code g (vSeas code g v' j) p ≤ gTh g p := sMu_le
      by_cases z : gTh g p ≤ sDrew code g (vSeas code g v' j) p
      · right
        refine ⟨s2, ?_, q2, lowTr fs f2, v2, ?_⟩
        · show lp_c10_drinksItsFill_2 N 10 (nI p) (nI d) (kk + 1) _ _ = _
          rw [lp_c10_drinksItsFill_2.eq_2]
          simp (disch := omega) only [Option.bind_some, ↓ile_t, ↓ile_f, ↓ilt_t, ↓ilt_f, ↓ieq_t, ↓ieq_f, ↓iz_t, ↓iz_f, ↓iltz, ↓izle, ↓ilez_t, ↓ilez_f, ↓im1, ile_t, ile_f, ilt_t, ilt_f, ieq_t, ieq_f, iz_t, iz_f, iltz, izle, ilez_t, ilez_f, im1, gZ_0, gZ_1, e10, e00, ↓reduceIte, Sum.elim_inl, Sum.elim_inr, nI_1, nI_add, Int32.sub_zero, zc10, zr10_0, zr10_1, zr10_2, zr10_3, zr10_4, zr10_5, zr10_6, zr10_7, zr10_8, zr10_9, zr10_10, zs10_11, zs10_12, zr10_11 a1, e2, zc37, zr37_0, zr37_1, zg38, x38, zc15, zi15_0, zs15_0, zi15_1, zs15_1, zi15_2, zs15_2, zr15_3, zr15_4, zr15_5, zg17, x17]
        · show (sWet code g v' p j && _) = true
          rw [hw, decide_eq_true z]
          rfl
      · left
        refine ⟨.inl (0, mk L s2), ?_, s2, q2, lowTr fs f2, ?_⟩
        · show lp_c10_drinksItsFill_2 N 10 (nI p) (nI d) (kk + 1) _ _ = _
          rw [lp_c10_drinksItsFill_2.eq_2]
          simp (disch := omega) only [Option.bind_some, ↓ile_t, ↓ile_f, ↓ilt_t, ↓ilt_f, ↓ieq_t, ↓ieq_f, ↓iz_t, ↓iz_f, ↓iltz, ↓izle, ↓ilez_t, ↓ilez_f, ↓im1, ile_t, ile_f, ilt_t, ilt_f, ieq_t, ieq_f, iz_t, iz_f, iltz, izle, ilez_t, ilez_f, im1, gZ_0, gZ_1, e10, e00, ↓reduceIte, Sum.elim_inl, Sum.elim_inr, nI_1, nI_add, Int32.sub_zero, zc10, zr10_0, zr10_1, zr10_2, zr10_3, zr10_4, zr10_5, zr10_6, zr10_7, zr10_8, zr10_9, zr10_10, zs10_11, zs10_12, zr10_11 a1, e2, zc37, zr37_0, zr37_1, zg38, x38, zc15, zi15_0, zs15_0, zi15_1, zs15_1, zi15_2, zs15_2, zr15_3, zr15_4, zr15_5, zg17, x17]
        · have hf : sWet code g v' p (j + 1) = false := by
            show (sWet code g v' p j && _) = false
            rw [hw, decide_eq_false z]
            rfl
          have hf2 := sWet_f (d - (j + 1)) (j + 1) hf
          rw [show j + 1 + (d - (j + 1)) = d by omega] at hf2
          rw [if_neg (by rw [hf2]; decide)]
    · obtain ⟨qs, fs, ss, hw⟩ := hs'
      refine ⟨.inr (mk L s), ?_, s, qs, fs, ?_⟩
      · show lp_c10_drinksItsFill_2 N 10 (nI p) (nI d) (kk + 1) _ _ = _
        rw [lp_c10_drinksItsFill_2.eq_2]
        simp (disch := omega) only [Option.bind_some, ↓ile_t, ↓ile_f, ↓ilt_t, ↓ilt_f, ↓ieq_t, ↓ieq_f, ↓iz_t, ↓iz_f, ↓iltz, ↓izle, ↓ilez_t, ↓ilez_f, ↓im1, ile_t, ile_f, ilt_t, ilt_f, ieq_t, ieq_f, iz_t, iz_f, iltz, izle, ilez_t, ilez_f, im1, gZ_0, gZ_1, e10, e00, ↓reduceIte, Sum.elim_inl, Sum.elim_inr, nI_1, nI_add, Int32.sub_zero, ]
      · rw [if_pos hw]
        exact ⟨rfl, ss⟩
  obtain ⟨r, er, S1, q1, f1, hr⟩ := h0
  rw [nI_0] at er
  refine ⟨S1, q1, f1, ?_⟩
  by_cases z : sWet code g v' p d = true
  · rw [if_pos z] at hr ⊢
    obtain ⟨rfl, h2⟩ := hr
    exact ⟨by simp (disch := omega) only [Option.bind_some, ↓ile_t, ↓ile_f, ↓ilt_t, ↓ilt_f, ↓ieq_t, ↓ieq_f, ↓iz_t, ↓iz_f, ↓iltz, ↓izle, ↓ilez_t, ↓ilez_f, ↓im1, ile_t, ile_f, ilt_t, ilt_f, ieq_t, ieq_f, iz_t, iz_f, iltz, izle, ilez_t, ilez_f, im1, gZ_0, gZ_1, e10, e00, ↓reduceIte, Sum.elim_inl, Sum.elim_inr, nI_1, nI_add, Int32.sub_zero, f_c10_drinksItsFill, zc10, zr10_0, zr10_1, zr10_2, zr10_3, zr10_4, zr10_5, zr10_6, zr10_7, zr10_8, zr10_9, zr10_10, zs10_11, zs10_12, er], h2⟩
  · rw [if_neg z] at hr ⊢
    subst hr
    simp (disch := omega) only [Option.bind_some, ↓ile_t, ↓ile_f, ↓ilt_t, ↓ilt_f, ↓ieq_t, ↓ieq_f, ↓iz_t, ↓iz_f, ↓iltz, ↓izle, ↓ilez_t, ↓ilez_f, ↓im1, ile_t, ile_f, ilt_t, ilt_f, ieq_t, ieq_f, iz_t, iz_f, iltz, izle, ilez_t, ilez_f, im1, gZ_0, gZ_1, e10, e00, ↓reduceIte, Sum.elim_inl, Sum.elim_inr, nI_1, nI_add, Int32.sub_zero, f_c10_drinksItsFill, zc10, zr10_0, zr10_1, zr10_2, zr10_3, zr10_4, zr10_5, zr10_6, zr10_7, zr10_8, zr10_9, zr10_10, zs10_11, zs10_12, er]
theorem M_wet {p d : Nat} (mt : MA T (g, v, x, l, u, n, k, h) c) (w : WA (g, v, x, l, u, n, k, h)) (hc : ruleCode u.2 u.1 = .inl code) (hs : MW T 156 v') (hv : WV g v') (hp : p < gVm g) (hd : d ≤ 800) (hN : 900 ≤ N) :
    ∃ T1, f_c11_isWet N 144 (nI p) (nI d) (mk L T) = some (if sWet code g v' p d = true then 1 else 0, mk L T1) ∧ MA T1 (g, v, x, l, u, n, k, h) c ∧ MW T1 156 (vSeas code g v' d) ∧ Fr highM T T1 := by
  have wg : WG g := w.1
  have hth := wg.2.2.2.2.2 p hp
  have h6 := wg.2.2.2.2.1
  have h0 : ∃ r, lp_c11_isWet_5 N 144 (nI p) (nI d) N 1 (nI 0) (mk L T) = some r ∧ ∃ T1, r = (if sWet code g v' p d = true then 1 else 0, mk L T1) ∧ MA T1 (g, v, x, l, u, n, k, h) c ∧ MW T1 156 (vSeas code g v' d) ∧ Fr highM T T1 := by
    refine lp_inv (Lp := fun kk (s : Int32 × gS) j => lp_c11_isWet_5 N 144 (nI p) (nI d) kk s.1 (nI j) (mk L s.2)) (n := d) (P := fun j s => s.1 = (if sWet code g v' p j = true then 1 else 0) ∧ MA s.2 (g, v, x, l, u, n, k, h) c ∧ MW s.2 156 (vSeas code g v' j) ∧ Fr highM T s.2) (fun kk j s hj hs' => Or.inr ?_) (fun kk s hs' => ?_) d N 0 (1, T) (by omega) (by omega) ⟨rfl, mt, hs, Fr.refl⟩
    · obtain ⟨x1, s⟩ := s
      obtain ⟨rfl, qs, ss, fs⟩ := hs'
      dsimp only at qs ss fs
      obtain ⟨s2, y2, e2, q2, v2, f2, d2⟩ := M_one156 (L := L) (N := N) qs w hc ss (hv.seas j) hN
      have x38 := (d2 p hp).1
      have x17 : s2.1 147 p = nI (gTh g p) := (q2.1.2.2.2 p hp).2
      have dl : sDrew code g (vSeas code g v' j) p ≤ gTh g p := sMu_le
      refine ⟨(if sWet code g v' p (j + 1) = true then 1 else 0, s2), ?_, rfl, q2, v2, highTr fs f2⟩
      have eW : sWet code g v' p (j + 1) = (sWet code g v' p j && decide (gTh g p ≤ sDrew code g (vSeas code g v' j) p)) := rfl
      show lp_c11_isWet_5 N 144 (nI p) (nI d) (kk + 1) (if sWet code g v' p j = true then 1 else 0) _ _ = lp_c11_isWet_5 N 144 (nI p) (nI d) kk (if sWet code g v' p (j + 1) = true then 1 else 0) _ _
      rw [eW]
      cases hw : sWet code g v' p j with
      | false =>
        rw [if_neg (by decide), Bool.false_and, if_neg (by decide), lp_c11_isWet_5.eq_2]
        simp (disch := omega) only [Option.bind_some, ↓ile_t, ↓ile_f, ↓ilt_t, ↓ilt_f, ↓ieq_t, ↓ieq_f, ↓iz_t, ↓iz_f, ↓iltz, ↓izle, ↓ilez_t, ↓ilez_f, ↓im1, ile_t, ile_f, ilt_t, ilt_f, ieq_t, ieq_f, iz_t, iz_f, iltz, izle, ilez_t, ilez_f, im1, gZ_0, gZ_1, e10, e00, ↓reduceIte, Sum.elim_inl, Sum.elim_inr, nI_1, nI_add, Int32.sub_zero, zr144_25, e2]
      | true =>
        rw [if_pos rfl, Bool.true_and, lp_c11_isWet_5.eq_2]
        by_cases z : gTh g p ≤ sDrew code g (vSeas code g v' j) p
        · rw [decide_eq_true z, if_pos rfl]
          simp (disch := omega) only [Option.bind_some, ↓ile_t, ↓ile_f, ↓ilt_t, ↓ilt_f, ↓ieq_t, ↓ieq_f, ↓iz_t, ↓iz_f, ↓iltz, ↓izle, ↓ilez_t, ↓ilez_f, ↓im1, ile_t, ile_f, ilt_t, ilt_f, ieq_t, ieq_f, iz_t, iz_f, iltz, izle, ilez_t, ilez_f, im1, gZ_0, gZ_1, e10, e00, ↓reduceIte, Sum.elim_inl, Sum.elim_inr, nI_1, nI_add, Int32.sub_zero, zr144_25, e2, zr144_27, zg158, x38, zr144_5, zg147, x17]
        · rw [decide_eq_false z, show (if false = true then (1 : Int32) else 0) = 0 from rfl]
          simp (disch := omega) only [Option.bind_some, ↓ile_t, ↓ile_f, ↓ilt_t, ↓ilt_f, ↓ieq_t, ↓ieq_f, ↓iz_t, ↓iz_f, ↓iltz, ↓izle, ↓ilez_t, ↓ilez_f, ↓im1, ile_t, ile_f, ilt_t, ilt_f, ieq_t, ieq_f, iz_t, iz_f, iltz, izle, ilez_t, ilez_f, im1, gZ_0, gZ_1, e10, e00, ↓reduceIte, Sum.elim_inl, Sum.elim_inr, nI_1, nI_add, Int32.sub_zero, zr144_25, e2, zr144_27, zg158, x38, zr144_5, zg147, x17]
    · obtain ⟨x1, s⟩ := s
      obtain ⟨rfl, qs, ss, fs⟩ := hs'
      refine ⟨_, ?_, s, rfl, qs, ss, fs⟩
      show lp_c11_isWet_5 N 144 (nI p) (nI d) (kk + 1) _ _ _ = _
      rw [lp_c11_isWet_5.eq_2]
      simp (disch := omega) only [Option.bind_some, ↓ile_t, ↓ile_f, ↓ilt_t, ↓ilt_f, ↓ieq_t, ↓ieq_f, ↓iz_t, ↓iz_f, ↓iltz, ↓izle, ↓ilez_t, ↓ilez_f, ↓im1, ile_t, ile_f, ilt_t, ilt_f, ieq_t, ieq_f, iz_t, iz_f, iltz, izle, ilez_t, ilez_f, im1, gZ_0, gZ_1, e10, e00, ↓reduceIte, Sum.elim_inl, Sum.elim_inr, nI_1, nI_add, Int32.sub_zero, ]
  obtain ⟨r, er, T1, er2, t1, m1, f1⟩ := h0
  rw [er2, nI_0] at er
  refine ⟨T1, ?_, t1, m1, f1⟩
  cases hw : sWet code g v' p d with
  | false =>
    rw [hw] at er
    rw [if_neg (by decide)] at er ⊢
    simp (disch := omega) only [Option.bind_some, ↓ile_t, ↓ile_f, ↓ilt_t, ↓ilt_f, ↓ieq_t, ↓ieq_f, ↓iz_t, ↓iz_f, ↓iltz, ↓izle, ↓ilez_t, ↓ilez_f, ↓im1, ile_t, ile_f, ilt_t, ilt_f, ieq_t, ieq_f, iz_t, iz_f, iltz, izle, ilez_t, ilez_f, im1, gZ_0, gZ_1, e10, e00, ↓reduceIte, Sum.elim_inl, Sum.elim_inr, nI_1, nI_add, Int32.sub_zero, f_c11_isWet, zc144, er]
  | true =>
    rw [hw] at er
    rw [if_pos rfl] at er ⊢
    simp (disch := omega) only [Option.bind_some, ↓ile_t, ↓ile_f, ↓ilt_t, ↓ilt_f, ↓ieq_t, ↓ieq_f, ↓iz_t, ↓iz_f, ↓iltz, ↓izle, ↓ilez_t, ↓ilez_f, ↓im1, ile_t, ile_f, ilt_t, ilt_f, ieq_t, ieq_f, iz_t, iz_f, iltz, izle, ilez_t, ilez_f, im1, gZ_0, gZ_1, e10, e00, ↓reduceIte, Sum.elim_inl, Sum.elim_inr, nI_1, nI_add, Int32.sub_zero, f_c11_isWet, zc144, er]
theorem A_longest {f p y : Int32} (w : WA A) (q : CA S A) (m : MA S A c) (hN : 900 ≤ N) : Agr L S c (f_c10_longest N 10 f p y) (f_c11_longest N 144 f p y) := by
  obtain ⟨g, v, x, l, u, n, k, h⟩ := A
  have wv : WV g v := w.2.1
  have wg : WG g := w.1
  have h8 := wv.1
  have h36 := wg.f
  have h6 := wg.2.2.2.2.1
  obtain ⟨code, hc⟩ : ∃ code, ruleCode u.2 u.1 = .inl code := w.2.2.2.2.1.2
  rcases in_or (n := gRw g * gCo g) f (by omega) with ⟨f', hf, rfl⟩ | hf
  · have eF := C_hasField_t (L := L) (N := N) (g := g) q.1 wg hf
    rcases in_or (n := gVm g) p (by omega) with ⟨i, hi, rfl⟩ | hp
    · have eV := C_hasV_t (L := L) (N := N) (g := g) q.1 wg hi
      rcases (show (y < 1 ∨ (¬ y < 1 ∧ ¬ y ≤ 30)) ∨ ∃ d, 1 ≤ d ∧ d ≤ 30 ∧ y = nI d from cas y 1 30 (by omega) (by omega)) with hy | ⟨d, d1, d2, rfl⟩
      · refine AgrR w q m (r := -1) ?_ (fun T _ t1 => ?_)
        · simp (disch := omega) only [Option.bind_some, ↓ile_t, ↓ile_f, ↓ilt_t, ↓ilt_f, ↓ieq_t, ↓ieq_f, ↓iz_t, ↓iz_f, ↓iltz, ↓izle, ↓ilez_t, ↓ilez_f, ↓im1, ile_t, ile_f, ilt_t, ilt_f, ieq_t, ieq_f, iz_t, iz_f, iltz, izle, ilez_t, ilez_f, im1, gZ_0, gZ_1, e10, e00, ↓reduceIte, Sum.elim_inl, Sum.elim_inr, nI_1, nI_add, Int32.sub_zero, f_c10_longest, zc10, zr10_0, zr10_1, zr10_2, zr10_3, zr10_4, zr10_5, zr10_6, zr10_7, zr10_8, zr10_9, zr10_10, zs10_11, zs10_12, eF, eV, C_tried_f hy, eq_self_iff_true]
        · simp (disch := omega) only [Option.bind_some, ↓ile_t, ↓ile_f, ↓ilt_t, ↓ilt_f, ↓ieq_t, ↓ieq_f, ↓iz_t, ↓iz_f, ↓iltz, ↓izle, ↓ilez_t, ↓ilez_f, ↓im1, ile_t, ile_f, ilt_t, ilt_f, ieq_t, ieq_f, iz_t, iz_f, iltz, izle, ilez_t, ilez_f, im1, gZ_0, gZ_1, e10, e00, ↓reduceIte, Sum.elim_inl, Sum.elim_inr, nI_1, nI_add, Int32.sub_zero, f_c11_longest, zc144, zs144_10, M_isField_t t1.1 wg hf, M_isVillage_t t1.1 wg hi, M_span_f hy, eq_self_iff_true]
      · have eN : S.1 19 0 = nI (vN v) := q.2.1.1
        have eO := C_wellOn (L := L) (N := N) (f := f') SA_19 q.2.1 wg wv hN (by omega)
        have eOM : ∀ T, MA T (g, v, x, l, u, n, k, h) c → f_c11_wellOn N 145 (nI f') (mk L T) = some (oI (sOn v f')) := fun T mt => M_wellOn (L := L) (N := N) (f := f') MA_145 mt.2.1 wg wv hN (by omega)
        have m1 : ((-1 : Int32) = -1) = True := eq_self _
        by_cases z8 : vN v = 8
        · have p8 : nI (vN v) = 8 := by rw [z8]; rfl
          have n8 : (8 : Int32) ≤ nI (vN v) := nI_le (a := 8) (by omega) (by omega)
          refine AgrR w q m (r := -3) ?_ (fun T _ t1 => ?_)
          · simp (disch := omega) only [Option.bind_some, ↓ile_t, ↓ile_f, ↓ilt_t, ↓ilt_f, ↓ieq_t, ↓ieq_f, ↓iz_t, ↓iz_f, ↓iltz, ↓izle, ↓ilez_t, ↓ilez_f, ↓im1, ile_t, ile_f, ilt_t, ilt_f, ieq_t, ieq_f, iz_t, iz_f, iltz, izle, ilez_t, ilez_f, im1, gZ_0, gZ_1, e10, e00, ↓reduceIte, Sum.elim_inl, Sum.elim_inr, nI_1, nI_add, Int32.sub_zero, f_c10_longest, zc10, zr10_0, zr10_1, zr10_2, zr10_3, zr10_4, zr10_5, zr10_6, zr10_7, zr10_8, zr10_9, zr10_10, zs10_11, zs10_12, eF, eV, C_tried_t d1 d2, qc SA_19, qi0 SA_19, qs0 SA_19, qr1 SA_19, qr2 SA_19, qr3 SA_19, qr4 SA_19, qr5 SA_19, qi6 SA_19, qs6 SA_19, qi7 SA_19, qs7 SA_19, eN, if_pos n8]
          · have eN' : (stI T 144 10 0).1 145 40 = nI (vN v) := t1.2.1.1
            have e := eOM _ t1
            cases ho : sOn v f' with
            | some j =>
              have hj := fstN_some _ _ _ ho
              rw [ho] at e
              have mj : ¬ nI j = -1 := nI_m1 (by omega)
              simp (disch := omega) only [Option.bind_some, ↓ile_t, ↓ile_f, ↓ilt_t, ↓ilt_f, ↓ieq_t, ↓ieq_f, ↓iz_t, ↓iz_f, ↓iltz, ↓izle, ↓ilez_t, ↓ilez_f, ↓im1, ile_t, ile_f, ilt_t, ilt_f, ieq_t, ieq_f, iz_t, iz_f, iltz, izle, ilez_t, ilez_f, im1, gZ_0, gZ_1, e10, e00, ↓reduceIte, Sum.elim_inl, Sum.elim_inr, nI_1, nI_add, Int32.sub_zero, f_c11_longest, zc144, zs144_10, M_isField_t t1.1 wg hf, M_isVillage_t t1.1 wg hi, M_span_t d1 d2, zr144_0, e, oI, if_neg mj]
            | none =>
              rw [ho] at e
              simp (disch := omega) only [Option.bind_some, ↓ile_t, ↓ile_f, ↓ilt_t, ↓ilt_f, ↓ieq_t, ↓ieq_f, ↓iz_t, ↓iz_f, ↓iltz, ↓izle, ↓ilez_t, ↓ilez_f, ↓im1, ile_t, ile_f, ilt_t, ilt_f, ieq_t, ieq_f, iz_t, iz_f, iltz, izle, ilez_t, ilez_f, im1, gZ_0, gZ_1, e10, e00, ↓reduceIte, Sum.elim_inl, Sum.elim_inr, nI_1, nI_add, Int32.sub_zero, f_c11_longest, zc144, zs144_10, M_isField_t t1.1 wg hf, M_isVillage_t t1.1 wg hi, M_span_t d1 d2, zr144_0, e, oI, m1, k40, zg145, eN', if_pos p8]
        · have p8 : ¬ nI (vN v) = 8 := fun e => z8 ((nI_eq (b := 8) (by omega) (by omega)).mp e)
          have n8 : ¬ (8 : Int32) ≤ nI (vN v) := nI_ge (b := 8) (by omega) (by omega)
          cases ho : sOn v f' with
          | some j =>
            have hj := fstN_some _ _ _ ho
            rw [ho] at eO
            have mj : ¬ nI j = -1 := nI_m1 (by omega)
            refine AgrR w q m (r := -3) ?_ (fun T _ t1 => ?_)
            · simp (disch := omega) only [Option.bind_some, ↓ile_t, ↓ile_f, ↓ilt_t, ↓ilt_f, ↓ieq_t, ↓ieq_f, ↓iz_t, ↓iz_f, ↓iltz, ↓izle, ↓ilez_t, ↓ilez_f, ↓im1, ile_t, ile_f, ilt_t, ilt_f, ieq_t, ieq_f, iz_t, iz_f, iltz, izle, ilez_t, ilez_f, im1, gZ_0, gZ_1, e10, e00, ↓reduceIte, Sum.elim_inl, Sum.elim_inr, nI_1, nI_add, Int32.sub_zero, f_c10_longest, zc10, zr10_0, zr10_1, zr10_2, zr10_3, zr10_4, zr10_5, zr10_6, zr10_7, zr10_8, zr10_9, zr10_10, zs10_11, zs10_12, eF, eV, C_tried_t d1 d2, qc SA_19, qi0 SA_19, qs0 SA_19, qr1 SA_19, qr2 SA_19, qr3 SA_19, qr4 SA_19, qr5 SA_19, qi6 SA_19, qs6 SA_19, qi7 SA_19, qs7 SA_19, eN, if_neg n8, eO, oI]
            · have e := eOM _ t1
              rw [ho] at e
              simp (disch := omega) only [Option.bind_some, ↓ile_t, ↓ile_f, ↓ilt_t, ↓ilt_f, ↓ieq_t, ↓ieq_f, ↓iz_t, ↓iz_f, ↓iltz, ↓izle, ↓ilez_t, ↓ilez_f, ↓im1, ile_t, ile_f, ilt_t, ilt_f, ieq_t, ieq_f, iz_t, iz_f, iltz, izle, ilez_t, ilez_f, im1, gZ_0, gZ_1, e10, e00, ↓reduceIte, Sum.elim_inl, Sum.elim_inr, nI_1, nI_add, Int32.sub_zero, f_c11_longest, zc144, zs144_10, M_isField_t t1.1 wg hf, M_isVillage_t t1.1 wg hi, M_span_t d1 d2, zr144_0, e, oI, if_neg mj]
          | none =>
            rw [ho] at eO
            have wa : ∀ b, 1 ≤ b → b ≤ 9 → WV g (vAdd v f' b 1) := fun b h1 h2 => wv.add (by omega) hf ⟨h1, h2⟩ (by omega) ho
            generalize hpf : (fun b => sWet code g (vAdd v f' b 1) i d) = pf
            have hpb : ∀ b, sWet code g (vAdd v f' b 1) i d = pf b := fun b => by rw [← hpf]
            have hml := sMax_le (p := pf) 9
            have hC : ∃ r, lp_c10_longest_61 N 10 (nI f') (nI i) (nI d) N (nI (9 - 0)) (mk L S) = some r ∧ if sMax pf 9 = 0 then ∃ S2, r = .inr (mk L S2) ∧ CA S2 (g, v, x, l, u, n, k, h) ∧ Fr lowC S S2 else ∃ S2, r = .inl (nI (sMax pf 9), mk L S2) ∧ CA S2 (g, v, x, [(nI (vT (vSeas code g (vAdd v f' (sMax pf 9) 1) d) (vN v))).toInt64], u, n, k, h) ∧ Fr lowC S S2 := by
              refine lp_inv (Lp := fun kk (s : gS) j => lp_c10_longest_61 N 10 (nI f') (nI i) (nI d) kk (nI (9 - j)) (mk L s)) (n := 9) (P := fun j s => CA s (g, v, x, l, u, n, k, h) ∧ Fr lowC S s ∧ sMax pf 9 = sMax pf (9 - j)) (fun kk j s hj hs => ?_) (fun kk s hs => ?_) 9 N 0 S (by omega) (by omega) ⟨q, Fr.refl, rfl⟩
              · obtain ⟨qs, fs, hm⟩ := hs
                obtain ⟨b, hb⟩ : ∃ b, 9 - j = b + 1 := ⟨9 - j - 1, by omega⟩
                rw [hb] at hm
                have n1 : ¬ nI (b + 1) < 1 := nI_nlt (b := 1) (by omega) (by omega)
                obtain ⟨s1, a1, b1, b2, b3⟩ := C_to31 (L := L) (N := N) qs w hN
                obtain ⟨s2, a2, b4, b5⟩ := C_sayOn_ok (L := L) (N := N) (w := b + 1) (m := 1) SA_31 b2 wg wv hN (f := f') (by omega) ho (by omega)
                rw [← k1] at a2
                have b6 := b1.tri (b4.mono (fun y hy => by omega))
                obtain ⟨s3, b7, b8, b9⟩ := C_fill (L := L) (N := N) (p := i) (d := d) b6.1 w hc b5 (wa (b + 1) (by omega) (by omega)) hi (by omega) hN
                rw [hpb] at b9
                cases hz : pf (b + 1) with
                | true =>
                  left
                  rw [hz, if_pos rfl] at b9
                  rw [sMax_t hz] at hm
                  obtain ⟨a3, b10⟩ := b9
                  have nn : vN (vSeas code g (vAdd v f' (b + 1) 1) d) = vN v + 1 := vSeas_N d
                  have eh := C_has_t (L := L) (N := N) (w := vN v) SA_31 b10 (by omega) (by omega)
                  have eT : s3.1 36 (vN v) = nI (vT (vSeas code g (vAdd v f' (b + 1) 1) d) (vN v)) := (b10.2.2.2 (vN v) (by omega)).2.2.2.2
                  obtain ⟨s4, a4, b11, b12⟩ := C_tell1A (L := L) (N := N) (r := nI (b + 1)) (y := (nI (vT (vSeas code g (vAdd v f' (b + 1) 1) d) (vN v))).toInt64) b7
                  refine ⟨.inl (nI (b + 1), mk L s4), ?_, ?_⟩
                  · show lp_c10_longest_61 N 10 (nI f') (nI i) (nI d) (kk + 1) (nI (9 - j)) _ = _
                    rw [hb, lp_c10_longest_61.eq_2]
                    simp (disch := omega) only [Option.bind_some, ↓ile_t, ↓ile_f, ↓ilt_t, ↓ilt_f, ↓ieq_t, ↓ieq_f, ↓iz_t, ↓iz_f, ↓iltz, ↓izle, ↓ilez_t, ↓ilez_f, ↓im1, ile_t, ile_f, ilt_t, ilt_f, ieq_t, ieq_f, iz_t, iz_f, iltz, izle, ilez_t, ilez_f, im1, gZ_0, gZ_1, e10, e00, ↓reduceIte, Sum.elim_inl, Sum.elim_inr, nI_1, nI_add, Int32.sub_zero, if_neg n1, zc10, zr10_0, zr10_1, zr10_2, zr10_3, zr10_4, zr10_5, zr10_6, zr10_7, zr10_8, zr10_9, zr10_10, zs10_11, zs10_12, a1, a2, a3, eh, qc SA_31, qi0 SA_31, qs0 SA_31, qr1 SA_31, qr2 SA_31, qr3 SA_31, qr4 SA_31, qr5 SA_31, qi6 SA_31, qs6 SA_31, qi7 SA_31, qs7 SA_31, qg5 SA_31, eT, a4]
                  · rw [hm, if_neg (by omega)]
                    exact ⟨s4, rfl, b11, lowTr fs (lowTr b3 (lowTr b6.2 (lowTr b8 b12)))⟩
                | false =>
                  right
                  rw [hz, if_neg (by decide)] at b9
                  rw [sMax_f hz] at hm
                  refine ⟨s3, ?_, b7, lowTr fs (lowTr b3 (lowTr b6.2 b8)), by rw [hm, show 9 - (j + 1) = b by omega]⟩
                  show lp_c10_longest_61 N 10 (nI f') (nI i) (nI d) (kk + 1) (nI (9 - j)) _ = lp_c10_longest_61 N 10 (nI f') (nI i) (nI d) kk (nI (9 - (j + 1))) _
                  rw [hb, show 9 - (j + 1) = b by omega, lp_c10_longest_61.eq_2]
                  simp (disch := omega) only [Option.bind_some, ↓ile_t, ↓ile_f, ↓ilt_t, ↓ilt_f, ↓ieq_t, ↓ieq_f, ↓iz_t, ↓iz_f, ↓iltz, ↓izle, ↓ilez_t, ↓ilez_f, ↓im1, ile_t, ile_f, ilt_t, ilt_f, ieq_t, ieq_f, iz_t, iz_f, iltz, izle, ilez_t, ilez_f, im1, gZ_0, gZ_1, e10, e00, ↓reduceIte, Sum.elim_inl, Sum.elim_inr, nI_1, nI_add, Int32.sub_zero, if_neg n1, zc10, zr10_0, zr10_1, zr10_2, zr10_3, zr10_4, zr10_5, zr10_6, zr10_7, zr10_8, zr10_9, zr10_10, zs10_11, zs10_12, a1, a2, b9, nI_dec]
              · obtain ⟨qs, fs, hm⟩ := hs
                refine ⟨.inr (mk L s), ?_, ?_⟩
                · show lp_c10_longest_61 N 10 (nI f') (nI i) (nI d) (kk + 1) (nI (9 - 9)) _ = _
                  have n1 : nI 0 < 1 := by decide
                  rw [Nat.sub_self, lp_c10_longest_61.eq_2, if_pos n1]
                · rw [hm]
                  show if sMax pf 0 = 0 then _ else _
                  rw [if_pos (show sMax pf 0 = 0 from rfl)]
                  exact ⟨s, rfl, qs, fs⟩
            have hM : ∀ T1 : gS, MA T1 (g, v, x, l, u, n, k, h) c → ∃ r, lp_c11_longest_61 N 144 (nI f') (nI i) (nI d) N (nI (9 - 0)) (mk L T1) = some r ∧ if sMax pf 9 = 0 then ∃ S2, r = .inr (mk L S2) ∧ MA S2 (g, v, x, l, u, n, k, h) c ∧ Fr highM T1 S2 else ∃ S2, r = .inl (nI (sMax pf 9), mk L S2) ∧ MA S2 (g, v, x, [(nI (vT (vSeas code g (vAdd v f' (sMax pf 9) 1) d) (vN v))).toInt64], u, n, k, h) c ∧ Fr highM T1 S2 := by
              intro T1 t1
              refine lp_inv (Lp := fun kk (s : gS) j => lp_c11_longest_61 N 144 (nI f') (nI i) (nI d) kk (nI (9 - j)) (mk L s)) (n := 9) (P := fun j s => MA s (g, v, x, l, u, n, k, h) c ∧ Fr highM T1 s ∧ sMax pf 9 = sMax pf (9 - j)) (fun kk j s hj hs => ?_) (fun kk s hs => ?_) 9 N 0 T1 (by omega) (by omega) ⟨t1, Fr.refl, rfl⟩
              · obtain ⟨qs, fs, hm⟩ := hs
                obtain ⟨b, hb⟩ : ∃ b, 9 - j = b + 1 := ⟨9 - j - 1, by omega⟩
                rw [hb] at hm
                obtain ⟨s1, a1, b1, b2, b3⟩ := M_then (L := L) (N := N) qs w hN
                obtain ⟨s2, a2, b4, b5⟩ := M_add (L := L) (N := N) (f := f') (w := b + 1) (m := 1) MA_156 (by omega) b2 (by omega)
                rw [← k1] at a2
                have b6 := b1.tri b4
                obtain ⟨s3, a3, b7, b8, b9⟩ := M_wet (L := L) (N := N) (p := i) (d := d) b6.1 w hc b5 (wa (b + 1) (by omega) (by omega)) hi (by omega) hN
                rw [hpb] at a3
                cases hz : pf (b + 1) with
                | true =>
                  left
                  rw [hz, if_pos rfl] at a3
                  rw [sMax_t hz] at hm
                  have nn : vN (vSeas code g (vAdd v f' (b + 1) 1) d) = vN v + 1 := vSeas_N d
                  have eT : s3.1 156 (32 + vN v) = nI (vT (vSeas code g (vAdd v f' (b + 1) 1) d) (vN v)) := (b8.2.2.2 (vN v) (by omega)).2.2.2.2
                  have eN3 : s3.1 145 40 = nI (vN v) := b7.2.1.1
                  obtain ⟨s4, a4, b11, b12, -⟩ := M_t1 (L := L) (N := N) (y := (nI (vT (vSeas code g (vAdd v f' (b + 1) 1) d) (vN v))).toInt64) b7
                  refine ⟨.inl (nI (b + 1), mk L s4), ?_, ?_⟩
                  · show lp_c11_longest_61 N 144 (nI f') (nI i) (nI d) (kk + 1) (nI (9 - j)) _ = _
                    rw [hb, lp_c11_longest_61.eq_2]
                    simp (disch := omega) only [Option.bind_some, ↓ile_t, ↓ile_f, ↓ilt_t, ↓ilt_f, ↓ieq_t, ↓ieq_f, ↓iz_t, ↓iz_f, ↓iltz, ↓izle, ↓ilez_t, ↓ilez_f, ↓im1, ile_t, ile_f, ilt_t, ilt_f, ieq_t, ieq_f, iz_t, iz_f, iltz, izle, ilez_t, ilez_f, im1, gZ_0, gZ_1, e10, e00, ↓reduceIte, Sum.elim_inl, Sum.elim_inr, nI_1, nI_add, Int32.sub_zero, zr144_0, zr144_25, a1, a2, a3, zs144_9, k40, k32, zg145, zg156, rdI_ne, eN3, eT, a4]
                  · rw [hm, if_neg (by omega)]
                    exact ⟨s4, rfl, b11, highTr fs (highTr b3 (highTr b6.2 (highTr b9 b12)))⟩
                | false =>
                  right
                  rw [hz, if_neg (by decide)] at a3
                  rw [sMax_f hz] at hm
                  refine ⟨s3, ?_, b7, highTr fs (highTr b3 (highTr b6.2 b9)), by rw [hm, show 9 - (j + 1) = b by omega]⟩
                  show lp_c11_longest_61 N 144 (nI f') (nI i) (nI d) (kk + 1) (nI (9 - j)) _ = lp_c11_longest_61 N 144 (nI f') (nI i) (nI d) kk (nI (9 - (j + 1))) _
                  rw [hb, show 9 - (j + 1) = b by omega, lp_c11_longest_61.eq_2]
                  simp (disch := omega) only [Option.bind_some, ↓ile_t, ↓ile_f, ↓ilt_t, ↓ilt_f, ↓ieq_t, ↓ieq_f, ↓iz_t, ↓iz_f, ↓iltz, ↓izle, ↓ilez_t, ↓ilez_f, ↓im1, ile_t, ile_f, ilt_t, ilt_f, ieq_t, ieq_f, iz_t, iz_f, iltz, izle, ilez_t, ilez_f, im1, gZ_0, gZ_1, e10, e00, ↓reduceIte, Sum.elim_inl, Sum.elim_inr, nI_1, nI_add, Int32.sub_zero, zr144_0, zr144_25, a1, a2, a3, nI_dec]
              · obtain ⟨qs, fs, hm⟩ := hs
                refine ⟨.inr (mk L s), ?_, ?_⟩
                · show lp_c11_longest_61 N 144 (nI f') (nI i) (nI d) (kk + 1) (nI (9 - 9)) _ = _
                  have n1 : nI 0 ≤ 0 := by decide
                  rw [Nat.sub_self, lp_c11_longest_61.eq_2, if_pos n1]
                · rw [hm]
                  show if sMax pf 0 = 0 then _ else _
                  rw [if_pos (show sMax pf 0 = 0 from rfl)]
                  exact ⟨s, rfl, qs, fs⟩
            obtain ⟨r, er, hr⟩ := hC
            change lp_c10_longest_61 N 10 (nI f') (nI i) (nI d) N 9 (mk L S) = some r at er
            by_cases z : sMax pf 9 = 0
            · rw [if_pos z] at hr
              obtain ⟨S2, rfl, q2, f2⟩ := hr
              refine AgrI (c' := c) m (S1 := S2) (r := -2) ?_ f2 q2 w (by omega) (fun T mt => ?_)
              · simp (disch := omega) only [Option.bind_some, ↓ile_t, ↓ile_f, ↓ilt_t, ↓ilt_f, ↓ieq_t, ↓ieq_f, ↓iz_t, ↓iz_f, ↓iltz, ↓izle, ↓ilez_t, ↓ilez_f, ↓im1, ile_t, ile_f, ilt_t, ilt_f, ieq_t, ieq_f, iz_t, iz_f, iltz, izle, ilez_t, ilez_f, im1, gZ_0, gZ_1, e10, e00, ↓reduceIte, Sum.elim_inl, Sum.elim_inr, nI_1, nI_add, Int32.sub_zero, f_c10_longest, zc10, zr10_0, zr10_1, zr10_2, zr10_3, zr10_4, zr10_5, zr10_6, zr10_7, zr10_8, zr10_9, zr10_10, zs10_11, zs10_12, eF, eV, C_tried_t d1 d2, qc SA_19, qi0 SA_19, qs0 SA_19, qr1 SA_19, qr2 SA_19, qr3 SA_19, qr4 SA_19, qr5 SA_19, qi6 SA_19, qs6 SA_19, qi7 SA_19, qs7 SA_19, eN, if_neg n8, eO, oI, m1lt, er]
              · have t1 := mt.thr
                have e := eOM _ t1
                rw [ho] at e
                have eN' : (stI T 144 10 0).1 145 40 = nI (vN v) := t1.2.1.1
                obtain ⟨r', er', hr'⟩ := hM _ t1
                rw [if_pos z] at hr'
                obtain ⟨T2, rfl, t2, g2⟩ := hr'
                change lp_c11_longest_61 N 144 (nI f') (nI i) (nI d) N 9 (mk L (stI T 144 10 0)) = _ at er'
                refine ⟨T2, ?_, highTr thrH g2, t2⟩
                simp (disch := omega) only [Option.bind_some, ↓ile_t, ↓ile_f, ↓ilt_t, ↓ilt_f, ↓ieq_t, ↓ieq_f, ↓iz_t, ↓iz_f, ↓iltz, ↓izle, ↓ilez_t, ↓ilez_f, ↓im1, ile_t, ile_f, ilt_t, ilt_f, ieq_t, ieq_f, iz_t, iz_f, iltz, izle, ilez_t, ilez_f, im1, gZ_0, gZ_1, e10, e00, ↓reduceIte, Sum.elim_inl, Sum.elim_inr, nI_1, nI_add, Int32.sub_zero, f_c11_longest, zc144, zs144_10, M_isField_t t1.1 wg hf, M_isVillage_t t1.1 wg hi, M_span_t d1 d2, zr144_0, e, oI, m1, k40, zg145, eN', if_neg p8, er']
            · rw [if_neg z] at hr
              obtain ⟨S2, rfl, q2, f2⟩ := hr
              refine AgrI (c' := c) m (S1 := S2) (r := nI (sMax pf 9)) ?_ f2 q2 (w.rw (by show 1 ≤ 8; omega)) (by omega) (fun T mt => ?_)
              · simp (disch := omega) only [Option.bind_some, ↓ile_t, ↓ile_f, ↓ilt_t, ↓ilt_f, ↓ieq_t, ↓ieq_f, ↓iz_t, ↓iz_f, ↓iltz, ↓izle, ↓ilez_t, ↓ilez_f, ↓im1, ile_t, ile_f, ilt_t, ilt_f, ieq_t, ieq_f, iz_t, iz_f, iltz, izle, ilez_t, ilez_f, im1, gZ_0, gZ_1, e10, e00, ↓reduceIte, Sum.elim_inl, Sum.elim_inr, nI_1, nI_add, Int32.sub_zero, f_c10_longest, zc10, zr10_0, zr10_1, zr10_2, zr10_3, zr10_4, zr10_5, zr10_6, zr10_7, zr10_8, zr10_9, zr10_10, zs10_11, zs10_12, eF, eV, C_tried_t d1 d2, qc SA_19, qi0 SA_19, qs0 SA_19, qr1 SA_19, qr2 SA_19, qr3 SA_19, qr4 SA_19, qr5 SA_19, qi6 SA_19, qs6 SA_19, qi7 SA_19, qs7 SA_19, eN, if_neg n8, eO, oI, m1lt, er]
              · have t1 := mt.thr
                have e := eOM _ t1
                rw [ho] at e
                have eN' : (stI T 144 10 0).1 145 40 = nI (vN v) := t1.2.1.1
                obtain ⟨r', er', hr'⟩ := hM _ t1
                rw [if_neg z] at hr'
                obtain ⟨T2, rfl, t2, g2⟩ := hr'
                change lp_c11_longest_61 N 144 (nI f') (nI i) (nI d) N 9 (mk L (stI T 144 10 0)) = _ at er'
                refine ⟨T2, ?_, highTr thrH g2, t2⟩
                simp (disch := omega) only [Option.bind_some, ↓ile_t, ↓ile_f, ↓ilt_t, ↓ilt_f, ↓ieq_t, ↓ieq_f, ↓iz_t, ↓iz_f, ↓iltz, ↓izle, ↓ilez_t, ↓ilez_f, ↓im1, ile_t, ile_f, ilt_t, ilt_f, ieq_t, ieq_f, iz_t, iz_f, iltz, izle, ilez_t, ilez_f, im1, gZ_0, gZ_1, e10, e00, ↓reduceIte, Sum.elim_inl, Sum.elim_inr, nI_1, nI_add, Int32.sub_zero, f_c11_longest, zc144, zs144_10, M_isField_t t1.1 wg hf, M_isVillage_t t1.1 wg hi, M_span_t d1 d2, zr144_0, e, oI, m1, k40, zg145, eN', if_neg p8, er']
    · refine AgrR w q m (r := -1) ?_ (fun T _ t1 => ?_)
      · simp (disch := omega) only [Option.bind_some, ↓ile_t, ↓ile_f, ↓ilt_t, ↓ilt_f, ↓ieq_t, ↓ieq_f, ↓iz_t, ↓iz_f, ↓iltz, ↓izle, ↓ilez_t, ↓ilez_f, ↓im1, ile_t, ile_f, ilt_t, ilt_f, ieq_t, ieq_f, iz_t, iz_f, iltz, izle, ilez_t, ilez_f, im1, gZ_0, gZ_1, e10, e00, ↓reduceIte, Sum.elim_inl, Sum.elim_inr, nI_1, nI_add, Int32.sub_zero, f_c10_longest, zc10, zr10_0, zr10_1, zr10_2, zr10_3, zr10_4, zr10_5, zr10_6, zr10_7, zr10_8, zr10_9, zr10_10, zs10_11, zs10_12, eF, C_hasV_f (L := L) (N := N) (g := g) q.1 hp, eq_self_iff_true]
      · simp (disch := omega) only [Option.bind_some, ↓ile_t, ↓ile_f, ↓ilt_t, ↓ilt_f, ↓ieq_t, ↓ieq_f, ↓iz_t, ↓iz_f, ↓iltz, ↓izle, ↓ilez_t, ↓ilez_f, ↓im1, ile_t, ile_f, ilt_t, ilt_f, ieq_t, ieq_f, iz_t, iz_f, iltz, izle, ilez_t, ilez_f, im1, gZ_0, gZ_1, e10, e00, ↓reduceIte, Sum.elim_inl, Sum.elim_inr, nI_1, nI_add, Int32.sub_zero, f_c11_longest, zc144, zs144_10, M_isField_t t1.1 wg hf, M_isVillage_f t1.1 wg hp, eq_self_iff_true]
  · refine AgrR w q m (r := -1) ?_ (fun T _ t1 => ?_)
    · simp (disch := omega) only [Option.bind_some, ↓ile_t, ↓ile_f, ↓ilt_t, ↓ilt_f, ↓ieq_t, ↓ieq_f, ↓iz_t, ↓iz_f, ↓iltz, ↓izle, ↓ilez_t, ↓ilez_f, ↓im1, ile_t, ile_f, ilt_t, ilt_f, ieq_t, ieq_f, iz_t, iz_f, iltz, izle, ilez_t, ilez_f, im1, gZ_0, gZ_1, e10, e00, ↓reduceIte, Sum.elim_inl, Sum.elim_inr, nI_1, nI_add, Int32.sub_zero, f_c10_longest, zc10, zr10_0, zr10_1, zr10_2, zr10_3, zr10_4, zr10_5, zr10_6, zr10_7, zr10_8, zr10_9, zr10_10, zs10_11, zs10_12, C_hasField_f (L := L) (N := N) (g := g) q.1 hf, eq_self_iff_true]
    · simp (disch := omega) only [Option.bind_some, ↓ile_t, ↓ile_f, ↓ilt_t, ↓ilt_f, ↓ieq_t, ↓ieq_f, ↓iz_t, ↓iz_f, ↓iltz, ↓izle, ↓ilez_t, ↓ilez_f, ↓im1, ile_t, ile_f, ilt_t, ilt_f, ieq_t, ieq_f, iz_t, iz_f, iltz, izle, ilez_t, ilez_f, im1, gZ_0, gZ_1, e10, e00, ↓reduceIte, Sum.elim_inl, Sum.elim_inr, nI_1, nI_add, Int32.sub_zero, f_c11_longest, zc144, zs144_10, M_isField_f t1.1 wg hf, eq_self_iff_true]
end BEARS
