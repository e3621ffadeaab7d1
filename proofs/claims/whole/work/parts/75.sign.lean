/-! CALLS: sign -/
def sgT (p : Int32) (s : Nat) : Nat := (p.toBitVec >>> s).toNat % 256
theorem sgT_lt {p : Int32} {s : Nat} : sgT p s < 256 := Nat.mod_lt _ (by omega)
theorem chr_nar : ∀ t : Nat, t < 256 → vp_nar .char (((nI t).toUInt32 % 65536).toInt32) = nI t := by decide +kernel
theorem u255 (u : UInt32) : u.toInt32 &&& 255 = nI (u.toNat % 256) := by
  apply Int32.toBitVec_inj.mp
  apply BitVec.eq_of_toNat_eq
  have h1 : (u.toInt32 &&& 255).toBitVec = u.toBitVec &&& 255#32 := rfl
  have h2 : (nI (u.toNat % 256)).toBitVec = BitVec.ofNat 32 (u.toNat % 256) := by
    unfold nI
    simp
  rw [h1, h2, BitVec.toNat_and, BitVec.toNat_ofNat, BitVec.toNat_ofNat]
  have h3 : 255 % 2 ^ 32 = 2 ^ 8 - 1 := by decide
  have h5 : u.toBitVec.toNat = u.toNat := rfl
  rw [h3, Nat.and_two_pow_sub_one_eq_mod, h5]
  omega
theorem sgC {p s : Int32} {m : Nat} (h : (s.toUInt32 &&& Int32.toUInt32 31).toNat = m) (hm : m < 32) : vp_nar .char (((((p.toUInt32 >>> (s.toUInt32 &&& Int32.toUInt32 31)).toInt32) &&& (255 : Int32)).toUInt32 % 65536).toInt32) = nI (sgT p m) := by
  rw [u255]
  have e : (p.toUInt32 >>> (s.toUInt32 &&& Int32.toUInt32 31)).toNat = (p.toBitVec >>> m).toNat := by
    rw [UInt32.toNat_shiftRight, h, Nat.mod_eq_of_lt hm, BitVec.toNat_ushiftRight]
    rfl
  rw [e]
  exact chr_nar _ sgT_lt
theorem sgM {p s : Int32} {m : Nat} (h : (s.toBitVec.smod 32).toNat = m) (hs : m = 0 ∨ m = 8 ∨ m = 16 ∨ m = 24) : vp_nar .byte ((p >>> s).toInt8.toInt32) = bI (sgT p m) := by
  have e : (p >>> s).toInt8 = (nI (sgT p m)).toInt8 := by
    apply Int8.toBitVec_inj.mp
    have h1 : ((p >>> s).toInt8).toBitVec = ((p.toBitVec.sshiftRight (s.toBitVec.smod 32).toNat)).signExtend 8 := rfl
    have h2 : ((nI (sgT p m)).toInt8).toBitVec = (BitVec.ofNat 32 (sgT p m)).signExtend 8 := by
      have : (nI (sgT p m)).toBitVec = BitVec.ofNat 32 (sgT p m) := by
        unfold nI
        simp
      rw [← this]
      rfl
    rw [h1, h2, h, BitVec.signExtend_eq_setWidth_of_le _ (by omega), BitVec.signExtend_eq_setWidth_of_le _ (by omega), sg_low hs]
    apply BitVec.eq_of_toNat_eq
    rw [BitVec.toNat_setWidth, BitVec.toNat_setWidth, BitVec.toNat_ofNat]
    unfold sgT
    omega
  rw [e]
  exact bI_nar _ sgT_lt
def tPut (x : pX) (b : Nat) : pX := (x.1 + 1, fun j => if j = x.1 then b else x.2 j)
theorem XOk.put {x : pX} {m b : Nat} (h : XOk x m) (h1 : x.1 < m) (hb : b < 256) : XOk (tPut x b) m := by
  refine ⟨h1, fun j hj => ?_⟩
  have hj2 : j < x.1 + 1 := hj
  show (if j = x.1 then b else x.2 j) < 256
  split
  · exact hb
  · exact h.2 j (by omega)
section SIGN
variable {L N : Nat} {S T : gS} {c : Nat} {x : pX} {A : pA}
theorem C_sg {p s : Int32} {m kk : Nat} (hs : ¬ s < 0) (h : (s.toUInt32 &&& Int32.toUInt32 31).toNat = m) (hm : m < 32) (e : CT S x) (hx : x.1 < 80) :
    ∃ S', lp_c8_addFour_14 N 11 p (kk + 1) s (mk L S) = lp_c8_addFour_14 N 11 p kk (s + -8) (mk L S') ∧ Fr (fun y => y = 11 ∨ y = 12) S S' ∧ CT S' (tPut x (sgT p m)) := by
  refine ⟨stI (stI S 12 x.1 (nI (sgT p m))) 11 1 (nI (x.1 + 1)), ?_, Fr.trans (Fr.stI (A := fun y => y = 12) rfl) (Fr.stI (A := fun y => y = 11) rfl) (fun y hy => Or.inr hy) (fun y hy => Or.inl hy), rdI_eq, fun j hj => ?_⟩
  · rw [lp_c8_addFour_14.eq_2, if_neg hs]
    have e2 : (stI S 12 x.1 (nI (sgT p m))).1 11 1 = nI x.1 := (rdI_ne (by omega)).trans e.1
    simp (disch := omega) only [Option.bind_some, ↓ile_t, ↓ile_f, ↓ilt_t, ↓ilt_f, ↓ieq_t, ↓ieq_f, ↓iz_t, ↓iz_f, ↓iltz, ↓izle, ↓ilez_t, ↓ilez_f, ↓im1, ile_t, ile_f, ilt_t, ilt_f, ieq_t, ieq_f, iz_t, iz_f, iltz, izle, ilez_t, ilez_f, im1, gZ_0, gZ_1, e10, e00, ↓reduceIte, Sum.elim_inl, Sum.elim_inr, nI_1, nI_add, Int32.sub_zero, zc11, zr11_0, zi11_1, zs11_1, e.1, sgC h hm, zp12, e2]
  · have hj2 : j < x.1 + 1 := hj
    show _ = nI (if j = x.1 then sgT p m else x.2 j)
    rw [rdI_ne (by omega)]
    by_cases z : j = x.1
    · rw [if_pos z, z, rdI_eq]
    · rw [if_neg z, rdI_ne (by omega)]
      exact e.2 j (by omega)
theorem M_sg {p s : Int32} {m kk : Nat} (hs : ¬ s < 0) (h : ((((8 : Int32) * s) &&& 31).toBitVec.smod 32).toNat = m) (hm : m = 0 ∨ m = 8 ∨ m = 16 ∨ m = 24) (e : MT T x.1 x.2) (hx : x.1 < 80) :
    ∃ T', lp_c11_sign_20 N 144 p (kk + 1) s (mk L T) = lp_c11_sign_20 N 144 p kk (s + -1) (mk L T') ∧ FM (fun y => y = 148) (fun y => y = 7) T T' ∧ MT T' (tPut x (sgT p m)).1 (tPut x (sgT p m)).2 := by
  refine ⟨stI (stI T 144 7 (nI (x.1 + 1))) 148 x.1 (bI (sgT p m)), ?_, (FM.stK (A := fun y => y = 148) (K := fun y => y = 7) rfl).tr (FM.stA rfl (by decide)), (rdI_ne (Or.inl (by decide))).trans rdI_eq, fun j hj => ?_⟩
  · rw [lp_c11_sign_20.eq_2, if_neg hs]
    have e1 : T.1 144 7 = nI x.1 := e.1
    simp (disch := omega) only [Option.bind_some, ↓ile_t, ↓ile_f, ↓ilt_t, ↓ilt_f, ↓ieq_t, ↓ieq_f, ↓iz_t, ↓iz_f, ↓iltz, ↓izle, ↓ilez_t, ↓ilez_f, ↓im1, ile_t, ile_f, ilt_t, ilt_f, ieq_t, ieq_f, iz_t, iz_f, iltz, izle, ilez_t, ilez_f, im1, gZ_0, gZ_1, e10, e00, ↓reduceIte, Sum.elim_inl, Sum.elim_inr, nI_1, nI_add, Int32.sub_zero, zr144_6, zi144_7, zs144_7, e1, sgM h hm, zp148]
  · have hj2 : j < x.1 + 1 := hj
    show (if j = x.1 then sgT p m else x.2 j) < 256 ∧ _ = bI (if j = x.1 then sgT p m else x.2 j)
    by_cases z : j = x.1
    · rw [if_pos z, z]
      exact ⟨sgT_lt, rdI_eq⟩
    · rw [if_neg z]
      exact ⟨(e.2 j (by omega)).1, by rw [rdI_ne (by omega), rdI_ne (by omega)]; exact (e.2 j (by omega)).2⟩
theorem A_sign {p : Int32} (w : WA A) (q : CA S A) (m : MA S A c) (hN : 900 ≤ N) : Agr L S c (f_c10_sign N 10 p) (f_c11_sign N 144 p) := by
  obtain ⟨g, v, x, l, u, n, k, h⟩ := A
  have wx : XOk x 80 := w.2.2.1
  have hx := wx.1
  have e : S.1 11 1 = nI x.1 := q.2.2.1.1
  by_cases z : x.1 ≤ 76
  · obtain ⟨N', rfl⟩ : ∃ N', N = N' + 5 := ⟨N - 5, by omega⟩
    have w1 := wx.put (b := sgT p 24) (by omega) sgT_lt
    have w2 := w1.put (b := sgT p 16) (by show x.1 + 1 < 80; omega) sgT_lt
    have w3 := w2.put (b := sgT p 8) (by show x.1 + 1 + 1 < 80; omega) sgT_lt
    have w4 := w3.put (b := sgT p 0) (by show x.1 + 1 + 1 + 1 < 80; omega) sgT_lt
    obtain ⟨S1, a1, b1, d1⟩ := C_sg (L := L) (N := N' + 5) (p := p) (s := 24) (m := 24) (kk := N' + 4) (by decide) (by decide) (by omega) q.2.2.1 (by show x.1 < 80; omega)
    obtain ⟨S2, a2, b2, d2⟩ := C_sg (L := L) (N := N' + 5) (p := p) (s := 24 + -8) (m := 16) (kk := N' + 3) (by decide) (by decide) (by omega) d1 (by show x.1 + 1 < 80; omega)
    obtain ⟨S3, a3, b3, d3⟩ := C_sg (L := L) (N := N' + 5) (p := p) (s := 24 + -8 + -8) (m := 8) (kk := N' + 2) (by decide) (by decide) (by omega) d2 (by show x.1 + 1 + 1 < 80; omega)
    obtain ⟨S4, a4, b4, d4⟩ := C_sg (L := L) (N := N' + 5) (p := p) (s := 24 + -8 + -8 + -8) (m := 0) (kk := N' + 1) (by decide) (by decide) (by omega) d3 (by show x.1 + 1 + 1 + 1 < 80; omega)
    have a5 : lp_c8_addFour_14 (N' + 5) 11 p (N' + 1) (24 + -8 + -8 + -8 + -8) (mk L S4) = some (mk L S4) := by
      rw [lp_c8_addFour_14.eq_2, if_pos (by decide)]
    have aL : lp_c8_addFour_14 (N' + 5) 11 p (N' + 5) 24 (mk L S) = some (mk L S4) := a1.trans (a2.trans (a3.trans (a4.trans a5)))
    have bL : Fr (fun y => y = 11 ∨ y = 12) S S4 := (((b1.trans b2 (fun _ z => z) (fun _ z => z)).trans b3 (fun _ z => z) (fun _ z => z)).trans b4 (fun _ z => z) (fun _ z => z))
    have q4 : CA S4 (g, v, tPut (tPut (tPut (tPut x (sgT p 24)) (sgT p 16)) (sgT p 8)) (sgT p 0), l, u, n, k, h) := q.text (bL.mono (fun y hy => by show _ ∨ _; omega)) d4
    have e4 : S4.1 11 1 = nI (x.1 + 4) := d4.1
    refine AgrI (r := nI (x.1 + 4)) (c' := c) m (S1 := S4) ?_ (bL.low (fun y hy => by omega)) q4 ⟨w.1, w.2.1, w4, w.2.2.2⟩ (by omega) (fun T mt => ?_)
    · have c1 : nI x.1 ≤ 76 := nI_le (b := 76) z (by omega)
      unfold f_c10_sign f_c8_addFour
      simp (disch := omega) only [Option.bind_some, ↓ile_t, ↓ile_f, ↓ilt_t, ↓ilt_f, ↓ieq_t, ↓ieq_f, ↓iz_t, ↓iz_f, ↓iltz, ↓izle, ↓ilez_t, ↓ilez_f, ↓im1, ile_t, ile_f, ilt_t, ilt_f, ieq_t, ieq_f, iz_t, iz_f, iltz, izle, ilez_t, ilez_f, im1, gZ_0, gZ_1, e10, e00, ↓reduceIte, Sum.elim_inl, Sum.elim_inr, nI_1, nI_add, Int32.sub_zero, zc10, zr10_0, zr10_1, zr10_2, zr10_3, zr10_4, zr10_5, zr10_6, zr10_7, zr10_8, zr10_9, zr10_10, zs10_11, zs10_12, zc11, zr11_0, zi11_1, zs11_1, e, if_pos c1, aL, e4, eq_self_iff_true]
    · have t1 := mt.thr
      have e7 : (stI T 144 10 0).1 144 7 = nI x.1 := t1.2.2.1.1
      obtain ⟨T1, g1, f1, m1⟩ := M_sg (L := L) (N := N' + 5) (p := p) (s := 3) (m := 24) (kk := N' + 4) (by decide) (by decide) (by omega) t1.2.2.1 (by show x.1 < 80; omega)
      obtain ⟨T2, g2, f2, m2⟩ := M_sg (L := L) (N := N' + 5) (p := p) (s := 3 + -1) (m := 16) (kk := N' + 3) (by decide) (by decide) (by omega) m1 (by show x.1 + 1 < 80; omega)
      obtain ⟨T3, g3, f3, m3⟩ := M_sg (L := L) (N := N' + 5) (p := p) (s := 3 + -1 + -1) (m := 8) (kk := N' + 2) (by decide) (by decide) (by omega) m2 (by show x.1 + 1 + 1 < 80; omega)
      obtain ⟨T4, g4, f4, m4⟩ := M_sg (L := L) (N := N' + 5) (p := p) (s := 3 + -1 + -1 + -1) (m := 0) (kk := N' + 1) (by decide) (by decide) (by omega) m3 (by show x.1 + 1 + 1 + 1 < 80; omega)
      have g5 : lp_c11_sign_20 (N' + 5) 144 p (N' + 1) (3 + -1 + -1 + -1 + -1) (mk L T4) = some (mk L T4) := by
        rw [lp_c11_sign_20.eq_2, if_pos (by decide)]
      have gL : lp_c11_sign_20 (N' + 5) 144 p (N' + 5) 3 (mk L (stI T 144 10 0)) = some (mk L T4) := g1.trans (g2.trans (g3.trans (g4.trans g5)))
      have fL : FM (fun y => y = 148) (fun y => y = 7) (stI T 144 10 0) T4 := ((f1.tr f2).tr f3).tr f4
      have e47 : T4.1 144 7 = nI (x.1 + 4) := m4.1
      refine ⟨T4, ?_, highTr thrH (fL.high (fun y hy => by omega)), t1.text (fL.mono (fun y hy => Or.inr hy) (fun y hy => Or.inr hy)) m4⟩
      have e3 : nI x.1 + 4 ≤ 80 := by
        rw [k4, nI_add]
        exact nI_le (b := 80) (by omega) (by omega)
      unfold f_c11_sign
      simp (disch := omega) only [Option.bind_some, ↓ile_t, ↓ile_f, ↓ilt_t, ↓ilt_f, ↓ieq_t, ↓ieq_f, ↓iz_t, ↓iz_f, ↓iltz, ↓izle, ↓ilez_t, ↓ilez_f, ↓im1, ile_t, ile_f, ilt_t, ilt_f, ieq_t, ieq_f, iz_t, iz_f, iltz, izle, ilez_t, ilez_f, im1, gZ_0, gZ_1, e10, e00, ↓reduceIte, Sum.elim_inl, Sum.elim_inr, nI_1, nI_add, Int32.sub_zero, zc144, zs144_10, zi144_7, e7]
      rw [if_pos e3, gL]
      simp (disch := omega) only [Option.bind_some, ↓ile_t, ↓ile_f, ↓ilt_t, ↓ilt_f, ↓ieq_t, ↓ieq_f, ↓iz_t, ↓iz_f, ↓iltz, ↓izle, ↓ilez_t, ↓ilez_f, ↓im1, ile_t, ile_f, ilt_t, ilt_f, ieq_t, ieq_f, iz_t, iz_f, iltz, izle, ilez_t, ilez_f, im1, gZ_0, gZ_1, e10, e00, ↓reduceIte, Sum.elim_inl, Sum.elim_inr, nI_1, nI_add, Int32.sub_zero, zi144_7, e47]
  · have c1 : ¬ nI x.1 ≤ 76 := nI_ge (a := 76) (by omega) (by omega)
    refine AgrI (r := -1) (c' := c) m (S1 := S) ?_ Fr.refl q w (by omega) (fun T mt => ⟨stI T 144 10 0, ?_, thrH, mt.thr⟩)
    · unfold f_c10_sign f_c8_addFour
      simp (disch := omega) only [Option.bind_some, ↓ile_t, ↓ile_f, ↓ilt_t, ↓ilt_f, ↓ieq_t, ↓ieq_f, ↓iz_t, ↓iz_f, ↓iltz, ↓izle, ↓ilez_t, ↓ilez_f, ↓im1, ile_t, ile_f, ilt_t, ilt_f, ieq_t, ieq_f, iz_t, iz_f, iltz, izle, ilez_t, ilez_f, im1, gZ_0, gZ_1, e10, e00, ↓reduceIte, Sum.elim_inl, Sum.elim_inr, nI_1, nI_add, Int32.sub_zero, zc10, zr10_0, zr10_1, zr10_2, zr10_3, zr10_4, zr10_5, zr10_6, zr10_7, zr10_8, zr10_9, zr10_10, zs10_11, zs10_12, zc11, zr11_0, zi11_1, zs11_1, e, if_neg c1, eq_self_iff_true]
    · have t1 := mt.thr
      have e7 : (stI T 144 10 0).1 144 7 = nI x.1 := t1.2.2.1.1
      have e3 : ¬ nI x.1 + 4 ≤ 80 := by
        rw [k4, nI_add]
        exact nI_ge (a := 80) (by omega) (by omega)
      unfold f_c11_sign
      simp (disch := omega) only [Option.bind_some, ↓ile_t, ↓ile_f, ↓ilt_t, ↓ilt_f, ↓ieq_t, ↓ieq_f, ↓iz_t, ↓iz_f, ↓iltz, ↓izle, ↓ilez_t, ↓ilez_f, ↓im1, ile_t, ile_f, ilt_t, ilt_f, ieq_t, ieq_f, iz_t, iz_f, iltz, izle, ilez_t, ilez_f, im1, gZ_0, gZ_1, e10, e00, ↓reduceIte, Sum.elim_inl, Sum.elim_inr, nI_1, nI_add, Int32.sub_zero, zc144, zs144_10, zi144_7, e7]
      rw [if_neg e3]
end SIGN
