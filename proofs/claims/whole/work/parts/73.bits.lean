/-! BITS: draws, signs -/
theorem u32_nI (w : UInt32) (h : w.toNat < 2147483648) : w.toInt32 = nI w.toNat := by
  have e : w.toInt32.toBitVec = (nI w.toNat).toBitVec := by
    unfold nI
    simp
  exact Int32.toBitVec_inj.mp e
theorem dr16 (r : Int32) : ∃ y, y < 65536 ∧ (r.toUInt32 >>> ((16 : Int32).toUInt32 &&& Int32.toUInt32 31)).toInt32 = nI y := by
  have e : ((16 : Int32).toUInt32 &&& Int32.toUInt32 31) = 16 := by decide
  rw [e]
  have h1 : (r.toUInt32 >>> (16 : UInt32)).toNat < 65536 := by
    have h2 : (r.toUInt32 >>> (16 : UInt32)).toNat = r.toUInt32.toNat >>> 16 := by
      rw [UInt32.toNat_shiftRight]
      rfl
    rw [h2, Nat.shiftRight_eq_div_pow]
    have := r.toUInt32.toNat_lt
    omega
  exact ⟨_, h1, u32_nI _ (by omega)⟩
noncomputable def dHi (r : Int32) : Nat := (dr16 r).choose
theorem dHi_e (r : Int32) : dHi r < 65536 ∧ (r.toUInt32 >>> ((16 : Int32).toUInt32 &&& Int32.toUInt32 31)).toInt32 = nI (dHi r) := (dr16 r).choose_spec
def dR (r : Int32) : Int32 := r * 1103515245 + 12345
noncomputable def dV (r : Int32) (n : Nat) : Nat := dHi (dR r) % n
section DRAWS
variable {L N : Nat} {S : gS} {n : Nat}
theorem C_drawn (hn : 0 < n) (h2 : n < 1000) : f_c3_drawn N 135 (nI n) (mk L S) = some (nI (dV (S.1 135 0) n), mk L (stI S 135 0 (dR (S.1 135 0)))) := by
  obtain ⟨h1, h3⟩ := dHi_e (dR (S.1 135 0))
  unfold f_c3_drawn
  rw [zc135, Option.bind_some, zi135_0, Option.bind_some, zs135_0, Option.bind_some, zi135_0, rdI_eq]
  show ((if nI n ≤ 0 then some (0 : Int32) else (some (dR (S.1 135 0))).bind fun v6 => (gNZ (nI n)).bind fun u7 => some (((v6.toUInt32 >>> ((16 : Int32).toUInt32 &&& Int32.toUInt32 31)).toInt32) - ((v6.toUInt32 >>> ((16 : Int32).toUInt32 &&& Int32.toUInt32 31)).toInt32) / nI n * nI n)).bind fun t4 => some (t4, mk L (stI S 135 0 (dR (S.1 135 0))))) = _
  rw [ilez_f hn (by omega), Option.bind_some, gNZ_nI hn (by omega), Option.bind_some, h3, nI_rem (by omega) (by omega), Option.bind_some]
  rfl
theorem M_draw (hn : 0 < n) (h2 : n < 1000) : f_c11_draw N 144 (nI n) (mk L S) = some (nI (dV (S.1 144 37) n), mk L (stI S 144 37 (dR (S.1 144 37)))) := by
  obtain ⟨h1, h3⟩ := dHi_e (dR (S.1 144 37))
  unfold f_c11_draw
  rw [zc144, Option.bind_some, zi144_37, Option.bind_some, zs144_37, Option.bind_some, zi144_37, rdI_eq]
  show ((some (dR (S.1 144 37))).bind fun v3 => (gNZ (nI n)).bind fun u4 => some (((v3.toUInt32 >>> ((16 : Int32).toUInt32 &&& Int32.toUInt32 31)).toInt32) - ((v3.toUInt32 >>> ((16 : Int32).toUInt32 &&& Int32.toUInt32 31)).toInt32) / nI n * nI n, mk L (stI S 144 37 (dR (S.1 144 37))))) = _
  rw [Option.bind_some, gNZ_nI hn (by omega), Option.bind_some, h3, nI_rem (by omega) (by omega)]
  rfl
theorem dV_lt {r : Int32} (hn : 0 < n) : dV r n < n := Nat.mod_lt _ hn
end DRAWS
/-- a sign of four: the byte at a place -/
theorem sg_low {b : BitVec 32} {s : Nat} (hs : s = 0 ∨ s = 8 ∨ s = 16 ∨ s = 24) : ((b.sshiftRight s).setWidth 8) = ((b >>> s).setWidth 8) := by
  apply BitVec.eq_of_getLsbD_eq
  intro i hi
  have h32 : s + i < 32 := by omega
  have h31 : ¬ 32 ≤ i := by omega
  simp [BitVec.getLsbD_sshiftRight, h32, h31, hi]
