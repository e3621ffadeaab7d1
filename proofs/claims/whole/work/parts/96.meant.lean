/-! CALLS: meant -/
section MEANT
variable {L N : Nat} {S T : gS} {c : Nat} {g : pG} {v : pV} {x : pX} {l : List Int64} {u : pX} {n : pN} {k : Nat → Option pV} {h : pH} {A : pA} {hh : gH}
theorem C_pw {b e : Nat} (hb : b < 1000) (he : e < 100) (hN : 900 ≤ N) : f_c10_power N (nI b) (nI e) hh = some (lN (b ^ e)) := by
  have e1 : lp_c10_power_5 N (nI b) (nI e) hh N (lN (b ^ 0)) (nI 0) = some (lN (b ^ e)) := by
    refine lp_seq (Lp := fun kk (s : Int64) i => lp_c10_power_5 N (nI b) (nI e) hh kk s (nI i)) (sp := fun i => lN (b ^ i)) (n := e) (fun kk i hi => ?_) (fun kk => ?_) (by omega)
    · show lp_c10_power_5 N (nI b) (nI e) hh (kk + 1) _ _ = lp_c10_power_5 N (nI b) (nI e) hh kk (lN (b ^ (i + 1))) (nI (i + 1))
      rw [lp_c10_power_5.eq_2, ile_f hi (by omega), nI_l (by omega), lN_mul, nI_1, Nat.pow_succ]
    · show lp_c10_power_5 N (nI b) (nI e) hh (kk + 1) _ _ = _
      rw [lp_c10_power_5.eq_2, ile_t (Nat.le_refl _) (by omega)]
  unfold f_c10_power
  rw [show (1 : Int64) = lN (b ^ 0) from rfl, ← nI_0, e1, Option.bind_some]
theorem M_pw {b e : Nat} (he : e < 100) (hN : 900 ≤ N) : f_c11_power N (lN b) (nI e) hh = some (lN (b ^ e)) := by
  have e1 : lp_c11_power_5 N (lN b) (nI e) hh N (lN (b ^ 0)) (nI 0) = some (lN (b ^ e)) := by
    refine lp_seq (Lp := fun kk (s : Int64) i => lp_c11_power_5 N (lN b) (nI e) hh kk s (nI i)) (sp := fun i => lN (b ^ i)) (n := e) (fun kk i hi => ?_) (fun kk => ?_) (by omega)
    · show lp_c11_power_5 N (lN b) (nI e) hh (kk + 1) _ _ = lp_c11_power_5 N (lN b) (nI e) hh kk (lN (b ^ (i + 1))) (nI (i + 1))
      rw [lp_c11_power_5.eq_2, ile_f hi (by omega), lN_mul, nI_1, Nat.pow_succ]
    · show lp_c11_power_5 N (lN b) (nI e) hh (kk + 1) _ _ = _
      rw [lp_c11_power_5.eq_2, ile_t (Nat.le_refl _) (by omega)]
  unfold f_c11_power
  rw [show (1 : Int64) = lN (b ^ 0) from rfl, ← nI_0, e1, Option.bind_some]
theorem lg_z {a : Nat} (h : a = 0) : lg_cmp (lN a) (0 : Int64) = 0 := by rw [h]; decide
theorem lg_p {a : Nat} (h : 0 < a) (ha : a < 2 ^ 63) : lg_cmp (lN a) (0 : Int64) = 1 := by
  have : (0 : Int64) < lN a := by
    rw [show (0 : Int64) = lN 0 from rfl]
    exact (pk_lLT (by decide) ha).mpr h
  unfold lg_cmp
  rw [if_pos this]
theorem gNZL_p {a : Nat} (h : 0 < a) (ha : a < 2 ^ 63) : gNZL (lN a) = some () := by
  have : ¬ lN a = 0 := fun e => by
    rw [show (0 : Int64) = lN 0 from rfl] at e
    have := (pk_lEQ ha (by decide)).mp e
    omega
  unfold gNZL
  rw [if_neg this]
theorem mod_half {a r : Nat} (hr : 0 < r) (h : r < a) : 2 * (a % r) < a := by
  have h1 := Nat.mod_lt a hr
  have h2 := Nat.div_add_mod a r
  have h3 : 0 < a / r := Nat.div_pos (by omega) hr
  have h4 : r * 1 ≤ r * (a / r) := Nat.mul_le_mul_left r h3
  omega
theorem C_gcd : ∀ d a b i : Nat, b < 2 ^ d → a < 2 ^ 63 → d < 60 → i + 2 * d + 1 ≤ 100 → ∀ kk, lp_c10_commonDivisor_9 N hh (kk + 2 * d + 1) (lN a) (lN b) (nI i) = some (lN (Nat.gcd b a)) := by
  intro d
  induction d with
  | zero =>
    intro a b i hb ha _ hi kk
    have : b = 0 := by have : b < 1 := hb; omega
    rw [lp_c10_commonDivisor_9.eq_2, k100, ile_f (by omega) (by omega), lg_z this, if_pos rfl, this, Nat.gcd_zero_left]
  | succ d ih =>
    intro a b i hb ha hd hi kk
    have hb63 : b < 2 ^ 63 := Nat.lt_of_lt_of_le hb (Nat.pow_le_pow_right (by decide) (by omega))
    rw [show kk + 2 * (d + 1) + 1 = kk + 2 * d + 1 + 1 + 1 by omega, lp_c10_commonDivisor_9.eq_2, k100, ile_f (by omega) (by omega)]
    by_cases z : b = 0
    · rw [lg_z z, if_pos rfl, z, Nat.gcd_zero_left]
    · rw [lg_p (by omega) hb63, if_neg (show ¬ (1 : Int32) = 0 by decide), gNZL_p (by omega) hb63, Option.bind_some, pk_lRem ha (by omega) hb63, nI_1, lp_c10_commonDivisor_9.eq_2, k100, ile_f (by omega) (by omega), Nat.gcd_rec]
      have hr := Nat.mod_lt a (show 0 < b by omega)
      by_cases y : a % b = 0
      · rw [lg_z y, if_pos rfl, y, Nat.gcd_zero_left]
      · rw [lg_p (by omega) (by omega), if_neg (show ¬ (1 : Int32) = 0 by decide), gNZL_p (by omega) (by omega), Option.bind_some, pk_lRem hb63 (by omega) (by omega), nI_1, Nat.gcd_rec]
        have hh2 := mod_half (a := b) (r := a % b) (by omega) hr
        exact ih (a % b) (b % (a % b)) (i + 1 + 1) (by rw [Nat.pow_succ] at hb; omega) (by omega) (by omega) (by omega) kk
theorem M_gcd : ∀ d a b : Nat, b < 2 ^ d → a < 2 ^ 63 → d < 60 → ∀ kk, f_c11_common (kk + 2 * d + 1) (lN a) (lN b) hh = some (lN (Nat.gcd b a)) := by
  intro d
  induction d with
  | zero =>
    intro a b hb ha _ kk
    have : b = 0 := by have : b < 1 := hb; omega
    rw [f_c11_common.eq_2]
    unfold b_fn_c11_common
    rw [lg_z this, if_pos rfl, Option.bind_some, this, Nat.gcd_zero_left]
  | succ d ih =>
    intro a b hb ha hd kk
    have hb63 : b < 2 ^ 63 := Nat.lt_of_lt_of_le hb (Nat.pow_le_pow_right (by decide) (by omega))
    rw [show kk + 2 * (d + 1) + 1 = kk + 2 * d + 1 + 1 + 1 by omega, f_c11_common.eq_2]
    unfold b_fn_c11_common
    by_cases z : b = 0
    · rw [lg_z z, if_pos rfl, Option.bind_some, z, Nat.gcd_zero_left]
    · rw [lg_p (by omega) hb63, if_neg (show ¬ (1 : Int32) = 0 by decide), gNZL_p (by omega) hb63, Option.bind_some, pk_lRem ha (by omega) hb63, f_c11_common.eq_2]
      unfold b_fn_c11_common
      rw [Nat.gcd_rec]
      have hr := Nat.mod_lt a (show 0 < b by omega)
      by_cases y : a % b = 0
      · rw [lg_z y, if_pos rfl, Option.bind_some, Option.bind_some, Option.bind_some, y, Nat.gcd_zero_left]
      · rw [lg_p (by omega) (by omega), if_neg (show ¬ (1 : Int32) = 0 by decide), gNZL_p (by omega) (by omega), Option.bind_some, pk_lRem hb63 (by omega) (by omega), Nat.gcd_rec]
        have hh2 := mod_half (a := b) (r := a % b) (by omega) hr
        rw [ih (a % b) (b % (a % b)) (by rw [Nat.pow_succ] at hb; omega) (by omega) (by omega) kk]
        rfl
theorem pw_le {b i d : Nat} (hb : b ≤ 10) : b ^ i * (10 - b) ^ d ≤ 10 ^ (i + d) := by
  rw [Nat.pow_add]
  exact Nat.mul_le_mul (Nat.pow_le_pow_left hb i) (Nat.pow_le_pow_left (by omega) d)
theorem C_ten_f {y : Int32} (hy : y < 0 ∨ (¬ y < 0 ∧ ¬ y ≤ 10)) : f_c10_isTenths N y hh = some 0 := by
  unfold f_c10_isTenths
  rcases hy with hy | ⟨h1, hy⟩
  · rw [if_pos hy]; rfl
  · rw [if_neg h1, if_pos (i32_nle hy)]; rfl
theorem C_ten_t {d : Nat} (h2 : d ≤ 10) : f_c10_isTenths N (nI d) hh = some 1 := by
  have c1 : ¬ nI d < 0 := nI_pos (by omega)
  have c2 : ¬ (10 : Int32) < nI d := nI_nlt (a := 10) h2 (by omega)
  unfold f_c10_isTenths
  rw [if_neg c1, if_neg c2]; rfl
theorem A_meant {p y z a b : Int32} (w : WA A) (q : CA S A) (m : MA S A c) (hN : 900 ≤ N) : Agr L S c (f_c10_meant N 10 p y z a b) (f_c11_meant N 144 p y z a b) := by
  obtain ⟨g, v, x, l, u, n, k, h⟩ := A
  have n10 : ¬ (1 : Int32) = 0 := by decide
  rcases (show (p < 0 ∨ (¬ p < 0 ∧ ¬ p ≤ 10)) ∨ ∃ d, 0 ≤ d ∧ d ≤ 10 ∧ p = nI d from cas p 0 10 (by omega) (by omega)) with hp | ⟨p, -, p2, rfl⟩
  · refine AgrR w q m (r := -1) ?_ (fun T _ t1 => ?_)
    · unfold f_c10_meant
      rw [zc10, Option.bind_some, C_ten_f hp, Option.bind_some, if_pos rfl]
    · unfold f_c11_meant
      rw [zc144, Option.bind_some, zs144_10, Option.bind_some, M_inF (N := N) hp, Option.bind_some, if_pos rfl]
  have ip : ∀ T : gS, f_c11_in N (nI p) 0 10 (mk L T) = some 1 := fun T => M_inT (lo := 0) (hi := 10) (by omega) p2 (by omega)
  rcases (show (y < 0 ∨ (¬ y < 0 ∧ ¬ y ≤ 10)) ∨ ∃ d, 0 ≤ d ∧ d ≤ 10 ∧ y = nI d from cas y 0 10 (by omega) (by omega)) with hy | ⟨y, -, y2, rfl⟩
  · refine AgrR w q m (r := -1) ?_ (fun T _ t1 => ?_)
    · unfold f_c10_meant
      rw [zc10, Option.bind_some, C_ten_t p2, Option.bind_some, if_neg n10, C_ten_f hy, Option.bind_some, if_pos rfl]
    · unfold f_c11_meant
      rw [zc144, Option.bind_some, zs144_10, Option.bind_some, ip, Option.bind_some, if_neg n10, M_inF (N := N) hy, Option.bind_some, if_pos rfl]
  have iy : ∀ T : gS, f_c11_in N (nI y) 0 10 (mk L T) = some 1 := fun T => M_inT (lo := 0) (hi := 10) (by omega) y2 (by omega)
  rcases (show (z < 0 ∨ (¬ z < 0 ∧ ¬ z ≤ 10)) ∨ ∃ d, 0 ≤ d ∧ d ≤ 10 ∧ z = nI d from cas z 0 10 (by omega) (by omega)) with hz | ⟨z, -, z2, rfl⟩
  · refine AgrR w q m (r := -1) ?_ (fun T _ t1 => ?_)
    · unfold f_c10_meant
      rw [zc10, Option.bind_some, C_ten_t p2, Option.bind_some, if_neg n10, C_ten_t y2, Option.bind_some, if_neg n10, C_ten_f hz, Option.bind_some, if_pos rfl]
    · unfold f_c11_meant
      rw [zc144, Option.bind_some, zs144_10, Option.bind_some, ip, Option.bind_some, if_neg n10, iy, Option.bind_some, if_neg n10, M_inF (N := N) hz, Option.bind_some, if_pos rfl]
  have iz : ∀ T : gS, f_c11_in N (nI z) 0 10 (mk L T) = some 1 := fun T => M_inT (lo := 0) (hi := 10) (by omega) z2 (by omega)
  rcases (show (a < 0 ∨ (¬ a < 0 ∧ ¬ a ≤ 7)) ∨ ∃ d, 0 ≤ d ∧ d ≤ 7 ∧ a = nI d from cas a 0 7 (by omega) (by omega)) with ha | ⟨a, -, a2, rfl⟩
  · refine AgrR w q m (r := -1) ?_ (fun T _ t1 => ?_)
    · unfold f_c10_meant
      rw [zc10, Option.bind_some, C_ten_t p2, Option.bind_some, if_neg n10, C_ten_t y2, Option.bind_some, if_neg n10, C_ten_t z2, Option.bind_some, if_neg n10]
      rcases ha with ha | ⟨h1, ha⟩
      · rw [if_pos ha]
      · rw [if_neg h1, if_pos (i32_nle ha)]
    · unfold f_c11_meant
      rw [zc144, Option.bind_some, zs144_10, Option.bind_some, ip, Option.bind_some, if_neg n10, iy, Option.bind_some, if_neg n10, iz, Option.bind_some, if_neg n10, M_inF (N := N) ha, Option.bind_some, if_pos rfl]
  have ia : ∀ T : gS, f_c11_in N (nI a) 0 7 (mk L T) = some 1 := fun T => M_inT (lo := 0) (hi := 7) (by omega) a2 (by omega)
  have a3 : ¬ nI a < 0 := nI_pos (by omega)
  have a4 : ¬ (7 : Int32) < nI a := nI_nlt (a := 7) a2 (by omega)
  rcases (show (b < 0 ∨ (¬ b < 0 ∧ ¬ b ≤ nI a)) ∨ ∃ d, 0 ≤ d ∧ d ≤ a ∧ b = nI d from cas b 0 a (by omega) (by omega)) with hb | ⟨b, -, b2, rfl⟩
  · refine AgrR w q m (r := -1) ?_ (fun T _ t1 => ?_)
    · unfold f_c10_meant
      rw [zc10, Option.bind_some, C_ten_t p2, Option.bind_some, if_neg n10, C_ten_t y2, Option.bind_some, if_neg n10, C_ten_t z2, Option.bind_some, if_neg n10, if_neg a3, if_neg a4]
      rcases hb with hb | ⟨h1, hb⟩
      · rw [if_pos hb]
      · rw [if_neg h1, if_neg hb]
    · unfold f_c11_meant
      rw [zc144, Option.bind_some, zs144_10, Option.bind_some, ip, Option.bind_some, if_neg n10, iy, Option.bind_some, if_neg n10, iz, Option.bind_some, if_neg n10, ia, Option.bind_some, if_neg n10, M_inF (N := N) hb, Option.bind_some, if_pos rfl]
  have ib : ∀ T : gS, f_c11_in N (nI b) 0 (nI a) (mk L T) = some 1 := fun T => M_inT (lo := 0) (hi := a) (by omega) b2 (by omega)
  have b3 : ¬ nI b < 0 := nI_pos (by omega)
  have b4 : nI b ≤ nI a := nI_le b2 (by omega)
  have s1 := pw_le (b := y) (i := b) (d := a - b) y2
  have s2 := pw_le (b := z) (i := b) (d := a - b) z2
  have s3 : 10 ^ (b + (a - b)) ≤ 10 ^ 7 := Nat.pow_le_pow_right (by decide) (by omega)
  have s4 : p * (y ^ b * (10 - y) ^ (a - b)) ≤ 10 * 10 ^ 7 := Nat.mul_le_mul p2 (by omega)
  have s5 : (10 - p) * (z ^ b * (10 - z) ^ (a - b)) ≤ 10 * 10 ^ 7 := Nat.mul_le_mul (by omega) (by omega)
  have eU : ((nI p).toInt64 * lN (y ^ b)) * lN ((10 - y) ^ (a - b)) = lN (p * (y ^ b * (10 - y) ^ (a - b))) := by
    rw [nI_l (by omega), lN_mul, lN_mul, Nat.mul_assoc]
  have eV : (((10 : Int32) - nI p).toInt64 * lN (z ^ b)) * lN ((10 - z) ^ (a - b)) = lN ((10 - p) * (z ^ b * (10 - z) ^ (a - b))) := by
    rw [k10, nI_sub p2, nI_l (by omega), lN_mul, lN_mul, Nat.mul_assoc]
  generalize hU : p * (y ^ b * (10 - y) ^ (a - b)) = U at *
  generalize hV : (10 - p) * (z ^ b * (10 - z) ^ (a - b)) = V at *
  have pC : ∀ (e : Nat) (t : Nat), e ≤ 10 → t ≤ 7 → ∀ hh : gH, f_c10_power N (nI e) (nI t) hh = some (lN (e ^ t)) := fun e t h1 h2 hh => C_pw (by omega) (by omega) hN
  have pM : ∀ (e : Nat) (t : Nat), t ≤ 7 → ∀ hh : gH, f_c11_power N (lN e) (nI t) hh = some (lN (e ^ t)) := fun e t h2 hh => M_pw (by omega) hN
  have i1 : ∀ e : Nat, e ≤ 10 → (10 : Int32) - nI e = nI (10 - e) := fun e he => by rw [k10, nI_sub he]
  have i2 : nI a - nI b = nI (a - b) := nI_sub b2
  have i3 : ∀ e : Nat, e ≤ 10 → (nI e).toInt64 = lN e := fun e he => nI_l (by omega)
  have eC : ∀ hh : gH, f_c10_commonDivisor N (lN U) (lN U + lN V) hh = some (lN (Nat.gcd U (U + V))) := fun hh => by
    obtain ⟨N', hN'⟩ : ∃ N', N = N' + 2 * 28 + 1 := ⟨N - 57, by omega⟩
    have e := C_gcd (N := N) (hh := hh) 28 (U + V) U 0 (by omega) (by omega) (by omega) (by omega) N'
    rw [← hN'] at e
    unfold f_c10_commonDivisor
    rw [lN_add, ← nI_0, e, Option.bind_some]
  have eM : ∀ hh : gH, f_c11_common N (lN U) (lN U + lN V) hh = some (lN (Nat.gcd U (U + V))) := fun hh => by
    obtain ⟨N', hN'⟩ : ∃ N', N = N' + 2 * 28 + 1 := ⟨N - 57, by omega⟩
    have e := M_gcd (hh := hh) 28 U (U + V) (by omega) (by omega) (by omega) N'
    rw [← hN', Nat.gcd_comm] at e
    rw [lN_add]
    exact e
  have hC : ∀ (X : Option (Int32 × gH)), ((lN (Nat.gcd U (U + V)) = lN (Nat.gcd U (U + V))) → (if (0 : Int32) < lg_cmp (lN (Nat.gcd U (U + V))) (0 : Int64) then (gNZL (lN (Nat.gcd U (U + V)))).bind fun u17 =>
    (gNZL (lN (Nat.gcd U (U + V)))).bind fun u18 =>
    (f_c10_tellTwo N 10 (0 : Int32) (lN U / lN (Nat.gcd U (U + V))) ((lN U + lN V) / lN (Nat.gcd U (U + V))) (mk L S)).bind fun q19 =>
    some (q19.1, q19.2) else some ((-2 : Int32), mk L S)) = X) → f_c10_meant N 10 (nI p) (nI y) (nI z) (nI a) (nI b) (mk L S) = X := by
    intro X hX
    unfold f_c10_meant
    rw [zc10, Option.bind_some, C_ten_t p2, Option.bind_some, if_neg n10, C_ten_t y2, Option.bind_some, if_neg n10, C_ten_t z2, Option.bind_some, if_neg n10, if_neg a3, if_neg a4, if_neg b3, if_pos b4, i2, pC y b y2 (by omega), Option.bind_some, i1 y y2, pC (10 - y) (a - b) (by omega) (by omega), Option.bind_some, pC z b z2 (by omega), Option.bind_some, i1 z z2, pC (10 - z) (a - b) (by omega) (by omega), Option.bind_some, eU, eV, eC, Option.bind_some]
    exact hX rfl
  by_cases zz : U + V = 0
  · have z0 : Nat.gcd U (U + V) = 0 := by rw [show U = 0 by omega, show V = 0 by omega]; rfl
    refine AgrR w q m (r := -2) (hC _ (fun _ => ?_)) (fun T _ t1 => ?_)
    · rw [lg_z z0, if_neg (by decide)]
    · unfold f_c11_meant
      rw [zc144, Option.bind_some, zs144_10, Option.bind_some, ip, Option.bind_some, if_neg n10, iy, Option.bind_some, if_neg n10, iz, Option.bind_some, if_neg n10, ia, Option.bind_some, if_neg n10, ib, Option.bind_some, if_neg n10, i2, i3 y y2, pM y b (by omega), Option.bind_some, i1 y y2, i3 (10 - y) (by omega), pM (10 - y) (a - b) (by omega), Option.bind_some, i3 z z2, pM z b (by omega), Option.bind_some, i1 z z2, i3 (10 - z) (by omega), pM (10 - z) (a - b) (by omega), Option.bind_some, eU, eV, lN_add, lg_z zz, if_pos rfl]
  · have zp : 0 < Nat.gcd U (U + V) := Nat.gcd_pos_of_pos_right _ (by omega)
    have zl : Nat.gcd U (U + V) ≤ U + V := Nat.gcd_le_right _ (by omega)
    obtain ⟨S2, e2, q2, f2⟩ := C_tell2A (L := L) (N := N) (r := 0) (y := lN U / lN (Nat.gcd U (U + V))) (z := (lN U + lN V) / lN (Nat.gcd U (U + V))) q
    refine AgrI (c' := c) m (r := 0) (S1 := S2) (hC _ (fun _ => ?_)) f2 q2 (w.rw (by show 2 ≤ 8; omega)) (by omega) (fun T mt => ?_)
    · rw [lg_p zp (by omega), if_pos (by decide), gNZL_p zp (by omega), Option.bind_some, Option.bind_some, e2, Option.bind_some]
    · have t1 := mt.thr
      obtain ⟨T1, g1, t2, h1, k1'⟩ := M_t1 (L := L) (N := N) (y := lN U / lN (Nat.gcd U (U + V))) t1
      obtain ⟨T2, g2, t3, h2, k2'⟩ := M_t2 (L := L) (N := N) (z := (lN U + lN V) / lN (Nat.gcd U (U + V))) t2
      refine ⟨T2, ?_, highTr thrH (highTr h1 h2), t3⟩
      have hz : ¬ lg_cmp (lN U + lN V) (0 : Int64) = 0 := by
        rw [lN_add, lg_p (by omega) (by omega)]
        decide
      unfold f_c11_meant
      rw [zc144, Option.bind_some, zs144_10, Option.bind_some, ip, Option.bind_some, if_neg n10, iy, Option.bind_some, if_neg n10, iz, Option.bind_some, if_neg n10, ia, Option.bind_some, if_neg n10, ib, Option.bind_some, if_neg n10, i2, i3 y y2, pM y b (by omega), Option.bind_some, i1 y y2, i3 (10 - y) (by omega), pM (10 - y) (a - b) (by omega), Option.bind_some, i3 z z2, pM z b (by omega), Option.bind_some, i1 z z2, i3 (10 - z) (by omega), pM (10 - z) (a - b) (by omega), Option.bind_some, eU, eV, if_neg hz, eM, Option.bind_some, zs144_9, Option.bind_some, gNZL_p zp (by omega), Option.bind_some, g1, Option.bind_some, Option.bind_some, g2, Option.bind_some]
end MEANT
