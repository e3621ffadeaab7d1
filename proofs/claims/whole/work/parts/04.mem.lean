section GMEM
variable {M : gM} {X : gX} {own : String} {cc : ByteArray} {nL : Nat} {R : Room} {cs sl pc pc' : Nat} {ls : List (Nat × Value)} {rest : List Value} {h : gH}
theorem gfI_spec {a c k : Nat} {x : Int32} (e : gfI h a c k = some x) : gf h a c k = some (.int x) := by
  unfold gfI at e
  split at e
  · rename_i y hy; cases e; exact hy
  · cases e
theorem gfR_spec {a c k : Nat} {x : Nat} (e : gfR h a c k = some x) : gf h a c k = some (.ref x) := by
  unfold gfR at e
  split at e
  · rename_i y hy; cases e; exact hy
  · cases e
theorem gf_spec {a c k : Nat} {v : Value} (e : gf h a c k = some v) : ∃ fs, h[a]? = some (.inr (c, fs)) ∧ fs[k]? = some v := by
  unfold gf at e
  split at e
  · rename_i c' fs hy
    split at e
    · rename_i q; subst q; exact ⟨fs, hy, e⟩
    · cases e
  · cases e
theorem sf_spec {a c k : Nat} {v : Value} {h' : gH} (e : sf h a c k v = some h') : ∃ fs, h[a]? = some (.inr (c, fs)) ∧ k < fs.length ∧ h' = h.set a (.inr (c, fs.set k v)) := by
  unfold sf at e
  split at e
  · rename_i c' fs hy
    split at e
    · rename_i q; obtain ⟨rfl, q⟩ := q; cases e; exact ⟨fs, hy, q, rfl⟩
    · cases e
  · cases e
theorem ga_spec {t a : Nat} {i x : Int32} (e : ga t h a i = some x) : ∃ n f, h[a]? = some (.inl (t, n, .inl f)) ∧ vp_in i n ∧ x = f i.toNatClampNeg := by
  unfold ga at e
  split at e
  · rename_i t' n f hy
    split at e
    · rename_i q; obtain ⟨rfl, q⟩ := q; cases e; exact ⟨n, f, hy, vinb_in q, rfl⟩
    · cases e
  · cases e
theorem gaL_spec {a : Nat} {i : Int32} {x : Int64} (e : gaL h a i = some x) : ∃ n f, h[a]? = some (.inl (4, n, .inr (.inl f))) ∧ vp_in i n ∧ x = f i.toNatClampNeg := by
  unfold gaL at e
  split at e
  · rename_i t' n f hy
    split at e
    · rename_i q; obtain ⟨rfl, q⟩ := q; cases e; exact ⟨n, f, hy, vinb_in q, rfl⟩
    · cases e
  · cases e
theorem gaR_spec {a x : Nat} {i : Int32} (e : gaR h a i = some x) : ∃ n f, h[a]? = some (.inl (5, n, .inr (.inr (.inr (.inr f))))) ∧ vp_in i n ∧ f i.toNatClampNeg = some x := by
  unfold gaR at e
  split at e
  · rename_i t' n f hy
    split at e
    · rename_i q; obtain ⟨rfl, q⟩ := q; exact ⟨n, f, hy, vinb_in q, e⟩
    · cases e
  · cases e
theorem sa_spec {t a : Nat} {i x : Int32} {h' : gH} (e : sa t h a i x = some h') : ∃ n f, h[a]? = some (.inl (t, n, .inl f)) ∧ vp_in i n ∧ h' = h.set a (.inl (t, n, .inl (upd f i.toNatClampNeg x))) := by
  unfold sa at e
  split at e
  · rename_i t' n f hy
    split at e
    · rename_i q; obtain ⟨rfl, q⟩ := q; cases e; exact ⟨n, f, hy, vinb_in q, rfl⟩
    · cases e
  · cases e
theorem saL_spec {a : Nat} {i : Int32} {x : Int64} {h' : gH} (e : saL h a i x = some h') : ∃ n f, h[a]? = some (.inl (4, n, .inr (.inl f))) ∧ vp_in i n ∧ h' = h.set a (.inl (4, n, .inr (.inl (vp_updL f i.toNatClampNeg x)))) := by
  unfold saL at e
  split at e
  · rename_i t' n f hy
    split at e
    · rename_i q; obtain ⟨rfl, q⟩ := q; cases e; exact ⟨n, f, hy, vinb_in q, rfl⟩
    · cases e
  · cases e
theorem saR_spec {a x : Nat} {i : Int32} {h' : gH} (e : saR h a i x = some h') : ∃ n f vs, h[a]? = some (.inl (5, n, .inr (.inr (.inr (.inr f))))) ∧ h[x]? = some (.inr (7, vs)) ∧ vp_in i n ∧ h' = h.set a (.inl (5, n, .inr (.inr (.inr (.inr (va_up f i.toNatClampNeg (some x))))))) := by
  unfold saR at e
  split at e
  · rename_i t' n f vs hy hz
    split at e
    · rename_i q; obtain ⟨rfl, q⟩ := q; cases e; exact ⟨n, f, vs, hy, hz, vinb_in q, rfl⟩
    · cases e
  · cases e
theorem gn_spec {a : Nat} {x : Int32} (e : gn h a = some x) : ∃ t n z, h[a]? = some (.inl (t, n, z)) ∧ (t < 6 ∨ (t = 7 ∧ a = 1) ∨ (t = 8 ∧ 6 ≤ a ∧ a < 10)) ∧ x = Int32.ofNat n := by
  unfold gn at e
  split at e
  · rename_i t n z hy
    split at e
    · rename_i q; cases e; exact ⟨t, n, z, hy, q, rfl⟩
    · cases e
  · cases e
theorem gZ_spec {v w : Int32} (e : gZ v = some w) : v = w ∧ (w = 0 ∨ w = 1) := by
  unfold gZ at e
  split at e
  · rename_i q; cases e; exact ⟨rfl, q⟩
  · cases e
-- ===== fields =====
def gFl (own : String) (idx ci k : Nat) : Prop := ∃ (C : String) (T : u_T) (N : Nat), gCl[ci]? = some (C, T, N) ∧ (∀ w ∈ u_ws C T N, w ∈ gTk) ∧ k < N ∧ (T k).1 = C ∧
  (Cond.fieldLink own idx C (T k).2.1 (T k).2.2.1 ∈ gTk ∨ ∃ host, Cond.fieldLinkNest own idx C (T k).2.1 (T k).2.2.1 host ∈ gNk)
def gFp (own : String) (idx ci k : Nat) (ty : FieldType) : Prop := ∃ (C : String) (T : u_T) (N : Nat) (ty0 : Nat → FieldType), gCl[ci]? = some (C, T, N) ∧ (∀ w ∈ u_ws C T N, w ∈ gTk) ∧ k < N ∧ (T k).1 = C ∧
  (Cond.fieldLink own idx C (T k).2.1 (T k).2.2.1 ∈ gTk ∨ ∃ host, Cond.fieldLinkNest own idx C (T k).2.1 (T k).2.2.1 host ∈ gNk) ∧
  (∀ k, k < N → parseFieldDescriptor (T k).2.2.1 = some (ty0 k)) ∧ (∀ a, a < N → ∀ b, b < N → a ≠ b → (T a).2.1 ≠ (T b).2.1) ∧ parseFieldDescriptor (T k).2.2.1 = some ty ∧ (T k).2.2.2 = false
theorem g_get {ci k idx a : Nat} {v : Value} (K : gC M X own cc nL R) (L : gFl own idx ci k) (hd : gD cc pc (.getfield idx) 3 pc') (e : gf h a ci k = some v) (kk : gG M X nL cs sl pc' ls (v :: rest) h) : gG M X nL cs sl pc ls (.ref a :: rest) h := by
  obtain ⟨hd, rfl⟩ := hd
  obtain ⟨fs, ha, hv⟩ := gf_spec e
  obtain ⟨C, T, N, hc, hin, hk, hC, hl⟩ := L
  intro H locs ls' hR hl2
  have h2 := gSp_2o hR.2.2.2 ha
  have he := gWs_at (X := X) ha h2
  have hv' : (fs.map (gV X))[k]? = some (gV X v) := by rw [List.getElem?_map, hv]; rfl
  rcases hl with hl | ⟨host, hl⟩
  · exact va_get K.1 K.2.1 K.2.2.2.2.1 hin K.2.2.2.1 K.2.2.2.2.2.1 hR.1 (a - 10) he hc k hk (K.2.2.2.2.1 _ hl) (fun x hx => by rw [← hC]; exact hx) hv' hd (kk H locs ls' hR hl2)
  · exact va_getN K.1 K.2.1 K.2.2.2.2.1 hin K.2.2.2.1 K.2.2.2.2.2.1 hR.1 (a - 10) he hc k hk (va_Nw.use rfl (K.2.2.2.2.2.2.2.2.2.2.2.2.2.2.2.2.1 _ hl)) (fun x hx => by rw [← hC]; exact hx) hv' hd (kk H locs ls' hR hl2)
theorem g_getI {ci k idx a : Nat} {v : Int32} (K : gC M X own cc nL R) (L : gFl own idx ci k) (hd : gD cc pc (.getfield idx) 3 pc') (e : gfI h a ci k = some v) (kk : gG M X nL cs sl pc' ls (.int v :: rest) h) : gG M X nL cs sl pc ls (.ref a :: rest) h := g_get K L hd (gfI_spec e) kk
theorem g_getR {ci k idx a v : Nat} (K : gC M X own cc nL R) (L : gFl own idx ci k) (hd : gD cc pc (.getfield idx) 3 pc') (e : gfR h a ci k = some v) (kk : gG M X nL cs sl pc' ls (.ref v :: rest) h) : gG M X nL cs sl pc ls (.ref a :: rest) h := g_get K L hd (gfR_spec e) kk
theorem gR_set {s : State} {a : Nat} {c : gMC} {H H1 : Heap} {locs locs1 : List Loc} (hR : gR X s cs h H locs) (h2 : 10 ≤ a) (hP : va_P X.2.2.2.1 gCl ((gWs X h).set (a - 10) (gAd X a, gT X c)) H1) (hS : va_S (gA X) s.heap H1 locs1) : gR X s cs (h.set a c) H1 locs1 := by
  refine ⟨by rw [gWs_set h2]; exact hP, hS, fun q => ?_, gSp_set hR.2.2.2 h2⟩
  rw [List.length_set]
  exact hR.2.2.1 q
theorem g_put {ci k idx a : Nat} {ty : FieldType} {v : Value} {h' : gH} (K : gC M X own cc nL R) (L : gFp own idx ci k ty) (hd : gD cc pc (.putfield idx) 3 pc') (e : sf h a ci k v = some h') (hn : narrow ty (gV X v) = gV X v) (hf : fits ty (gV X v) = true) (kk : gG M X nL cs sl pc' ls rest h') : gG M X nL cs sl pc ls (v :: .ref a :: rest) h := by
  obtain ⟨hd, rfl⟩ := hd
  obtain ⟨fs, ha, hlt, rfl⟩ := sf_spec e
  obtain ⟨C, T, N, ty0, hc, hin, hk, hC, hl, hty, hnm, hdd, hfin⟩ := L
  intro H locs ls' hR hl2
  have h2 := gSp_2o hR.2.2.2 ha
  have he := gWs_at (X := X) ha h2
  have hlen : k < (fs.map (gV X)).length := by rw [List.length_map]; exact hlt
  have hset : (fs.set k v).map (gV X) = (fs.map (gV X)).set k (gV X v) := List.map_set
  rcases hl with hl | ⟨host, hl⟩
  · exact va_put K.1 K.2.1 K.2.2.2.2.1 hin ty0 hty hnm K.2.2.2.1 K.2.2.2.2.2.1 hR.1 gD_of hR.2.1 (a - 10) he hc k hk (K.2.2.2.2.1 _ hl) (fun x hx => by rw [← hC]; exact hx) hfin hdd hn hf hlen hd (fun H1 locs1 hP hD hS => kk H1 locs1 ls' (gR_set hR h2 (by show va_P _ _ ((gWs X h).set (a - 10) (gAd X a, .inr (ci, (fs.set k v).map (gV X)))) H1; rw [hset]; exact hP) hS) hl2)
  · exact va_putN K.1 K.2.1 K.2.2.2.2.1 hin ty0 hty hnm K.2.2.2.1 K.2.2.2.2.2.1 hR.1 gD_of hR.2.1 (a - 10) he hc k hk (va_Nw.use rfl (K.2.2.2.2.2.2.2.2.2.2.2.2.2.2.2.2.1 _ hl)) (fun x hx => by rw [← hC]; exact hx) hfin hdd hn hf hlen hd (fun H1 locs1 hP hD hS => kk H1 locs1 ls' (gR_set hR h2 (by show va_P _ _ ((gWs X h).set (a - 10) (gAd X a, .inr (ci, (fs.set k v).map (gV X)))) H1; rw [hset]; exact hP) hS) hl2)
theorem g_putI {ci k idx a : Nat} {v : Int32} {h' : gH} (K : gC M X own cc nL R) (L : gFp own idx ci k .int) (hd : gD cc pc (.putfield idx) 3 pc') (e : sf h a ci k (.int v) = some h') (kk : gG M X nL cs sl pc' ls rest h') : gG M X nL cs sl pc ls (.int v :: .ref a :: rest) h := g_put K L hd e rfl rfl kk
theorem g_putZ {ci k idx a : Nat} {v w : Int32} {h' : gH} (K : gC M X own cc nL R) (L : gFp own idx ci k .boolean) (hd : gD cc pc (.putfield idx) 3 pc') (z : gZ v = some w) (e : sf h a ci k (.int w) = some h') (kk : gG M X nL cs sl pc' ls rest h') : gG M X nL cs sl pc ls (.int v :: .ref a :: rest) h := by
  obtain ⟨rfl, z⟩ := gZ_spec z
  rcases z with rfl | rfl
  · exact g_put K L hd e rfl rfl kk
  · exact g_put K L hd e rfl rfl kk
theorem g_putR {ci k idx a v : Nat} {ty : FieldType} {h' : gH} (K : gC M X own cc nL R) (L : gFp own idx ci k ty) (hd : gD cc pc (.putfield idx) 3 pc') (hn : ∀ b : Nat, narrow ty (.ref b) = .ref b) (hf : ∀ b : Nat, fits ty (.ref b) = true) (e : sf h a ci k (.ref v) = some h') (kk : gG M X nL cs sl pc' ls rest h') : gG M X nL cs sl pc ls (.ref v :: .ref a :: rest) h := g_put K L hd e (hn _) (hf _) kk
-- ===== arrays =====
theorem g_iald {a : Nat} {i v : Int32} (K : gC M X own cc nL R) (hd : gD cc pc .iaload 1 pc') (e : ga 0 h a i = some v) (kk : gG M X nL cs sl pc' ls (.int v :: rest) h) : gG M X nL cs sl pc ls (.int i :: .ref a :: rest) h := by
  obtain ⟨hd, rfl⟩ := hd
  obtain ⟨n, f, ha, hin, rfl⟩ := ga_spec e
  intro H locs ls' hR hl
  exact va_iald K.1 K.2.1 K.2.2.2.2.2.1 hR.1 (a - 10) 0 (gWs_at (X := X) ha (gSp_2 hR.2.2.2 ha (by omega))) rfl hin hd (kk H locs ls' hR hl)
theorem g_bald {a : Nat} {i v : Int32} (K : gC M X own cc nL R) (hd : gD cc pc .baload 1 pc') (e : gaB h a i = some v) (kk : gG M X nL cs sl pc' ls (.int v :: rest) h) : gG M X nL cs sl pc ls (.int i :: .ref a :: rest) h := by
  obtain ⟨hd, rfl⟩ := hd
  unfold gaB at e
  split at e
  · rename_i x hx
    cases e
    obtain ⟨n, f, ha, hin, rfl⟩ := ga_spec hx
    intro H locs ls' hR hl
    exact va_bald K.1 K.2.1 K.2.2.2.2.2.1 hR.1 (a - 10) 1 (gWs_at (X := X) ha (gSp_2 hR.2.2.2 ha (by omega))) rfl hin hd (kk H locs ls' hR hl)
  · split at e
    · rename_i x hx
      cases e
      obtain ⟨n, f, ha, hin, rfl⟩ := ga_spec hx
      intro H locs ls' hR hl
      exact va_zald K.1 K.2.1 K.2.2.2.2.2.1 hR.1 (a - 10) 2 (gWs_at (X := X) ha (gSp_2 hR.2.2.2 ha (by omega))) rfl hin hd (kk H locs ls' hR hl)
    · split at e
      · rename_i q
        obtain ⟨n, f, ha, hin, rfl⟩ := ga_spec e
        intro H locs ls' hR hl
        have h1 := hR.2.2.2.2.2.2 (a - 6) (by omega)
        rw [show 6 + (a - 6) = a by omega, ha] at h1
        cases h1
        obtain ⟨cell, c1, c2, c3, c4, c5, c6, c7⟩ := ((K.2.2.2.2.2.2.2.2.2.2.2.2.2.1).1 (a - 6) (by omega)).2.2.2.kept (fun q h1 h2 => hR.2.1.2.1 q h1 h2)
        have had : gAd X a = X.2.2.2.2.2.2.2.1 (a - 6) := by unfold gAd; rw [if_neg (by omega), if_neg (by omega), if_neg (by omega), if_pos (by omega)]
        have hlt : i.toNatClampNeg < gTl (a - 6) := Nat.not_le.mp fun q => hin (Or.inr q)
        have h0 : ¬ i < 0 := fun q => hin (Or.inl q)
        rw [← had] at c1
        exact W.bald K.1 K.2.1 c1 c2 c3 (by rintro (q | q); exact h0 q; exact absurd (Nat.lt_of_lt_of_le hlt c4) (Nat.not_lt.mpr q)) (c6 _ hlt) rfl rfl hd (kk H locs ls' hR hl)
      · cases e
theorem g_lald {a : Nat} {i : Int32} {v : Int64} (K : gC M X own cc nL R) (hd : gD cc pc .laload 1 pc') (e : gaL h a i = some v) (kk : gG M X nL cs sl pc' ls (.long v :: rest) h) : gG M X nL cs sl pc ls (.int i :: .ref a :: rest) h := by
  obtain ⟨hd, rfl⟩ := hd
  obtain ⟨n, f, ha, hin, rfl⟩ := gaL_spec e
  intro H locs ls' hR hl
  exact va_lald K.1 K.2.1 K.2.2.2.2.2.1 hR.1 (a - 10) 4 (gWs_at (X := X) ha (gSp_2 hR.2.2.2 ha (by omega))) rfl hin hd (kk H locs ls' hR hl)
theorem g_aald {a v : Nat} {i : Int32} (K : gC M X own cc nL R) (hd : gD cc pc .aaload 1 pc') (e : gaR h a i = some v) (kk : gG M X nL cs sl pc' ls (.ref v :: rest) h) : gG M X nL cs sl pc ls (.int i :: .ref a :: rest) h := by
  obtain ⟨hd, rfl⟩ := hd
  obtain ⟨n, f, ha, hin, hv⟩ := gaR_spec e
  intro H locs ls' hR hl
  refine va_aldq (f := fun j => (f j).map (gAd X)) K.1 K.2.1 K.2.2.2.2.2.1 hR.1 (a - 10) 5 (gWs_at (X := X) ha (gSp_2 hR.2.2.2 ha (by omega))) rfl hin hd ?_
  rw [hv]
  exact kk H locs ls' hR hl
theorem g_cald {a : Nat} {i v : Int32} (K : gC M X own cc nL R) (hd : gD cc pc .caload 1 pc') (e : gaC h a i = some v) (kk : gG M X nL cs sl pc' ls (.int v :: rest) h) : gG M X nL cs sl pc ls (.int i :: .ref a :: rest) h := by
  obtain ⟨hd, rfl⟩ := hd
  unfold gaC at e
  split at e
  · rename_i x hx
    cases e
    obtain ⟨n, f, ha, hin, rfl⟩ := ga_spec hx
    intro H locs ls' hR hl
    exact va_cald K.1 K.2.1 K.2.2.2.2.2.1 hR.1 (a - 10) 3 (gWs_at (X := X) ha (gSp_2 hR.2.2.2 ha (by omega))) rfl hin hd (kk H locs ls' hR hl)
  · split at e
    · rename_i q
      subst q
      obtain ⟨n, f, ha, hin, rfl⟩ := ga_spec e
      intro H locs ls' hR hl
      have h1 := hR.2.2.2.2.1
      rw [ha] at h1
      cases h1
      have hT := K.2.2.2.2.2.2.2.2.2.2.2.1
      obtain ⟨cell, c1, c2, c3, c4, c5, c6, c7⟩ := hT.kept (fun q h1 h2 => hR.2.1.2.1 q h1 h2)
      have hlt : i.toNatClampNeg < 5 := Nat.not_le.mp fun q => hin (Or.inr q)
      have h0 : ¬ i < 0 := fun q => hin (Or.inl q)
      exact W.cald K.1 K.2.1 c1 c2 c3 (by rintro (q | q); exact h0 q; omega) (c6 _ hlt) rfl rfl hd (kk H locs ls' hR hl)
    · cases e
theorem g_alen {a : Nat} {v : Int32} (K : gC M X own cc nL R) (hd : gD cc pc .arraylength 1 pc') (e : gn h a = some v) (kk : gG M X nL cs sl pc' ls (.int v :: rest) h) : gG M X nL cs sl pc ls (.ref a :: rest) h := by
  obtain ⟨hd, rfl⟩ := hd
  obtain ⟨t, n, z, ha, ht, rfl⟩ := gn_spec e
  intro H locs ls' hR hl
  rcases ht with ht | ⟨rfl, rfl⟩ | ⟨rfl, q6, q10⟩
  · have h2 := gSp_2 hR.2.2.2 ha ht
    have hw := gWs_at (X := X) ha h2
    have hz : (gTA X (n, z)).1 = n := by rcases z with z | z | z | z | z <;> rfl
    have hq : ∃ ty, (gTys X)[t]? = some (X.2.2.2.2.1 t, ty) := by
      match t, ht with
      | 0, _ => exact ⟨_, rfl⟩
      | 1, _ => exact ⟨_, rfl⟩
      | 2, _ => exact ⟨_, rfl⟩
      | 3, _ => exact ⟨_, rfl⟩
      | 4, _ => exact ⟨_, rfl⟩
      | 5, _ => exact ⟨_, rfl⟩
    obtain ⟨ty, hq⟩ := hq
    exact va_alen K.1 K.2.1 K.2.2.2.2.2.1 hR.1 (a - 10) t hw hq (by rw [hz]) hd (kk H locs ls' hR hl)
  · have h1 := hR.2.2.2.2.1
    rw [ha] at h1
    cases h1
    have hT := K.2.2.2.2.2.2.2.2.2.2.2.1
    obtain ⟨cell, c1, c2, c3, c4, c5, c6, c7⟩ := hT.kept (fun q h1 h2 => hR.2.1.2.1 q h1 h2)
    exact W.alen K.1 K.2.1 c1 c2 c5 rfl rfl hd (kk H locs ls' hR hl)
  · have h1 := hR.2.2.2.2.2.2 (a - 6) (by omega)
    rw [show 6 + (a - 6) = a by omega, ha] at h1
    cases h1
    obtain ⟨cell, c1, c2, c3, c4, c5, c6, c7⟩ := ((K.2.2.2.2.2.2.2.2.2.2.2.2.2.1).1 (a - 6) (by omega)).2.2.2.kept (fun q h1 h2 => hR.2.1.2.1 q h1 h2)
    have had : gAd X a = X.2.2.2.2.2.2.2.1 (a - 6) := by unfold gAd; rw [if_neg (by omega), if_neg (by omega), if_neg (by omega), if_pos (by omega)]
    rw [← had] at c1
    exact W.alen K.1 K.2.1 c1 c2 c5 rfl rfl hd (kk H locs ls' hR hl)
theorem g_iast {a : Nat} {i x : Int32} {h' : gH} (K : gC M X own cc nL R) (hd : gD cc pc .iastore 1 pc') (e : sa 0 h a i x = some h') (kk : gG M X nL cs sl pc' ls rest h') : gG M X nL cs sl pc ls (.int x :: .int i :: .ref a :: rest) h := by
  obtain ⟨hd, rfl⟩ := hd
  obtain ⟨n, f, ha, hin, rfl⟩ := sa_spec e
  intro H locs ls' hR hl
  have h2 := gSp_2 hR.2.2.2 ha (by omega)
  exact va_iast K.1 K.2.1 K.2.2.2.2.2.1 hR.1 gD_of hR.2.1 (a - 10) 0 (gWs_at (X := X) ha h2) rfl hin hd (fun H1 locs1 hP hD hS => kk H1 locs1 ls' (gR_set hR h2 hP hS) hl)
theorem g_bast {a : Nat} {i x : Int32} {h' : gH} (K : gC M X own cc nL R) (hd : gD cc pc .bastore 1 pc') (e : saB h a i x = some h') (kk : gG M X nL cs sl pc' ls rest h') : gG M X nL cs sl pc ls (.int x :: .int i :: .ref a :: rest) h := by
  obtain ⟨hd, rfl⟩ := hd
  unfold saB at e
  split at e
  · rename_i y hx
    cases e
    obtain ⟨n, f, ha, hin, rfl⟩ := sa_spec hx
    intro H locs ls' hR hl
    have h2 := gSp_2 hR.2.2.2 ha (by omega)
    exact va_bast K.1 K.2.1 K.2.2.2.2.2.1 hR.1 gD_of hR.2.1 (a - 10) 1 (gWs_at (X := X) ha h2) rfl hin hd (fun H1 locs1 hP hD hS => kk H1 locs1 ls' (gR_set hR h2 hP hS) hl)
  · obtain ⟨n, f, ha, hin, rfl⟩ := sa_spec e
    intro H locs ls' hR hl
    have h2 := gSp_2 hR.2.2.2 ha (by omega)
    exact va_zast K.1 K.2.1 K.2.2.2.2.2.1 hR.1 gD_of hR.2.1 (a - 10) 2 (gWs_at (X := X) ha h2) rfl hin hd (fun H1 locs1 hP hD hS => kk H1 locs1 ls' (gR_set hR h2 hP hS) hl)
theorem g_cast {a : Nat} {i x : Int32} {h' : gH} (K : gC M X own cc nL R) (hd : gD cc pc .castore 1 pc') (e : sa 3 h a i (vp_nar .char x) = some h') (kk : gG M X nL cs sl pc' ls rest h') : gG M X nL cs sl pc ls (.int x :: .int i :: .ref a :: rest) h := by
  obtain ⟨hd, rfl⟩ := hd
  obtain ⟨n, f, ha, hin, rfl⟩ := sa_spec e
  intro H locs ls' hR hl
  have h2 := gSp_2 hR.2.2.2 ha (by omega)
  exact va_cast K.1 K.2.1 K.2.2.2.2.2.1 hR.1 gD_of hR.2.1 (a - 10) 3 (gWs_at (X := X) ha h2) rfl hin hd (fun H1 locs1 hP hD hS => kk H1 locs1 ls' (gR_set hR h2 hP hS) hl)
theorem g_last {a : Nat} {i : Int32} {x : Int64} {h' : gH} (K : gC M X own cc nL R) (hd : gD cc pc .lastore 1 pc') (e : saL h a i x = some h') (kk : gG M X nL cs sl pc' ls rest h') : gG M X nL cs sl pc ls (.long x :: .int i :: .ref a :: rest) h := by
  obtain ⟨hd, rfl⟩ := hd
  obtain ⟨n, f, ha, hin, rfl⟩ := saL_spec e
  intro H locs ls' hR hl
  have h2 := gSp_2 hR.2.2.2 ha (by omega)
  exact va_last K.1 K.2.1 K.2.2.2.2.2.1 hR.1 gD_of hR.2.1 (a - 10) 4 (gWs_at (X := X) ha h2) rfl hin hd (fun H1 locs1 hP hD hS => kk H1 locs1 ls' (gR_set hR h2 hP hS) hl)
theorem g_aast {a v : Nat} {i : Int32} {h' : gH} (K : gC M X own cc nL R) (hd : gD cc pc .aastore 1 pc') (e : saR h a i v = some h') (kk : gG M X nL cs sl pc' ls rest h') : gG M X nL cs sl pc ls (.ref v :: .int i :: .ref a :: rest) h := by
  obtain ⟨hd, rfl⟩ := hd
  obtain ⟨n, f, vs, ha, hv, hin, rfl⟩ := saR_spec e
  intro H locs ls' hR hl
  have h2 := gSp_2 hR.2.2.2 ha (by omega)
  have h3 := gSp_2o hR.2.2.2 hv
  have hfun : (fun j => (va_up f i.toNatClampNeg (some v) j).map (gAd X)) = va_up (fun j => (f j).map (gAd X)) i.toNatClampNeg (some (gAd X v)) := by
    funext j
    unfold va_up
    split <;> rfl
  exact va_astq K.1 K.2.1 K.2.2.2.2.2.1 hR.1 gD_of hR.2.1 (a - 10) 5 (v - 10) 7 (gWs_at (X := X) ha h2) rfl (gWs_at (X := X) hv h3) rfl hin hd (fun H1 locs1 hP hD hS => kk H1 locs1 ls' (gR_set hR h2 (by
    show va_P _ _ ((gWs X h).set (a - 10) (gAd X a, .inl (_, n, .inr (.inr (.inr (.inr (fun j => (va_up f i.toNatClampNeg (some v) j).map (gAd X)))))))) H1
    rw [hfun]; exact hP) hS) hl)
theorem g_lcmp {x y : Int64} (K : gC M X own cc nL R) (hd : gD cc pc .lcmp 1 pc') (k : gG M X nL cs sl pc' ls (.int (lg_cmp x y) :: rest) h) : gG M X nL cs sl pc ls (.long y :: .long x :: rest) h := by
  obtain ⟨hd, rfl⟩ := hd
  exact fun H locs ls' hR hl => W.lcmp K.1 K.2.1 hd (k H locs ls' hR hl)
theorem gclS_spec {a : Nat} {u : Unit} (e : gclS a = some u) : 2 ≤ a ∧ a < 6 := by
  unfold gclS at e
  split at e
  · assumption
  · cases e
theorem gsV_spec {a v : Nat} (e : gsV a = some v) : 2 ≤ a ∧ a < 6 ∧ v = a + 4 := by
  unfold gsV at e
  split at e
  · rename_i q; cases e; exact ⟨q.1, q.2, rfl⟩
  · cases e
theorem gAd_s (X : gX) {a : Nat} (h1 : 2 ≤ a) (h2 : a < 6) : gAd X a = X.2.2.2.2.2.2.1 (a - 2) := by unfold gAd; rw [if_neg (by omega), if_neg (by omega), if_pos (by omega)]
theorem g_strV {a v idx : Nat} (K : gC M X own cc nL R) (hl : Cond.fieldLink own idx "java/lang/String" "value" "[B" ∈ gTk) (hd : gD cc pc (.getfield idx) 3 pc') (e : gsV a = some v) (kk : gG M X nL cs sl pc' ls (.ref v :: rest) h) : gG M X nL cs sl pc ls (.ref a :: rest) h := by
  obtain ⟨hd, rfl⟩ := hd
  obtain ⟨h1, h2, rfl⟩ := gsV_spec e
  intro H locs ls' hR hl2
  have k1 := kk H locs ls' hR hl2
  have e2 : gAd X (a + 4) = X.2.2.2.2.2.2.2.1 (a - 2) := by unfold gAd; rw [if_neg (by omega), if_neg (by omega), if_neg (by omega), if_pos (by omega)]; congr 1
  refine vk_getf (q := gAd X a) K.1 K.2.1 (by rw [gAd_s X h1 h2]; exact ((K.2.2.2.2.2.2.2.2.2.2.2.2.2.1).1 (a - 2) (by omega)).2.2.1) hR.2.1 K.2.2.2.1 (K.2.2.2.2.1 _ hl) (fun _ h => h) hd ?_
  rw [← e2]
  exact k1
theorem g_strC {a idx : Nat} {u : Unit} (K : gC M X own cc nL R) (hl : Cond.fieldLink own idx "java/lang/String" "coder" "B" ∈ gTk) (hd : gD cc pc (.getfield idx) 3 pc') (e : gclS a = some u) (kk : gG M X nL cs sl pc' ls (.int 0 :: rest) h) : gG M X nL cs sl pc ls (.ref a :: rest) h := by
  obtain ⟨hd, rfl⟩ := hd
  obtain ⟨h1, h2⟩ := gclS_spec e
  intro H locs ls' hR hl2
  exact vk_getf (q := gAd X a) K.1 K.2.1 (by rw [gAd_s X h1 h2]; exact ((K.2.2.2.2.2.2.2.2.2.2.2.2.2.1).1 (a - 2) (by omega)).2.1) hR.2.1 K.2.2.2.1 (K.2.2.2.2.1 _ hl) (fun _ h => h) hd (kk H locs ls' hR hl2)
theorem g_compact {idx : Nat} (K : gC M X own cc nL R) (hd : gD cc pc (.getstatic idx) 3 pc') (hl : Cond.fieldLink own idx "java/lang/String" "COMPACT_STRINGS" "Z" ∈ gTk) (kk : gG M X nL cs sl pc' ls (.int 1 :: rest) h) : gG M X nL cs sl pc ls rest h := by
  obtain ⟨hd, rfl⟩ := hd
  intro H locs ls' hR hl2
  exact va_gets K.1 K.2.1 K.2.2.2.2.2.2.2.2.2.2.2.2.2.2.2.1 hR.2.1 K.2.2.2.1 (K.2.2.2.2.1 _ hl) (fun _ h => h) hd (kk H locs ls' hR hl2)
theorem g_ldcwS {idx i : Nat} (K : gC M X "FullStopWells" cc nL R) (hd : gD cc pc (.ldc_w idx) 3 pc') (hi : i < 4) (hx : idx = 443 + 2 * i) (kk : gG M X nL cs sl pc' ls (.ref (i + 2) :: rest) h) : gG M X nL cs sl pc ls rest h := by
  obtain ⟨hd, rfl⟩ := hd
  subst hx
  intro H locs ls' hR hl
  have k1 := kk H locs ls' hR hl
  have hv := (K.2.2.2.2.2.2.2.2.2.2.2.2.2.2.1) i hi
  have e1 : gAd X (i + 2) = X.2.2.2.2.2.2.1 i := by rw [gAd_s X (by omega) (by omega)]; rfl
  intro T hT S
  obtain ⟨t, a1, b1⟩ := k1 T hT S
  refine ⟨t, ?_, b1⟩
  obtain ⟨k, cf, j, a', hk, hcf, hcp, -, hr, hev'⟩ := Cond.stringRef_spec K.2.2.2.1 hv.1
  cases hv.2.symm.trans hev'
  obtain ⟨k', hk', he⟩ := S.warmed.alike.2.2 _ _ hk
  have hr' : k'.resolved[443 + 2 * i]? = some (some (.string (X.2.2.2.2.2.2.1 i))) := by
    rcases S.warmed.entry hk hk' (443 + 2 * i) with h | ⟨h, -⟩
    · rw [h]; exact hr
    · rw [hr] at h; cases h
  have hb := K.2.1
  jvm_step S.here [K.1, hb, hd, ldc_w.wp_string (s := T) (f := F0 M.2.2.2.2.2.1 pc ls' (gVs X rest)) S.here.top hk' (by rw [he]; exact hcf) hcp hr']
  rw [← e1]
  exact a1
end GMEM
