section GLAW
variable {M : gM} {X : gX} {own : String} {cc : ByteArray} {nL : Nat} {cs sl pc pc' idx : Nat} {ls : List (Nat × Value)} {rest st : List Value} {h h' : gH} {D mc0 ms0 d n : Nat} {R : Room}
def gas (h : gH) (i : Int32) : Option Int32 := ga 6 h 0 i
def gsn (h : gH) : Option Int32 := match h[(0 : Nat)]? with
  | some (.inl (6, n, _)) => some (Int32.ofNat n)
  | _ => none
theorem g_sld {i v : Int32} (K : gC M X own cc nL R) (hd : gD cc pc .iaload 1 pc') (e : gas h i = some v) (kk : gG M X nL cs sl pc' ls (.int v :: rest) h) : gG M X nL cs sl pc ls (.int i :: .ref 0 :: rest) h := by
  obtain ⟨hd, rfl⟩ := hd
  obtain ⟨n, f, ha, hin, rfl⟩ := ga_spec e
  intro H locs ls' hR hl
  have h1 := hR.2.2.2.1
  rw [ha] at h1
  cases h1
  have hSt := K.2.2.2.2.2.2.2.2.2
  exact va_sld K.1 K.2.1 hSt.1 (Nat.lt_of_lt_of_le hSt.2.1 K.2.2.2.2.2.2.1) (Nat.not_le.mpr hSt.2.1) hR.2.1 hin hd (kk H locs ls' hR hl)
theorem g_slen {v : Int32} (K : gC M X own cc nL R) (hd : gD cc pc .arraylength 1 pc') (e : gsn h = some v) (kk : gG M X nL cs sl pc' ls (.int v :: rest) h) : gG M X nL cs sl pc ls (.ref 0 :: rest) h := by
  obtain ⟨hd, rfl⟩ := hd
  intro H locs ls' hR hl
  unfold gsn at e
  rw [hR.2.2.2.1] at e
  obtain rfl := Option.some.inj e
  have hSt := K.2.2.2.2.2.2.2.2.2
  exact va_slen K.1 K.2.1 hSt.1 (Nat.lt_of_lt_of_le hSt.2.1 K.2.2.2.2.2.2.1) (Nat.not_le.mpr hSt.2.1) hR.2.1 hd (kk H locs ls' hR hl)
theorem g_wid {k j : Nat} (kk : gG M X nL (cs + k) (sl + j) pc ls st h) (hx : gEx X = false) : gG M X nL cs sl pc ls st h := by
  intro H locs ls' hR hl
  exact W.widen (Nat.le_add_right _ _) (Nat.le_add_right _ _) (kk H locs ls' ⟨hR.1, hR.2.1, fun q => (by rw [hx] at q; cases q), hR.2.2.2⟩ hl)
def gLyW (y : MethodName) (b : ByteArray) (maxL : Nat) (hh : List (Nat × Nat × Nat × Nat)) (n : Nat) : Prop :=
  Cond.initialized y.cls ∈ gTk ∧ Cond.codeWith y b maxL (some .int) hh ∈ gTk ∧ Nat.ble maxL 22 = true ∧ (y.cls ≠ "java/lang/invoke/MethodHandle" ∧ y.cls ≠ "java/lang/invoke/VarHandle" ∧ (parseMethodDescriptor y.desc).map (fun d => d.parameters.length) = some n)
theorem g_callSiW {y : MethodName} {b : ByteArray} {maxL : Nat} {hh : List (Nat × Nat × Nat × Nat)} {as : List Value} {r : Int32} (K : gC M X own cc nL (gRm D mc0 ms0)) (hx : gEx X = false) (Ly : gLyW y b maxL hh n) (L : Cond.methodLink own idx y ∈ gTk ∧ Cond.static y ∈ gTk) (hd : gD cc pc (.invokestatic idx) 3 pc') (hM : gMiW M.2.1 X y b maxL hh d as h r h') (hn : as.length = n) (hst : st = as.reverse ++ rest) (hcat : (rest.map fun v => v.category).sum ≤ 8) (hdep : d + 1 ≤ D) (hf : cs + 1 ≤ mc0 ∧ sl + 6 ≤ ms0) (kk : gG M X nL (cs + 1) (sl + 6) pc' ls (.int r :: rest) h') : gG M X nL cs sl pc ls st h := by
  obtain ⟨hd, rfl⟩ := hd
  obtain ⟨p, l, e, R, s, m, args, below, meth, c, Q⟩ := M
  intro H locs ls' hR hl
  obtain ⟨hx1, hb1, hml, hown, hts, hK, hbase, hlk, hRR, hSt⟩ := K
  dsimp only at *
  subst hRR
  have hst' : (F0 m pc ls' (gVs X st)).stack = (gVs X as).reverse ++ gVs X rest := by
    show gVs X st = _
    rw [hst]; unfold gVs; rw [List.map_append, List.map_reverse]
  have hn' : (gVs X as).length = n := by unfold gVs; rw [List.length_map]; exact hn
  have hW : 2 * (F0 m pc ls' (gVs X st)).monitorRoom + ((gVs X rest).map fun v => v.category).sum ≤ 8 := lv_room (by rw [gVs_cat]; exact hcat)
  have hT : GoodIn gTk (va_wsS own idx y (.codeWith y b maxL (some .int) hh :: gTk)) := by
    intro w hw
    unfold va_wsS at hw
    simp only [List.mem_append, List.mem_cons, List.not_mem_nil, or_false] at hw
    rcases hw with (rfl | rfl | rfl) | rfl | hw
    · exact gTk_good _ L.1
    · exact gTk_good _ L.2
    · exact gTk_good _ Ly.1
    · exact gTk_good _ Ly.2.1
    · exact gTk_good _ hw
  refine va_calli (vx_runSW ⟨hx1, hb1, hml, hown, hts⟩ hM (vx_cwSW n hts hT rfl rfl rfl Ly.2.2.2 (gRoom Ly.2.2.1 hdep)) ⟨gPre_blind, fun U hU hW => ⟨rfl, gR_pre hx hbase hK hSt hR hU hW⟩⟩ rfl hn' hl.1 hst' hW hd hf) hR.2.1 (fun q _ h => h) (fun q h => h) (fun r1 u t H1 locs1 ht hvm hw hB hz hk hS => ?_)
  subst hw
  exact kk H1 locs1 ls' (gR_post hx ht hB hS) hl
end GLAW
abbrev b_lw_law : ByteArray := code
theorem lyw_lw_well : gLyW y_lw_well b_lw_well 5 [(0, 10, 13, 13)] 4 := ⟨gTk_1 0 rfl rfl, gTk_5 21 rfl rfl, rfl, by decide +kernel⟩
theorem lyw_lw_village : gLyW y_lw_village b_lw_village 5 [(0, 10, 13, 13)] 4 := ⟨gTk_1 0 rfl rfl, gTk_5 96 rfl rfl, rfl, by decide +kernel⟩
theorem lyw_lw_row : gLyW y_lw_row b_lw_row 4 [(0, 8, 11, 13)] 3 := ⟨gTk_1 0 rfl rfl, gTk_5 104 rfl rfl, rfl, by decide +kernel⟩
theorem kv_lw_26 : gLV "FullStopWellsLaw" 26 y_c10_sign := ⟨Or.inl (gTk_2 124 rfl rfl), gTk_2 125 rfl rfl, gTk_2 126 rfl rfl⟩
theorem kv_lw_30 : gLV "FullStopWellsLaw" 30 y_c11_sign := ⟨Or.inl (gTk_6 6 rfl rfl), gTk_6 7 rfl rfl, gTk_6 8 rfl rfl⟩
theorem kv_lw_31 : gLV "FullStopWellsLaw" 31 y_c10_end := ⟨Or.inl (gTk_2 132 rfl rfl), gTk_2 133 rfl rfl, gTk_2 134 rfl rfl⟩
theorem kv_lw_35 : gLV "FullStopWellsLaw" 35 y_c11_end := ⟨Or.inl (gTk_6 10 rfl rfl), gTk_6 11 rfl rfl, gTk_6 12 rfl rfl⟩
theorem kv_lw_36 : gLV "FullStopWellsLaw" 36 y_c10_plain := ⟨Or.inl (gTk_2 140 rfl rfl), gTk_2 141 rfl rfl, gTk_2 142 rfl rfl⟩
theorem kv_lw_40 : gLV "FullStopWellsLaw" 40 y_c11_plain := ⟨Or.inl (gTk_6 17 rfl rfl), gTk_6 18 rfl rfl, gTk_6 19 rfl rfl⟩
theorem kv_lw_41 : gLV "FullStopWellsLaw" 41 y_c10_wells := ⟨Or.inl (gTk_2 193 rfl rfl), gTk_2 194 rfl rfl, gTk_2 195 rfl rfl⟩
theorem kv_lw_44 : gLV "FullStopWellsLaw" 44 y_c11_wells := ⟨Or.inl (gTk_6 53 rfl rfl), gTk_6 54 rfl rfl, gTk_6 55 rfl rfl⟩
theorem kv_lw_45 : gLV "FullStopWellsLaw" 45 y_c10_rule := ⟨Or.inl (gTk_2 224 rfl rfl), gTk_2 225 rfl rfl, gTk_2 226 rfl rfl⟩
theorem kv_lw_48 : gLV "FullStopWellsLaw" 48 y_c11_rule := ⟨Or.inl (gTk_6 71 rfl rfl), gTk_6 72 rfl rfl, gTk_6 73 rfl rfl⟩
theorem ks_lw_49 : Cond.methodLink "FullStopWellsLaw" 49 y_lw_well ∈ gTk ∧ Cond.static y_lw_well ∈ gTk := ⟨gTk_5 19 rfl rfl, gTk_5 20 rfl rfl⟩
theorem kv_lw_54 : gLV "FullStopWellsLaw" 54 y_c11_well := ⟨Or.inl (gTk_6 106 rfl rfl), gTk_6 107 rfl rfl, gTk_6 108 rfl rfl⟩
theorem kv_lw_55 : gLV "FullStopWellsLaw" 55 y_c11_thrown := ⟨Or.inl (gTk_6 2 rfl rfl), gTk_6 3 rfl rfl, gTk_6 4 rfl rfl⟩
theorem ks_lw_58 : Cond.methodLink "FullStopWellsLaw" 58 y_lw_village ∈ gTk ∧ Cond.static y_lw_village ∈ gTk := ⟨gTk_5 94 rfl rfl, gTk_5 95 rfl rfl⟩
theorem kv_lw_60 : gLV "FullStopWellsLaw" 60 y_c11_village := ⟨Or.inl (gTk_6 140 rfl rfl), gTk_6 141 rfl rfl, gTk_6 142 rfl rfl⟩
theorem kv_lw_61 : gLV "FullStopWellsLaw" 61 y_c10_sheet := ⟨Or.inl (gTk_2 232 rfl rfl), gTk_2 233 rfl rfl, gTk_2 234 rfl rfl⟩
theorem kv_lw_65 : gLV "FullStopWellsLaw" 65 y_c11_sheet := ⟨Or.inl (gTk_6 148 rfl rfl), gTk_6 149 rfl rfl, gTk_6 150 rfl rfl⟩
theorem kv_lw_66 : gLV "FullStopWellsLaw" 66 y_c10_seasons := ⟨Or.inl (gTk_3 8 rfl rfl), gTk_3 9 rfl rfl, gTk_3 10 rfl rfl⟩
theorem kv_lw_69 : gLV "FullStopWellsLaw" 69 y_c11_seasons := ⟨Or.inl (gTk_6 155 rfl rfl), gTk_6 156 rfl rfl, gTk_6 157 rfl rfl⟩
theorem kv_lw_70 : gLV "FullStopWellsLaw" 70 y_c10_says := ⟨Or.inl (gTk_3 81 rfl rfl), gTk_3 82 rfl rfl, gTk_3 83 rfl rfl⟩
theorem kv_lw_74 : gLV "FullStopWellsLaw" 74 y_c11_says := ⟨Or.inl (gTk_6 182 rfl rfl), gTk_6 183 rfl rfl, gTk_6 184 rfl rfl⟩
theorem kv_lw_75 : gLV "FullStopWellsLaw" 75 y_c10_ands := ⟨Or.inl (gTk_3 93 rfl rfl), gTk_3 94 rfl rfl, gTk_3 95 rfl rfl⟩
theorem kv_lw_78 : gLV "FullStopWellsLaw" 78 y_c11_ands := ⟨Or.inl (gTk_6 198 rfl rfl), gTk_6 199 rfl rfl, gTk_6 200 rfl rfl⟩
theorem kv_lw_79 : gLV "FullStopWellsLaw" 79 y_c10_clears := ⟨Or.inl (gTk_3 105 rfl rfl), gTk_3 106 rfl rfl, gTk_3 107 rfl rfl⟩
theorem kv_lw_82 : gLV "FullStopWellsLaw" 82 y_c11_clears := ⟨Or.inl (gTk_6 205 rfl rfl), gTk_6 206 rfl rfl, gTk_6 207 rfl rfl⟩
theorem kv_lw_83 : gLV "FullStopWellsLaw" 83 y_c10_draws := ⟨Or.inl (gTk_3 113 rfl rfl), gTk_3 114 rfl rfl, gTk_3 115 rfl rfl⟩
theorem kv_lw_86 : gLV "FullStopWellsLaw" 86 y_c11_draws := ⟨Or.inl (gTk_6 213 rfl rfl), gTk_6 214 rfl rfl, gTk_6 215 rfl rfl⟩
theorem kv_lw_87 : gLV "FullStopWellsLaw" 87 y_c10_repents := ⟨Or.inl (gTk_3 121 rfl rfl), gTk_3 122 rfl rfl, gTk_3 123 rfl rfl⟩
theorem kv_lw_90 : gLV "FullStopWellsLaw" 90 y_c11_repents := ⟨Or.inl (gTk_6 221 rfl rfl), gTk_6 222 rfl rfl, gTk_6 223 rfl rfl⟩
theorem kv_lw_91 : gLV "FullStopWellsLaw" 91 y_c10_year := ⟨Or.inl (gTk_3 130 rfl rfl), gTk_3 131 rfl rfl, gTk_3 132 rfl rfl⟩
theorem kv_lw_94 : gLV "FullStopWellsLaw" 94 y_c11_year := ⟨Or.inl (gTk_6 225 rfl rfl), gTk_6 226 rfl rfl, gTk_6 227 rfl rfl⟩
theorem kv_lw_95 : gLV "FullStopWellsLaw" 95 y_c10_undo := ⟨Or.inl (gTk_3 205 rfl rfl), gTk_3 206 rfl rfl, gTk_3 207 rfl rfl⟩
theorem kv_lw_98 : gLV "FullStopWellsLaw" 98 y_c11_undo := ⟨Or.inl (gTk_6 237 rfl rfl), gTk_6 238 rfl rfl, gTk_6 239 rfl rfl⟩
theorem kv_lw_99 : gLV "FullStopWellsLaw" 99 y_c10_later := ⟨Or.inl (gTk_3 213 rfl rfl), gTk_3 214 rfl rfl, gTk_3 215 rfl rfl⟩
theorem kv_lw_102 : gLV "FullStopWellsLaw" 102 y_c11_later := ⟨Or.inl (gTk_7 1 rfl rfl), gTk_7 2 rfl rfl, gTk_7 3 rfl rfl⟩
theorem kv_lw_103 : gLV "FullStopWellsLaw" 103 y_c10_parched := ⟨Or.inl (gTk_3 222 rfl rfl), gTk_3 223 rfl rfl, gTk_3 224 rfl rfl⟩
theorem kv_lw_106 : gLV "FullStopWellsLaw" 106 y_c11_parched := ⟨Or.inl (gTk_7 5 rfl rfl), gTk_7 6 rfl rfl, gTk_7 7 rfl rfl⟩
theorem kv_lw_107 : gLV "FullStopWellsLaw" 107 y_c10_drinks := ⟨Or.inl (gTk_3 231 rfl rfl), gTk_3 232 rfl rfl, gTk_3 233 rfl rfl⟩
theorem kv_lw_110 : gLV "FullStopWellsLaw" 110 y_c11_drinks := ⟨Or.inl (gTk_7 9 rfl rfl), gTk_7 10 rfl rfl, gTk_7 11 rfl rfl⟩
theorem kv_lw_111 : gLV "FullStopWellsLaw" 111 y_c10_rises := ⟨Or.inl (gTk_3 235 rfl rfl), gTk_3 236 rfl rfl, gTk_3 237 rfl rfl⟩
theorem kv_lw_114 : gLV "FullStopWellsLaw" 114 y_c11_rises := ⟨Or.inl (gTk_7 13 rfl rfl), gTk_7 14 rfl rfl, gTk_7 15 rfl rfl⟩
theorem kv_lw_115 : gLV "FullStopWellsLaw" 115 y_c10_richest := ⟨Or.inl (gTk_3 239 rfl rfl), gTk_4 0 rfl rfl, gTk_4 1 rfl rfl⟩
theorem kv_lw_118 : gLV "FullStopWellsLaw" 118 y_c11_richest := ⟨Or.inl (gTk_7 17 rfl rfl), gTk_7 18 rfl rfl, gTk_7 19 rfl rfl⟩
theorem kv_lw_119 : gLV "FullStopWellsLaw" 119 y_c10_balance := ⟨Or.inl (gTk_4 3 rfl rfl), gTk_4 4 rfl rfl, gTk_4 5 rfl rfl⟩
theorem kv_lw_122 : gLV "FullStopWellsLaw" 122 y_c11_balance := ⟨Or.inl (gTk_7 21 rfl rfl), gTk_7 22 rfl rfl, gTk_7 23 rfl rfl⟩
theorem kv_lw_123 : gLV "FullStopWellsLaw" 123 y_c10_covers := ⟨Or.inl (gTk_4 12 rfl rfl), gTk_4 13 rfl rfl, gTk_4 14 rfl rfl⟩
theorem kv_lw_126 : gLV "FullStopWellsLaw" 126 y_c11_covers := ⟨Or.inl (gTk_7 45 rfl rfl), gTk_7 46 rfl rfl, gTk_7 47 rfl rfl⟩
theorem kv_lw_127 : gLV "FullStopWellsLaw" 127 y_c10_best := ⟨Or.inl (gTk_4 35 rfl rfl), gTk_4 36 rfl rfl, gTk_4 37 rfl rfl⟩
theorem kv_lw_130 : gLV "FullStopWellsLaw" 130 y_c11_best := ⟨Or.inl (gTk_7 53 rfl rfl), gTk_7 54 rfl rfl, gTk_7 55 rfl rfl⟩
theorem kv_lw_131 : gLV "FullStopWellsLaw" 131 y_c10_longest := ⟨Or.inl (gTk_4 42 rfl rfl), gTk_4 43 rfl rfl, gTk_4 44 rfl rfl⟩
theorem kv_lw_134 : gLV "FullStopWellsLaw" 134 y_c11_longest := ⟨Or.inl (gTk_7 57 rfl rfl), gTk_7 58 rfl rfl, gTk_7 59 rfl rfl⟩
theorem kv_lw_135 : gLV "FullStopWellsLaw" 135 y_c10_dearest := ⟨Or.inl (gTk_4 50 rfl rfl), gTk_4 51 rfl rfl, gTk_4 52 rfl rfl⟩
theorem kv_lw_138 : gLV "FullStopWellsLaw" 138 y_c11_dearest := ⟨Or.inl (gTk_7 65 rfl rfl), gTk_7 66 rfl rfl, gTk_7 67 rfl rfl⟩
theorem kv_lw_139 : gLV "FullStopWellsLaw" 139 y_c10_bears := ⟨Or.inl (gTk_4 58 rfl rfl), gTk_4 59 rfl rfl, gTk_4 60 rfl rfl⟩
theorem kv_lw_142 : gLV "FullStopWellsLaw" 142 y_c11_bears := ⟨Or.inl (gTk_7 29 rfl rfl), gTk_7 30 rfl rfl, gTk_7 31 rfl rfl⟩
theorem kv_lw_143 : gLV "FullStopWellsLaw" 143 y_c10_twins := ⟨Or.inl (gTk_4 62 rfl rfl), gTk_4 63 rfl rfl, gTk_4 64 rfl rfl⟩
theorem kv_lw_146 : gLV "FullStopWellsLaw" 146 y_c11_twins := ⟨Or.inl (gTk_7 40 rfl rfl), gTk_7 41 rfl rfl, gTk_7 42 rfl rfl⟩
theorem kv_lw_147 : gLV "FullStopWellsLaw" 147 y_c10_route := ⟨Or.inl (gTk_4 70 rfl rfl), gTk_4 71 rfl rfl, gTk_4 72 rfl rfl⟩
theorem kv_lw_150 : gLV "FullStopWellsLaw" 150 y_c11_route := ⟨Or.inl (gTk_7 73 rfl rfl), gTk_7 74 rfl rfl, gTk_7 75 rfl rfl⟩
theorem kv_lw_151 : gLV "FullStopWellsLaw" 151 y_c10_reach := ⟨Or.inl (gTk_4 84 rfl rfl), gTk_4 85 rfl rfl, gTk_4 86 rfl rfl⟩
theorem kv_lw_154 : gLV "FullStopWellsLaw" 154 y_c11_reach := ⟨Or.inl (gTk_7 81 rfl rfl), gTk_7 82 rfl rfl, gTk_7 83 rfl rfl⟩
theorem kv_lw_155 : gLV "FullStopWellsLaw" 155 y_c10_square := ⟨Or.inl (gTk_4 97 rfl rfl), gTk_4 98 rfl rfl, gTk_4 99 rfl rfl⟩
theorem kv_lw_158 : gLV "FullStopWellsLaw" 158 y_c11_square := ⟨Or.inl (gTk_7 85 rfl rfl), gTk_7 86 rfl rfl, gTk_7 87 rfl rfl⟩
theorem kv_lw_159 : gLV "FullStopWellsLaw" 159 y_c10_dry := ⟨Or.inl (gTk_4 107 rfl rfl), gTk_4 108 rfl rfl, gTk_4 109 rfl rfl⟩
theorem kv_lw_162 : gLV "FullStopWellsLaw" 162 y_c11_dry := ⟨Or.inl (gTk_7 93 rfl rfl), gTk_7 94 rfl rfl, gTk_7 95 rfl rfl⟩
theorem kv_lw_163 : gLV "FullStopWellsLaw" 163 y_c10_heard := ⟨Or.inl (gTk_4 116 rfl rfl), gTk_4 117 rfl rfl, gTk_4 118 rfl rfl⟩
theorem kv_lw_166 : gLV "FullStopWellsLaw" 166 y_c11_heard := ⟨Or.inl (gTk_7 108 rfl rfl), gTk_7 109 rfl rfl, gTk_7 110 rfl rfl⟩
theorem kv_lw_167 : gLV "FullStopWellsLaw" 167 y_c10_forget := ⟨Or.inl (gTk_4 132 rfl rfl), gTk_4 133 rfl rfl, gTk_4 134 rfl rfl⟩
theorem kv_lw_170 : gLV "FullStopWellsLaw" 170 y_c11_forget := ⟨Or.inl (gTk_7 112 rfl rfl), gTk_7 113 rfl rfl, gTk_7 114 rfl rfl⟩
theorem kv_lw_171 : gLV "FullStopWellsLaw" 171 y_c10_fits := ⟨Or.inl (gTk_4 136 rfl rfl), gTk_4 137 rfl rfl, gTk_4 138 rfl rfl⟩
theorem kv_lw_174 : gLV "FullStopWellsLaw" 174 y_c11_fits2 := ⟨Or.inl (gTk_7 116 rfl rfl), gTk_7 117 rfl rfl, gTk_7 118 rfl rfl⟩
theorem kv_lw_175 : gLV "FullStopWellsLaw" 175 y_c10_asks := ⟨Or.inl (gTk_4 156 rfl rfl), gTk_4 157 rfl rfl, gTk_4 158 rfl rfl⟩
theorem kv_lw_178 : gLV "FullStopWellsLaw" 178 y_c11_asks := ⟨Or.inl (gTk_7 131 rfl rfl), gTk_7 132 rfl rfl, gTk_7 133 rfl rfl⟩
theorem kv_lw_179 : gLV "FullStopWellsLaw" 179 y_c10_meant := ⟨Or.inl (gTk_4 163 rfl rfl), gTk_4 164 rfl rfl, gTk_4 165 rfl rfl⟩
theorem kv_lw_183 : gLV "FullStopWellsLaw" 183 y_c11_meant := ⟨Or.inl (gTk_7 135 rfl rfl), gTk_7 136 rfl rfl, gTk_7 137 rfl rfl⟩
theorem kv_lw_184 : gLV "FullStopWellsLaw" 184 y_c10_waits := ⟨Or.inl (gTk_4 176 rfl rfl), gTk_4 177 rfl rfl, gTk_4 178 rfl rfl⟩
theorem kv_lw_187 : gLV "FullStopWellsLaw" 187 y_c11_waits := ⟨Or.inl (gTk_7 145 rfl rfl), gTk_7 146 rfl rfl, gTk_7 147 rfl rfl⟩
theorem kv_lw_188 : gLV "FullStopWellsLaw" 188 y_c10_shares := ⟨Or.inl (gTk_4 188 rfl rfl), gTk_4 189 rfl rfl, gTk_4 190 rfl rfl⟩
theorem kv_lw_191 : gLV "FullStopWellsLaw" 191 y_c11_shares := ⟨Or.inl (gTk_7 153 rfl rfl), gTk_7 154 rfl rfl, gTk_7 155 rfl rfl⟩
theorem kv_lw_192 : gLV "FullStopWellsLaw" 192 y_c10_squares := ⟨Or.inl (gTk_4 196 rfl rfl), gTk_4 197 rfl rfl, gTk_4 198 rfl rfl⟩
theorem kv_lw_195 : gLV "FullStopWellsLaw" 195 y_c11_squares := ⟨Or.inl (gTk_7 157 rfl rfl), gTk_7 158 rfl rfl, gTk_7 159 rfl rfl⟩
theorem kv_lw_196 : gLV "FullStopWellsLaw" 196 y_c10_rests := ⟨Or.inl (gTk_4 203 rfl rfl), gTk_4 204 rfl rfl, gTk_4 205 rfl rfl⟩
theorem kv_lw_199 : gLV "FullStopWellsLaw" 199 y_c11_rests := ⟨Or.inl (gTk_7 165 rfl rfl), gTk_7 166 rfl rfl, gTk_7 167 rfl rfl⟩
theorem kv_lw_200 : gLV "FullStopWellsLaw" 200 y_c10_law := ⟨Or.inl (gTk_4 213 rfl rfl), gTk_4 214 rfl rfl, gTk_4 215 rfl rfl⟩
theorem kv_lw_203 : gLV "FullStopWellsLaw" 203 y_c11_law := ⟨Or.inl (gTk_7 175 rfl rfl), gTk_7 176 rfl rfl, gTk_7 177 rfl rfl⟩
theorem kv_lw_204 : gLV "FullStopWellsLaw" 204 y_c10_years := ⟨Or.inl (gTk_4 217 rfl rfl), gTk_4 218 rfl rfl, gTk_4 219 rfl rfl⟩
theorem kv_lw_207 : gLV "FullStopWellsLaw" 207 y_c11_years := ⟨Or.inl (gTk_7 183 rfl rfl), gTk_7 184 rfl rfl, gTk_7 185 rfl rfl⟩
theorem kv_lw_208 : gLV "FullStopWellsLaw" 208 y_c10_keep := ⟨Or.inl (gTk_4 234 rfl rfl), gTk_4 235 rfl rfl, gTk_4 236 rfl rfl⟩
theorem kv_lw_211 : gLV "FullStopWellsLaw" 211 y_c11_keep := ⟨Or.inl (gTk_7 192 rfl rfl), gTk_7 193 rfl rfl, gTk_7 194 rfl rfl⟩
theorem kv_lw_212 : gLV "FullStopWellsLaw" 212 y_c10_again := ⟨Or.inl (gTk_5 2 rfl rfl), gTk_5 3 rfl rfl, gTk_5 4 rfl rfl⟩
theorem kv_lw_215 : gLV "FullStopWellsLaw" 215 y_c11_again := ⟨Or.inl (gTk_7 196 rfl rfl), gTk_7 197 rfl rfl, gTk_7 198 rfl rfl⟩
theorem kv_lw_216 : gLV "FullStopWellsLaw" 216 y_c10_count := ⟨Or.inl (gTk_5 10 rfl rfl), gTk_5 11 rfl rfl, gTk_5 12 rfl rfl⟩
theorem kv_lw_219 : gLV "FullStopWellsLaw" 219 y_c11_count := ⟨Or.inl (gTk_7 200 rfl rfl), gTk_7 201 rfl rfl, gTk_7 202 rfl rfl⟩
theorem ks_lw_220 : Cond.methodLink "FullStopWellsLaw" 220 y_lw_row ∈ gTk ∧ Cond.static y_lw_row ∈ gTk := ⟨gTk_5 102 rfl rfl, gTk_5 103 rfl rfl⟩
theorem kv_lw_223 : gLV "FullStopWellsLaw" 223 y_c11_row := ⟨Or.inl (gTk_7 208 rfl rfl), gTk_7 209 rfl rfl, gTk_7 210 rfl rfl⟩
theorem d_lw_law_3 : gD b_lw_law 3 .dup 1 4 := ⟨by decide +kernel, rfl⟩
theorem d_lw_law_7 : gD b_lw_law 7 (.astore_n 1) 1 8 := ⟨by decide +kernel, rfl⟩
theorem d_lw_law_11 : gD b_lw_law 11 .dup 1 12 := ⟨by decide +kernel, rfl⟩
theorem d_lw_law_15 : gD b_lw_law 15 (.astore_n 2) 1 16 := ⟨by decide +kernel, rfl⟩
theorem d_lw_law_16 : gD b_lw_law 16 (.iconst 1) 1 17 := ⟨by decide +kernel, rfl⟩
theorem d_lw_law_19 : gD b_lw_law 19 (.astore_n 3) 1 20 := ⟨by decide +kernel, rfl⟩
theorem d_lw_law_20 : gD b_lw_law 20 (.iconst 0) 1 21 := ⟨by decide +kernel, rfl⟩
theorem d_lw_law_21 : gD b_lw_law 21 (.istore 4) 2 23 := ⟨by decide +kernel, rfl⟩
theorem d_lw_law_23 : gD b_lw_law 23 (.iload 4) 2 25 := ⟨by decide +kernel, rfl⟩
theorem d_lw_law_25 : gD b_lw_law 25 (.aload_n 0) 1 26 := ⟨by decide +kernel, rfl⟩
theorem d_lw_law_26 : gD b_lw_law 26 .arraylength 1 27 := ⟨by decide +kernel, rfl⟩
theorem d_lw_law_27 : gD b_lw_law 27 (.bipush 6) 2 29 := ⟨by decide +kernel, rfl⟩
theorem d_lw_law_29 : gD b_lw_law 29 .isub 1 30 := ⟨by decide +kernel, rfl⟩
theorem d_lw_law_30 : gJ b_lw_law 30 (.if_icmp .gt 1596) 3 1596 33 1626 := ⟨by decide +kernel, rfl, by decide⟩
theorem d_lw_law_33 : gD b_lw_law 33 (.aload_n 0) 1 34 := ⟨by decide +kernel, rfl⟩
theorem d_lw_law_34 : gD b_lw_law 34 (.iload 4) 2 36 := ⟨by decide +kernel, rfl⟩
theorem d_lw_law_36 : gD b_lw_law 36 .iaload 1 37 := ⟨by decide +kernel, rfl⟩
theorem d_lw_law_37 : gD b_lw_law 37 (.bipush 63) 2 39 := ⟨by decide +kernel, rfl⟩
theorem d_lw_law_39 : gD b_lw_law 39 .iand 1 40 := ⟨by decide +kernel, rfl⟩
theorem d_lw_law_40 : decode b_lw_law 40 = .ok ((.tableswitch 1580 0 46 #[204, 229, 254, 267, 280, 293, 361, 429, 490, 515, 564, 589, 614, 651, 676, 689, 702, 739, 764, 801, 838, 863, 876, 901, 938, 987, 1012, 1049, 1062, 1111, 1124, 1137, 1163, 1200, 1213, 1226, 1239, 1312, 1325, 1350, 1375, 1400, 1413, 1450, 1475, 1500, 1525]), 204) := by decide +kernel
theorem d_lw_law_244 : gD b_lw_law 244 (.aload_n 1) 1 245 := ⟨by decide +kernel, rfl⟩
theorem d_lw_law_245 : gD b_lw_law 245 (.aload_n 0) 1 246 := ⟨by decide +kernel, rfl⟩
theorem d_lw_law_246 : gD b_lw_law 246 (.iload 4) 2 248 := ⟨by decide +kernel, rfl⟩
theorem d_lw_law_248 : gD b_lw_law 248 (.iconst 1) 1 249 := ⟨by decide +kernel, rfl⟩
theorem d_lw_law_249 : gD b_lw_law 249 .iadd 1 250 := ⟨by decide +kernel, rfl⟩
theorem d_lw_law_250 : gD b_lw_law 250 .iaload 1 251 := ⟨by decide +kernel, rfl⟩
theorem d_lw_law_251 : gD b_lw_law 251 (.invokevirtual 26) 3 254 := ⟨by decide +kernel, rfl⟩
theorem d_lw_law_254 : gD b_lw_law 254 (.aload_n 2) 1 255 := ⟨by decide +kernel, rfl⟩
theorem d_lw_law_255 : gD b_lw_law 255 (.aload_n 0) 1 256 := ⟨by decide +kernel, rfl⟩
theorem d_lw_law_256 : gD b_lw_law 256 (.iload 4) 2 258 := ⟨by decide +kernel, rfl⟩
theorem d_lw_law_258 : gD b_lw_law 258 (.iconst 1) 1 259 := ⟨by decide +kernel, rfl⟩
theorem d_lw_law_259 : gD b_lw_law 259 .iadd 1 260 := ⟨by decide +kernel, rfl⟩
theorem d_lw_law_260 : gD b_lw_law 260 .iaload 1 261 := ⟨by decide +kernel, rfl⟩
theorem d_lw_law_261 : gD b_lw_law 261 (.invokevirtual 30) 3 264 := ⟨by decide +kernel, rfl⟩
theorem d_lw_law_264 : gJ b_lw_law 264 (.if_icmp .eq 1356) 3 1356 267 1620 := ⟨by decide +kernel, rfl, by decide⟩
theorem d_lw_law_267 : gD b_lw_law 267 (.iconst 0) 1 268 := ⟨by decide +kernel, rfl⟩
theorem d_lw_law_269 : gD b_lw_law 269 (.aload_n 1) 1 270 := ⟨by decide +kernel, rfl⟩
theorem d_lw_law_270 : gD b_lw_law 270 (.aload_n 0) 1 271 := ⟨by decide +kernel, rfl⟩
theorem d_lw_law_271 : gD b_lw_law 271 (.iload 4) 2 273 := ⟨by decide +kernel, rfl⟩
theorem d_lw_law_273 : gD b_lw_law 273 (.iconst 1) 1 274 := ⟨by decide +kernel, rfl⟩
theorem d_lw_law_274 : gD b_lw_law 274 .iadd 1 275 := ⟨by decide +kernel, rfl⟩
theorem d_lw_law_275 : gD b_lw_law 275 .iaload 1 276 := ⟨by decide +kernel, rfl⟩
theorem d_lw_law_276 : gD b_lw_law 276 (.invokevirtual 31) 3 279 := ⟨by decide +kernel, rfl⟩
theorem d_lw_law_279 : gD b_lw_law 279 (.aload_n 2) 1 280 := ⟨by decide +kernel, rfl⟩
theorem d_lw_law_280 : gD b_lw_law 280 (.aload_n 0) 1 281 := ⟨by decide +kernel, rfl⟩
theorem d_lw_law_281 : gD b_lw_law 281 (.iload 4) 2 283 := ⟨by decide +kernel, rfl⟩
theorem d_lw_law_283 : gD b_lw_law 283 (.iconst 1) 1 284 := ⟨by decide +kernel, rfl⟩
theorem d_lw_law_284 : gD b_lw_law 284 .iadd 1 285 := ⟨by decide +kernel, rfl⟩
theorem d_lw_law_285 : gD b_lw_law 285 .iaload 1 286 := ⟨by decide +kernel, rfl⟩
theorem d_lw_law_286 : gD b_lw_law 286 (.invokevirtual 35) 3 289 := ⟨by decide +kernel, rfl⟩
theorem d_lw_law_289 : gJ b_lw_law 289 (.if_icmp .eq 1331) 3 1331 292 1620 := ⟨by decide +kernel, rfl, by decide⟩
theorem d_lw_law_292 : gD b_lw_law 292 (.iconst 0) 1 293 := ⟨by decide +kernel, rfl⟩
theorem d_lw_law_294 : gD b_lw_law 294 (.aload_n 1) 1 295 := ⟨by decide +kernel, rfl⟩
theorem d_lw_law_295 : gD b_lw_law 295 (.invokevirtual 36) 3 298 := ⟨by decide +kernel, rfl⟩
theorem d_lw_law_298 : gD b_lw_law 298 (.aload_n 2) 1 299 := ⟨by decide +kernel, rfl⟩
theorem d_lw_law_299 : gD b_lw_law 299 (.invokevirtual 40) 3 302 := ⟨by decide +kernel, rfl⟩
theorem d_lw_law_302 : gJ b_lw_law 302 (.if_icmp .eq 1318) 3 1318 305 1620 := ⟨by decide +kernel, rfl, by decide⟩
theorem d_lw_law_305 : gD b_lw_law 305 (.iconst 0) 1 306 := ⟨by decide +kernel, rfl⟩
theorem d_lw_law_307 : gD b_lw_law 307 (.aload_n 1) 1 308 := ⟨by decide +kernel, rfl⟩
theorem d_lw_law_308 : gD b_lw_law 308 (.invokevirtual 41) 3 311 := ⟨by decide +kernel, rfl⟩
theorem d_lw_law_311 : gD b_lw_law 311 (.aload_n 2) 1 312 := ⟨by decide +kernel, rfl⟩
theorem d_lw_law_312 : gD b_lw_law 312 (.invokevirtual 44) 3 315 := ⟨by decide +kernel, rfl⟩
theorem d_lw_law_315 : gJ b_lw_law 315 (.if_icmp .eq 1305) 3 1305 318 1620 := ⟨by decide +kernel, rfl, by decide⟩
theorem d_lw_law_318 : gD b_lw_law 318 (.iconst 0) 1 319 := ⟨by decide +kernel, rfl⟩
theorem d_lw_law_320 : gD b_lw_law 320 (.aload_n 1) 1 321 := ⟨by decide +kernel, rfl⟩
theorem d_lw_law_321 : gD b_lw_law 321 (.invokevirtual 45) 3 324 := ⟨by decide +kernel, rfl⟩
theorem d_lw_law_324 : gD b_lw_law 324 (.aload_n 2) 1 325 := ⟨by decide +kernel, rfl⟩
theorem d_lw_law_325 : gD b_lw_law 325 (.invokevirtual 48) 3 328 := ⟨by decide +kernel, rfl⟩
theorem d_lw_law_328 : gJ b_lw_law 328 (.if_icmp .eq 1292) 3 1292 331 1620 := ⟨by decide +kernel, rfl, by decide⟩
theorem d_lw_law_331 : gD b_lw_law 331 (.iconst 0) 1 332 := ⟨by decide +kernel, rfl⟩
theorem d_lw_law_333 : gD b_lw_law 333 (.aload_n 1) 1 334 := ⟨by decide +kernel, rfl⟩
theorem d_lw_law_334 : gD b_lw_law 334 (.aload_n 0) 1 335 := ⟨by decide +kernel, rfl⟩
theorem d_lw_law_335 : gD b_lw_law 335 (.iload 4) 2 337 := ⟨by decide +kernel, rfl⟩
theorem d_lw_law_337 : gD b_lw_law 337 (.iconst 1) 1 338 := ⟨by decide +kernel, rfl⟩
theorem d_lw_law_338 : gD b_lw_law 338 .iadd 1 339 := ⟨by decide +kernel, rfl⟩
theorem d_lw_law_339 : gD b_lw_law 339 .iaload 1 340 := ⟨by decide +kernel, rfl⟩
theorem d_lw_law_340 : gD b_lw_law 340 (.aload_n 0) 1 341 := ⟨by decide +kernel, rfl⟩
theorem d_lw_law_341 : gD b_lw_law 341 (.iload 4) 2 343 := ⟨by decide +kernel, rfl⟩
theorem d_lw_law_343 : gD b_lw_law 343 (.iconst 2) 1 344 := ⟨by decide +kernel, rfl⟩
theorem d_lw_law_344 : gD b_lw_law 344 .iadd 1 345 := ⟨by decide +kernel, rfl⟩
theorem d_lw_law_345 : gD b_lw_law 345 .iaload 1 346 := ⟨by decide +kernel, rfl⟩
theorem d_lw_law_346 : gD b_lw_law 346 (.aload_n 3) 1 347 := ⟨by decide +kernel, rfl⟩
theorem d_lw_law_347 : gD b_lw_law 347 (.invokestatic 49) 3 350 := ⟨by decide +kernel, rfl⟩
theorem d_lw_law_350 : gD b_lw_law 350 (.istore 5) 2 352 := ⟨by decide +kernel, rfl⟩
theorem d_lw_law_352 : gD b_lw_law 352 (.aload_n 2) 1 353 := ⟨by decide +kernel, rfl⟩
theorem d_lw_law_353 : gD b_lw_law 353 (.aload_n 0) 1 354 := ⟨by decide +kernel, rfl⟩
theorem d_lw_law_354 : gD b_lw_law 354 (.iload 4) 2 356 := ⟨by decide +kernel, rfl⟩
theorem d_lw_law_356 : gD b_lw_law 356 (.iconst 1) 1 357 := ⟨by decide +kernel, rfl⟩
theorem d_lw_law_357 : gD b_lw_law 357 .iadd 1 358 := ⟨by decide +kernel, rfl⟩
theorem d_lw_law_358 : gD b_lw_law 358 .iaload 1 359 := ⟨by decide +kernel, rfl⟩
theorem d_lw_law_359 : gD b_lw_law 359 (.aload_n 0) 1 360 := ⟨by decide +kernel, rfl⟩
theorem d_lw_law_360 : gD b_lw_law 360 (.iload 4) 2 362 := ⟨by decide +kernel, rfl⟩
theorem d_lw_law_362 : gD b_lw_law 362 (.iconst 2) 1 363 := ⟨by decide +kernel, rfl⟩
theorem d_lw_law_363 : gD b_lw_law 363 .iadd 1 364 := ⟨by decide +kernel, rfl⟩
theorem d_lw_law_364 : gD b_lw_law 364 .iaload 1 365 := ⟨by decide +kernel, rfl⟩
theorem d_lw_law_365 : gD b_lw_law 365 (.invokevirtual 54) 3 368 := ⟨by decide +kernel, rfl⟩
theorem d_lw_law_368 : gD b_lw_law 368 (.istore 6) 2 370 := ⟨by decide +kernel, rfl⟩
theorem d_lw_law_370 : gD b_lw_law 370 (.aload_n 2) 1 371 := ⟨by decide +kernel, rfl⟩
theorem d_lw_law_371 : gD b_lw_law 371 (.invokevirtual 55) 3 374 := ⟨by decide +kernel, rfl⟩
theorem d_lw_law_374 : gD b_lw_law 374 (.iload 5) 2 376 := ⟨by decide +kernel, rfl⟩
theorem d_lw_law_376 : gJ b_lw_law 376 (.if_icmp .eq 5) 3 5 379 381 := ⟨by decide +kernel, rfl, by decide⟩
theorem d_lw_law_379 : gD b_lw_law 379 (.iconst 0) 1 380 := ⟨by decide +kernel, rfl⟩
theorem d_lw_law_381 : gD b_lw_law 381 (.iload 5) 2 383 := ⟨by decide +kernel, rfl⟩
theorem d_lw_law_383 : gJ b_lw_law 383 (.ifCond .ne 15) 3 15 386 398 := ⟨by decide +kernel, rfl, by decide⟩
theorem d_lw_law_386 : gD b_lw_law 386 (.aload_n 3) 1 387 := ⟨by decide +kernel, rfl⟩
theorem d_lw_law_387 : gD b_lw_law 387 (.iconst 0) 1 388 := ⟨by decide +kernel, rfl⟩
theorem d_lw_law_388 : gD b_lw_law 388 .laload 1 389 := ⟨by decide +kernel, rfl⟩
theorem d_lw_law_389 : gD b_lw_law 389 (.iload 6) 2 391 := ⟨by decide +kernel, rfl⟩
theorem d_lw_law_391 : gD b_lw_law 391 .i2l 1 392 := ⟨by decide +kernel, rfl⟩
theorem d_lw_law_392 : gD b_lw_law 392 .lcmp 1 393 := ⟨by decide +kernel, rfl⟩
theorem d_lw_law_393 : gJ b_lw_law 393 (.ifCond .eq 5) 3 5 396 398 := ⟨by decide +kernel, rfl, by decide⟩
theorem d_lw_law_396 : gD b_lw_law 396 (.iconst 0) 1 397 := ⟨by decide +kernel, rfl⟩
theorem d_lw_law_398 : gJ b_lw_law 398 (.goto 1222) 3 1222 401 1620 := ⟨by decide +kernel, rfl, by decide⟩
theorem d_lw_law_401 : gD b_lw_law 401 (.aload_n 1) 1 402 := ⟨by decide +kernel, rfl⟩
theorem d_lw_law_402 : gD b_lw_law 402 (.aload_n 0) 1 403 := ⟨by decide +kernel, rfl⟩
theorem d_lw_law_403 : gD b_lw_law 403 (.iload 4) 2 405 := ⟨by decide +kernel, rfl⟩
theorem d_lw_law_405 : gD b_lw_law 405 (.iconst 1) 1 406 := ⟨by decide +kernel, rfl⟩
theorem d_lw_law_406 : gD b_lw_law 406 .iadd 1 407 := ⟨by decide +kernel, rfl⟩
theorem d_lw_law_407 : gD b_lw_law 407 .iaload 1 408 := ⟨by decide +kernel, rfl⟩
theorem d_lw_law_408 : gD b_lw_law 408 (.aload_n 0) 1 409 := ⟨by decide +kernel, rfl⟩
theorem d_lw_law_409 : gD b_lw_law 409 (.iload 4) 2 411 := ⟨by decide +kernel, rfl⟩
theorem d_lw_law_411 : gD b_lw_law 411 (.iconst 2) 1 412 := ⟨by decide +kernel, rfl⟩
theorem d_lw_law_412 : gD b_lw_law 412 .iadd 1 413 := ⟨by decide +kernel, rfl⟩
theorem d_lw_law_413 : gD b_lw_law 413 .iaload 1 414 := ⟨by decide +kernel, rfl⟩
theorem d_lw_law_414 : gD b_lw_law 414 (.aload_n 3) 1 415 := ⟨by decide +kernel, rfl⟩
theorem d_lw_law_415 : gD b_lw_law 415 (.invokestatic 58) 3 418 := ⟨by decide +kernel, rfl⟩
theorem d_lw_law_418 : gD b_lw_law 418 (.istore 5) 2 420 := ⟨by decide +kernel, rfl⟩
theorem d_lw_law_420 : gD b_lw_law 420 (.aload_n 2) 1 421 := ⟨by decide +kernel, rfl⟩
theorem d_lw_law_421 : gD b_lw_law 421 (.aload_n 0) 1 422 := ⟨by decide +kernel, rfl⟩
theorem d_lw_law_422 : gD b_lw_law 422 (.iload 4) 2 424 := ⟨by decide +kernel, rfl⟩
theorem d_lw_law_424 : gD b_lw_law 424 (.iconst 1) 1 425 := ⟨by decide +kernel, rfl⟩
theorem d_lw_law_425 : gD b_lw_law 425 .iadd 1 426 := ⟨by decide +kernel, rfl⟩
theorem d_lw_law_426 : gD b_lw_law 426 .iaload 1 427 := ⟨by decide +kernel, rfl⟩
theorem d_lw_law_427 : gD b_lw_law 427 (.aload_n 0) 1 428 := ⟨by decide +kernel, rfl⟩
theorem d_lw_law_428 : gD b_lw_law 428 (.iload 4) 2 430 := ⟨by decide +kernel, rfl⟩
theorem d_lw_law_430 : gD b_lw_law 430 (.iconst 2) 1 431 := ⟨by decide +kernel, rfl⟩
theorem d_lw_law_431 : gD b_lw_law 431 .iadd 1 432 := ⟨by decide +kernel, rfl⟩
theorem d_lw_law_432 : gD b_lw_law 432 .iaload 1 433 := ⟨by decide +kernel, rfl⟩
theorem d_lw_law_433 : gD b_lw_law 433 (.invokevirtual 60) 3 436 := ⟨by decide +kernel, rfl⟩
theorem d_lw_law_436 : gD b_lw_law 436 (.istore 6) 2 438 := ⟨by decide +kernel, rfl⟩
theorem d_lw_law_438 : gD b_lw_law 438 (.aload_n 2) 1 439 := ⟨by decide +kernel, rfl⟩
theorem d_lw_law_439 : gD b_lw_law 439 (.invokevirtual 55) 3 442 := ⟨by decide +kernel, rfl⟩
theorem d_lw_law_442 : gD b_lw_law 442 (.iload 5) 2 444 := ⟨by decide +kernel, rfl⟩
theorem d_lw_law_444 : gJ b_lw_law 444 (.if_icmp .eq 5) 3 5 447 449 := ⟨by decide +kernel, rfl, by decide⟩
theorem d_lw_law_447 : gD b_lw_law 447 (.iconst 0) 1 448 := ⟨by decide +kernel, rfl⟩
theorem d_lw_law_449 : gD b_lw_law 449 (.iload 5) 2 451 := ⟨by decide +kernel, rfl⟩
theorem d_lw_law_451 : gJ b_lw_law 451 (.ifCond .ne 15) 3 15 454 466 := ⟨by decide +kernel, rfl, by decide⟩
theorem d_lw_law_454 : gD b_lw_law 454 (.aload_n 3) 1 455 := ⟨by decide +kernel, rfl⟩
theorem d_lw_law_455 : gD b_lw_law 455 (.iconst 0) 1 456 := ⟨by decide +kernel, rfl⟩
theorem d_lw_law_456 : gD b_lw_law 456 .laload 1 457 := ⟨by decide +kernel, rfl⟩
theorem d_lw_law_457 : gD b_lw_law 457 (.iload 6) 2 459 := ⟨by decide +kernel, rfl⟩
theorem d_lw_law_459 : gD b_lw_law 459 .i2l 1 460 := ⟨by decide +kernel, rfl⟩
theorem d_lw_law_460 : gD b_lw_law 460 .lcmp 1 461 := ⟨by decide +kernel, rfl⟩
theorem d_lw_law_461 : gJ b_lw_law 461 (.ifCond .eq 5) 3 5 464 466 := ⟨by decide +kernel, rfl, by decide⟩
theorem d_lw_law_464 : gD b_lw_law 464 (.iconst 0) 1 465 := ⟨by decide +kernel, rfl⟩
theorem d_lw_law_466 : gJ b_lw_law 466 (.goto 1154) 3 1154 469 1620 := ⟨by decide +kernel, rfl, by decide⟩
theorem d_lw_law_469 : gD b_lw_law 469 (.aload_n 1) 1 470 := ⟨by decide +kernel, rfl⟩
theorem d_lw_law_470 : gD b_lw_law 470 (.aload_n 0) 1 471 := ⟨by decide +kernel, rfl⟩
theorem d_lw_law_471 : gD b_lw_law 471 (.iload 4) 2 473 := ⟨by decide +kernel, rfl⟩
theorem d_lw_law_473 : gD b_lw_law 473 (.iconst 1) 1 474 := ⟨by decide +kernel, rfl⟩
theorem d_lw_law_474 : gD b_lw_law 474 .iadd 1 475 := ⟨by decide +kernel, rfl⟩
theorem d_lw_law_475 : gD b_lw_law 475 .iaload 1 476 := ⟨by decide +kernel, rfl⟩
theorem d_lw_law_476 : gD b_lw_law 476 (.aload_n 0) 1 477 := ⟨by decide +kernel, rfl⟩
theorem d_lw_law_477 : gD b_lw_law 477 (.iload 4) 2 479 := ⟨by decide +kernel, rfl⟩
theorem d_lw_law_479 : gD b_lw_law 479 (.iconst 2) 1 480 := ⟨by decide +kernel, rfl⟩
theorem d_lw_law_480 : gD b_lw_law 480 .iadd 1 481 := ⟨by decide +kernel, rfl⟩
theorem d_lw_law_481 : gD b_lw_law 481 .iaload 1 482 := ⟨by decide +kernel, rfl⟩
theorem d_lw_law_482 : gD b_lw_law 482 (.aload_n 0) 1 483 := ⟨by decide +kernel, rfl⟩
theorem d_lw_law_483 : gD b_lw_law 483 (.iload 4) 2 485 := ⟨by decide +kernel, rfl⟩
theorem d_lw_law_485 : gD b_lw_law 485 (.iconst 3) 1 486 := ⟨by decide +kernel, rfl⟩
theorem d_lw_law_486 : gD b_lw_law 486 .iadd 1 487 := ⟨by decide +kernel, rfl⟩
theorem d_lw_law_487 : gD b_lw_law 487 .iaload 1 488 := ⟨by decide +kernel, rfl⟩
theorem d_lw_law_488 : gD b_lw_law 488 (.aload_n 0) 1 489 := ⟨by decide +kernel, rfl⟩
theorem d_lw_law_489 : gD b_lw_law 489 (.iload 4) 2 491 := ⟨by decide +kernel, rfl⟩
theorem d_lw_law_491 : gD b_lw_law 491 (.iconst 4) 1 492 := ⟨by decide +kernel, rfl⟩
theorem d_lw_law_492 : gD b_lw_law 492 .iadd 1 493 := ⟨by decide +kernel, rfl⟩
theorem d_lw_law_493 : gD b_lw_law 493 .iaload 1 494 := ⟨by decide +kernel, rfl⟩
theorem d_lw_law_494 : gD b_lw_law 494 (.invokevirtual 61) 3 497 := ⟨by decide +kernel, rfl⟩
theorem d_lw_law_497 : gD b_lw_law 497 (.aload_n 2) 1 498 := ⟨by decide +kernel, rfl⟩
theorem d_lw_law_498 : gD b_lw_law 498 (.aload_n 0) 1 499 := ⟨by decide +kernel, rfl⟩
theorem d_lw_law_499 : gD b_lw_law 499 (.iload 4) 2 501 := ⟨by decide +kernel, rfl⟩
theorem d_lw_law_501 : gD b_lw_law 501 (.iconst 1) 1 502 := ⟨by decide +kernel, rfl⟩
theorem d_lw_law_502 : gD b_lw_law 502 .iadd 1 503 := ⟨by decide +kernel, rfl⟩
theorem d_lw_law_503 : gD b_lw_law 503 .iaload 1 504 := ⟨by decide +kernel, rfl⟩
theorem d_lw_law_504 : gD b_lw_law 504 (.aload_n 0) 1 505 := ⟨by decide +kernel, rfl⟩
theorem d_lw_law_505 : gD b_lw_law 505 (.iload 4) 2 507 := ⟨by decide +kernel, rfl⟩
theorem d_lw_law_507 : gD b_lw_law 507 (.iconst 2) 1 508 := ⟨by decide +kernel, rfl⟩
theorem d_lw_law_508 : gD b_lw_law 508 .iadd 1 509 := ⟨by decide +kernel, rfl⟩
theorem d_lw_law_509 : gD b_lw_law 509 .iaload 1 510 := ⟨by decide +kernel, rfl⟩
theorem d_lw_law_510 : gD b_lw_law 510 (.aload_n 0) 1 511 := ⟨by decide +kernel, rfl⟩
theorem d_lw_law_511 : gD b_lw_law 511 (.iload 4) 2 513 := ⟨by decide +kernel, rfl⟩
theorem d_lw_law_513 : gD b_lw_law 513 (.iconst 3) 1 514 := ⟨by decide +kernel, rfl⟩
theorem d_lw_law_514 : gD b_lw_law 514 .iadd 1 515 := ⟨by decide +kernel, rfl⟩
theorem d_lw_law_515 : gD b_lw_law 515 .iaload 1 516 := ⟨by decide +kernel, rfl⟩
theorem d_lw_law_516 : gD b_lw_law 516 (.aload_n 0) 1 517 := ⟨by decide +kernel, rfl⟩
theorem d_lw_law_517 : gD b_lw_law 517 (.iload 4) 2 519 := ⟨by decide +kernel, rfl⟩
theorem d_lw_law_519 : gD b_lw_law 519 (.iconst 4) 1 520 := ⟨by decide +kernel, rfl⟩
theorem d_lw_law_520 : gD b_lw_law 520 .iadd 1 521 := ⟨by decide +kernel, rfl⟩
theorem d_lw_law_521 : gD b_lw_law 521 .iaload 1 522 := ⟨by decide +kernel, rfl⟩
theorem d_lw_law_522 : gD b_lw_law 522 (.invokevirtual 65) 3 525 := ⟨by decide +kernel, rfl⟩
theorem d_lw_law_525 : gJ b_lw_law 525 (.if_icmp .eq 1095) 3 1095 528 1620 := ⟨by decide +kernel, rfl, by decide⟩
theorem d_lw_law_528 : gD b_lw_law 528 (.iconst 0) 1 529 := ⟨by decide +kernel, rfl⟩
theorem d_lw_law_530 : gD b_lw_law 530 (.aload_n 1) 1 531 := ⟨by decide +kernel, rfl⟩
theorem d_lw_law_531 : gD b_lw_law 531 (.aload_n 0) 1 532 := ⟨by decide +kernel, rfl⟩
theorem d_lw_law_532 : gD b_lw_law 532 (.iload 4) 2 534 := ⟨by decide +kernel, rfl⟩
theorem d_lw_law_534 : gD b_lw_law 534 (.iconst 1) 1 535 := ⟨by decide +kernel, rfl⟩
theorem d_lw_law_535 : gD b_lw_law 535 .iadd 1 536 := ⟨by decide +kernel, rfl⟩
theorem d_lw_law_536 : gD b_lw_law 536 .iaload 1 537 := ⟨by decide +kernel, rfl⟩
theorem d_lw_law_537 : gD b_lw_law 537 (.invokevirtual 66) 3 540 := ⟨by decide +kernel, rfl⟩
theorem d_lw_law_540 : gD b_lw_law 540 (.aload_n 2) 1 541 := ⟨by decide +kernel, rfl⟩
theorem d_lw_law_541 : gD b_lw_law 541 (.aload_n 0) 1 542 := ⟨by decide +kernel, rfl⟩
theorem d_lw_law_542 : gD b_lw_law 542 (.iload 4) 2 544 := ⟨by decide +kernel, rfl⟩
theorem d_lw_law_544 : gD b_lw_law 544 (.iconst 1) 1 545 := ⟨by decide +kernel, rfl⟩
theorem d_lw_law_545 : gD b_lw_law 545 .iadd 1 546 := ⟨by decide +kernel, rfl⟩
theorem d_lw_law_546 : gD b_lw_law 546 .iaload 1 547 := ⟨by decide +kernel, rfl⟩
theorem d_lw_law_547 : gD b_lw_law 547 (.invokevirtual 69) 3 550 := ⟨by decide +kernel, rfl⟩
theorem d_lw_law_550 : gJ b_lw_law 550 (.if_icmp .eq 1070) 3 1070 553 1620 := ⟨by decide +kernel, rfl, by decide⟩
theorem d_lw_law_553 : gD b_lw_law 553 (.iconst 0) 1 554 := ⟨by decide +kernel, rfl⟩
theorem d_lw_law_555 : gD b_lw_law 555 (.aload_n 1) 1 556 := ⟨by decide +kernel, rfl⟩
theorem d_lw_law_556 : gD b_lw_law 556 (.aload_n 0) 1 557 := ⟨by decide +kernel, rfl⟩
theorem d_lw_law_557 : gD b_lw_law 557 (.iload 4) 2 559 := ⟨by decide +kernel, rfl⟩
theorem d_lw_law_559 : gD b_lw_law 559 (.iconst 1) 1 560 := ⟨by decide +kernel, rfl⟩
theorem d_lw_law_560 : gD b_lw_law 560 .iadd 1 561 := ⟨by decide +kernel, rfl⟩
theorem d_lw_law_561 : gD b_lw_law 561 .iaload 1 562 := ⟨by decide +kernel, rfl⟩
theorem d_lw_law_562 : gD b_lw_law 562 (.aload_n 0) 1 563 := ⟨by decide +kernel, rfl⟩
theorem d_lw_law_563 : gD b_lw_law 563 (.iload 4) 2 565 := ⟨by decide +kernel, rfl⟩
theorem d_lw_law_565 : gD b_lw_law 565 (.iconst 2) 1 566 := ⟨by decide +kernel, rfl⟩
theorem d_lw_law_566 : gD b_lw_law 566 .iadd 1 567 := ⟨by decide +kernel, rfl⟩
theorem d_lw_law_567 : gD b_lw_law 567 .iaload 1 568 := ⟨by decide +kernel, rfl⟩
theorem d_lw_law_568 : gD b_lw_law 568 (.aload_n 0) 1 569 := ⟨by decide +kernel, rfl⟩
theorem d_lw_law_569 : gD b_lw_law 569 (.iload 4) 2 571 := ⟨by decide +kernel, rfl⟩
theorem d_lw_law_571 : gD b_lw_law 571 (.iconst 3) 1 572 := ⟨by decide +kernel, rfl⟩
theorem d_lw_law_572 : gD b_lw_law 572 .iadd 1 573 := ⟨by decide +kernel, rfl⟩
theorem d_lw_law_573 : gD b_lw_law 573 .iaload 1 574 := ⟨by decide +kernel, rfl⟩
theorem d_lw_law_574 : gD b_lw_law 574 (.invokevirtual 70) 3 577 := ⟨by decide +kernel, rfl⟩
theorem d_lw_law_577 : gD b_lw_law 577 (.aload_n 2) 1 578 := ⟨by decide +kernel, rfl⟩
theorem d_lw_law_578 : gD b_lw_law 578 (.aload_n 0) 1 579 := ⟨by decide +kernel, rfl⟩
theorem d_lw_law_579 : gD b_lw_law 579 (.iload 4) 2 581 := ⟨by decide +kernel, rfl⟩
theorem d_lw_law_581 : gD b_lw_law 581 (.iconst 1) 1 582 := ⟨by decide +kernel, rfl⟩
theorem d_lw_law_582 : gD b_lw_law 582 .iadd 1 583 := ⟨by decide +kernel, rfl⟩
theorem d_lw_law_583 : gD b_lw_law 583 .iaload 1 584 := ⟨by decide +kernel, rfl⟩
theorem d_lw_law_584 : gD b_lw_law 584 (.aload_n 0) 1 585 := ⟨by decide +kernel, rfl⟩
theorem d_lw_law_585 : gD b_lw_law 585 (.iload 4) 2 587 := ⟨by decide +kernel, rfl⟩
theorem d_lw_law_587 : gD b_lw_law 587 (.iconst 2) 1 588 := ⟨by decide +kernel, rfl⟩
theorem d_lw_law_588 : gD b_lw_law 588 .iadd 1 589 := ⟨by decide +kernel, rfl⟩
theorem d_lw_law_589 : gD b_lw_law 589 .iaload 1 590 := ⟨by decide +kernel, rfl⟩
theorem d_lw_law_590 : gD b_lw_law 590 (.aload_n 0) 1 591 := ⟨by decide +kernel, rfl⟩
theorem d_lw_law_591 : gD b_lw_law 591 (.iload 4) 2 593 := ⟨by decide +kernel, rfl⟩
theorem d_lw_law_593 : gD b_lw_law 593 (.iconst 3) 1 594 := ⟨by decide +kernel, rfl⟩
theorem d_lw_law_594 : gD b_lw_law 594 .iadd 1 595 := ⟨by decide +kernel, rfl⟩
theorem d_lw_law_595 : gD b_lw_law 595 .iaload 1 596 := ⟨by decide +kernel, rfl⟩
theorem d_lw_law_596 : gD b_lw_law 596 (.invokevirtual 74) 3 599 := ⟨by decide +kernel, rfl⟩
theorem d_lw_law_599 : gJ b_lw_law 599 (.if_icmp .eq 1021) 3 1021 602 1620 := ⟨by decide +kernel, rfl, by decide⟩
theorem d_lw_law_602 : gD b_lw_law 602 (.iconst 0) 1 603 := ⟨by decide +kernel, rfl⟩
theorem d_lw_law_604 : gD b_lw_law 604 (.aload_n 1) 1 605 := ⟨by decide +kernel, rfl⟩
theorem d_lw_law_605 : gD b_lw_law 605 (.aload_n 0) 1 606 := ⟨by decide +kernel, rfl⟩
theorem d_lw_law_606 : gD b_lw_law 606 (.iload 4) 2 608 := ⟨by decide +kernel, rfl⟩
theorem d_lw_law_608 : gD b_lw_law 608 (.iconst 1) 1 609 := ⟨by decide +kernel, rfl⟩
theorem d_lw_law_609 : gD b_lw_law 609 .iadd 1 610 := ⟨by decide +kernel, rfl⟩
theorem d_lw_law_610 : gD b_lw_law 610 .iaload 1 611 := ⟨by decide +kernel, rfl⟩
theorem d_lw_law_611 : gD b_lw_law 611 (.invokevirtual 75) 3 614 := ⟨by decide +kernel, rfl⟩
theorem d_lw_law_614 : gD b_lw_law 614 (.aload_n 2) 1 615 := ⟨by decide +kernel, rfl⟩
theorem d_lw_law_615 : gD b_lw_law 615 (.aload_n 0) 1 616 := ⟨by decide +kernel, rfl⟩
theorem d_lw_law_616 : gD b_lw_law 616 (.iload 4) 2 618 := ⟨by decide +kernel, rfl⟩
theorem d_lw_law_618 : gD b_lw_law 618 (.iconst 1) 1 619 := ⟨by decide +kernel, rfl⟩
theorem d_lw_law_619 : gD b_lw_law 619 .iadd 1 620 := ⟨by decide +kernel, rfl⟩
theorem d_lw_law_620 : gD b_lw_law 620 .iaload 1 621 := ⟨by decide +kernel, rfl⟩
theorem d_lw_law_621 : gD b_lw_law 621 (.invokevirtual 78) 3 624 := ⟨by decide +kernel, rfl⟩
theorem d_lw_law_624 : gJ b_lw_law 624 (.if_icmp .eq 996) 3 996 627 1620 := ⟨by decide +kernel, rfl, by decide⟩
theorem d_lw_law_627 : gD b_lw_law 627 (.iconst 0) 1 628 := ⟨by decide +kernel, rfl⟩
theorem d_lw_law_629 : gD b_lw_law 629 (.aload_n 1) 1 630 := ⟨by decide +kernel, rfl⟩
theorem d_lw_law_630 : gD b_lw_law 630 (.aload_n 0) 1 631 := ⟨by decide +kernel, rfl⟩
theorem d_lw_law_631 : gD b_lw_law 631 (.iload 4) 2 633 := ⟨by decide +kernel, rfl⟩
theorem d_lw_law_633 : gD b_lw_law 633 (.iconst 1) 1 634 := ⟨by decide +kernel, rfl⟩
theorem d_lw_law_634 : gD b_lw_law 634 .iadd 1 635 := ⟨by decide +kernel, rfl⟩
theorem d_lw_law_635 : gD b_lw_law 635 .iaload 1 636 := ⟨by decide +kernel, rfl⟩
theorem d_lw_law_636 : gD b_lw_law 636 (.invokevirtual 79) 3 639 := ⟨by decide +kernel, rfl⟩
theorem d_lw_law_639 : gD b_lw_law 639 (.aload_n 2) 1 640 := ⟨by decide +kernel, rfl⟩
theorem d_lw_law_640 : gD b_lw_law 640 (.aload_n 0) 1 641 := ⟨by decide +kernel, rfl⟩
theorem d_lw_law_641 : gD b_lw_law 641 (.iload 4) 2 643 := ⟨by decide +kernel, rfl⟩
theorem d_lw_law_643 : gD b_lw_law 643 (.iconst 1) 1 644 := ⟨by decide +kernel, rfl⟩
theorem d_lw_law_644 : gD b_lw_law 644 .iadd 1 645 := ⟨by decide +kernel, rfl⟩
theorem d_lw_law_645 : gD b_lw_law 645 .iaload 1 646 := ⟨by decide +kernel, rfl⟩
theorem d_lw_law_646 : gD b_lw_law 646 (.invokevirtual 82) 3 649 := ⟨by decide +kernel, rfl⟩
theorem d_lw_law_649 : gJ b_lw_law 649 (.if_icmp .eq 971) 3 971 652 1620 := ⟨by decide +kernel, rfl, by decide⟩
theorem d_lw_law_652 : gD b_lw_law 652 (.iconst 0) 1 653 := ⟨by decide +kernel, rfl⟩
theorem d_lw_law_654 : gD b_lw_law 654 (.aload_n 1) 1 655 := ⟨by decide +kernel, rfl⟩
theorem d_lw_law_655 : gD b_lw_law 655 (.aload_n 0) 1 656 := ⟨by decide +kernel, rfl⟩
theorem d_lw_law_656 : gD b_lw_law 656 (.iload 4) 2 658 := ⟨by decide +kernel, rfl⟩
theorem d_lw_law_658 : gD b_lw_law 658 (.iconst 1) 1 659 := ⟨by decide +kernel, rfl⟩
theorem d_lw_law_659 : gD b_lw_law 659 .iadd 1 660 := ⟨by decide +kernel, rfl⟩
theorem d_lw_law_660 : gD b_lw_law 660 .iaload 1 661 := ⟨by decide +kernel, rfl⟩
theorem d_lw_law_661 : gD b_lw_law 661 (.aload_n 0) 1 662 := ⟨by decide +kernel, rfl⟩
theorem d_lw_law_662 : gD b_lw_law 662 (.iload 4) 2 664 := ⟨by decide +kernel, rfl⟩
theorem d_lw_law_664 : gD b_lw_law 664 (.iconst 2) 1 665 := ⟨by decide +kernel, rfl⟩
theorem d_lw_law_665 : gD b_lw_law 665 .iadd 1 666 := ⟨by decide +kernel, rfl⟩
theorem d_lw_law_666 : gD b_lw_law 666 .iaload 1 667 := ⟨by decide +kernel, rfl⟩
theorem d_lw_law_667 : gD b_lw_law 667 (.invokevirtual 83) 3 670 := ⟨by decide +kernel, rfl⟩
theorem d_lw_law_670 : gD b_lw_law 670 (.aload_n 2) 1 671 := ⟨by decide +kernel, rfl⟩
theorem d_lw_law_671 : gD b_lw_law 671 (.aload_n 0) 1 672 := ⟨by decide +kernel, rfl⟩
theorem d_lw_law_672 : gD b_lw_law 672 (.iload 4) 2 674 := ⟨by decide +kernel, rfl⟩
theorem d_lw_law_674 : gD b_lw_law 674 (.iconst 1) 1 675 := ⟨by decide +kernel, rfl⟩
theorem d_lw_law_675 : gD b_lw_law 675 .iadd 1 676 := ⟨by decide +kernel, rfl⟩
theorem d_lw_law_676 : gD b_lw_law 676 .iaload 1 677 := ⟨by decide +kernel, rfl⟩
theorem d_lw_law_677 : gD b_lw_law 677 (.aload_n 0) 1 678 := ⟨by decide +kernel, rfl⟩
theorem d_lw_law_678 : gD b_lw_law 678 (.iload 4) 2 680 := ⟨by decide +kernel, rfl⟩
theorem d_lw_law_680 : gD b_lw_law 680 (.iconst 2) 1 681 := ⟨by decide +kernel, rfl⟩
theorem d_lw_law_681 : gD b_lw_law 681 .iadd 1 682 := ⟨by decide +kernel, rfl⟩
theorem d_lw_law_682 : gD b_lw_law 682 .iaload 1 683 := ⟨by decide +kernel, rfl⟩
theorem d_lw_law_683 : gD b_lw_law 683 (.invokevirtual 86) 3 686 := ⟨by decide +kernel, rfl⟩
theorem d_lw_law_686 : gJ b_lw_law 686 (.if_icmp .eq 934) 3 934 689 1620 := ⟨by decide +kernel, rfl, by decide⟩
theorem d_lw_law_689 : gD b_lw_law 689 (.iconst 0) 1 690 := ⟨by decide +kernel, rfl⟩
theorem d_lw_law_691 : gD b_lw_law 691 (.aload_n 1) 1 692 := ⟨by decide +kernel, rfl⟩
theorem d_lw_law_692 : gD b_lw_law 692 (.aload_n 0) 1 693 := ⟨by decide +kernel, rfl⟩
theorem d_lw_law_693 : gD b_lw_law 693 (.iload 4) 2 695 := ⟨by decide +kernel, rfl⟩
theorem d_lw_law_695 : gD b_lw_law 695 (.iconst 1) 1 696 := ⟨by decide +kernel, rfl⟩
theorem d_lw_law_696 : gD b_lw_law 696 .iadd 1 697 := ⟨by decide +kernel, rfl⟩
theorem d_lw_law_697 : gD b_lw_law 697 .iaload 1 698 := ⟨by decide +kernel, rfl⟩
theorem d_lw_law_698 : gD b_lw_law 698 (.invokevirtual 87) 3 701 := ⟨by decide +kernel, rfl⟩
theorem d_lw_law_701 : gD b_lw_law 701 (.aload_n 2) 1 702 := ⟨by decide +kernel, rfl⟩
theorem d_lw_law_702 : gD b_lw_law 702 (.aload_n 0) 1 703 := ⟨by decide +kernel, rfl⟩
theorem d_lw_law_703 : gD b_lw_law 703 (.iload 4) 2 705 := ⟨by decide +kernel, rfl⟩
theorem d_lw_law_705 : gD b_lw_law 705 (.iconst 1) 1 706 := ⟨by decide +kernel, rfl⟩
theorem d_lw_law_706 : gD b_lw_law 706 .iadd 1 707 := ⟨by decide +kernel, rfl⟩
theorem d_lw_law_707 : gD b_lw_law 707 .iaload 1 708 := ⟨by decide +kernel, rfl⟩
theorem d_lw_law_708 : gD b_lw_law 708 (.invokevirtual 90) 3 711 := ⟨by decide +kernel, rfl⟩
theorem d_lw_law_711 : gJ b_lw_law 711 (.if_icmp .eq 909) 3 909 714 1620 := ⟨by decide +kernel, rfl, by decide⟩
theorem d_lw_law_714 : gD b_lw_law 714 (.iconst 0) 1 715 := ⟨by decide +kernel, rfl⟩
theorem d_lw_law_716 : gD b_lw_law 716 (.aload_n 1) 1 717 := ⟨by decide +kernel, rfl⟩
theorem d_lw_law_717 : gD b_lw_law 717 (.invokevirtual 91) 3 720 := ⟨by decide +kernel, rfl⟩
theorem d_lw_law_720 : gD b_lw_law 720 (.aload_n 2) 1 721 := ⟨by decide +kernel, rfl⟩
theorem d_lw_law_721 : gD b_lw_law 721 (.invokevirtual 94) 3 724 := ⟨by decide +kernel, rfl⟩
theorem d_lw_law_724 : gJ b_lw_law 724 (.if_icmp .eq 896) 3 896 727 1620 := ⟨by decide +kernel, rfl, by decide⟩
theorem d_lw_law_727 : gD b_lw_law 727 (.iconst 0) 1 728 := ⟨by decide +kernel, rfl⟩
theorem d_lw_law_729 : gD b_lw_law 729 (.aload_n 1) 1 730 := ⟨by decide +kernel, rfl⟩
theorem d_lw_law_730 : gD b_lw_law 730 (.invokevirtual 95) 3 733 := ⟨by decide +kernel, rfl⟩
theorem d_lw_law_733 : gD b_lw_law 733 (.aload_n 2) 1 734 := ⟨by decide +kernel, rfl⟩
theorem d_lw_law_734 : gD b_lw_law 734 (.invokevirtual 98) 3 737 := ⟨by decide +kernel, rfl⟩
theorem d_lw_law_737 : gJ b_lw_law 737 (.if_icmp .eq 883) 3 883 740 1620 := ⟨by decide +kernel, rfl, by decide⟩
theorem d_lw_law_740 : gD b_lw_law 740 (.iconst 0) 1 741 := ⟨by decide +kernel, rfl⟩
theorem d_lw_law_742 : gD b_lw_law 742 (.aload_n 1) 1 743 := ⟨by decide +kernel, rfl⟩
theorem d_lw_law_743 : gD b_lw_law 743 (.aload_n 0) 1 744 := ⟨by decide +kernel, rfl⟩
theorem d_lw_law_744 : gD b_lw_law 744 (.iload 4) 2 746 := ⟨by decide +kernel, rfl⟩
theorem d_lw_law_746 : gD b_lw_law 746 (.iconst 1) 1 747 := ⟨by decide +kernel, rfl⟩
theorem d_lw_law_747 : gD b_lw_law 747 .iadd 1 748 := ⟨by decide +kernel, rfl⟩
theorem d_lw_law_748 : gD b_lw_law 748 .iaload 1 749 := ⟨by decide +kernel, rfl⟩
theorem d_lw_law_749 : gD b_lw_law 749 (.aload_n 0) 1 750 := ⟨by decide +kernel, rfl⟩
theorem d_lw_law_750 : gD b_lw_law 750 (.iload 4) 2 752 := ⟨by decide +kernel, rfl⟩
theorem d_lw_law_752 : gD b_lw_law 752 (.iconst 2) 1 753 := ⟨by decide +kernel, rfl⟩
theorem d_lw_law_753 : gD b_lw_law 753 .iadd 1 754 := ⟨by decide +kernel, rfl⟩
theorem d_lw_law_754 : gD b_lw_law 754 .iaload 1 755 := ⟨by decide +kernel, rfl⟩
theorem d_lw_law_755 : gD b_lw_law 755 (.invokevirtual 99) 3 758 := ⟨by decide +kernel, rfl⟩
theorem d_lw_law_758 : gD b_lw_law 758 (.aload_n 2) 1 759 := ⟨by decide +kernel, rfl⟩
theorem d_lw_law_759 : gD b_lw_law 759 (.aload_n 0) 1 760 := ⟨by decide +kernel, rfl⟩
theorem d_lw_law_760 : gD b_lw_law 760 (.iload 4) 2 762 := ⟨by decide +kernel, rfl⟩
theorem d_lw_law_762 : gD b_lw_law 762 (.iconst 1) 1 763 := ⟨by decide +kernel, rfl⟩
theorem d_lw_law_763 : gD b_lw_law 763 .iadd 1 764 := ⟨by decide +kernel, rfl⟩
theorem d_lw_law_764 : gD b_lw_law 764 .iaload 1 765 := ⟨by decide +kernel, rfl⟩
theorem d_lw_law_765 : gD b_lw_law 765 (.aload_n 0) 1 766 := ⟨by decide +kernel, rfl⟩
theorem d_lw_law_766 : gD b_lw_law 766 (.iload 4) 2 768 := ⟨by decide +kernel, rfl⟩
theorem d_lw_law_768 : gD b_lw_law 768 (.iconst 2) 1 769 := ⟨by decide +kernel, rfl⟩
theorem d_lw_law_769 : gD b_lw_law 769 .iadd 1 770 := ⟨by decide +kernel, rfl⟩
theorem d_lw_law_770 : gD b_lw_law 770 .iaload 1 771 := ⟨by decide +kernel, rfl⟩
theorem d_lw_law_771 : gD b_lw_law 771 (.invokevirtual 102) 3 774 := ⟨by decide +kernel, rfl⟩
theorem d_lw_law_774 : gJ b_lw_law 774 (.if_icmp .eq 846) 3 846 777 1620 := ⟨by decide +kernel, rfl, by decide⟩
theorem d_lw_law_777 : gD b_lw_law 777 (.iconst 0) 1 778 := ⟨by decide +kernel, rfl⟩
theorem d_lw_law_779 : gD b_lw_law 779 (.aload_n 1) 1 780 := ⟨by decide +kernel, rfl⟩
theorem d_lw_law_780 : gD b_lw_law 780 (.aload_n 0) 1 781 := ⟨by decide +kernel, rfl⟩
theorem d_lw_law_781 : gD b_lw_law 781 (.iload 4) 2 783 := ⟨by decide +kernel, rfl⟩
theorem d_lw_law_783 : gD b_lw_law 783 (.iconst 1) 1 784 := ⟨by decide +kernel, rfl⟩
theorem d_lw_law_784 : gD b_lw_law 784 .iadd 1 785 := ⟨by decide +kernel, rfl⟩
theorem d_lw_law_785 : gD b_lw_law 785 .iaload 1 786 := ⟨by decide +kernel, rfl⟩
theorem d_lw_law_786 : gD b_lw_law 786 (.invokevirtual 103) 3 789 := ⟨by decide +kernel, rfl⟩
theorem d_lw_law_789 : gD b_lw_law 789 (.aload_n 2) 1 790 := ⟨by decide +kernel, rfl⟩
theorem d_lw_law_790 : gD b_lw_law 790 (.aload_n 0) 1 791 := ⟨by decide +kernel, rfl⟩
theorem d_lw_law_791 : gD b_lw_law 791 (.iload 4) 2 793 := ⟨by decide +kernel, rfl⟩
theorem d_lw_law_793 : gD b_lw_law 793 (.iconst 1) 1 794 := ⟨by decide +kernel, rfl⟩
theorem d_lw_law_794 : gD b_lw_law 794 .iadd 1 795 := ⟨by decide +kernel, rfl⟩
theorem d_lw_law_795 : gD b_lw_law 795 .iaload 1 796 := ⟨by decide +kernel, rfl⟩
theorem d_lw_law_796 : gD b_lw_law 796 (.invokevirtual 106) 3 799 := ⟨by decide +kernel, rfl⟩
theorem d_lw_law_799 : gJ b_lw_law 799 (.if_icmp .eq 821) 3 821 802 1620 := ⟨by decide +kernel, rfl, by decide⟩
theorem d_lw_law_802 : gD b_lw_law 802 (.iconst 0) 1 803 := ⟨by decide +kernel, rfl⟩
theorem d_lw_law_804 : gD b_lw_law 804 (.aload_n 1) 1 805 := ⟨by decide +kernel, rfl⟩
theorem d_lw_law_805 : gD b_lw_law 805 (.aload_n 0) 1 806 := ⟨by decide +kernel, rfl⟩
theorem d_lw_law_806 : gD b_lw_law 806 (.iload 4) 2 808 := ⟨by decide +kernel, rfl⟩
theorem d_lw_law_808 : gD b_lw_law 808 (.iconst 1) 1 809 := ⟨by decide +kernel, rfl⟩
theorem d_lw_law_809 : gD b_lw_law 809 .iadd 1 810 := ⟨by decide +kernel, rfl⟩
theorem d_lw_law_810 : gD b_lw_law 810 .iaload 1 811 := ⟨by decide +kernel, rfl⟩
theorem d_lw_law_811 : gD b_lw_law 811 (.aload_n 0) 1 812 := ⟨by decide +kernel, rfl⟩
theorem d_lw_law_812 : gD b_lw_law 812 (.iload 4) 2 814 := ⟨by decide +kernel, rfl⟩
theorem d_lw_law_814 : gD b_lw_law 814 (.iconst 2) 1 815 := ⟨by decide +kernel, rfl⟩
theorem d_lw_law_815 : gD b_lw_law 815 .iadd 1 816 := ⟨by decide +kernel, rfl⟩
theorem d_lw_law_816 : gD b_lw_law 816 .iaload 1 817 := ⟨by decide +kernel, rfl⟩
theorem d_lw_law_817 : gD b_lw_law 817 (.invokevirtual 107) 3 820 := ⟨by decide +kernel, rfl⟩
theorem d_lw_law_820 : gD b_lw_law 820 (.aload_n 2) 1 821 := ⟨by decide +kernel, rfl⟩
theorem d_lw_law_821 : gD b_lw_law 821 (.aload_n 0) 1 822 := ⟨by decide +kernel, rfl⟩
theorem d_lw_law_822 : gD b_lw_law 822 (.iload 4) 2 824 := ⟨by decide +kernel, rfl⟩
theorem d_lw_law_824 : gD b_lw_law 824 (.iconst 1) 1 825 := ⟨by decide +kernel, rfl⟩
theorem d_lw_law_825 : gD b_lw_law 825 .iadd 1 826 := ⟨by decide +kernel, rfl⟩
theorem d_lw_law_826 : gD b_lw_law 826 .iaload 1 827 := ⟨by decide +kernel, rfl⟩
theorem d_lw_law_827 : gD b_lw_law 827 (.aload_n 0) 1 828 := ⟨by decide +kernel, rfl⟩
theorem d_lw_law_828 : gD b_lw_law 828 (.iload 4) 2 830 := ⟨by decide +kernel, rfl⟩
theorem d_lw_law_830 : gD b_lw_law 830 (.iconst 2) 1 831 := ⟨by decide +kernel, rfl⟩
theorem d_lw_law_831 : gD b_lw_law 831 .iadd 1 832 := ⟨by decide +kernel, rfl⟩
theorem d_lw_law_832 : gD b_lw_law 832 .iaload 1 833 := ⟨by decide +kernel, rfl⟩
theorem d_lw_law_833 : gD b_lw_law 833 (.invokevirtual 110) 3 836 := ⟨by decide +kernel, rfl⟩
theorem d_lw_law_836 : gJ b_lw_law 836 (.if_icmp .eq 784) 3 784 839 1620 := ⟨by decide +kernel, rfl, by decide⟩
theorem d_lw_law_839 : gD b_lw_law 839 (.iconst 0) 1 840 := ⟨by decide +kernel, rfl⟩
theorem d_lw_law_841 : gD b_lw_law 841 (.aload_n 1) 1 842 := ⟨by decide +kernel, rfl⟩
theorem d_lw_law_842 : gD b_lw_law 842 (.aload_n 0) 1 843 := ⟨by decide +kernel, rfl⟩
theorem d_lw_law_843 : gD b_lw_law 843 (.iload 4) 2 845 := ⟨by decide +kernel, rfl⟩
theorem d_lw_law_845 : gD b_lw_law 845 (.iconst 1) 1 846 := ⟨by decide +kernel, rfl⟩
theorem d_lw_law_846 : gD b_lw_law 846 .iadd 1 847 := ⟨by decide +kernel, rfl⟩
theorem d_lw_law_847 : gD b_lw_law 847 .iaload 1 848 := ⟨by decide +kernel, rfl⟩
theorem d_lw_law_848 : gD b_lw_law 848 (.aload_n 0) 1 849 := ⟨by decide +kernel, rfl⟩
theorem d_lw_law_849 : gD b_lw_law 849 (.iload 4) 2 851 := ⟨by decide +kernel, rfl⟩
theorem d_lw_law_851 : gD b_lw_law 851 (.iconst 2) 1 852 := ⟨by decide +kernel, rfl⟩
theorem d_lw_law_852 : gD b_lw_law 852 .iadd 1 853 := ⟨by decide +kernel, rfl⟩
theorem d_lw_law_853 : gD b_lw_law 853 .iaload 1 854 := ⟨by decide +kernel, rfl⟩
theorem d_lw_law_854 : gD b_lw_law 854 (.invokevirtual 111) 3 857 := ⟨by decide +kernel, rfl⟩
theorem d_lw_law_857 : gD b_lw_law 857 (.aload_n 2) 1 858 := ⟨by decide +kernel, rfl⟩
theorem d_lw_law_858 : gD b_lw_law 858 (.aload_n 0) 1 859 := ⟨by decide +kernel, rfl⟩
theorem d_lw_law_859 : gD b_lw_law 859 (.iload 4) 2 861 := ⟨by decide +kernel, rfl⟩
theorem d_lw_law_861 : gD b_lw_law 861 (.iconst 1) 1 862 := ⟨by decide +kernel, rfl⟩
theorem d_lw_law_862 : gD b_lw_law 862 .iadd 1 863 := ⟨by decide +kernel, rfl⟩
theorem d_lw_law_863 : gD b_lw_law 863 .iaload 1 864 := ⟨by decide +kernel, rfl⟩
theorem d_lw_law_864 : gD b_lw_law 864 (.aload_n 0) 1 865 := ⟨by decide +kernel, rfl⟩
theorem d_lw_law_865 : gD b_lw_law 865 (.iload 4) 2 867 := ⟨by decide +kernel, rfl⟩
theorem d_lw_law_867 : gD b_lw_law 867 (.iconst 2) 1 868 := ⟨by decide +kernel, rfl⟩
theorem d_lw_law_868 : gD b_lw_law 868 .iadd 1 869 := ⟨by decide +kernel, rfl⟩
theorem d_lw_law_869 : gD b_lw_law 869 .iaload 1 870 := ⟨by decide +kernel, rfl⟩
theorem d_lw_law_870 : gD b_lw_law 870 (.invokevirtual 114) 3 873 := ⟨by decide +kernel, rfl⟩
theorem d_lw_law_873 : gJ b_lw_law 873 (.if_icmp .eq 747) 3 747 876 1620 := ⟨by decide +kernel, rfl, by decide⟩
theorem d_lw_law_876 : gD b_lw_law 876 (.iconst 0) 1 877 := ⟨by decide +kernel, rfl⟩
theorem d_lw_law_878 : gD b_lw_law 878 (.aload_n 1) 1 879 := ⟨by decide +kernel, rfl⟩
theorem d_lw_law_879 : gD b_lw_law 879 (.aload_n 0) 1 880 := ⟨by decide +kernel, rfl⟩
theorem d_lw_law_880 : gD b_lw_law 880 (.iload 4) 2 882 := ⟨by decide +kernel, rfl⟩
theorem d_lw_law_882 : gD b_lw_law 882 (.iconst 1) 1 883 := ⟨by decide +kernel, rfl⟩
theorem d_lw_law_883 : gD b_lw_law 883 .iadd 1 884 := ⟨by decide +kernel, rfl⟩
theorem d_lw_law_884 : gD b_lw_law 884 .iaload 1 885 := ⟨by decide +kernel, rfl⟩
theorem d_lw_law_885 : gD b_lw_law 885 (.invokevirtual 115) 3 888 := ⟨by decide +kernel, rfl⟩
theorem d_lw_law_888 : gD b_lw_law 888 (.aload_n 2) 1 889 := ⟨by decide +kernel, rfl⟩
theorem d_lw_law_889 : gD b_lw_law 889 (.aload_n 0) 1 890 := ⟨by decide +kernel, rfl⟩
theorem d_lw_law_890 : gD b_lw_law 890 (.iload 4) 2 892 := ⟨by decide +kernel, rfl⟩
theorem d_lw_law_892 : gD b_lw_law 892 (.iconst 1) 1 893 := ⟨by decide +kernel, rfl⟩
theorem d_lw_law_893 : gD b_lw_law 893 .iadd 1 894 := ⟨by decide +kernel, rfl⟩
theorem d_lw_law_894 : gD b_lw_law 894 .iaload 1 895 := ⟨by decide +kernel, rfl⟩
theorem d_lw_law_895 : gD b_lw_law 895 (.invokevirtual 118) 3 898 := ⟨by decide +kernel, rfl⟩
theorem d_lw_law_898 : gJ b_lw_law 898 (.if_icmp .eq 722) 3 722 901 1620 := ⟨by decide +kernel, rfl, by decide⟩
theorem d_lw_law_901 : gD b_lw_law 901 (.iconst 0) 1 902 := ⟨by decide +kernel, rfl⟩
theorem d_lw_law_903 : gD b_lw_law 903 (.aload_n 1) 1 904 := ⟨by decide +kernel, rfl⟩
theorem d_lw_law_904 : gD b_lw_law 904 (.invokevirtual 119) 3 907 := ⟨by decide +kernel, rfl⟩
theorem d_lw_law_907 : gD b_lw_law 907 (.aload_n 2) 1 908 := ⟨by decide +kernel, rfl⟩
theorem d_lw_law_908 : gD b_lw_law 908 (.invokevirtual 122) 3 911 := ⟨by decide +kernel, rfl⟩
theorem d_lw_law_911 : gJ b_lw_law 911 (.if_icmp .eq 709) 3 709 914 1620 := ⟨by decide +kernel, rfl, by decide⟩
theorem d_lw_law_914 : gD b_lw_law 914 (.iconst 0) 1 915 := ⟨by decide +kernel, rfl⟩
theorem d_lw_law_916 : gD b_lw_law 916 (.aload_n 1) 1 917 := ⟨by decide +kernel, rfl⟩
theorem d_lw_law_917 : gD b_lw_law 917 (.aload_n 0) 1 918 := ⟨by decide +kernel, rfl⟩
theorem d_lw_law_918 : gD b_lw_law 918 (.iload 4) 2 920 := ⟨by decide +kernel, rfl⟩
theorem d_lw_law_920 : gD b_lw_law 920 (.iconst 1) 1 921 := ⟨by decide +kernel, rfl⟩
theorem d_lw_law_921 : gD b_lw_law 921 .iadd 1 922 := ⟨by decide +kernel, rfl⟩
theorem d_lw_law_922 : gD b_lw_law 922 .iaload 1 923 := ⟨by decide +kernel, rfl⟩
theorem d_lw_law_923 : gD b_lw_law 923 (.invokevirtual 123) 3 926 := ⟨by decide +kernel, rfl⟩
theorem d_lw_law_926 : gD b_lw_law 926 (.aload_n 2) 1 927 := ⟨by decide +kernel, rfl⟩
theorem d_lw_law_927 : gD b_lw_law 927 (.aload_n 0) 1 928 := ⟨by decide +kernel, rfl⟩
theorem d_lw_law_928 : gD b_lw_law 928 (.iload 4) 2 930 := ⟨by decide +kernel, rfl⟩
theorem d_lw_law_930 : gD b_lw_law 930 (.iconst 1) 1 931 := ⟨by decide +kernel, rfl⟩
theorem d_lw_law_931 : gD b_lw_law 931 .iadd 1 932 := ⟨by decide +kernel, rfl⟩
theorem d_lw_law_932 : gD b_lw_law 932 .iaload 1 933 := ⟨by decide +kernel, rfl⟩
theorem d_lw_law_933 : gD b_lw_law 933 (.invokevirtual 126) 3 936 := ⟨by decide +kernel, rfl⟩
theorem d_lw_law_936 : gJ b_lw_law 936 (.if_icmp .eq 684) 3 684 939 1620 := ⟨by decide +kernel, rfl, by decide⟩
theorem d_lw_law_939 : gD b_lw_law 939 (.iconst 0) 1 940 := ⟨by decide +kernel, rfl⟩
theorem d_lw_law_941 : gD b_lw_law 941 (.aload_n 1) 1 942 := ⟨by decide +kernel, rfl⟩
theorem d_lw_law_942 : gD b_lw_law 942 (.aload_n 0) 1 943 := ⟨by decide +kernel, rfl⟩
theorem d_lw_law_943 : gD b_lw_law 943 (.iload 4) 2 945 := ⟨by decide +kernel, rfl⟩
theorem d_lw_law_945 : gD b_lw_law 945 (.iconst 1) 1 946 := ⟨by decide +kernel, rfl⟩
theorem d_lw_law_946 : gD b_lw_law 946 .iadd 1 947 := ⟨by decide +kernel, rfl⟩
theorem d_lw_law_947 : gD b_lw_law 947 .iaload 1 948 := ⟨by decide +kernel, rfl⟩
theorem d_lw_law_948 : gD b_lw_law 948 (.aload_n 0) 1 949 := ⟨by decide +kernel, rfl⟩
theorem d_lw_law_949 : gD b_lw_law 949 (.iload 4) 2 951 := ⟨by decide +kernel, rfl⟩
theorem d_lw_law_951 : gD b_lw_law 951 (.iconst 2) 1 952 := ⟨by decide +kernel, rfl⟩
theorem d_lw_law_952 : gD b_lw_law 952 .iadd 1 953 := ⟨by decide +kernel, rfl⟩
theorem d_lw_law_953 : gD b_lw_law 953 .iaload 1 954 := ⟨by decide +kernel, rfl⟩
theorem d_lw_law_954 : gD b_lw_law 954 (.invokevirtual 127) 3 957 := ⟨by decide +kernel, rfl⟩
theorem d_lw_law_957 : gD b_lw_law 957 (.aload_n 2) 1 958 := ⟨by decide +kernel, rfl⟩
theorem d_lw_law_958 : gD b_lw_law 958 (.aload_n 0) 1 959 := ⟨by decide +kernel, rfl⟩
theorem d_lw_law_959 : gD b_lw_law 959 (.iload 4) 2 961 := ⟨by decide +kernel, rfl⟩
theorem d_lw_law_961 : gD b_lw_law 961 (.iconst 1) 1 962 := ⟨by decide +kernel, rfl⟩
theorem d_lw_law_962 : gD b_lw_law 962 .iadd 1 963 := ⟨by decide +kernel, rfl⟩
theorem d_lw_law_963 : gD b_lw_law 963 .iaload 1 964 := ⟨by decide +kernel, rfl⟩
theorem d_lw_law_964 : gD b_lw_law 964 (.aload_n 0) 1 965 := ⟨by decide +kernel, rfl⟩
theorem d_lw_law_965 : gD b_lw_law 965 (.iload 4) 2 967 := ⟨by decide +kernel, rfl⟩
theorem d_lw_law_967 : gD b_lw_law 967 (.iconst 2) 1 968 := ⟨by decide +kernel, rfl⟩
theorem d_lw_law_968 : gD b_lw_law 968 .iadd 1 969 := ⟨by decide +kernel, rfl⟩
theorem d_lw_law_969 : gD b_lw_law 969 .iaload 1 970 := ⟨by decide +kernel, rfl⟩
theorem d_lw_law_970 : gD b_lw_law 970 (.invokevirtual 130) 3 973 := ⟨by decide +kernel, rfl⟩
theorem d_lw_law_973 : gJ b_lw_law 973 (.if_icmp .eq 647) 3 647 976 1620 := ⟨by decide +kernel, rfl, by decide⟩
theorem d_lw_law_976 : gD b_lw_law 976 (.iconst 0) 1 977 := ⟨by decide +kernel, rfl⟩
theorem d_lw_law_978 : gD b_lw_law 978 (.aload_n 1) 1 979 := ⟨by decide +kernel, rfl⟩
theorem d_lw_law_979 : gD b_lw_law 979 (.aload_n 0) 1 980 := ⟨by decide +kernel, rfl⟩
theorem d_lw_law_980 : gD b_lw_law 980 (.iload 4) 2 982 := ⟨by decide +kernel, rfl⟩
theorem d_lw_law_982 : gD b_lw_law 982 (.iconst 1) 1 983 := ⟨by decide +kernel, rfl⟩
theorem d_lw_law_983 : gD b_lw_law 983 .iadd 1 984 := ⟨by decide +kernel, rfl⟩
theorem d_lw_law_984 : gD b_lw_law 984 .iaload 1 985 := ⟨by decide +kernel, rfl⟩
theorem d_lw_law_985 : gD b_lw_law 985 (.aload_n 0) 1 986 := ⟨by decide +kernel, rfl⟩
theorem d_lw_law_986 : gD b_lw_law 986 (.iload 4) 2 988 := ⟨by decide +kernel, rfl⟩
theorem d_lw_law_988 : gD b_lw_law 988 (.iconst 2) 1 989 := ⟨by decide +kernel, rfl⟩
theorem d_lw_law_989 : gD b_lw_law 989 .iadd 1 990 := ⟨by decide +kernel, rfl⟩
theorem d_lw_law_990 : gD b_lw_law 990 .iaload 1 991 := ⟨by decide +kernel, rfl⟩
theorem d_lw_law_991 : gD b_lw_law 991 (.aload_n 0) 1 992 := ⟨by decide +kernel, rfl⟩
theorem d_lw_law_992 : gD b_lw_law 992 (.iload 4) 2 994 := ⟨by decide +kernel, rfl⟩
theorem d_lw_law_994 : gD b_lw_law 994 (.iconst 3) 1 995 := ⟨by decide +kernel, rfl⟩
theorem d_lw_law_995 : gD b_lw_law 995 .iadd 1 996 := ⟨by decide +kernel, rfl⟩
theorem d_lw_law_996 : gD b_lw_law 996 .iaload 1 997 := ⟨by decide +kernel, rfl⟩
theorem d_lw_law_997 : gD b_lw_law 997 (.invokevirtual 131) 3 1000 := ⟨by decide +kernel, rfl⟩
theorem d_lw_law_1000 : gD b_lw_law 1000 (.aload_n 2) 1 1001 := ⟨by decide +kernel, rfl⟩
theorem d_lw_law_1001 : gD b_lw_law 1001 (.aload_n 0) 1 1002 := ⟨by decide +kernel, rfl⟩
theorem d_lw_law_1002 : gD b_lw_law 1002 (.iload 4) 2 1004 := ⟨by decide +kernel, rfl⟩
theorem d_lw_law_1004 : gD b_lw_law 1004 (.iconst 1) 1 1005 := ⟨by decide +kernel, rfl⟩
theorem d_lw_law_1005 : gD b_lw_law 1005 .iadd 1 1006 := ⟨by decide +kernel, rfl⟩
theorem d_lw_law_1006 : gD b_lw_law 1006 .iaload 1 1007 := ⟨by decide +kernel, rfl⟩
theorem d_lw_law_1007 : gD b_lw_law 1007 (.aload_n 0) 1 1008 := ⟨by decide +kernel, rfl⟩
theorem d_lw_law_1008 : gD b_lw_law 1008 (.iload 4) 2 1010 := ⟨by decide +kernel, rfl⟩
theorem d_lw_law_1010 : gD b_lw_law 1010 (.iconst 2) 1 1011 := ⟨by decide +kernel, rfl⟩
theorem d_lw_law_1011 : gD b_lw_law 1011 .iadd 1 1012 := ⟨by decide +kernel, rfl⟩
theorem d_lw_law_1012 : gD b_lw_law 1012 .iaload 1 1013 := ⟨by decide +kernel, rfl⟩
theorem d_lw_law_1013 : gD b_lw_law 1013 (.aload_n 0) 1 1014 := ⟨by decide +kernel, rfl⟩
theorem d_lw_law_1014 : gD b_lw_law 1014 (.iload 4) 2 1016 := ⟨by decide +kernel, rfl⟩
theorem d_lw_law_1016 : gD b_lw_law 1016 (.iconst 3) 1 1017 := ⟨by decide +kernel, rfl⟩
theorem d_lw_law_1017 : gD b_lw_law 1017 .iadd 1 1018 := ⟨by decide +kernel, rfl⟩
theorem d_lw_law_1018 : gD b_lw_law 1018 .iaload 1 1019 := ⟨by decide +kernel, rfl⟩
theorem d_lw_law_1019 : gD b_lw_law 1019 (.invokevirtual 134) 3 1022 := ⟨by decide +kernel, rfl⟩
theorem d_lw_law_1022 : gJ b_lw_law 1022 (.if_icmp .eq 598) 3 598 1025 1620 := ⟨by decide +kernel, rfl, by decide⟩
theorem d_lw_law_1025 : gD b_lw_law 1025 (.iconst 0) 1 1026 := ⟨by decide +kernel, rfl⟩
theorem d_lw_law_1027 : gD b_lw_law 1027 (.aload_n 1) 1 1028 := ⟨by decide +kernel, rfl⟩
theorem d_lw_law_1028 : gD b_lw_law 1028 (.aload_n 0) 1 1029 := ⟨by decide +kernel, rfl⟩
theorem d_lw_law_1029 : gD b_lw_law 1029 (.iload 4) 2 1031 := ⟨by decide +kernel, rfl⟩
theorem d_lw_law_1031 : gD b_lw_law 1031 (.iconst 1) 1 1032 := ⟨by decide +kernel, rfl⟩
theorem d_lw_law_1032 : gD b_lw_law 1032 .iadd 1 1033 := ⟨by decide +kernel, rfl⟩
theorem d_lw_law_1033 : gD b_lw_law 1033 .iaload 1 1034 := ⟨by decide +kernel, rfl⟩
theorem d_lw_law_1034 : gD b_lw_law 1034 (.invokevirtual 135) 3 1037 := ⟨by decide +kernel, rfl⟩
theorem d_lw_law_1037 : gD b_lw_law 1037 (.aload_n 2) 1 1038 := ⟨by decide +kernel, rfl⟩
theorem d_lw_law_1038 : gD b_lw_law 1038 (.aload_n 0) 1 1039 := ⟨by decide +kernel, rfl⟩
theorem d_lw_law_1039 : gD b_lw_law 1039 (.iload 4) 2 1041 := ⟨by decide +kernel, rfl⟩
theorem d_lw_law_1041 : gD b_lw_law 1041 (.iconst 1) 1 1042 := ⟨by decide +kernel, rfl⟩
theorem d_lw_law_1042 : gD b_lw_law 1042 .iadd 1 1043 := ⟨by decide +kernel, rfl⟩
theorem d_lw_law_1043 : gD b_lw_law 1043 .iaload 1 1044 := ⟨by decide +kernel, rfl⟩
theorem d_lw_law_1044 : gD b_lw_law 1044 (.invokevirtual 138) 3 1047 := ⟨by decide +kernel, rfl⟩
theorem d_lw_law_1047 : gJ b_lw_law 1047 (.if_icmp .eq 573) 3 573 1050 1620 := ⟨by decide +kernel, rfl, by decide⟩
theorem d_lw_law_1050 : gD b_lw_law 1050 (.iconst 0) 1 1051 := ⟨by decide +kernel, rfl⟩
theorem d_lw_law_1052 : gD b_lw_law 1052 (.aload_n 1) 1 1053 := ⟨by decide +kernel, rfl⟩
theorem d_lw_law_1053 : gD b_lw_law 1053 (.aload_n 0) 1 1054 := ⟨by decide +kernel, rfl⟩
theorem d_lw_law_1054 : gD b_lw_law 1054 (.iload 4) 2 1056 := ⟨by decide +kernel, rfl⟩
theorem d_lw_law_1056 : gD b_lw_law 1056 (.iconst 1) 1 1057 := ⟨by decide +kernel, rfl⟩
theorem d_lw_law_1057 : gD b_lw_law 1057 .iadd 1 1058 := ⟨by decide +kernel, rfl⟩
theorem d_lw_law_1058 : gD b_lw_law 1058 .iaload 1 1059 := ⟨by decide +kernel, rfl⟩
theorem d_lw_law_1059 : gD b_lw_law 1059 (.aload_n 0) 1 1060 := ⟨by decide +kernel, rfl⟩
theorem d_lw_law_1060 : gD b_lw_law 1060 (.iload 4) 2 1062 := ⟨by decide +kernel, rfl⟩
theorem d_lw_law_1062 : gD b_lw_law 1062 (.iconst 2) 1 1063 := ⟨by decide +kernel, rfl⟩
theorem d_lw_law_1063 : gD b_lw_law 1063 .iadd 1 1064 := ⟨by decide +kernel, rfl⟩
theorem d_lw_law_1064 : gD b_lw_law 1064 .iaload 1 1065 := ⟨by decide +kernel, rfl⟩
theorem d_lw_law_1065 : gD b_lw_law 1065 (.invokevirtual 139) 3 1068 := ⟨by decide +kernel, rfl⟩
theorem d_lw_law_1068 : gD b_lw_law 1068 (.aload_n 2) 1 1069 := ⟨by decide +kernel, rfl⟩
theorem d_lw_law_1069 : gD b_lw_law 1069 (.aload_n 0) 1 1070 := ⟨by decide +kernel, rfl⟩
theorem d_lw_law_1070 : gD b_lw_law 1070 (.iload 4) 2 1072 := ⟨by decide +kernel, rfl⟩
theorem d_lw_law_1072 : gD b_lw_law 1072 (.iconst 1) 1 1073 := ⟨by decide +kernel, rfl⟩
theorem d_lw_law_1073 : gD b_lw_law 1073 .iadd 1 1074 := ⟨by decide +kernel, rfl⟩
theorem d_lw_law_1074 : gD b_lw_law 1074 .iaload 1 1075 := ⟨by decide +kernel, rfl⟩
theorem d_lw_law_1075 : gD b_lw_law 1075 (.aload_n 0) 1 1076 := ⟨by decide +kernel, rfl⟩
theorem d_lw_law_1076 : gD b_lw_law 1076 (.iload 4) 2 1078 := ⟨by decide +kernel, rfl⟩
theorem d_lw_law_1078 : gD b_lw_law 1078 (.iconst 2) 1 1079 := ⟨by decide +kernel, rfl⟩
theorem d_lw_law_1079 : gD b_lw_law 1079 .iadd 1 1080 := ⟨by decide +kernel, rfl⟩
theorem d_lw_law_1080 : gD b_lw_law 1080 .iaload 1 1081 := ⟨by decide +kernel, rfl⟩
theorem d_lw_law_1081 : gD b_lw_law 1081 (.invokevirtual 142) 3 1084 := ⟨by decide +kernel, rfl⟩
theorem d_lw_law_1084 : gJ b_lw_law 1084 (.if_icmp .eq 536) 3 536 1087 1620 := ⟨by decide +kernel, rfl, by decide⟩
theorem d_lw_law_1087 : gD b_lw_law 1087 (.iconst 0) 1 1088 := ⟨by decide +kernel, rfl⟩
theorem d_lw_law_1089 : gD b_lw_law 1089 (.aload_n 1) 1 1090 := ⟨by decide +kernel, rfl⟩
theorem d_lw_law_1090 : gD b_lw_law 1090 (.invokevirtual 143) 3 1093 := ⟨by decide +kernel, rfl⟩
theorem d_lw_law_1093 : gD b_lw_law 1093 (.aload_n 2) 1 1094 := ⟨by decide +kernel, rfl⟩
theorem d_lw_law_1094 : gD b_lw_law 1094 (.invokevirtual 146) 3 1097 := ⟨by decide +kernel, rfl⟩
theorem d_lw_law_1097 : gJ b_lw_law 1097 (.if_icmp .eq 523) 3 523 1100 1620 := ⟨by decide +kernel, rfl, by decide⟩
theorem d_lw_law_1100 : gD b_lw_law 1100 (.iconst 0) 1 1101 := ⟨by decide +kernel, rfl⟩
theorem d_lw_law_1102 : gD b_lw_law 1102 (.aload_n 1) 1 1103 := ⟨by decide +kernel, rfl⟩
theorem d_lw_law_1103 : gD b_lw_law 1103 (.aload_n 0) 1 1104 := ⟨by decide +kernel, rfl⟩
theorem d_lw_law_1104 : gD b_lw_law 1104 (.iload 4) 2 1106 := ⟨by decide +kernel, rfl⟩
theorem d_lw_law_1106 : gD b_lw_law 1106 (.iconst 1) 1 1107 := ⟨by decide +kernel, rfl⟩
theorem d_lw_law_1107 : gD b_lw_law 1107 .iadd 1 1108 := ⟨by decide +kernel, rfl⟩
theorem d_lw_law_1108 : gD b_lw_law 1108 .iaload 1 1109 := ⟨by decide +kernel, rfl⟩
theorem d_lw_law_1109 : gD b_lw_law 1109 (.aload_n 0) 1 1110 := ⟨by decide +kernel, rfl⟩
theorem d_lw_law_1110 : gD b_lw_law 1110 (.iload 4) 2 1112 := ⟨by decide +kernel, rfl⟩
theorem d_lw_law_1112 : gD b_lw_law 1112 (.iconst 2) 1 1113 := ⟨by decide +kernel, rfl⟩
theorem d_lw_law_1113 : gD b_lw_law 1113 .iadd 1 1114 := ⟨by decide +kernel, rfl⟩
theorem d_lw_law_1114 : gD b_lw_law 1114 .iaload 1 1115 := ⟨by decide +kernel, rfl⟩
theorem d_lw_law_1115 : gD b_lw_law 1115 (.aload_n 0) 1 1116 := ⟨by decide +kernel, rfl⟩
theorem d_lw_law_1116 : gD b_lw_law 1116 (.iload 4) 2 1118 := ⟨by decide +kernel, rfl⟩
theorem d_lw_law_1118 : gD b_lw_law 1118 (.iconst 3) 1 1119 := ⟨by decide +kernel, rfl⟩
theorem d_lw_law_1119 : gD b_lw_law 1119 .iadd 1 1120 := ⟨by decide +kernel, rfl⟩
theorem d_lw_law_1120 : gD b_lw_law 1120 .iaload 1 1121 := ⟨by decide +kernel, rfl⟩
theorem d_lw_law_1121 : gD b_lw_law 1121 (.invokevirtual 147) 3 1124 := ⟨by decide +kernel, rfl⟩
theorem d_lw_law_1124 : gD b_lw_law 1124 (.aload_n 2) 1 1125 := ⟨by decide +kernel, rfl⟩
theorem d_lw_law_1125 : gD b_lw_law 1125 (.aload_n 0) 1 1126 := ⟨by decide +kernel, rfl⟩
theorem d_lw_law_1126 : gD b_lw_law 1126 (.iload 4) 2 1128 := ⟨by decide +kernel, rfl⟩
theorem d_lw_law_1128 : gD b_lw_law 1128 (.iconst 1) 1 1129 := ⟨by decide +kernel, rfl⟩
theorem d_lw_law_1129 : gD b_lw_law 1129 .iadd 1 1130 := ⟨by decide +kernel, rfl⟩
theorem d_lw_law_1130 : gD b_lw_law 1130 .iaload 1 1131 := ⟨by decide +kernel, rfl⟩
theorem d_lw_law_1131 : gD b_lw_law 1131 (.aload_n 0) 1 1132 := ⟨by decide +kernel, rfl⟩
theorem d_lw_law_1132 : gD b_lw_law 1132 (.iload 4) 2 1134 := ⟨by decide +kernel, rfl⟩
theorem d_lw_law_1134 : gD b_lw_law 1134 (.iconst 2) 1 1135 := ⟨by decide +kernel, rfl⟩
theorem d_lw_law_1135 : gD b_lw_law 1135 .iadd 1 1136 := ⟨by decide +kernel, rfl⟩
theorem d_lw_law_1136 : gD b_lw_law 1136 .iaload 1 1137 := ⟨by decide +kernel, rfl⟩
theorem d_lw_law_1137 : gD b_lw_law 1137 (.aload_n 0) 1 1138 := ⟨by decide +kernel, rfl⟩
theorem d_lw_law_1138 : gD b_lw_law 1138 (.iload 4) 2 1140 := ⟨by decide +kernel, rfl⟩
theorem d_lw_law_1140 : gD b_lw_law 1140 (.iconst 3) 1 1141 := ⟨by decide +kernel, rfl⟩
theorem d_lw_law_1141 : gD b_lw_law 1141 .iadd 1 1142 := ⟨by decide +kernel, rfl⟩
theorem d_lw_law_1142 : gD b_lw_law 1142 .iaload 1 1143 := ⟨by decide +kernel, rfl⟩
theorem d_lw_law_1143 : gD b_lw_law 1143 (.invokevirtual 150) 3 1146 := ⟨by decide +kernel, rfl⟩
theorem d_lw_law_1146 : gJ b_lw_law 1146 (.if_icmp .eq 474) 3 474 1149 1620 := ⟨by decide +kernel, rfl, by decide⟩
theorem d_lw_law_1149 : gD b_lw_law 1149 (.iconst 0) 1 1150 := ⟨by decide +kernel, rfl⟩
theorem d_lw_law_1151 : gD b_lw_law 1151 (.aload_n 1) 1 1152 := ⟨by decide +kernel, rfl⟩
theorem d_lw_law_1152 : gD b_lw_law 1152 (.invokevirtual 151) 3 1155 := ⟨by decide +kernel, rfl⟩
theorem d_lw_law_1155 : gD b_lw_law 1155 (.aload_n 2) 1 1156 := ⟨by decide +kernel, rfl⟩
theorem d_lw_law_1156 : gD b_lw_law 1156 (.invokevirtual 154) 3 1159 := ⟨by decide +kernel, rfl⟩
theorem d_lw_law_1159 : gJ b_lw_law 1159 (.if_icmp .eq 461) 3 461 1162 1620 := ⟨by decide +kernel, rfl, by decide⟩
theorem d_lw_law_1162 : gD b_lw_law 1162 (.iconst 0) 1 1163 := ⟨by decide +kernel, rfl⟩
theorem d_lw_law_1164 : gD b_lw_law 1164 (.aload_n 1) 1 1165 := ⟨by decide +kernel, rfl⟩
theorem d_lw_law_1165 : gD b_lw_law 1165 (.invokevirtual 155) 3 1168 := ⟨by decide +kernel, rfl⟩
theorem d_lw_law_1168 : gD b_lw_law 1168 (.aload_n 2) 1 1169 := ⟨by decide +kernel, rfl⟩
theorem d_lw_law_1169 : gD b_lw_law 1169 (.invokevirtual 158) 3 1172 := ⟨by decide +kernel, rfl⟩
theorem d_lw_law_1172 : gJ b_lw_law 1172 (.if_icmp .eq 448) 3 448 1175 1620 := ⟨by decide +kernel, rfl, by decide⟩
theorem d_lw_law_1175 : gD b_lw_law 1175 (.iconst 0) 1 1176 := ⟨by decide +kernel, rfl⟩
theorem d_lw_law_1177 : gD b_lw_law 1177 (.aload_n 1) 1 1178 := ⟨by decide +kernel, rfl⟩
theorem d_lw_law_1178 : gD b_lw_law 1178 (.aload_n 0) 1 1179 := ⟨by decide +kernel, rfl⟩
theorem d_lw_law_1179 : gD b_lw_law 1179 (.iload 4) 2 1181 := ⟨by decide +kernel, rfl⟩
theorem d_lw_law_1181 : gD b_lw_law 1181 (.iconst 1) 1 1182 := ⟨by decide +kernel, rfl⟩
theorem d_lw_law_1182 : gD b_lw_law 1182 .iadd 1 1183 := ⟨by decide +kernel, rfl⟩
theorem d_lw_law_1183 : gD b_lw_law 1183 .iaload 1 1184 := ⟨by decide +kernel, rfl⟩
theorem d_lw_law_1184 : gD b_lw_law 1184 (.invokevirtual 159) 3 1187 := ⟨by decide +kernel, rfl⟩
theorem d_lw_law_1187 : gD b_lw_law 1187 (.aload_n 2) 1 1188 := ⟨by decide +kernel, rfl⟩
theorem d_lw_law_1188 : gD b_lw_law 1188 (.aload_n 0) 1 1189 := ⟨by decide +kernel, rfl⟩
theorem d_lw_law_1189 : gD b_lw_law 1189 (.iload 4) 2 1191 := ⟨by decide +kernel, rfl⟩
theorem d_lw_law_1191 : gD b_lw_law 1191 (.iconst 1) 1 1192 := ⟨by decide +kernel, rfl⟩
theorem d_lw_law_1192 : gD b_lw_law 1192 .iadd 1 1193 := ⟨by decide +kernel, rfl⟩
theorem d_lw_law_1193 : gD b_lw_law 1193 .iaload 1 1194 := ⟨by decide +kernel, rfl⟩
theorem d_lw_law_1194 : gD b_lw_law 1194 (.invokevirtual 162) 3 1197 := ⟨by decide +kernel, rfl⟩
theorem d_lw_law_1197 : gD b_lw_law 1197 .lcmp 1 1198 := ⟨by decide +kernel, rfl⟩
theorem d_lw_law_1198 : gJ b_lw_law 1198 (.ifCond .eq 422) 3 422 1201 1620 := ⟨by decide +kernel, rfl, by decide⟩
theorem d_lw_law_1201 : gD b_lw_law 1201 (.iconst 0) 1 1202 := ⟨by decide +kernel, rfl⟩
theorem d_lw_law_1203 : gD b_lw_law 1203 (.aload_n 1) 1 1204 := ⟨by decide +kernel, rfl⟩
theorem d_lw_law_1204 : gD b_lw_law 1204 (.aload_n 0) 1 1205 := ⟨by decide +kernel, rfl⟩
theorem d_lw_law_1205 : gD b_lw_law 1205 (.iload 4) 2 1207 := ⟨by decide +kernel, rfl⟩
theorem d_lw_law_1207 : gD b_lw_law 1207 (.iconst 1) 1 1208 := ⟨by decide +kernel, rfl⟩
theorem d_lw_law_1208 : gD b_lw_law 1208 .iadd 1 1209 := ⟨by decide +kernel, rfl⟩
theorem d_lw_law_1209 : gD b_lw_law 1209 .iaload 1 1210 := ⟨by decide +kernel, rfl⟩
theorem d_lw_law_1210 : gD b_lw_law 1210 (.aload_n 0) 1 1211 := ⟨by decide +kernel, rfl⟩
theorem d_lw_law_1211 : gD b_lw_law 1211 (.iload 4) 2 1213 := ⟨by decide +kernel, rfl⟩
theorem d_lw_law_1213 : gD b_lw_law 1213 (.iconst 2) 1 1214 := ⟨by decide +kernel, rfl⟩
theorem d_lw_law_1214 : gD b_lw_law 1214 .iadd 1 1215 := ⟨by decide +kernel, rfl⟩
theorem d_lw_law_1215 : gD b_lw_law 1215 .iaload 1 1216 := ⟨by decide +kernel, rfl⟩
theorem d_lw_law_1216 : gD b_lw_law 1216 (.invokevirtual 163) 3 1219 := ⟨by decide +kernel, rfl⟩
theorem d_lw_law_1219 : gD b_lw_law 1219 (.aload_n 2) 1 1220 := ⟨by decide +kernel, rfl⟩
theorem d_lw_law_1220 : gD b_lw_law 1220 (.aload_n 0) 1 1221 := ⟨by decide +kernel, rfl⟩
theorem d_lw_law_1221 : gD b_lw_law 1221 (.iload 4) 2 1223 := ⟨by decide +kernel, rfl⟩
theorem d_lw_law_1223 : gD b_lw_law 1223 (.iconst 1) 1 1224 := ⟨by decide +kernel, rfl⟩
theorem d_lw_law_1224 : gD b_lw_law 1224 .iadd 1 1225 := ⟨by decide +kernel, rfl⟩
theorem d_lw_law_1225 : gD b_lw_law 1225 .iaload 1 1226 := ⟨by decide +kernel, rfl⟩
theorem d_lw_law_1226 : gD b_lw_law 1226 (.aload_n 0) 1 1227 := ⟨by decide +kernel, rfl⟩
theorem d_lw_law_1227 : gD b_lw_law 1227 (.iload 4) 2 1229 := ⟨by decide +kernel, rfl⟩
theorem d_lw_law_1229 : gD b_lw_law 1229 (.iconst 2) 1 1230 := ⟨by decide +kernel, rfl⟩
theorem d_lw_law_1230 : gD b_lw_law 1230 .iadd 1 1231 := ⟨by decide +kernel, rfl⟩
theorem d_lw_law_1231 : gD b_lw_law 1231 .iaload 1 1232 := ⟨by decide +kernel, rfl⟩
theorem d_lw_law_1232 : gD b_lw_law 1232 (.invokevirtual 166) 3 1235 := ⟨by decide +kernel, rfl⟩
theorem d_lw_law_1235 : gJ b_lw_law 1235 (.if_icmp .eq 385) 3 385 1238 1620 := ⟨by decide +kernel, rfl, by decide⟩
theorem d_lw_law_1238 : gD b_lw_law 1238 (.iconst 0) 1 1239 := ⟨by decide +kernel, rfl⟩
theorem d_lw_law_1240 : gD b_lw_law 1240 (.aload_n 1) 1 1241 := ⟨by decide +kernel, rfl⟩
theorem d_lw_law_1241 : gD b_lw_law 1241 (.invokevirtual 167) 3 1244 := ⟨by decide +kernel, rfl⟩
theorem d_lw_law_1244 : gD b_lw_law 1244 (.aload_n 2) 1 1245 := ⟨by decide +kernel, rfl⟩
theorem d_lw_law_1245 : gD b_lw_law 1245 (.invokevirtual 170) 3 1248 := ⟨by decide +kernel, rfl⟩
theorem d_lw_law_1248 : gJ b_lw_law 1248 (.if_icmp .eq 372) 3 372 1251 1620 := ⟨by decide +kernel, rfl, by decide⟩
theorem d_lw_law_1251 : gD b_lw_law 1251 (.iconst 0) 1 1252 := ⟨by decide +kernel, rfl⟩
theorem d_lw_law_1253 : gD b_lw_law 1253 (.aload_n 1) 1 1254 := ⟨by decide +kernel, rfl⟩
theorem d_lw_law_1254 : gD b_lw_law 1254 (.invokevirtual 171) 3 1257 := ⟨by decide +kernel, rfl⟩
theorem d_lw_law_1257 : gD b_lw_law 1257 (.aload_n 2) 1 1258 := ⟨by decide +kernel, rfl⟩
theorem d_lw_law_1258 : gD b_lw_law 1258 (.invokevirtual 174) 3 1261 := ⟨by decide +kernel, rfl⟩
theorem d_lw_law_1261 : gJ b_lw_law 1261 (.if_icmp .eq 359) 3 359 1264 1620 := ⟨by decide +kernel, rfl, by decide⟩
theorem d_lw_law_1264 : gD b_lw_law 1264 (.iconst 0) 1 1265 := ⟨by decide +kernel, rfl⟩
theorem d_lw_law_1266 : gD b_lw_law 1266 (.aload_n 1) 1 1267 := ⟨by decide +kernel, rfl⟩
theorem d_lw_law_1267 : gD b_lw_law 1267 (.invokevirtual 175) 3 1270 := ⟨by decide +kernel, rfl⟩
theorem d_lw_law_1270 : gD b_lw_law 1270 (.aload_n 2) 1 1271 := ⟨by decide +kernel, rfl⟩
theorem d_lw_law_1271 : gD b_lw_law 1271 (.invokevirtual 178) 3 1274 := ⟨by decide +kernel, rfl⟩
theorem d_lw_law_1274 : gJ b_lw_law 1274 (.if_icmp .eq 346) 3 346 1277 1620 := ⟨by decide +kernel, rfl, by decide⟩
theorem d_lw_law_1277 : gD b_lw_law 1277 (.iconst 0) 1 1278 := ⟨by decide +kernel, rfl⟩
theorem d_lw_law_1279 : gD b_lw_law 1279 (.aload_n 1) 1 1280 := ⟨by decide +kernel, rfl⟩
theorem d_lw_law_1280 : gD b_lw_law 1280 (.aload_n 0) 1 1281 := ⟨by decide +kernel, rfl⟩
theorem d_lw_law_1281 : gD b_lw_law 1281 (.iload 4) 2 1283 := ⟨by decide +kernel, rfl⟩
theorem d_lw_law_1283 : gD b_lw_law 1283 (.iconst 1) 1 1284 := ⟨by decide +kernel, rfl⟩
theorem d_lw_law_1284 : gD b_lw_law 1284 .iadd 1 1285 := ⟨by decide +kernel, rfl⟩
theorem d_lw_law_1285 : gD b_lw_law 1285 .iaload 1 1286 := ⟨by decide +kernel, rfl⟩
theorem d_lw_law_1286 : gD b_lw_law 1286 (.aload_n 0) 1 1287 := ⟨by decide +kernel, rfl⟩
theorem d_lw_law_1287 : gD b_lw_law 1287 (.iload 4) 2 1289 := ⟨by decide +kernel, rfl⟩
theorem d_lw_law_1289 : gD b_lw_law 1289 (.iconst 2) 1 1290 := ⟨by decide +kernel, rfl⟩
theorem d_lw_law_1290 : gD b_lw_law 1290 .iadd 1 1291 := ⟨by decide +kernel, rfl⟩
theorem d_lw_law_1291 : gD b_lw_law 1291 .iaload 1 1292 := ⟨by decide +kernel, rfl⟩
theorem d_lw_law_1292 : gD b_lw_law 1292 (.aload_n 0) 1 1293 := ⟨by decide +kernel, rfl⟩
theorem d_lw_law_1293 : gD b_lw_law 1293 (.iload 4) 2 1295 := ⟨by decide +kernel, rfl⟩
theorem d_lw_law_1295 : gD b_lw_law 1295 (.iconst 3) 1 1296 := ⟨by decide +kernel, rfl⟩
theorem d_lw_law_1296 : gD b_lw_law 1296 .iadd 1 1297 := ⟨by decide +kernel, rfl⟩
theorem d_lw_law_1297 : gD b_lw_law 1297 .iaload 1 1298 := ⟨by decide +kernel, rfl⟩
theorem d_lw_law_1298 : gD b_lw_law 1298 (.aload_n 0) 1 1299 := ⟨by decide +kernel, rfl⟩
theorem d_lw_law_1299 : gD b_lw_law 1299 (.iload 4) 2 1301 := ⟨by decide +kernel, rfl⟩
theorem d_lw_law_1301 : gD b_lw_law 1301 (.iconst 4) 1 1302 := ⟨by decide +kernel, rfl⟩
theorem d_lw_law_1302 : gD b_lw_law 1302 .iadd 1 1303 := ⟨by decide +kernel, rfl⟩
theorem d_lw_law_1303 : gD b_lw_law 1303 .iaload 1 1304 := ⟨by decide +kernel, rfl⟩
theorem d_lw_law_1304 : gD b_lw_law 1304 (.aload_n 0) 1 1305 := ⟨by decide +kernel, rfl⟩
theorem d_lw_law_1305 : gD b_lw_law 1305 (.iload 4) 2 1307 := ⟨by decide +kernel, rfl⟩
theorem d_lw_law_1307 : gD b_lw_law 1307 (.iconst 5) 1 1308 := ⟨by decide +kernel, rfl⟩
theorem d_lw_law_1308 : gD b_lw_law 1308 .iadd 1 1309 := ⟨by decide +kernel, rfl⟩
theorem d_lw_law_1309 : gD b_lw_law 1309 .iaload 1 1310 := ⟨by decide +kernel, rfl⟩
theorem d_lw_law_1310 : gD b_lw_law 1310 (.invokevirtual 179) 3 1313 := ⟨by decide +kernel, rfl⟩
theorem d_lw_law_1313 : gD b_lw_law 1313 (.aload_n 2) 1 1314 := ⟨by decide +kernel, rfl⟩
theorem d_lw_law_1314 : gD b_lw_law 1314 (.aload_n 0) 1 1315 := ⟨by decide +kernel, rfl⟩
theorem d_lw_law_1315 : gD b_lw_law 1315 (.iload 4) 2 1317 := ⟨by decide +kernel, rfl⟩
theorem d_lw_law_1317 : gD b_lw_law 1317 (.iconst 1) 1 1318 := ⟨by decide +kernel, rfl⟩
theorem d_lw_law_1318 : gD b_lw_law 1318 .iadd 1 1319 := ⟨by decide +kernel, rfl⟩
theorem d_lw_law_1319 : gD b_lw_law 1319 .iaload 1 1320 := ⟨by decide +kernel, rfl⟩
theorem d_lw_law_1320 : gD b_lw_law 1320 (.aload_n 0) 1 1321 := ⟨by decide +kernel, rfl⟩
theorem d_lw_law_1321 : gD b_lw_law 1321 (.iload 4) 2 1323 := ⟨by decide +kernel, rfl⟩
theorem d_lw_law_1323 : gD b_lw_law 1323 (.iconst 2) 1 1324 := ⟨by decide +kernel, rfl⟩
theorem d_lw_law_1324 : gD b_lw_law 1324 .iadd 1 1325 := ⟨by decide +kernel, rfl⟩
theorem d_lw_law_1325 : gD b_lw_law 1325 .iaload 1 1326 := ⟨by decide +kernel, rfl⟩
theorem d_lw_law_1326 : gD b_lw_law 1326 (.aload_n 0) 1 1327 := ⟨by decide +kernel, rfl⟩
theorem d_lw_law_1327 : gD b_lw_law 1327 (.iload 4) 2 1329 := ⟨by decide +kernel, rfl⟩
theorem d_lw_law_1329 : gD b_lw_law 1329 (.iconst 3) 1 1330 := ⟨by decide +kernel, rfl⟩
theorem d_lw_law_1330 : gD b_lw_law 1330 .iadd 1 1331 := ⟨by decide +kernel, rfl⟩
theorem d_lw_law_1331 : gD b_lw_law 1331 .iaload 1 1332 := ⟨by decide +kernel, rfl⟩
theorem d_lw_law_1332 : gD b_lw_law 1332 (.aload_n 0) 1 1333 := ⟨by decide +kernel, rfl⟩
theorem d_lw_law_1333 : gD b_lw_law 1333 (.iload 4) 2 1335 := ⟨by decide +kernel, rfl⟩
theorem d_lw_law_1335 : gD b_lw_law 1335 (.iconst 4) 1 1336 := ⟨by decide +kernel, rfl⟩
theorem d_lw_law_1336 : gD b_lw_law 1336 .iadd 1 1337 := ⟨by decide +kernel, rfl⟩
theorem d_lw_law_1337 : gD b_lw_law 1337 .iaload 1 1338 := ⟨by decide +kernel, rfl⟩
theorem d_lw_law_1338 : gD b_lw_law 1338 (.aload_n 0) 1 1339 := ⟨by decide +kernel, rfl⟩
theorem d_lw_law_1339 : gD b_lw_law 1339 (.iload 4) 2 1341 := ⟨by decide +kernel, rfl⟩
theorem d_lw_law_1341 : gD b_lw_law 1341 (.iconst 5) 1 1342 := ⟨by decide +kernel, rfl⟩
theorem d_lw_law_1342 : gD b_lw_law 1342 .iadd 1 1343 := ⟨by decide +kernel, rfl⟩
theorem d_lw_law_1343 : gD b_lw_law 1343 .iaload 1 1344 := ⟨by decide +kernel, rfl⟩
theorem d_lw_law_1344 : gD b_lw_law 1344 (.invokevirtual 183) 3 1347 := ⟨by decide +kernel, rfl⟩
theorem d_lw_law_1347 : gJ b_lw_law 1347 (.if_icmp .eq 273) 3 273 1350 1620 := ⟨by decide +kernel, rfl, by decide⟩
theorem d_lw_law_1350 : gD b_lw_law 1350 (.iconst 0) 1 1351 := ⟨by decide +kernel, rfl⟩
theorem d_lw_law_1352 : gD b_lw_law 1352 (.aload_n 1) 1 1353 := ⟨by decide +kernel, rfl⟩
theorem d_lw_law_1353 : gD b_lw_law 1353 (.invokevirtual 184) 3 1356 := ⟨by decide +kernel, rfl⟩
theorem d_lw_law_1356 : gD b_lw_law 1356 (.aload_n 2) 1 1357 := ⟨by decide +kernel, rfl⟩
theorem d_lw_law_1357 : gD b_lw_law 1357 (.invokevirtual 187) 3 1360 := ⟨by decide +kernel, rfl⟩
theorem d_lw_law_1360 : gJ b_lw_law 1360 (.if_icmp .eq 260) 3 260 1363 1620 := ⟨by decide +kernel, rfl, by decide⟩
theorem d_lw_law_1363 : gD b_lw_law 1363 (.iconst 0) 1 1364 := ⟨by decide +kernel, rfl⟩
theorem d_lw_law_1365 : gD b_lw_law 1365 (.aload_n 1) 1 1366 := ⟨by decide +kernel, rfl⟩
theorem d_lw_law_1366 : gD b_lw_law 1366 (.aload_n 0) 1 1367 := ⟨by decide +kernel, rfl⟩
theorem d_lw_law_1367 : gD b_lw_law 1367 (.iload 4) 2 1369 := ⟨by decide +kernel, rfl⟩
theorem d_lw_law_1369 : gD b_lw_law 1369 (.iconst 1) 1 1370 := ⟨by decide +kernel, rfl⟩
theorem d_lw_law_1370 : gD b_lw_law 1370 .iadd 1 1371 := ⟨by decide +kernel, rfl⟩
theorem d_lw_law_1371 : gD b_lw_law 1371 .iaload 1 1372 := ⟨by decide +kernel, rfl⟩
theorem d_lw_law_1372 : gD b_lw_law 1372 (.invokevirtual 188) 3 1375 := ⟨by decide +kernel, rfl⟩
theorem d_lw_law_1375 : gD b_lw_law 1375 (.aload_n 2) 1 1376 := ⟨by decide +kernel, rfl⟩
theorem d_lw_law_1376 : gD b_lw_law 1376 (.aload_n 0) 1 1377 := ⟨by decide +kernel, rfl⟩
theorem d_lw_law_1377 : gD b_lw_law 1377 (.iload 4) 2 1379 := ⟨by decide +kernel, rfl⟩
theorem d_lw_law_1379 : gD b_lw_law 1379 (.iconst 1) 1 1380 := ⟨by decide +kernel, rfl⟩
theorem d_lw_law_1380 : gD b_lw_law 1380 .iadd 1 1381 := ⟨by decide +kernel, rfl⟩
theorem d_lw_law_1381 : gD b_lw_law 1381 .iaload 1 1382 := ⟨by decide +kernel, rfl⟩
theorem d_lw_law_1382 : gD b_lw_law 1382 (.invokevirtual 191) 3 1385 := ⟨by decide +kernel, rfl⟩
theorem d_lw_law_1385 : gJ b_lw_law 1385 (.if_icmp .eq 235) 3 235 1388 1620 := ⟨by decide +kernel, rfl, by decide⟩
theorem d_lw_law_1388 : gD b_lw_law 1388 (.iconst 0) 1 1389 := ⟨by decide +kernel, rfl⟩
theorem d_lw_law_1390 : gD b_lw_law 1390 (.aload_n 1) 1 1391 := ⟨by decide +kernel, rfl⟩
theorem d_lw_law_1391 : gD b_lw_law 1391 (.aload_n 0) 1 1392 := ⟨by decide +kernel, rfl⟩
theorem d_lw_law_1392 : gD b_lw_law 1392 (.iload 4) 2 1394 := ⟨by decide +kernel, rfl⟩
theorem d_lw_law_1394 : gD b_lw_law 1394 (.iconst 1) 1 1395 := ⟨by decide +kernel, rfl⟩
theorem d_lw_law_1395 : gD b_lw_law 1395 .iadd 1 1396 := ⟨by decide +kernel, rfl⟩
theorem d_lw_law_1396 : gD b_lw_law 1396 .iaload 1 1397 := ⟨by decide +kernel, rfl⟩
theorem d_lw_law_1397 : gD b_lw_law 1397 (.invokevirtual 192) 3 1400 := ⟨by decide +kernel, rfl⟩
theorem d_lw_law_1400 : gD b_lw_law 1400 (.aload_n 2) 1 1401 := ⟨by decide +kernel, rfl⟩
theorem d_lw_law_1401 : gD b_lw_law 1401 (.aload_n 0) 1 1402 := ⟨by decide +kernel, rfl⟩
theorem d_lw_law_1402 : gD b_lw_law 1402 (.iload 4) 2 1404 := ⟨by decide +kernel, rfl⟩
theorem d_lw_law_1404 : gD b_lw_law 1404 (.iconst 1) 1 1405 := ⟨by decide +kernel, rfl⟩
theorem d_lw_law_1405 : gD b_lw_law 1405 .iadd 1 1406 := ⟨by decide +kernel, rfl⟩
theorem d_lw_law_1406 : gD b_lw_law 1406 .iaload 1 1407 := ⟨by decide +kernel, rfl⟩
theorem d_lw_law_1407 : gD b_lw_law 1407 (.invokevirtual 195) 3 1410 := ⟨by decide +kernel, rfl⟩
theorem d_lw_law_1410 : gJ b_lw_law 1410 (.if_icmp .eq 210) 3 210 1413 1620 := ⟨by decide +kernel, rfl, by decide⟩
theorem d_lw_law_1413 : gD b_lw_law 1413 (.iconst 0) 1 1414 := ⟨by decide +kernel, rfl⟩
theorem d_lw_law_1415 : gD b_lw_law 1415 (.aload_n 1) 1 1416 := ⟨by decide +kernel, rfl⟩
theorem d_lw_law_1416 : gD b_lw_law 1416 (.aload_n 0) 1 1417 := ⟨by decide +kernel, rfl⟩
theorem d_lw_law_1417 : gD b_lw_law 1417 (.iload 4) 2 1419 := ⟨by decide +kernel, rfl⟩
theorem d_lw_law_1419 : gD b_lw_law 1419 (.iconst 1) 1 1420 := ⟨by decide +kernel, rfl⟩
theorem d_lw_law_1420 : gD b_lw_law 1420 .iadd 1 1421 := ⟨by decide +kernel, rfl⟩
theorem d_lw_law_1421 : gD b_lw_law 1421 .iaload 1 1422 := ⟨by decide +kernel, rfl⟩
theorem d_lw_law_1422 : gD b_lw_law 1422 (.invokevirtual 196) 3 1425 := ⟨by decide +kernel, rfl⟩
theorem d_lw_law_1425 : gD b_lw_law 1425 (.aload_n 2) 1 1426 := ⟨by decide +kernel, rfl⟩
theorem d_lw_law_1426 : gD b_lw_law 1426 (.aload_n 0) 1 1427 := ⟨by decide +kernel, rfl⟩
theorem d_lw_law_1427 : gD b_lw_law 1427 (.iload 4) 2 1429 := ⟨by decide +kernel, rfl⟩
theorem d_lw_law_1429 : gD b_lw_law 1429 (.iconst 1) 1 1430 := ⟨by decide +kernel, rfl⟩
theorem d_lw_law_1430 : gD b_lw_law 1430 .iadd 1 1431 := ⟨by decide +kernel, rfl⟩
theorem d_lw_law_1431 : gD b_lw_law 1431 .iaload 1 1432 := ⟨by decide +kernel, rfl⟩
theorem d_lw_law_1432 : gD b_lw_law 1432 (.invokevirtual 199) 3 1435 := ⟨by decide +kernel, rfl⟩
theorem d_lw_law_1435 : gJ b_lw_law 1435 (.if_icmp .eq 185) 3 185 1438 1620 := ⟨by decide +kernel, rfl, by decide⟩
theorem d_lw_law_1438 : gD b_lw_law 1438 (.iconst 0) 1 1439 := ⟨by decide +kernel, rfl⟩
theorem d_lw_law_1440 : gD b_lw_law 1440 (.aload_n 1) 1 1441 := ⟨by decide +kernel, rfl⟩
theorem d_lw_law_1441 : gD b_lw_law 1441 (.invokevirtual 200) 3 1444 := ⟨by decide +kernel, rfl⟩
theorem d_lw_law_1444 : gD b_lw_law 1444 (.aload_n 2) 1 1445 := ⟨by decide +kernel, rfl⟩
theorem d_lw_law_1445 : gD b_lw_law 1445 (.invokevirtual 203) 3 1448 := ⟨by decide +kernel, rfl⟩
theorem d_lw_law_1448 : gJ b_lw_law 1448 (.if_icmp .eq 172) 3 172 1451 1620 := ⟨by decide +kernel, rfl, by decide⟩
theorem d_lw_law_1451 : gD b_lw_law 1451 (.iconst 0) 1 1452 := ⟨by decide +kernel, rfl⟩
theorem d_lw_law_1453 : gD b_lw_law 1453 (.aload_n 1) 1 1454 := ⟨by decide +kernel, rfl⟩
theorem d_lw_law_1454 : gD b_lw_law 1454 (.aload_n 0) 1 1455 := ⟨by decide +kernel, rfl⟩
theorem d_lw_law_1455 : gD b_lw_law 1455 (.iload 4) 2 1457 := ⟨by decide +kernel, rfl⟩
theorem d_lw_law_1457 : gD b_lw_law 1457 (.iconst 1) 1 1458 := ⟨by decide +kernel, rfl⟩
theorem d_lw_law_1458 : gD b_lw_law 1458 .iadd 1 1459 := ⟨by decide +kernel, rfl⟩
theorem d_lw_law_1459 : gD b_lw_law 1459 .iaload 1 1460 := ⟨by decide +kernel, rfl⟩
theorem d_lw_law_1460 : gD b_lw_law 1460 (.aload_n 0) 1 1461 := ⟨by decide +kernel, rfl⟩
theorem d_lw_law_1461 : gD b_lw_law 1461 (.iload 4) 2 1463 := ⟨by decide +kernel, rfl⟩
theorem d_lw_law_1463 : gD b_lw_law 1463 (.iconst 2) 1 1464 := ⟨by decide +kernel, rfl⟩
theorem d_lw_law_1464 : gD b_lw_law 1464 .iadd 1 1465 := ⟨by decide +kernel, rfl⟩
theorem d_lw_law_1465 : gD b_lw_law 1465 .iaload 1 1466 := ⟨by decide +kernel, rfl⟩
theorem d_lw_law_1466 : gD b_lw_law 1466 (.invokevirtual 204) 3 1469 := ⟨by decide +kernel, rfl⟩
theorem d_lw_law_1469 : gD b_lw_law 1469 (.aload_n 2) 1 1470 := ⟨by decide +kernel, rfl⟩
theorem d_lw_law_1470 : gD b_lw_law 1470 (.aload_n 0) 1 1471 := ⟨by decide +kernel, rfl⟩
theorem d_lw_law_1471 : gD b_lw_law 1471 (.iload 4) 2 1473 := ⟨by decide +kernel, rfl⟩
theorem d_lw_law_1473 : gD b_lw_law 1473 (.iconst 1) 1 1474 := ⟨by decide +kernel, rfl⟩
theorem d_lw_law_1474 : gD b_lw_law 1474 .iadd 1 1475 := ⟨by decide +kernel, rfl⟩
theorem d_lw_law_1475 : gD b_lw_law 1475 .iaload 1 1476 := ⟨by decide +kernel, rfl⟩
theorem d_lw_law_1476 : gD b_lw_law 1476 (.aload_n 0) 1 1477 := ⟨by decide +kernel, rfl⟩
theorem d_lw_law_1477 : gD b_lw_law 1477 (.iload 4) 2 1479 := ⟨by decide +kernel, rfl⟩
theorem d_lw_law_1479 : gD b_lw_law 1479 (.iconst 2) 1 1480 := ⟨by decide +kernel, rfl⟩
theorem d_lw_law_1480 : gD b_lw_law 1480 .iadd 1 1481 := ⟨by decide +kernel, rfl⟩
theorem d_lw_law_1481 : gD b_lw_law 1481 .iaload 1 1482 := ⟨by decide +kernel, rfl⟩
theorem d_lw_law_1482 : gD b_lw_law 1482 (.invokevirtual 207) 3 1485 := ⟨by decide +kernel, rfl⟩
theorem d_lw_law_1485 : gJ b_lw_law 1485 (.if_icmp .eq 135) 3 135 1488 1620 := ⟨by decide +kernel, rfl, by decide⟩
theorem d_lw_law_1488 : gD b_lw_law 1488 (.iconst 0) 1 1489 := ⟨by decide +kernel, rfl⟩
theorem d_lw_law_1490 : gD b_lw_law 1490 (.aload_n 1) 1 1491 := ⟨by decide +kernel, rfl⟩
theorem d_lw_law_1491 : gD b_lw_law 1491 (.aload_n 0) 1 1492 := ⟨by decide +kernel, rfl⟩
theorem d_lw_law_1492 : gD b_lw_law 1492 (.iload 4) 2 1494 := ⟨by decide +kernel, rfl⟩
theorem d_lw_law_1494 : gD b_lw_law 1494 (.iconst 1) 1 1495 := ⟨by decide +kernel, rfl⟩
theorem d_lw_law_1495 : gD b_lw_law 1495 .iadd 1 1496 := ⟨by decide +kernel, rfl⟩
theorem d_lw_law_1496 : gD b_lw_law 1496 .iaload 1 1497 := ⟨by decide +kernel, rfl⟩
theorem d_lw_law_1497 : gD b_lw_law 1497 (.invokevirtual 208) 3 1500 := ⟨by decide +kernel, rfl⟩
theorem d_lw_law_1500 : gD b_lw_law 1500 (.aload_n 2) 1 1501 := ⟨by decide +kernel, rfl⟩
theorem d_lw_law_1501 : gD b_lw_law 1501 (.aload_n 0) 1 1502 := ⟨by decide +kernel, rfl⟩
theorem d_lw_law_1502 : gD b_lw_law 1502 (.iload 4) 2 1504 := ⟨by decide +kernel, rfl⟩
theorem d_lw_law_1504 : gD b_lw_law 1504 (.iconst 1) 1 1505 := ⟨by decide +kernel, rfl⟩
theorem d_lw_law_1505 : gD b_lw_law 1505 .iadd 1 1506 := ⟨by decide +kernel, rfl⟩
theorem d_lw_law_1506 : gD b_lw_law 1506 .iaload 1 1507 := ⟨by decide +kernel, rfl⟩
theorem d_lw_law_1507 : gD b_lw_law 1507 (.invokevirtual 211) 3 1510 := ⟨by decide +kernel, rfl⟩
theorem d_lw_law_1510 : gJ b_lw_law 1510 (.if_icmp .eq 110) 3 110 1513 1620 := ⟨by decide +kernel, rfl, by decide⟩
theorem d_lw_law_1513 : gD b_lw_law 1513 (.iconst 0) 1 1514 := ⟨by decide +kernel, rfl⟩
theorem d_lw_law_1515 : gD b_lw_law 1515 (.aload_n 1) 1 1516 := ⟨by decide +kernel, rfl⟩
theorem d_lw_law_1516 : gD b_lw_law 1516 (.aload_n 0) 1 1517 := ⟨by decide +kernel, rfl⟩
theorem d_lw_law_1517 : gD b_lw_law 1517 (.iload 4) 2 1519 := ⟨by decide +kernel, rfl⟩
theorem d_lw_law_1519 : gD b_lw_law 1519 (.iconst 1) 1 1520 := ⟨by decide +kernel, rfl⟩
theorem d_lw_law_1520 : gD b_lw_law 1520 .iadd 1 1521 := ⟨by decide +kernel, rfl⟩
theorem d_lw_law_1521 : gD b_lw_law 1521 .iaload 1 1522 := ⟨by decide +kernel, rfl⟩
theorem d_lw_law_1522 : gD b_lw_law 1522 (.invokevirtual 212) 3 1525 := ⟨by decide +kernel, rfl⟩
theorem d_lw_law_1525 : gD b_lw_law 1525 (.aload_n 2) 1 1526 := ⟨by decide +kernel, rfl⟩
theorem d_lw_law_1526 : gD b_lw_law 1526 (.aload_n 0) 1 1527 := ⟨by decide +kernel, rfl⟩
theorem d_lw_law_1527 : gD b_lw_law 1527 (.iload 4) 2 1529 := ⟨by decide +kernel, rfl⟩
theorem d_lw_law_1529 : gD b_lw_law 1529 (.iconst 1) 1 1530 := ⟨by decide +kernel, rfl⟩
theorem d_lw_law_1530 : gD b_lw_law 1530 .iadd 1 1531 := ⟨by decide +kernel, rfl⟩
theorem d_lw_law_1531 : gD b_lw_law 1531 .iaload 1 1532 := ⟨by decide +kernel, rfl⟩
theorem d_lw_law_1532 : gD b_lw_law 1532 (.invokevirtual 215) 3 1535 := ⟨by decide +kernel, rfl⟩
theorem d_lw_law_1535 : gJ b_lw_law 1535 (.if_icmp .eq 85) 3 85 1538 1620 := ⟨by decide +kernel, rfl, by decide⟩
theorem d_lw_law_1538 : gD b_lw_law 1538 (.iconst 0) 1 1539 := ⟨by decide +kernel, rfl⟩
theorem d_lw_law_1540 : gD b_lw_law 1540 (.aload_n 1) 1 1541 := ⟨by decide +kernel, rfl⟩
theorem d_lw_law_1541 : gD b_lw_law 1541 (.aload_n 0) 1 1542 := ⟨by decide +kernel, rfl⟩
theorem d_lw_law_1542 : gD b_lw_law 1542 (.iload 4) 2 1544 := ⟨by decide +kernel, rfl⟩
theorem d_lw_law_1544 : gD b_lw_law 1544 (.iconst 1) 1 1545 := ⟨by decide +kernel, rfl⟩
theorem d_lw_law_1545 : gD b_lw_law 1545 .iadd 1 1546 := ⟨by decide +kernel, rfl⟩
theorem d_lw_law_1546 : gD b_lw_law 1546 .iaload 1 1547 := ⟨by decide +kernel, rfl⟩
theorem d_lw_law_1547 : gD b_lw_law 1547 (.invokevirtual 216) 3 1550 := ⟨by decide +kernel, rfl⟩
theorem d_lw_law_1550 : gD b_lw_law 1550 (.aload_n 2) 1 1551 := ⟨by decide +kernel, rfl⟩
theorem d_lw_law_1551 : gD b_lw_law 1551 (.aload_n 0) 1 1552 := ⟨by decide +kernel, rfl⟩
theorem d_lw_law_1552 : gD b_lw_law 1552 (.iload 4) 2 1554 := ⟨by decide +kernel, rfl⟩
theorem d_lw_law_1554 : gD b_lw_law 1554 (.iconst 1) 1 1555 := ⟨by decide +kernel, rfl⟩
theorem d_lw_law_1555 : gD b_lw_law 1555 .iadd 1 1556 := ⟨by decide +kernel, rfl⟩
theorem d_lw_law_1556 : gD b_lw_law 1556 .iaload 1 1557 := ⟨by decide +kernel, rfl⟩
theorem d_lw_law_1557 : gD b_lw_law 1557 (.invokevirtual 219) 3 1560 := ⟨by decide +kernel, rfl⟩
theorem d_lw_law_1560 : gJ b_lw_law 1560 (.if_icmp .eq 60) 3 60 1563 1620 := ⟨by decide +kernel, rfl, by decide⟩
theorem d_lw_law_1563 : gD b_lw_law 1563 (.iconst 0) 1 1564 := ⟨by decide +kernel, rfl⟩
theorem d_lw_law_1565 : gD b_lw_law 1565 (.aload_n 1) 1 1566 := ⟨by decide +kernel, rfl⟩
theorem d_lw_law_1566 : gD b_lw_law 1566 (.aload_n 0) 1 1567 := ⟨by decide +kernel, rfl⟩
theorem d_lw_law_1567 : gD b_lw_law 1567 (.iload 4) 2 1569 := ⟨by decide +kernel, rfl⟩
theorem d_lw_law_1569 : gD b_lw_law 1569 (.iconst 1) 1 1570 := ⟨by decide +kernel, rfl⟩
theorem d_lw_law_1570 : gD b_lw_law 1570 .iadd 1 1571 := ⟨by decide +kernel, rfl⟩
theorem d_lw_law_1571 : gD b_lw_law 1571 .iaload 1 1572 := ⟨by decide +kernel, rfl⟩
theorem d_lw_law_1572 : gD b_lw_law 1572 (.aload_n 3) 1 1573 := ⟨by decide +kernel, rfl⟩
theorem d_lw_law_1573 : gD b_lw_law 1573 (.invokestatic 220) 3 1576 := ⟨by decide +kernel, rfl⟩
theorem d_lw_law_1576 : gD b_lw_law 1576 (.istore 5) 2 1578 := ⟨by decide +kernel, rfl⟩
theorem d_lw_law_1578 : gD b_lw_law 1578 (.aload_n 2) 1 1579 := ⟨by decide +kernel, rfl⟩
theorem d_lw_law_1579 : gD b_lw_law 1579 (.aload_n 0) 1 1580 := ⟨by decide +kernel, rfl⟩
theorem d_lw_law_1580 : gD b_lw_law 1580 (.iload 4) 2 1582 := ⟨by decide +kernel, rfl⟩
theorem d_lw_law_1582 : gD b_lw_law 1582 (.iconst 1) 1 1583 := ⟨by decide +kernel, rfl⟩
theorem d_lw_law_1583 : gD b_lw_law 1583 .iadd 1 1584 := ⟨by decide +kernel, rfl⟩
theorem d_lw_law_1584 : gD b_lw_law 1584 .iaload 1 1585 := ⟨by decide +kernel, rfl⟩
theorem d_lw_law_1585 : gD b_lw_law 1585 (.invokevirtual 223) 3 1588 := ⟨by decide +kernel, rfl⟩
theorem d_lw_law_1588 : gD b_lw_law 1588 (.lstore 6) 2 1590 := ⟨by decide +kernel, rfl⟩
theorem d_lw_law_1590 : gD b_lw_law 1590 (.aload_n 2) 1 1591 := ⟨by decide +kernel, rfl⟩
theorem d_lw_law_1591 : gD b_lw_law 1591 (.invokevirtual 55) 3 1594 := ⟨by decide +kernel, rfl⟩
theorem d_lw_law_1594 : gD b_lw_law 1594 (.iload 5) 2 1596 := ⟨by decide +kernel, rfl⟩
theorem d_lw_law_1596 : gJ b_lw_law 1596 (.if_icmp .eq 5) 3 5 1599 1601 := ⟨by decide +kernel, rfl, by decide⟩
theorem d_lw_law_1599 : gD b_lw_law 1599 (.iconst 0) 1 1600 := ⟨by decide +kernel, rfl⟩
theorem d_lw_law_1601 : gD b_lw_law 1601 (.iload 5) 2 1603 := ⟨by decide +kernel, rfl⟩
theorem d_lw_law_1603 : gJ b_lw_law 1603 (.ifCond .ne 14) 3 14 1606 1617 := ⟨by decide +kernel, rfl, by decide⟩
theorem d_lw_law_1606 : gD b_lw_law 1606 (.aload_n 3) 1 1607 := ⟨by decide +kernel, rfl⟩
theorem d_lw_law_1607 : gD b_lw_law 1607 (.iconst 0) 1 1608 := ⟨by decide +kernel, rfl⟩
theorem d_lw_law_1608 : gD b_lw_law 1608 .laload 1 1609 := ⟨by decide +kernel, rfl⟩
theorem d_lw_law_1609 : gD b_lw_law 1609 (.lload 6) 2 1611 := ⟨by decide +kernel, rfl⟩
theorem d_lw_law_1611 : gD b_lw_law 1611 .lcmp 1 1612 := ⟨by decide +kernel, rfl⟩
theorem d_lw_law_1612 : gJ b_lw_law 1612 (.ifCond .eq 5) 3 5 1615 1617 := ⟨by decide +kernel, rfl, by decide⟩
theorem d_lw_law_1615 : gD b_lw_law 1615 (.iconst 0) 1 1616 := ⟨by decide +kernel, rfl⟩
theorem d_lw_law_1617 : gJ b_lw_law 1617 (.goto 3) 3 3 1620 1620 := ⟨by decide +kernel, rfl, by decide⟩
theorem d_lw_law_1620 : gD b_lw_law 1620 (.iinc 4 6) 3 1623 := ⟨by decide +kernel, rfl⟩
theorem d_lw_law_1623 : gJ b_lw_law 1623 (.goto (-1600)) 3 (-1600) 1626 23 := ⟨by decide +kernel, rfl, by decide⟩
theorem d_lw_law_1626 : gD b_lw_law 1626 (.iconst 1) 1 1627 := ⟨by decide +kernel, rfl⟩
theorem d_lw_law_1627 : gD b_lw_law 1627 .ireturn 1 1628 := ⟨by decide +kernel, rfl⟩
def c_law_0 (N : Nat) (x4 : Int32) (h : gH) : Option gH :=
  (gas h (x4 + (1 : Int32))).bind fun v1 =>
    (f_c10_sign N 10 v1 h).bind fun q2 =>
    (gas q2.2 (x4 + (1 : Int32))).bind fun v3 =>
    (f_c11_sign N 144 v3 q2.2).bind fun q4 =>
    if q2.1 = q4.1 then
    some q4.2
  else
    none
set_option maxHeartbeats 4000000 in
set_option maxRecDepth 100000 in
theorem wc_law_0 {M : gM} {X : gX} {N : Nat} (hfl : M.2.1.stackTraces = false) (hx : gEx X = false) (hN : 6 ≤ N) (K : gC M X "FullStopWellsLaw" b_lw_law 8 (gRm (100 + N) 601024 7293034)) (cs sl : Nat) (hf : cs + 1 ≤ 601024 ∧ sl + 6 ≤ 7293034) (x4 : Int32) (h h0 : gH) (hy : c_law_0 N x4 h = some h0) (hE : gG M X 8 (cs + 1) (sl + 6) 1620 [(0, .ref 0), (1, .ref 10), (2, .ref 144), (3, .ref 170), (4, .int x4)] [] h0) : gG M X 8 cs sl 244 [(0, .ref 0), (1, .ref 10), (2, .ref 144), (3, .ref 170), (4, .int x4)] [] h := by
  have hf0 : cs ≤ 601024 ∧ sl ≤ 7293034 := by omega
  unfold c_law_0 at hy
  refine g_aload_n K d_lw_law_244 1 rfl ?_
  refine g_aload_n K d_lw_law_245 0 rfl ?_
  refine g_iload K d_lw_law_246 4 rfl ?_
  refine g_iconst (v := 1) K d_lw_law_248 (by decide) ?_
  refine g_iadd K d_lw_law_249 ?_
  obtain ⟨v1, e_v1, hy⟩ := gBd hy
  refine g_sld K d_lw_law_250 e_v1 ?_
  obtain ⟨q2, e_q2, hy⟩ := gBd hy
  refine g_callVi (rest := []) K hx ly_c10_sign kv_lw_26 d_lw_law_251 (ct_c10_sign M.2.1 X hx N 10 v1 h q2 e_q2) rfl rfl (Nat.le_of_ble_eq_true rfl) (gDep rfl) hf0 ?_
  refine g_aload_n K d_lw_law_254 2 rfl ?_
  refine g_aload_n K d_lw_law_255 0 rfl ?_
  refine g_iload K d_lw_law_256 4 rfl ?_
  refine g_iconst (v := 1) K d_lw_law_258 (by decide) ?_
  refine g_iadd K d_lw_law_259 ?_
  obtain ⟨v3, e_v3, hy⟩ := gBd hy
  refine g_sld K d_lw_law_260 e_v3 ?_
  obtain ⟨q4, e_q4, hy⟩ := gBd hy
  refine g_callVi (rest := [.int q2.1]) K hx ly_c11_sign kv_lw_30 d_lw_law_261 (ct_c11_sign M.2.1 X hx N 144 v3 q2.2 q4 e_q4) rfl rfl (Nat.le_of_ble_eq_true rfl) (gDep rfl) hf0 ?_
  refine g_icmp_eq K d_lw_law_264 (fun c5 => ?_) (fun c5 => ?_)
  · rw [if_pos c5] at hy
    obtain rfl := Option.some.inj hy
    exact g_wid hE hx
  · rw [if_neg c5] at hy
    refine g_iconst (v := 0) K d_lw_law_267 (by decide) ?_
    cases hy
def c_law_1 (N : Nat) (x4 : Int32) (h : gH) : Option gH :=
  (gas h (x4 + (1 : Int32))).bind fun v1 =>
    (f_c10_end N 10 v1 h).bind fun q2 =>
    (gas q2.2 (x4 + (1 : Int32))).bind fun v3 =>
    (f_c11_end N 144 v3 q2.2).bind fun q4 =>
    if q2.1 = q4.1 then
    some q4.2
  else
    none
set_option maxHeartbeats 4000000 in
set_option maxRecDepth 100000 in
theorem wc_law_1 {M : gM} {X : gX} {N : Nat} (hfl : M.2.1.stackTraces = false) (hx : gEx X = false) (hN : 6 ≤ N) (K : gC M X "FullStopWellsLaw" b_lw_law 8 (gRm (100 + N) 601024 7293034)) (cs sl : Nat) (hf : cs + 1 ≤ 601024 ∧ sl + 6 ≤ 7293034) (x4 : Int32) (h h0 : gH) (hy : c_law_1 N x4 h = some h0) (hE : gG M X 8 (cs + 1) (sl + 6) 1620 [(0, .ref 0), (1, .ref 10), (2, .ref 144), (3, .ref 170), (4, .int x4)] [] h0) : gG M X 8 cs sl 269 [(0, .ref 0), (1, .ref 10), (2, .ref 144), (3, .ref 170), (4, .int x4)] [] h := by
  have hf0 : cs ≤ 601024 ∧ sl ≤ 7293034 := by omega
  unfold c_law_1 at hy
  refine g_aload_n K d_lw_law_269 1 rfl ?_
  refine g_aload_n K d_lw_law_270 0 rfl ?_
  refine g_iload K d_lw_law_271 4 rfl ?_
  refine g_iconst (v := 1) K d_lw_law_273 (by decide) ?_
  refine g_iadd K d_lw_law_274 ?_
  obtain ⟨v1, e_v1, hy⟩ := gBd hy
  refine g_sld K d_lw_law_275 e_v1 ?_
  obtain ⟨q2, e_q2, hy⟩ := gBd hy
  refine g_callVi (rest := []) K hx ly_c10_end kv_lw_31 d_lw_law_276 (ct_c10_end M.2.1 X hx N 10 v1 h q2 e_q2) rfl rfl (Nat.le_of_ble_eq_true rfl) (gDep rfl) hf0 ?_
  refine g_aload_n K d_lw_law_279 2 rfl ?_
  refine g_aload_n K d_lw_law_280 0 rfl ?_
  refine g_iload K d_lw_law_281 4 rfl ?_
  refine g_iconst (v := 1) K d_lw_law_283 (by decide) ?_
  refine g_iadd K d_lw_law_284 ?_
  obtain ⟨v3, e_v3, hy⟩ := gBd hy
  refine g_sld K d_lw_law_285 e_v3 ?_
  obtain ⟨q4, e_q4, hy⟩ := gBd hy
  refine g_callVi (rest := [.int q2.1]) K hx ly_c11_end kv_lw_35 d_lw_law_286 (ct_c11_end M.2.1 X hx N 144 v3 q2.2 q4 e_q4) rfl rfl (Nat.le_of_ble_eq_true rfl) (gDep rfl) hf0 ?_
  refine g_icmp_eq K d_lw_law_289 (fun c5 => ?_) (fun c5 => ?_)
  · rw [if_pos c5] at hy
    obtain rfl := Option.some.inj hy
    exact g_wid hE hx
  · rw [if_neg c5] at hy
    refine g_iconst (v := 0) K d_lw_law_292 (by decide) ?_
    cases hy
def c_law_2 (N : Nat) (x4 : Int32) (h : gH) : Option gH :=
  (f_c10_plain N 10 h).bind fun q1 =>
    (f_c11_plain N 144 q1.2).bind fun q2 =>
    if q1.1 = q2.1 then
    some q2.2
  else
    none
set_option maxHeartbeats 4000000 in
set_option maxRecDepth 100000 in
theorem wc_law_2 {M : gM} {X : gX} {N : Nat} (hfl : M.2.1.stackTraces = false) (hx : gEx X = false) (hN : 6 ≤ N) (K : gC M X "FullStopWellsLaw" b_lw_law 8 (gRm (100 + N) 601024 7293034)) (cs sl : Nat) (hf : cs + 1 ≤ 601024 ∧ sl + 6 ≤ 7293034) (x4 : Int32) (h h0 : gH) (hy : c_law_2 N x4 h = some h0) (hE : gG M X 8 (cs + 1) (sl + 6) 1620 [(0, .ref 0), (1, .ref 10), (2, .ref 144), (3, .ref 170), (4, .int x4)] [] h0) : gG M X 8 cs sl 294 [(0, .ref 0), (1, .ref 10), (2, .ref 144), (3, .ref 170), (4, .int x4)] [] h := by
  have hf0 : cs ≤ 601024 ∧ sl ≤ 7293034 := by omega
  unfold c_law_2 at hy
  refine g_aload_n K d_lw_law_294 1 rfl ?_
  obtain ⟨q1, e_q1, hy⟩ := gBd hy
  refine g_callVi (rest := []) K hx ly_c10_plain kv_lw_36 d_lw_law_295 (ct_c10_plain M.2.1 X hx N 10 h q1 e_q1) rfl rfl (Nat.le_of_ble_eq_true rfl) (gDep rfl) hf0 ?_
  refine g_aload_n K d_lw_law_298 2 rfl ?_
  obtain ⟨q2, e_q2, hy⟩ := gBd hy
  refine g_callVi (rest := [.int q1.1]) K hx ly_c11_plain kv_lw_40 d_lw_law_299 (ct_c11_plain M.2.1 X hx N 144 q1.2 q2 e_q2) rfl rfl (Nat.le_of_ble_eq_true rfl) (gDep rfl) hf0 ?_
  refine g_icmp_eq K d_lw_law_302 (fun c3 => ?_) (fun c3 => ?_)
  · rw [if_pos c3] at hy
    obtain rfl := Option.some.inj hy
    exact g_wid hE hx
  · rw [if_neg c3] at hy
    refine g_iconst (v := 0) K d_lw_law_305 (by decide) ?_
    cases hy
def c_law_3 (N : Nat) (x4 : Int32) (h : gH) : Option gH :=
  (f_c10_wells N 10 h).bind fun q1 =>
    (f_c11_wells N 144 q1.2).bind fun q2 =>
    if q1.1 = q2.1 then
    some q2.2
  else
    none
set_option maxHeartbeats 4000000 in
set_option maxRecDepth 100000 in
theorem wc_law_3 {M : gM} {X : gX} {N : Nat} (hfl : M.2.1.stackTraces = false) (hx : gEx X = false) (hN : 6 ≤ N) (K : gC M X "FullStopWellsLaw" b_lw_law 8 (gRm (100 + N) 601024 7293034)) (cs sl : Nat) (hf : cs + 1 ≤ 601024 ∧ sl + 6 ≤ 7293034) (x4 : Int32) (h h0 : gH) (hy : c_law_3 N x4 h = some h0) (hE : gG M X 8 (cs + 1) (sl + 6) 1620 [(0, .ref 0), (1, .ref 10), (2, .ref 144), (3, .ref 170), (4, .int x4)] [] h0) : gG M X 8 cs sl 307 [(0, .ref 0), (1, .ref 10), (2, .ref 144), (3, .ref 170), (4, .int x4)] [] h := by
  have hf0 : cs ≤ 601024 ∧ sl ≤ 7293034 := by omega
  unfold c_law_3 at hy
  refine g_aload_n K d_lw_law_307 1 rfl ?_
  obtain ⟨q1, e_q1, hy⟩ := gBd hy
  refine g_callVi (rest := []) K hx ly_c10_wells kv_lw_41 d_lw_law_308 (ct_c10_wells M.2.1 X hx N 10 h q1 e_q1) rfl rfl (Nat.le_of_ble_eq_true rfl) (gDep rfl) hf0 ?_
  refine g_aload_n K d_lw_law_311 2 rfl ?_
  obtain ⟨q2, e_q2, hy⟩ := gBd hy
  refine g_callVi (rest := [.int q1.1]) K hx ly_c11_wells kv_lw_44 d_lw_law_312 (ct_c11_wells M.2.1 X hx N 144 q1.2 q2 e_q2) rfl rfl (Nat.le_of_ble_eq_true rfl) (gDep rfl) hf0 ?_
  refine g_icmp_eq K d_lw_law_315 (fun c3 => ?_) (fun c3 => ?_)
  · rw [if_pos c3] at hy
    obtain rfl := Option.some.inj hy
    exact g_wid hE hx
  · rw [if_neg c3] at hy
    refine g_iconst (v := 0) K d_lw_law_318 (by decide) ?_
    cases hy
def c_law_4 (N : Nat) (x4 : Int32) (h : gH) : Option gH :=
  (f_c10_rule N 10 h).bind fun q1 =>
    (f_c11_rule N 144 q1.2).bind fun q2 =>
    if q1.1 = q2.1 then
    some q2.2
  else
    none
set_option maxHeartbeats 4000000 in
set_option maxRecDepth 100000 in
theorem wc_law_4 {M : gM} {X : gX} {N : Nat} (hfl : M.2.1.stackTraces = false) (hx : gEx X = false) (hN : 6 ≤ N) (K : gC M X "FullStopWellsLaw" b_lw_law 8 (gRm (100 + N) 601024 7293034)) (cs sl : Nat) (hf : cs + 1 ≤ 601024 ∧ sl + 6 ≤ 7293034) (x4 : Int32) (h h0 : gH) (hy : c_law_4 N x4 h = some h0) (hE : gG M X 8 (cs + 1) (sl + 6) 1620 [(0, .ref 0), (1, .ref 10), (2, .ref 144), (3, .ref 170), (4, .int x4)] [] h0) : gG M X 8 cs sl 320 [(0, .ref 0), (1, .ref 10), (2, .ref 144), (3, .ref 170), (4, .int x4)] [] h := by
  have hf0 : cs ≤ 601024 ∧ sl ≤ 7293034 := by omega
  unfold c_law_4 at hy
  refine g_aload_n K d_lw_law_320 1 rfl ?_
  obtain ⟨q1, e_q1, hy⟩ := gBd hy
  refine g_callVi (rest := []) K hx ly_c10_rule kv_lw_45 d_lw_law_321 (ct_c10_rule M.2.1 X hx N 10 h q1 e_q1) rfl rfl (Nat.le_of_ble_eq_true rfl) (gDep rfl) hf0 ?_
  refine g_aload_n K d_lw_law_324 2 rfl ?_
  obtain ⟨q2, e_q2, hy⟩ := gBd hy
  refine g_callVi (rest := [.int q1.1]) K hx ly_c11_rule kv_lw_48 d_lw_law_325 (ct_c11_rule M.2.1 X hx N 144 q1.2 q2 e_q2) rfl rfl (Nat.le_of_ble_eq_true rfl) (gDep rfl) hf0 ?_
  refine g_icmp_eq K d_lw_law_328 (fun c3 => ?_) (fun c3 => ?_)
  · rw [if_pos c3] at hy
    obtain rfl := Option.some.inj hy
    exact g_wid hE hx
  · rw [if_neg c3] at hy
    refine g_iconst (v := 0) K d_lw_law_331 (by decide) ?_
    cases hy
def c_law_5 (N : Nat) (x4 : Int32) (h : gH) : Option gH :=
  (gas h (x4 + (1 : Int32))).bind fun v1 =>
    (gas h (x4 + (2 : Int32))).bind fun v2 =>
    (f_lw_well N 10 v1 v2 170 h).bind fun q3 =>
    (gas q3.2 (x4 + (1 : Int32))).bind fun v4 =>
    (gas q3.2 (x4 + (2 : Int32))).bind fun v5 =>
    (f_c11_well N 144 v4 v5 q3.2).bind fun q6 =>
    (f_c11_thrown N 144 q6.2).bind fun q7 =>
    if q7 = q3.1 then
    if q3.1 = 0 then
    (gaL q6.2 170 (0 : Int32)).bind fun v10 =>
    if (lg_cmp v10 q6.1.toInt64) = 0 then
    some q6.2
  else
    none
  else
    some q6.2
  else
    none
set_option maxHeartbeats 4000000 in
set_option maxRecDepth 100000 in
theorem wc_law_5 {M : gM} {X : gX} {N : Nat} (hfl : M.2.1.stackTraces = false) (hx : gEx X = false) (hN : 6 ≤ N) (K : gC M X "FullStopWellsLaw" b_lw_law 8 (gRm (100 + N) 601024 7293034)) (cs sl : Nat) (hf : cs + 1 ≤ 601024 ∧ sl + 6 ≤ 7293034) (x4 : Int32) (h h0 : gH) (hy : c_law_5 N x4 h = some h0) (hE : gG M X 8 (cs + 1) (sl + 6) 1620 [(0, .ref 0), (1, .ref 10), (2, .ref 144), (3, .ref 170), (4, .int x4)] [] h0) : gG M X 8 cs sl 333 [(0, .ref 0), (1, .ref 10), (2, .ref 144), (3, .ref 170), (4, .int x4)] [] h := by
  have hf0 : cs ≤ 601024 ∧ sl ≤ 7293034 := by omega
  unfold c_law_5 at hy
  refine g_aload_n K d_lw_law_333 1 rfl ?_
  refine g_aload_n K d_lw_law_334 0 rfl ?_
  refine g_iload K d_lw_law_335 4 rfl ?_
  refine g_iconst (v := 1) K d_lw_law_337 (by decide) ?_
  refine g_iadd K d_lw_law_338 ?_
  obtain ⟨v1, e_v1, hy⟩ := gBd hy
  refine g_sld K d_lw_law_339 e_v1 ?_
  refine g_aload_n K d_lw_law_340 0 rfl ?_
  refine g_iload K d_lw_law_341 4 rfl ?_
  refine g_iconst (v := 2) K d_lw_law_343 (by decide) ?_
  refine g_iadd K d_lw_law_344 ?_
  obtain ⟨v2, e_v2, hy⟩ := gBd hy
  refine g_sld K d_lw_law_345 e_v2 ?_
  refine g_aload_n K d_lw_law_346 3 rfl ?_
  obtain ⟨q3, e_q3, hy⟩ := gBd hy
  refine g_callSiW (rest := []) K hx lyw_lw_well ks_lw_49 d_lw_law_347 (ct_lw_well M.2.1 hfl X hx N hN 10 v1 v2 170 h q3 e_q3) rfl rfl (Nat.le_of_ble_eq_true rfl) (gDep rfl) hf ?_
  refine g_istore (ls2 := [(5, .int q3.1), (0, .ref 0), (1, .ref 10), (2, .ref 144), (3, .ref 170), (4, .int x4)]) K d_lw_law_350 rfl rfl ?_
  refine g_aload_n K d_lw_law_352 3 rfl ?_
  refine g_aload_n K d_lw_law_353 1 rfl ?_
  refine g_iload K d_lw_law_354 5 rfl ?_
  refine g_iconst (v := 1) K d_lw_law_356 (by decide) ?_
  refine g_iadd K d_lw_law_357 ?_
  obtain ⟨v4, e_v4, hy⟩ := gBd hy
  refine g_sld K d_lw_law_358 e_v4 ?_
  refine g_aload_n K d_lw_law_359 1 rfl ?_
  refine g_iload K d_lw_law_360 5 rfl ?_
  refine g_iconst (v := 2) K d_lw_law_362 (by decide) ?_
  refine g_iadd K d_lw_law_363 ?_
  obtain ⟨v5, e_v5, hy⟩ := gBd hy
  refine g_sld K d_lw_law_364 e_v5 ?_
  obtain ⟨q6, e_q6, hy⟩ := gBd hy
  refine g_callVi (rest := []) K hx ly_c11_well kv_lw_54 d_lw_law_365 (ct_c11_well M.2.1 X hx N 144 v4 v5 q3.2 q6 e_q6) rfl rfl (Nat.le_of_ble_eq_true rfl) (gDep rfl) hf ?_
  refine g_istore (ls2 := [(6, .int q6.1), (5, .int q3.1), (0, .ref 0), (1, .ref 10), (2, .ref 144), (3, .ref 170), (4, .int x4)]) K d_lw_law_368 rfl rfl ?_
  refine g_aload_n K d_lw_law_370 4 rfl ?_
  obtain ⟨q7, e_q7, hy⟩ := gBd hy
  refine g_callVi (rest := []) K hx ly_c11_thrown kv_lw_55 d_lw_law_371 (ct_c11_thrown M.2.1 X hx N 144 q6.2 q7 e_q7) rfl rfl (Nat.le_of_ble_eq_true rfl) (gDep rfl) hf ?_
  refine g_iload K d_lw_law_374 1 rfl ?_
  refine g_icmp_eq K d_lw_law_376 (fun c8 => ?_) (fun c8 => ?_)
  · rw [if_pos c8] at hy
    refine g_iload K d_lw_law_381 1 rfl ?_
    refine g_if_ne K d_lw_law_383 (fun c9 => ?_) (fun c9 => ?_)
    · rw [if_neg c9] at hy
      refine g_goto K d_lw_law_398 ?_
      refine g_sub (ls2 := [(0, .ref 0), (1, .ref 10), (2, .ref 144), (3, .ref 170), (4, .int x4)]) [2, 3, 4, 5, 6] rfl ?_
      obtain rfl := Option.some.inj hy
      exact hE
    · rw [if_pos c9] at hy
      refine g_aload_n K d_lw_law_386 5 rfl ?_
      refine g_iconst (v := 0) K d_lw_law_387 (by decide) ?_
      obtain ⟨v10, e_v10, hy⟩ := gBd hy
      refine g_lald K d_lw_law_388 e_v10 ?_
      refine g_iload K d_lw_law_389 0 rfl ?_
      refine g_i2l K d_lw_law_391 ?_
      refine g_lcmp K d_lw_law_392 ?_
      refine g_if_eq K d_lw_law_393 (fun c11 => ?_) (fun c11 => ?_)
      · rw [if_pos c11] at hy
        refine g_goto K d_lw_law_398 ?_
        refine g_sub (ls2 := [(0, .ref 0), (1, .ref 10), (2, .ref 144), (3, .ref 170), (4, .int x4)]) [2, 3, 4, 5, 6] rfl ?_
        obtain rfl := Option.some.inj hy
        exact hE
      · rw [if_neg c11] at hy
        refine g_iconst (v := 0) K d_lw_law_396 (by decide) ?_
        cases hy
  · rw [if_neg c8] at hy
    refine g_iconst (v := 0) K d_lw_law_379 (by decide) ?_
    cases hy
def c_law_6 (N : Nat) (x4 : Int32) (h : gH) : Option gH :=
  (gas h (x4 + (1 : Int32))).bind fun v1 =>
    (gas h (x4 + (2 : Int32))).bind fun v2 =>
    (f_lw_village N 10 v1 v2 170 h).bind fun q3 =>
    (gas q3.2 (x4 + (1 : Int32))).bind fun v4 =>
    (gas q3.2 (x4 + (2 : Int32))).bind fun v5 =>
    (f_c11_village N 144 v4 v5 q3.2).bind fun q6 =>
    (f_c11_thrown N 144 q6.2).bind fun q7 =>
    if q7 = q3.1 then
    if q3.1 = 0 then
    (gaL q6.2 170 (0 : Int32)).bind fun v10 =>
    if (lg_cmp v10 q6.1.toInt64) = 0 then
    some q6.2
  else
    none
  else
    some q6.2
  else
    none
set_option maxHeartbeats 4000000 in
set_option maxRecDepth 100000 in
theorem wc_law_6 {M : gM} {X : gX} {N : Nat} (hfl : M.2.1.stackTraces = false) (hx : gEx X = false) (hN : 6 ≤ N) (K : gC M X "FullStopWellsLaw" b_lw_law 8 (gRm (100 + N) 601024 7293034)) (cs sl : Nat) (hf : cs + 1 ≤ 601024 ∧ sl + 6 ≤ 7293034) (x4 : Int32) (h h0 : gH) (hy : c_law_6 N x4 h = some h0) (hE : gG M X 8 (cs + 1) (sl + 6) 1620 [(0, .ref 0), (1, .ref 10), (2, .ref 144), (3, .ref 170), (4, .int x4)] [] h0) : gG M X 8 cs sl 401 [(0, .ref 0), (1, .ref 10), (2, .ref 144), (3, .ref 170), (4, .int x4)] [] h := by
  have hf0 : cs ≤ 601024 ∧ sl ≤ 7293034 := by omega
  unfold c_law_6 at hy
  refine g_aload_n K d_lw_law_401 1 rfl ?_
  refine g_aload_n K d_lw_law_402 0 rfl ?_
  refine g_iload K d_lw_law_403 4 rfl ?_
  refine g_iconst (v := 1) K d_lw_law_405 (by decide) ?_
  refine g_iadd K d_lw_law_406 ?_
  obtain ⟨v1, e_v1, hy⟩ := gBd hy
  refine g_sld K d_lw_law_407 e_v1 ?_
  refine g_aload_n K d_lw_law_408 0 rfl ?_
  refine g_iload K d_lw_law_409 4 rfl ?_
  refine g_iconst (v := 2) K d_lw_law_411 (by decide) ?_
  refine g_iadd K d_lw_law_412 ?_
  obtain ⟨v2, e_v2, hy⟩ := gBd hy
  refine g_sld K d_lw_law_413 e_v2 ?_
  refine g_aload_n K d_lw_law_414 3 rfl ?_
  obtain ⟨q3, e_q3, hy⟩ := gBd hy
  refine g_callSiW (rest := []) K hx lyw_lw_village ks_lw_58 d_lw_law_415 (ct_lw_village M.2.1 hfl X hx N hN 10 v1 v2 170 h q3 e_q3) rfl rfl (Nat.le_of_ble_eq_true rfl) (gDep rfl) hf ?_
  refine g_istore (ls2 := [(5, .int q3.1), (0, .ref 0), (1, .ref 10), (2, .ref 144), (3, .ref 170), (4, .int x4)]) K d_lw_law_418 rfl rfl ?_
  refine g_aload_n K d_lw_law_420 3 rfl ?_
  refine g_aload_n K d_lw_law_421 1 rfl ?_
  refine g_iload K d_lw_law_422 5 rfl ?_
  refine g_iconst (v := 1) K d_lw_law_424 (by decide) ?_
  refine g_iadd K d_lw_law_425 ?_
  obtain ⟨v4, e_v4, hy⟩ := gBd hy
  refine g_sld K d_lw_law_426 e_v4 ?_
  refine g_aload_n K d_lw_law_427 1 rfl ?_
  refine g_iload K d_lw_law_428 5 rfl ?_
  refine g_iconst (v := 2) K d_lw_law_430 (by decide) ?_
  refine g_iadd K d_lw_law_431 ?_
  obtain ⟨v5, e_v5, hy⟩ := gBd hy
  refine g_sld K d_lw_law_432 e_v5 ?_
  obtain ⟨q6, e_q6, hy⟩ := gBd hy
  refine g_callVi (rest := []) K hx ly_c11_village kv_lw_60 d_lw_law_433 (ct_c11_village M.2.1 X hx N 144 v4 v5 q3.2 q6 e_q6) rfl rfl (Nat.le_of_ble_eq_true rfl) (gDep rfl) hf ?_
  refine g_istore (ls2 := [(6, .int q6.1), (5, .int q3.1), (0, .ref 0), (1, .ref 10), (2, .ref 144), (3, .ref 170), (4, .int x4)]) K d_lw_law_436 rfl rfl ?_
  refine g_aload_n K d_lw_law_438 4 rfl ?_
  obtain ⟨q7, e_q7, hy⟩ := gBd hy
  refine g_callVi (rest := []) K hx ly_c11_thrown kv_lw_55 d_lw_law_439 (ct_c11_thrown M.2.1 X hx N 144 q6.2 q7 e_q7) rfl rfl (Nat.le_of_ble_eq_true rfl) (gDep rfl) hf ?_
  refine g_iload K d_lw_law_442 1 rfl ?_
  refine g_icmp_eq K d_lw_law_444 (fun c8 => ?_) (fun c8 => ?_)
  · rw [if_pos c8] at hy
    refine g_iload K d_lw_law_449 1 rfl ?_
    refine g_if_ne K d_lw_law_451 (fun c9 => ?_) (fun c9 => ?_)
    · rw [if_neg c9] at hy
      refine g_goto K d_lw_law_466 ?_
      refine g_sub (ls2 := [(0, .ref 0), (1, .ref 10), (2, .ref 144), (3, .ref 170), (4, .int x4)]) [2, 3, 4, 5, 6] rfl ?_
      obtain rfl := Option.some.inj hy
      exact hE
    · rw [if_pos c9] at hy
      refine g_aload_n K d_lw_law_454 5 rfl ?_
      refine g_iconst (v := 0) K d_lw_law_455 (by decide) ?_
      obtain ⟨v10, e_v10, hy⟩ := gBd hy
      refine g_lald K d_lw_law_456 e_v10 ?_
      refine g_iload K d_lw_law_457 0 rfl ?_
      refine g_i2l K d_lw_law_459 ?_
      refine g_lcmp K d_lw_law_460 ?_
      refine g_if_eq K d_lw_law_461 (fun c11 => ?_) (fun c11 => ?_)
      · rw [if_pos c11] at hy
        refine g_goto K d_lw_law_466 ?_
        refine g_sub (ls2 := [(0, .ref 0), (1, .ref 10), (2, .ref 144), (3, .ref 170), (4, .int x4)]) [2, 3, 4, 5, 6] rfl ?_
        obtain rfl := Option.some.inj hy
        exact hE
      · rw [if_neg c11] at hy
        refine g_iconst (v := 0) K d_lw_law_464 (by decide) ?_
        cases hy
  · rw [if_neg c8] at hy
    refine g_iconst (v := 0) K d_lw_law_447 (by decide) ?_
    cases hy
def c_law_7 (N : Nat) (x4 : Int32) (h : gH) : Option gH :=
  (gas h (x4 + (1 : Int32))).bind fun v1 =>
    (gas h (x4 + (2 : Int32))).bind fun v2 =>
    (gas h (x4 + (3 : Int32))).bind fun v3 =>
    (gas h (x4 + (4 : Int32))).bind fun v4 =>
    (f_c10_sheet N 10 v1 v2 v3 v4 h).bind fun q5 =>
    (gas q5.2 (x4 + (1 : Int32))).bind fun v6 =>
    (gas q5.2 (x4 + (2 : Int32))).bind fun v7 =>
    (gas q5.2 (x4 + (3 : Int32))).bind fun v8 =>
    (gas q5.2 (x4 + (4 : Int32))).bind fun v9 =>
    (f_c11_sheet N 144 v6 v7 v8 v9 q5.2).bind fun q10 =>
    if q5.1 = q10.1 then
    some q10.2
  else
    none
set_option maxHeartbeats 4000000 in
set_option maxRecDepth 100000 in
theorem wc_law_7 {M : gM} {X : gX} {N : Nat} (hfl : M.2.1.stackTraces = false) (hx : gEx X = false) (hN : 6 ≤ N) (K : gC M X "FullStopWellsLaw" b_lw_law 8 (gRm (100 + N) 601024 7293034)) (cs sl : Nat) (hf : cs + 1 ≤ 601024 ∧ sl + 6 ≤ 7293034) (x4 : Int32) (h h0 : gH) (hy : c_law_7 N x4 h = some h0) (hE : gG M X 8 (cs + 1) (sl + 6) 1620 [(0, .ref 0), (1, .ref 10), (2, .ref 144), (3, .ref 170), (4, .int x4)] [] h0) : gG M X 8 cs sl 469 [(0, .ref 0), (1, .ref 10), (2, .ref 144), (3, .ref 170), (4, .int x4)] [] h := by
  have hf0 : cs ≤ 601024 ∧ sl ≤ 7293034 := by omega
  unfold c_law_7 at hy
  refine g_aload_n K d_lw_law_469 1 rfl ?_
  refine g_aload_n K d_lw_law_470 0 rfl ?_
  refine g_iload K d_lw_law_471 4 rfl ?_
  refine g_iconst (v := 1) K d_lw_law_473 (by decide) ?_
  refine g_iadd K d_lw_law_474 ?_
  obtain ⟨v1, e_v1, hy⟩ := gBd hy
  refine g_sld K d_lw_law_475 e_v1 ?_
  refine g_aload_n K d_lw_law_476 0 rfl ?_
  refine g_iload K d_lw_law_477 4 rfl ?_
  refine g_iconst (v := 2) K d_lw_law_479 (by decide) ?_
  refine g_iadd K d_lw_law_480 ?_
  obtain ⟨v2, e_v2, hy⟩ := gBd hy
  refine g_sld K d_lw_law_481 e_v2 ?_
  refine g_aload_n K d_lw_law_482 0 rfl ?_
  refine g_iload K d_lw_law_483 4 rfl ?_
  refine g_iconst (v := 3) K d_lw_law_485 (by decide) ?_
  refine g_iadd K d_lw_law_486 ?_
  obtain ⟨v3, e_v3, hy⟩ := gBd hy
  refine g_sld K d_lw_law_487 e_v3 ?_
  refine g_aload_n K d_lw_law_488 0 rfl ?_
  refine g_iload K d_lw_law_489 4 rfl ?_
  refine g_iconst (v := 4) K d_lw_law_491 (by decide) ?_
  refine g_iadd K d_lw_law_492 ?_
  obtain ⟨v4, e_v4, hy⟩ := gBd hy
  refine g_sld K d_lw_law_493 e_v4 ?_
  obtain ⟨q5, e_q5, hy⟩ := gBd hy
  refine g_callVi (rest := []) K hx ly_c10_sheet kv_lw_61 d_lw_law_494 (ct_c10_sheet M.2.1 X hx N 10 v1 v2 v3 v4 h q5 e_q5) rfl rfl (Nat.le_of_ble_eq_true rfl) (gDep rfl) hf0 ?_
  refine g_aload_n K d_lw_law_497 2 rfl ?_
  refine g_aload_n K d_lw_law_498 0 rfl ?_
  refine g_iload K d_lw_law_499 4 rfl ?_
  refine g_iconst (v := 1) K d_lw_law_501 (by decide) ?_
  refine g_iadd K d_lw_law_502 ?_
  obtain ⟨v6, e_v6, hy⟩ := gBd hy
  refine g_sld K d_lw_law_503 e_v6 ?_
  refine g_aload_n K d_lw_law_504 0 rfl ?_
  refine g_iload K d_lw_law_505 4 rfl ?_
  refine g_iconst (v := 2) K d_lw_law_507 (by decide) ?_
  refine g_iadd K d_lw_law_508 ?_
  obtain ⟨v7, e_v7, hy⟩ := gBd hy
  refine g_sld K d_lw_law_509 e_v7 ?_
  refine g_aload_n K d_lw_law_510 0 rfl ?_
  refine g_iload K d_lw_law_511 4 rfl ?_
  refine g_iconst (v := 3) K d_lw_law_513 (by decide) ?_
  refine g_iadd K d_lw_law_514 ?_
  obtain ⟨v8, e_v8, hy⟩ := gBd hy
  refine g_sld K d_lw_law_515 e_v8 ?_
  refine g_aload_n K d_lw_law_516 0 rfl ?_
  refine g_iload K d_lw_law_517 4 rfl ?_
  refine g_iconst (v := 4) K d_lw_law_519 (by decide) ?_
  refine g_iadd K d_lw_law_520 ?_
  obtain ⟨v9, e_v9, hy⟩ := gBd hy
  refine g_sld K d_lw_law_521 e_v9 ?_
  obtain ⟨q10, e_q10, hy⟩ := gBd hy
  refine g_callVi (rest := [.int q5.1]) K hx ly_c11_sheet kv_lw_65 d_lw_law_522 (ct_c11_sheet M.2.1 X hx N 144 v6 v7 v8 v9 q5.2 q10 e_q10) rfl rfl (Nat.le_of_ble_eq_true rfl) (gDep rfl) hf0 ?_
  refine g_icmp_eq K d_lw_law_525 (fun c11 => ?_) (fun c11 => ?_)
  · rw [if_pos c11] at hy
    obtain rfl := Option.some.inj hy
    exact g_wid hE hx
  · rw [if_neg c11] at hy
    refine g_iconst (v := 0) K d_lw_law_528 (by decide) ?_
    cases hy
def c_law_8 (N : Nat) (x4 : Int32) (h : gH) : Option gH :=
  (gas h (x4 + (1 : Int32))).bind fun v1 =>
    (f_c10_seasons N 10 v1 h).bind fun q2 =>
    (gas q2.2 (x4 + (1 : Int32))).bind fun v3 =>
    (f_c11_seasons N 144 v3 q2.2).bind fun q4 =>
    if q2.1 = q4.1 then
    some q4.2
  else
    none
set_option maxHeartbeats 4000000 in
set_option maxRecDepth 100000 in
theorem wc_law_8 {M : gM} {X : gX} {N : Nat} (hfl : M.2.1.stackTraces = false) (hx : gEx X = false) (hN : 6 ≤ N) (K : gC M X "FullStopWellsLaw" b_lw_law 8 (gRm (100 + N) 601024 7293034)) (cs sl : Nat) (hf : cs + 1 ≤ 601024 ∧ sl + 6 ≤ 7293034) (x4 : Int32) (h h0 : gH) (hy : c_law_8 N x4 h = some h0) (hE : gG M X 8 (cs + 1) (sl + 6) 1620 [(0, .ref 0), (1, .ref 10), (2, .ref 144), (3, .ref 170), (4, .int x4)] [] h0) : gG M X 8 cs sl 530 [(0, .ref 0), (1, .ref 10), (2, .ref 144), (3, .ref 170), (4, .int x4)] [] h := by
  have hf0 : cs ≤ 601024 ∧ sl ≤ 7293034 := by omega
  unfold c_law_8 at hy
  refine g_aload_n K d_lw_law_530 1 rfl ?_
  refine g_aload_n K d_lw_law_531 0 rfl ?_
  refine g_iload K d_lw_law_532 4 rfl ?_
  refine g_iconst (v := 1) K d_lw_law_534 (by decide) ?_
  refine g_iadd K d_lw_law_535 ?_
  obtain ⟨v1, e_v1, hy⟩ := gBd hy
  refine g_sld K d_lw_law_536 e_v1 ?_
  obtain ⟨q2, e_q2, hy⟩ := gBd hy
  refine g_callVi (rest := []) K hx ly_c10_seasons kv_lw_66 d_lw_law_537 (ct_c10_seasons M.2.1 X hx N 10 v1 h q2 e_q2) rfl rfl (Nat.le_of_ble_eq_true rfl) (gDep rfl) hf0 ?_
  refine g_aload_n K d_lw_law_540 2 rfl ?_
  refine g_aload_n K d_lw_law_541 0 rfl ?_
  refine g_iload K d_lw_law_542 4 rfl ?_
  refine g_iconst (v := 1) K d_lw_law_544 (by decide) ?_
  refine g_iadd K d_lw_law_545 ?_
  obtain ⟨v3, e_v3, hy⟩ := gBd hy
  refine g_sld K d_lw_law_546 e_v3 ?_
  obtain ⟨q4, e_q4, hy⟩ := gBd hy
  refine g_callVi (rest := [.int q2.1]) K hx ly_c11_seasons kv_lw_69 d_lw_law_547 (ct_c11_seasons M.2.1 X hx N 144 v3 q2.2 q4 e_q4) rfl rfl (Nat.le_of_ble_eq_true rfl) (gDep rfl) hf0 ?_
  refine g_icmp_eq K d_lw_law_550 (fun c5 => ?_) (fun c5 => ?_)
  · rw [if_pos c5] at hy
    obtain rfl := Option.some.inj hy
    exact g_wid hE hx
  · rw [if_neg c5] at hy
    refine g_iconst (v := 0) K d_lw_law_553 (by decide) ?_
    cases hy
def c_law_9 (N : Nat) (x4 : Int32) (h : gH) : Option gH :=
  (gas h (x4 + (1 : Int32))).bind fun v1 =>
    (gas h (x4 + (2 : Int32))).bind fun v2 =>
    (gas h (x4 + (3 : Int32))).bind fun v3 =>
    (f_c10_says N 10 v1 v2 v3 h).bind fun q4 =>
    (gas q4.2 (x4 + (1 : Int32))).bind fun v5 =>
    (gas q4.2 (x4 + (2 : Int32))).bind fun v6 =>
    (gas q4.2 (x4 + (3 : Int32))).bind fun v7 =>
    (f_c11_says N 144 v5 v6 v7 q4.2).bind fun q8 =>
    if q4.1 = q8.1 then
    some q8.2
  else
    none
set_option maxHeartbeats 4000000 in
set_option maxRecDepth 100000 in
theorem wc_law_9 {M : gM} {X : gX} {N : Nat} (hfl : M.2.1.stackTraces = false) (hx : gEx X = false) (hN : 6 ≤ N) (K : gC M X "FullStopWellsLaw" b_lw_law 8 (gRm (100 + N) 601024 7293034)) (cs sl : Nat) (hf : cs + 1 ≤ 601024 ∧ sl + 6 ≤ 7293034) (x4 : Int32) (h h0 : gH) (hy : c_law_9 N x4 h = some h0) (hE : gG M X 8 (cs + 1) (sl + 6) 1620 [(0, .ref 0), (1, .ref 10), (2, .ref 144), (3, .ref 170), (4, .int x4)] [] h0) : gG M X 8 cs sl 555 [(0, .ref 0), (1, .ref 10), (2, .ref 144), (3, .ref 170), (4, .int x4)] [] h := by
  have hf0 : cs ≤ 601024 ∧ sl ≤ 7293034 := by omega
  unfold c_law_9 at hy
  refine g_aload_n K d_lw_law_555 1 rfl ?_
  refine g_aload_n K d_lw_law_556 0 rfl ?_
  refine g_iload K d_lw_law_557 4 rfl ?_
  refine g_iconst (v := 1) K d_lw_law_559 (by decide) ?_
  refine g_iadd K d_lw_law_560 ?_
  obtain ⟨v1, e_v1, hy⟩ := gBd hy
  refine g_sld K d_lw_law_561 e_v1 ?_
  refine g_aload_n K d_lw_law_562 0 rfl ?_
  refine g_iload K d_lw_law_563 4 rfl ?_
  refine g_iconst (v := 2) K d_lw_law_565 (by decide) ?_
  refine g_iadd K d_lw_law_566 ?_
  obtain ⟨v2, e_v2, hy⟩ := gBd hy
  refine g_sld K d_lw_law_567 e_v2 ?_
  refine g_aload_n K d_lw_law_568 0 rfl ?_
  refine g_iload K d_lw_law_569 4 rfl ?_
  refine g_iconst (v := 3) K d_lw_law_571 (by decide) ?_
  refine g_iadd K d_lw_law_572 ?_
  obtain ⟨v3, e_v3, hy⟩ := gBd hy
  refine g_sld K d_lw_law_573 e_v3 ?_
  obtain ⟨q4, e_q4, hy⟩ := gBd hy
  refine g_callVi (rest := []) K hx ly_c10_says kv_lw_70 d_lw_law_574 (ct_c10_says M.2.1 X hx N 10 v1 v2 v3 h q4 e_q4) rfl rfl (Nat.le_of_ble_eq_true rfl) (gDep rfl) hf0 ?_
  refine g_aload_n K d_lw_law_577 2 rfl ?_
  refine g_aload_n K d_lw_law_578 0 rfl ?_
  refine g_iload K d_lw_law_579 4 rfl ?_
  refine g_iconst (v := 1) K d_lw_law_581 (by decide) ?_
  refine g_iadd K d_lw_law_582 ?_
  obtain ⟨v5, e_v5, hy⟩ := gBd hy
  refine g_sld K d_lw_law_583 e_v5 ?_
  refine g_aload_n K d_lw_law_584 0 rfl ?_
  refine g_iload K d_lw_law_585 4 rfl ?_
  refine g_iconst (v := 2) K d_lw_law_587 (by decide) ?_
  refine g_iadd K d_lw_law_588 ?_
  obtain ⟨v6, e_v6, hy⟩ := gBd hy
  refine g_sld K d_lw_law_589 e_v6 ?_
  refine g_aload_n K d_lw_law_590 0 rfl ?_
  refine g_iload K d_lw_law_591 4 rfl ?_
  refine g_iconst (v := 3) K d_lw_law_593 (by decide) ?_
  refine g_iadd K d_lw_law_594 ?_
  obtain ⟨v7, e_v7, hy⟩ := gBd hy
  refine g_sld K d_lw_law_595 e_v7 ?_
  obtain ⟨q8, e_q8, hy⟩ := gBd hy
  refine g_callVi (rest := [.int q4.1]) K hx ly_c11_says kv_lw_74 d_lw_law_596 (ct_c11_says M.2.1 X hx N 144 v5 v6 v7 q4.2 q8 e_q8) rfl rfl (Nat.le_of_ble_eq_true rfl) (gDep rfl) hf0 ?_
  refine g_icmp_eq K d_lw_law_599 (fun c9 => ?_) (fun c9 => ?_)
  · rw [if_pos c9] at hy
    obtain rfl := Option.some.inj hy
    exact g_wid hE hx
  · rw [if_neg c9] at hy
    refine g_iconst (v := 0) K d_lw_law_602 (by decide) ?_
    cases hy
def c_law_10 (N : Nat) (x4 : Int32) (h : gH) : Option gH :=
  (gas h (x4 + (1 : Int32))).bind fun v1 =>
    (f_c10_ands N 10 v1 h).bind fun q2 =>
    (gas q2.2 (x4 + (1 : Int32))).bind fun v3 =>
    (f_c11_ands N 144 v3 q2.2).bind fun q4 =>
    if q2.1 = q4.1 then
    some q4.2
  else
    none
set_option maxHeartbeats 4000000 in
set_option maxRecDepth 100000 in
theorem wc_law_10 {M : gM} {X : gX} {N : Nat} (hfl : M.2.1.stackTraces = false) (hx : gEx X = false) (hN : 6 ≤ N) (K : gC M X "FullStopWellsLaw" b_lw_law 8 (gRm (100 + N) 601024 7293034)) (cs sl : Nat) (hf : cs + 1 ≤ 601024 ∧ sl + 6 ≤ 7293034) (x4 : Int32) (h h0 : gH) (hy : c_law_10 N x4 h = some h0) (hE : gG M X 8 (cs + 1) (sl + 6) 1620 [(0, .ref 0), (1, .ref 10), (2, .ref 144), (3, .ref 170), (4, .int x4)] [] h0) : gG M X 8 cs sl 604 [(0, .ref 0), (1, .ref 10), (2, .ref 144), (3, .ref 170), (4, .int x4)] [] h := by
  have hf0 : cs ≤ 601024 ∧ sl ≤ 7293034 := by omega
  unfold c_law_10 at hy
  refine g_aload_n K d_lw_law_604 1 rfl ?_
  refine g_aload_n K d_lw_law_605 0 rfl ?_
  refine g_iload K d_lw_law_606 4 rfl ?_
  refine g_iconst (v := 1) K d_lw_law_608 (by decide) ?_
  refine g_iadd K d_lw_law_609 ?_
  obtain ⟨v1, e_v1, hy⟩ := gBd hy
  refine g_sld K d_lw_law_610 e_v1 ?_
  obtain ⟨q2, e_q2, hy⟩ := gBd hy
  refine g_callVi (rest := []) K hx ly_c10_ands kv_lw_75 d_lw_law_611 (ct_c10_ands M.2.1 X hx N 10 v1 h q2 e_q2) rfl rfl (Nat.le_of_ble_eq_true rfl) (gDep rfl) hf0 ?_
  refine g_aload_n K d_lw_law_614 2 rfl ?_
  refine g_aload_n K d_lw_law_615 0 rfl ?_
  refine g_iload K d_lw_law_616 4 rfl ?_
  refine g_iconst (v := 1) K d_lw_law_618 (by decide) ?_
  refine g_iadd K d_lw_law_619 ?_
  obtain ⟨v3, e_v3, hy⟩ := gBd hy
  refine g_sld K d_lw_law_620 e_v3 ?_
  obtain ⟨q4, e_q4, hy⟩ := gBd hy
  refine g_callVi (rest := [.int q2.1]) K hx ly_c11_ands kv_lw_78 d_lw_law_621 (ct_c11_ands M.2.1 X hx N 144 v3 q2.2 q4 e_q4) rfl rfl (Nat.le_of_ble_eq_true rfl) (gDep rfl) hf0 ?_
  refine g_icmp_eq K d_lw_law_624 (fun c5 => ?_) (fun c5 => ?_)
  · rw [if_pos c5] at hy
    obtain rfl := Option.some.inj hy
    exact g_wid hE hx
  · rw [if_neg c5] at hy
    refine g_iconst (v := 0) K d_lw_law_627 (by decide) ?_
    cases hy
def c_law_11 (N : Nat) (x4 : Int32) (h : gH) : Option gH :=
  (gas h (x4 + (1 : Int32))).bind fun v1 =>
    (f_c10_clears N 10 v1 h).bind fun q2 =>
    (gas q2.2 (x4 + (1 : Int32))).bind fun v3 =>
    (f_c11_clears N 144 v3 q2.2).bind fun q4 =>
    if q2.1 = q4.1 then
    some q4.2
  else
    none
set_option maxHeartbeats 4000000 in
set_option maxRecDepth 100000 in
theorem wc_law_11 {M : gM} {X : gX} {N : Nat} (hfl : M.2.1.stackTraces = false) (hx : gEx X = false) (hN : 6 ≤ N) (K : gC M X "FullStopWellsLaw" b_lw_law 8 (gRm (100 + N) 601024 7293034)) (cs sl : Nat) (hf : cs + 1 ≤ 601024 ∧ sl + 6 ≤ 7293034) (x4 : Int32) (h h0 : gH) (hy : c_law_11 N x4 h = some h0) (hE : gG M X 8 (cs + 1) (sl + 6) 1620 [(0, .ref 0), (1, .ref 10), (2, .ref 144), (3, .ref 170), (4, .int x4)] [] h0) : gG M X 8 cs sl 629 [(0, .ref 0), (1, .ref 10), (2, .ref 144), (3, .ref 170), (4, .int x4)] [] h := by
  have hf0 : cs ≤ 601024 ∧ sl ≤ 7293034 := by omega
  unfold c_law_11 at hy
  refine g_aload_n K d_lw_law_629 1 rfl ?_
  refine g_aload_n K d_lw_law_630 0 rfl ?_
  refine g_iload K d_lw_law_631 4 rfl ?_
  refine g_iconst (v := 1) K d_lw_law_633 (by decide) ?_
  refine g_iadd K d_lw_law_634 ?_
  obtain ⟨v1, e_v1, hy⟩ := gBd hy
  refine g_sld K d_lw_law_635 e_v1 ?_
  obtain ⟨q2, e_q2, hy⟩ := gBd hy
  refine g_callVi (rest := []) K hx ly_c10_clears kv_lw_79 d_lw_law_636 (ct_c10_clears M.2.1 X hx N 10 v1 h q2 e_q2) rfl rfl (Nat.le_of_ble_eq_true rfl) (gDep rfl) hf0 ?_
  refine g_aload_n K d_lw_law_639 2 rfl ?_
  refine g_aload_n K d_lw_law_640 0 rfl ?_
  refine g_iload K d_lw_law_641 4 rfl ?_
  refine g_iconst (v := 1) K d_lw_law_643 (by decide) ?_
  refine g_iadd K d_lw_law_644 ?_
  obtain ⟨v3, e_v3, hy⟩ := gBd hy
  refine g_sld K d_lw_law_645 e_v3 ?_
  obtain ⟨q4, e_q4, hy⟩ := gBd hy
  refine g_callVi (rest := [.int q2.1]) K hx ly_c11_clears kv_lw_82 d_lw_law_646 (ct_c11_clears M.2.1 X hx N 144 v3 q2.2 q4 e_q4) rfl rfl (Nat.le_of_ble_eq_true rfl) (gDep rfl) hf0 ?_
  refine g_icmp_eq K d_lw_law_649 (fun c5 => ?_) (fun c5 => ?_)
  · rw [if_pos c5] at hy
    obtain rfl := Option.some.inj hy
    exact g_wid hE hx
  · rw [if_neg c5] at hy
    refine g_iconst (v := 0) K d_lw_law_652 (by decide) ?_
    cases hy
def c_law_12 (N : Nat) (x4 : Int32) (h : gH) : Option gH :=
  (gas h (x4 + (1 : Int32))).bind fun v1 =>
    (gas h (x4 + (2 : Int32))).bind fun v2 =>
    (f_c10_draws N 10 v1 v2 h).bind fun q3 =>
    (gas q3.2 (x4 + (1 : Int32))).bind fun v4 =>
    (gas q3.2 (x4 + (2 : Int32))).bind fun v5 =>
    (f_c11_draws N 144 v4 v5 q3.2).bind fun q6 =>
    if q3.1 = q6.1 then
    some q6.2
  else
    none
set_option maxHeartbeats 4000000 in
set_option maxRecDepth 100000 in
theorem wc_law_12 {M : gM} {X : gX} {N : Nat} (hfl : M.2.1.stackTraces = false) (hx : gEx X = false) (hN : 6 ≤ N) (K : gC M X "FullStopWellsLaw" b_lw_law 8 (gRm (100 + N) 601024 7293034)) (cs sl : Nat) (hf : cs + 1 ≤ 601024 ∧ sl + 6 ≤ 7293034) (x4 : Int32) (h h0 : gH) (hy : c_law_12 N x4 h = some h0) (hE : gG M X 8 (cs + 1) (sl + 6) 1620 [(0, .ref 0), (1, .ref 10), (2, .ref 144), (3, .ref 170), (4, .int x4)] [] h0) : gG M X 8 cs sl 654 [(0, .ref 0), (1, .ref 10), (2, .ref 144), (3, .ref 170), (4, .int x4)] [] h := by
  have hf0 : cs ≤ 601024 ∧ sl ≤ 7293034 := by omega
  unfold c_law_12 at hy
  refine g_aload_n K d_lw_law_654 1 rfl ?_
  refine g_aload_n K d_lw_law_655 0 rfl ?_
  refine g_iload K d_lw_law_656 4 rfl ?_
  refine g_iconst (v := 1) K d_lw_law_658 (by decide) ?_
  refine g_iadd K d_lw_law_659 ?_
  obtain ⟨v1, e_v1, hy⟩ := gBd hy
  refine g_sld K d_lw_law_660 e_v1 ?_
  refine g_aload_n K d_lw_law_661 0 rfl ?_
  refine g_iload K d_lw_law_662 4 rfl ?_
  refine g_iconst (v := 2) K d_lw_law_664 (by decide) ?_
  refine g_iadd K d_lw_law_665 ?_
  obtain ⟨v2, e_v2, hy⟩ := gBd hy
  refine g_sld K d_lw_law_666 e_v2 ?_
  obtain ⟨q3, e_q3, hy⟩ := gBd hy
  refine g_callVi (rest := []) K hx ly_c10_draws kv_lw_83 d_lw_law_667 (ct_c10_draws M.2.1 X hx N 10 v1 v2 h q3 e_q3) rfl rfl (Nat.le_of_ble_eq_true rfl) (gDep rfl) hf0 ?_
  refine g_aload_n K d_lw_law_670 2 rfl ?_
  refine g_aload_n K d_lw_law_671 0 rfl ?_
  refine g_iload K d_lw_law_672 4 rfl ?_
  refine g_iconst (v := 1) K d_lw_law_674 (by decide) ?_
  refine g_iadd K d_lw_law_675 ?_
  obtain ⟨v4, e_v4, hy⟩ := gBd hy
  refine g_sld K d_lw_law_676 e_v4 ?_
  refine g_aload_n K d_lw_law_677 0 rfl ?_
  refine g_iload K d_lw_law_678 4 rfl ?_
  refine g_iconst (v := 2) K d_lw_law_680 (by decide) ?_
  refine g_iadd K d_lw_law_681 ?_
  obtain ⟨v5, e_v5, hy⟩ := gBd hy
  refine g_sld K d_lw_law_682 e_v5 ?_
  obtain ⟨q6, e_q6, hy⟩ := gBd hy
  refine g_callVi (rest := [.int q3.1]) K hx ly_c11_draws kv_lw_86 d_lw_law_683 (ct_c11_draws M.2.1 X hx N 144 v4 v5 q3.2 q6 e_q6) rfl rfl (Nat.le_of_ble_eq_true rfl) (gDep rfl) hf0 ?_
  refine g_icmp_eq K d_lw_law_686 (fun c7 => ?_) (fun c7 => ?_)
  · rw [if_pos c7] at hy
    obtain rfl := Option.some.inj hy
    exact g_wid hE hx
  · rw [if_neg c7] at hy
    refine g_iconst (v := 0) K d_lw_law_689 (by decide) ?_
    cases hy
def c_law_13 (N : Nat) (x4 : Int32) (h : gH) : Option gH :=
  (gas h (x4 + (1 : Int32))).bind fun v1 =>
    (f_c10_repents N 10 v1 h).bind fun q2 =>
    (gas q2.2 (x4 + (1 : Int32))).bind fun v3 =>
    (f_c11_repents N 144 v3 q2.2).bind fun q4 =>
    if q2.1 = q4.1 then
    some q4.2
  else
    none
set_option maxHeartbeats 4000000 in
set_option maxRecDepth 100000 in
theorem wc_law_13 {M : gM} {X : gX} {N : Nat} (hfl : M.2.1.stackTraces = false) (hx : gEx X = false) (hN : 6 ≤ N) (K : gC M X "FullStopWellsLaw" b_lw_law 8 (gRm (100 + N) 601024 7293034)) (cs sl : Nat) (hf : cs + 1 ≤ 601024 ∧ sl + 6 ≤ 7293034) (x4 : Int32) (h h0 : gH) (hy : c_law_13 N x4 h = some h0) (hE : gG M X 8 (cs + 1) (sl + 6) 1620 [(0, .ref 0), (1, .ref 10), (2, .ref 144), (3, .ref 170), (4, .int x4)] [] h0) : gG M X 8 cs sl 691 [(0, .ref 0), (1, .ref 10), (2, .ref 144), (3, .ref 170), (4, .int x4)] [] h := by
  have hf0 : cs ≤ 601024 ∧ sl ≤ 7293034 := by omega
  unfold c_law_13 at hy
  refine g_aload_n K d_lw_law_691 1 rfl ?_
  refine g_aload_n K d_lw_law_692 0 rfl ?_
  refine g_iload K d_lw_law_693 4 rfl ?_
  refine g_iconst (v := 1) K d_lw_law_695 (by decide) ?_
  refine g_iadd K d_lw_law_696 ?_
  obtain ⟨v1, e_v1, hy⟩ := gBd hy
  refine g_sld K d_lw_law_697 e_v1 ?_
  obtain ⟨q2, e_q2, hy⟩ := gBd hy
  refine g_callVi (rest := []) K hx ly_c10_repents kv_lw_87 d_lw_law_698 (ct_c10_repents M.2.1 X hx N 10 v1 h q2 e_q2) rfl rfl (Nat.le_of_ble_eq_true rfl) (gDep rfl) hf0 ?_
  refine g_aload_n K d_lw_law_701 2 rfl ?_
  refine g_aload_n K d_lw_law_702 0 rfl ?_
  refine g_iload K d_lw_law_703 4 rfl ?_
  refine g_iconst (v := 1) K d_lw_law_705 (by decide) ?_
  refine g_iadd K d_lw_law_706 ?_
  obtain ⟨v3, e_v3, hy⟩ := gBd hy
  refine g_sld K d_lw_law_707 e_v3 ?_
  obtain ⟨q4, e_q4, hy⟩ := gBd hy
  refine g_callVi (rest := [.int q2.1]) K hx ly_c11_repents kv_lw_90 d_lw_law_708 (ct_c11_repents M.2.1 X hx N 144 v3 q2.2 q4 e_q4) rfl rfl (Nat.le_of_ble_eq_true rfl) (gDep rfl) hf0 ?_
  refine g_icmp_eq K d_lw_law_711 (fun c5 => ?_) (fun c5 => ?_)
  · rw [if_pos c5] at hy
    obtain rfl := Option.some.inj hy
    exact g_wid hE hx
  · rw [if_neg c5] at hy
    refine g_iconst (v := 0) K d_lw_law_714 (by decide) ?_
    cases hy
def c_law_14 (N : Nat) (x4 : Int32) (h : gH) : Option gH :=
  (f_c10_year N 10 h).bind fun q1 =>
    (f_c11_year N 144 q1.2).bind fun q2 =>
    if q1.1 = q2.1 then
    some q2.2
  else
    none
set_option maxHeartbeats 4000000 in
set_option maxRecDepth 100000 in
theorem wc_law_14 {M : gM} {X : gX} {N : Nat} (hfl : M.2.1.stackTraces = false) (hx : gEx X = false) (hN : 6 ≤ N) (K : gC M X "FullStopWellsLaw" b_lw_law 8 (gRm (100 + N) 601024 7293034)) (cs sl : Nat) (hf : cs + 1 ≤ 601024 ∧ sl + 6 ≤ 7293034) (x4 : Int32) (h h0 : gH) (hy : c_law_14 N x4 h = some h0) (hE : gG M X 8 (cs + 1) (sl + 6) 1620 [(0, .ref 0), (1, .ref 10), (2, .ref 144), (3, .ref 170), (4, .int x4)] [] h0) : gG M X 8 cs sl 716 [(0, .ref 0), (1, .ref 10), (2, .ref 144), (3, .ref 170), (4, .int x4)] [] h := by
  have hf0 : cs ≤ 601024 ∧ sl ≤ 7293034 := by omega
  unfold c_law_14 at hy
  refine g_aload_n K d_lw_law_716 1 rfl ?_
  obtain ⟨q1, e_q1, hy⟩ := gBd hy
  refine g_callVi (rest := []) K hx ly_c10_year kv_lw_91 d_lw_law_717 (ct_c10_year M.2.1 X hx N 10 h q1 e_q1) rfl rfl (Nat.le_of_ble_eq_true rfl) (gDep rfl) hf0 ?_
  refine g_aload_n K d_lw_law_720 2 rfl ?_
  obtain ⟨q2, e_q2, hy⟩ := gBd hy
  refine g_callVi (rest := [.int q1.1]) K hx ly_c11_year kv_lw_94 d_lw_law_721 (ct_c11_year M.2.1 X hx N 144 q1.2 q2 e_q2) rfl rfl (Nat.le_of_ble_eq_true rfl) (gDep rfl) hf0 ?_
  refine g_icmp_eq K d_lw_law_724 (fun c3 => ?_) (fun c3 => ?_)
  · rw [if_pos c3] at hy
    obtain rfl := Option.some.inj hy
    exact g_wid hE hx
  · rw [if_neg c3] at hy
    refine g_iconst (v := 0) K d_lw_law_727 (by decide) ?_
    cases hy
def c_law_15 (N : Nat) (x4 : Int32) (h : gH) : Option gH :=
  (f_c10_undo N 10 h).bind fun q1 =>
    (f_c11_undo N 144 q1.2).bind fun q2 =>
    if q1.1 = q2.1 then
    some q2.2
  else
    none
set_option maxHeartbeats 4000000 in
set_option maxRecDepth 100000 in
theorem wc_law_15 {M : gM} {X : gX} {N : Nat} (hfl : M.2.1.stackTraces = false) (hx : gEx X = false) (hN : 6 ≤ N) (K : gC M X "FullStopWellsLaw" b_lw_law 8 (gRm (100 + N) 601024 7293034)) (cs sl : Nat) (hf : cs + 1 ≤ 601024 ∧ sl + 6 ≤ 7293034) (x4 : Int32) (h h0 : gH) (hy : c_law_15 N x4 h = some h0) (hE : gG M X 8 (cs + 1) (sl + 6) 1620 [(0, .ref 0), (1, .ref 10), (2, .ref 144), (3, .ref 170), (4, .int x4)] [] h0) : gG M X 8 cs sl 729 [(0, .ref 0), (1, .ref 10), (2, .ref 144), (3, .ref 170), (4, .int x4)] [] h := by
  have hf0 : cs ≤ 601024 ∧ sl ≤ 7293034 := by omega
  unfold c_law_15 at hy
  refine g_aload_n K d_lw_law_729 1 rfl ?_
  obtain ⟨q1, e_q1, hy⟩ := gBd hy
  refine g_callVi (rest := []) K hx ly_c10_undo kv_lw_95 d_lw_law_730 (ct_c10_undo M.2.1 X hx N 10 h q1 e_q1) rfl rfl (Nat.le_of_ble_eq_true rfl) (gDep rfl) hf0 ?_
  refine g_aload_n K d_lw_law_733 2 rfl ?_
  obtain ⟨q2, e_q2, hy⟩ := gBd hy
  refine g_callVi (rest := [.int q1.1]) K hx ly_c11_undo kv_lw_98 d_lw_law_734 (ct_c11_undo M.2.1 X hx N 144 q1.2 q2 e_q2) rfl rfl (Nat.le_of_ble_eq_true rfl) (gDep rfl) hf0 ?_
  refine g_icmp_eq K d_lw_law_737 (fun c3 => ?_) (fun c3 => ?_)
  · rw [if_pos c3] at hy
    obtain rfl := Option.some.inj hy
    exact g_wid hE hx
  · rw [if_neg c3] at hy
    refine g_iconst (v := 0) K d_lw_law_740 (by decide) ?_
    cases hy
def c_law_16 (N : Nat) (x4 : Int32) (h : gH) : Option gH :=
  (gas h (x4 + (1 : Int32))).bind fun v1 =>
    (gas h (x4 + (2 : Int32))).bind fun v2 =>
    (f_c10_later N 10 v1 v2 h).bind fun q3 =>
    (gas q3.2 (x4 + (1 : Int32))).bind fun v4 =>
    (gas q3.2 (x4 + (2 : Int32))).bind fun v5 =>
    (f_c11_later N 144 v4 v5 q3.2).bind fun q6 =>
    if q3.1 = q6.1 then
    some q6.2
  else
    none
set_option maxHeartbeats 4000000 in
set_option maxRecDepth 100000 in
theorem wc_law_16 {M : gM} {X : gX} {N : Nat} (hfl : M.2.1.stackTraces = false) (hx : gEx X = false) (hN : 6 ≤ N) (K : gC M X "FullStopWellsLaw" b_lw_law 8 (gRm (100 + N) 601024 7293034)) (cs sl : Nat) (hf : cs + 1 ≤ 601024 ∧ sl + 6 ≤ 7293034) (x4 : Int32) (h h0 : gH) (hy : c_law_16 N x4 h = some h0) (hE : gG M X 8 (cs + 1) (sl + 6) 1620 [(0, .ref 0), (1, .ref 10), (2, .ref 144), (3, .ref 170), (4, .int x4)] [] h0) : gG M X 8 cs sl 742 [(0, .ref 0), (1, .ref 10), (2, .ref 144), (3, .ref 170), (4, .int x4)] [] h := by
  have hf0 : cs ≤ 601024 ∧ sl ≤ 7293034 := by omega
  unfold c_law_16 at hy
  refine g_aload_n K d_lw_law_742 1 rfl ?_
  refine g_aload_n K d_lw_law_743 0 rfl ?_
  refine g_iload K d_lw_law_744 4 rfl ?_
  refine g_iconst (v := 1) K d_lw_law_746 (by decide) ?_
  refine g_iadd K d_lw_law_747 ?_
  obtain ⟨v1, e_v1, hy⟩ := gBd hy
  refine g_sld K d_lw_law_748 e_v1 ?_
  refine g_aload_n K d_lw_law_749 0 rfl ?_
  refine g_iload K d_lw_law_750 4 rfl ?_
  refine g_iconst (v := 2) K d_lw_law_752 (by decide) ?_
  refine g_iadd K d_lw_law_753 ?_
  obtain ⟨v2, e_v2, hy⟩ := gBd hy
  refine g_sld K d_lw_law_754 e_v2 ?_
  obtain ⟨q3, e_q3, hy⟩ := gBd hy
  refine g_callVi (rest := []) K hx ly_c10_later kv_lw_99 d_lw_law_755 (ct_c10_later M.2.1 X hx N 10 v1 v2 h q3 e_q3) rfl rfl (Nat.le_of_ble_eq_true rfl) (gDep rfl) hf0 ?_
  refine g_aload_n K d_lw_law_758 2 rfl ?_
  refine g_aload_n K d_lw_law_759 0 rfl ?_
  refine g_iload K d_lw_law_760 4 rfl ?_
  refine g_iconst (v := 1) K d_lw_law_762 (by decide) ?_
  refine g_iadd K d_lw_law_763 ?_
  obtain ⟨v4, e_v4, hy⟩ := gBd hy
  refine g_sld K d_lw_law_764 e_v4 ?_
  refine g_aload_n K d_lw_law_765 0 rfl ?_
  refine g_iload K d_lw_law_766 4 rfl ?_
  refine g_iconst (v := 2) K d_lw_law_768 (by decide) ?_
  refine g_iadd K d_lw_law_769 ?_
  obtain ⟨v5, e_v5, hy⟩ := gBd hy
  refine g_sld K d_lw_law_770 e_v5 ?_
  obtain ⟨q6, e_q6, hy⟩ := gBd hy
  refine g_callVi (rest := [.int q3.1]) K hx ly_c11_later kv_lw_102 d_lw_law_771 (ct_c11_later M.2.1 X hx N 144 v4 v5 q3.2 q6 e_q6) rfl rfl (Nat.le_of_ble_eq_true rfl) (gDep rfl) hf0 ?_
  refine g_icmp_eq K d_lw_law_774 (fun c7 => ?_) (fun c7 => ?_)
  · rw [if_pos c7] at hy
    obtain rfl := Option.some.inj hy
    exact g_wid hE hx
  · rw [if_neg c7] at hy
    refine g_iconst (v := 0) K d_lw_law_777 (by decide) ?_
    cases hy
def c_law_17 (N : Nat) (x4 : Int32) (h : gH) : Option gH :=
  (gas h (x4 + (1 : Int32))).bind fun v1 =>
    (f_c10_parched N 10 v1 h).bind fun q2 =>
    (gas q2.2 (x4 + (1 : Int32))).bind fun v3 =>
    (f_c11_parched N 144 v3 q2.2).bind fun q4 =>
    if q2.1 = q4.1 then
    some q4.2
  else
    none
set_option maxHeartbeats 4000000 in
set_option maxRecDepth 100000 in
theorem wc_law_17 {M : gM} {X : gX} {N : Nat} (hfl : M.2.1.stackTraces = false) (hx : gEx X = false) (hN : 6 ≤ N) (K : gC M X "FullStopWellsLaw" b_lw_law 8 (gRm (100 + N) 601024 7293034)) (cs sl : Nat) (hf : cs + 1 ≤ 601024 ∧ sl + 6 ≤ 7293034) (x4 : Int32) (h h0 : gH) (hy : c_law_17 N x4 h = some h0) (hE : gG M X 8 (cs + 1) (sl + 6) 1620 [(0, .ref 0), (1, .ref 10), (2, .ref 144), (3, .ref 170), (4, .int x4)] [] h0) : gG M X 8 cs sl 779 [(0, .ref 0), (1, .ref 10), (2, .ref 144), (3, .ref 170), (4, .int x4)] [] h := by
  have hf0 : cs ≤ 601024 ∧ sl ≤ 7293034 := by omega
  unfold c_law_17 at hy
  refine g_aload_n K d_lw_law_779 1 rfl ?_
  refine g_aload_n K d_lw_law_780 0 rfl ?_
  refine g_iload K d_lw_law_781 4 rfl ?_
  refine g_iconst (v := 1) K d_lw_law_783 (by decide) ?_
  refine g_iadd K d_lw_law_784 ?_
  obtain ⟨v1, e_v1, hy⟩ := gBd hy
  refine g_sld K d_lw_law_785 e_v1 ?_
  obtain ⟨q2, e_q2, hy⟩ := gBd hy
  refine g_callVi (rest := []) K hx ly_c10_parched kv_lw_103 d_lw_law_786 (ct_c10_parched M.2.1 X hx N 10 v1 h q2 e_q2) rfl rfl (Nat.le_of_ble_eq_true rfl) (gDep rfl) hf0 ?_
  refine g_aload_n K d_lw_law_789 2 rfl ?_
  refine g_aload_n K d_lw_law_790 0 rfl ?_
  refine g_iload K d_lw_law_791 4 rfl ?_
  refine g_iconst (v := 1) K d_lw_law_793 (by decide) ?_
  refine g_iadd K d_lw_law_794 ?_
  obtain ⟨v3, e_v3, hy⟩ := gBd hy
  refine g_sld K d_lw_law_795 e_v3 ?_
  obtain ⟨q4, e_q4, hy⟩ := gBd hy
  refine g_callVi (rest := [.int q2.1]) K hx ly_c11_parched kv_lw_106 d_lw_law_796 (ct_c11_parched M.2.1 X hx N 144 v3 q2.2 q4 e_q4) rfl rfl (Nat.le_of_ble_eq_true rfl) (gDep rfl) hf0 ?_
  refine g_icmp_eq K d_lw_law_799 (fun c5 => ?_) (fun c5 => ?_)
  · rw [if_pos c5] at hy
    obtain rfl := Option.some.inj hy
    exact g_wid hE hx
  · rw [if_neg c5] at hy
    refine g_iconst (v := 0) K d_lw_law_802 (by decide) ?_
    cases hy
def c_law_18 (N : Nat) (x4 : Int32) (h : gH) : Option gH :=
  (gas h (x4 + (1 : Int32))).bind fun v1 =>
    (gas h (x4 + (2 : Int32))).bind fun v2 =>
    (f_c10_drinks N 10 v1 v2 h).bind fun q3 =>
    (gas q3.2 (x4 + (1 : Int32))).bind fun v4 =>
    (gas q3.2 (x4 + (2 : Int32))).bind fun v5 =>
    (f_c11_drinks N 144 v4 v5 q3.2).bind fun q6 =>
    if q3.1 = q6.1 then
    some q6.2
  else
    none
set_option maxHeartbeats 4000000 in
set_option maxRecDepth 100000 in
theorem wc_law_18 {M : gM} {X : gX} {N : Nat} (hfl : M.2.1.stackTraces = false) (hx : gEx X = false) (hN : 6 ≤ N) (K : gC M X "FullStopWellsLaw" b_lw_law 8 (gRm (100 + N) 601024 7293034)) (cs sl : Nat) (hf : cs + 1 ≤ 601024 ∧ sl + 6 ≤ 7293034) (x4 : Int32) (h h0 : gH) (hy : c_law_18 N x4 h = some h0) (hE : gG M X 8 (cs + 1) (sl + 6) 1620 [(0, .ref 0), (1, .ref 10), (2, .ref 144), (3, .ref 170), (4, .int x4)] [] h0) : gG M X 8 cs sl 804 [(0, .ref 0), (1, .ref 10), (2, .ref 144), (3, .ref 170), (4, .int x4)] [] h := by
  have hf0 : cs ≤ 601024 ∧ sl ≤ 7293034 := by omega
  unfold c_law_18 at hy
  refine g_aload_n K d_lw_law_804 1 rfl ?_
  refine g_aload_n K d_lw_law_805 0 rfl ?_
  refine g_iload K d_lw_law_806 4 rfl ?_
  refine g_iconst (v := 1) K d_lw_law_808 (by decide) ?_
  refine g_iadd K d_lw_law_809 ?_
  obtain ⟨v1, e_v1, hy⟩ := gBd hy
  refine g_sld K d_lw_law_810 e_v1 ?_
  refine g_aload_n K d_lw_law_811 0 rfl ?_
  refine g_iload K d_lw_law_812 4 rfl ?_
  refine g_iconst (v := 2) K d_lw_law_814 (by decide) ?_
  refine g_iadd K d_lw_law_815 ?_
  obtain ⟨v2, e_v2, hy⟩ := gBd hy
  refine g_sld K d_lw_law_816 e_v2 ?_
  obtain ⟨q3, e_q3, hy⟩ := gBd hy
  refine g_callVi (rest := []) K hx ly_c10_drinks kv_lw_107 d_lw_law_817 (ct_c10_drinks M.2.1 X hx N 10 v1 v2 h q3 e_q3) rfl rfl (Nat.le_of_ble_eq_true rfl) (gDep rfl) hf0 ?_
  refine g_aload_n K d_lw_law_820 2 rfl ?_
  refine g_aload_n K d_lw_law_821 0 rfl ?_
  refine g_iload K d_lw_law_822 4 rfl ?_
  refine g_iconst (v := 1) K d_lw_law_824 (by decide) ?_
  refine g_iadd K d_lw_law_825 ?_
  obtain ⟨v4, e_v4, hy⟩ := gBd hy
  refine g_sld K d_lw_law_826 e_v4 ?_
  refine g_aload_n K d_lw_law_827 0 rfl ?_
  refine g_iload K d_lw_law_828 4 rfl ?_
  refine g_iconst (v := 2) K d_lw_law_830 (by decide) ?_
  refine g_iadd K d_lw_law_831 ?_
  obtain ⟨v5, e_v5, hy⟩ := gBd hy
  refine g_sld K d_lw_law_832 e_v5 ?_
  obtain ⟨q6, e_q6, hy⟩ := gBd hy
  refine g_callVi (rest := [.int q3.1]) K hx ly_c11_drinks kv_lw_110 d_lw_law_833 (ct_c11_drinks M.2.1 X hx N 144 v4 v5 q3.2 q6 e_q6) rfl rfl (Nat.le_of_ble_eq_true rfl) (gDep rfl) hf0 ?_
  refine g_icmp_eq K d_lw_law_836 (fun c7 => ?_) (fun c7 => ?_)
  · rw [if_pos c7] at hy
    obtain rfl := Option.some.inj hy
    exact g_wid hE hx
  · rw [if_neg c7] at hy
    refine g_iconst (v := 0) K d_lw_law_839 (by decide) ?_
    cases hy
def c_law_19 (N : Nat) (x4 : Int32) (h : gH) : Option gH :=
  (gas h (x4 + (1 : Int32))).bind fun v1 =>
    (gas h (x4 + (2 : Int32))).bind fun v2 =>
    (f_c10_rises N 10 v1 v2 h).bind fun q3 =>
    (gas q3.2 (x4 + (1 : Int32))).bind fun v4 =>
    (gas q3.2 (x4 + (2 : Int32))).bind fun v5 =>
    (f_c11_rises N 144 v4 v5 q3.2).bind fun q6 =>
    if q3.1 = q6.1 then
    some q6.2
  else
    none
set_option maxHeartbeats 4000000 in
set_option maxRecDepth 100000 in
theorem wc_law_19 {M : gM} {X : gX} {N : Nat} (hfl : M.2.1.stackTraces = false) (hx : gEx X = false) (hN : 6 ≤ N) (K : gC M X "FullStopWellsLaw" b_lw_law 8 (gRm (100 + N) 601024 7293034)) (cs sl : Nat) (hf : cs + 1 ≤ 601024 ∧ sl + 6 ≤ 7293034) (x4 : Int32) (h h0 : gH) (hy : c_law_19 N x4 h = some h0) (hE : gG M X 8 (cs + 1) (sl + 6) 1620 [(0, .ref 0), (1, .ref 10), (2, .ref 144), (3, .ref 170), (4, .int x4)] [] h0) : gG M X 8 cs sl 841 [(0, .ref 0), (1, .ref 10), (2, .ref 144), (3, .ref 170), (4, .int x4)] [] h := by
  have hf0 : cs ≤ 601024 ∧ sl ≤ 7293034 := by omega
  unfold c_law_19 at hy
  refine g_aload_n K d_lw_law_841 1 rfl ?_
  refine g_aload_n K d_lw_law_842 0 rfl ?_
  refine g_iload K d_lw_law_843 4 rfl ?_
  refine g_iconst (v := 1) K d_lw_law_845 (by decide) ?_
  refine g_iadd K d_lw_law_846 ?_
  obtain ⟨v1, e_v1, hy⟩ := gBd hy
  refine g_sld K d_lw_law_847 e_v1 ?_
  refine g_aload_n K d_lw_law_848 0 rfl ?_
  refine g_iload K d_lw_law_849 4 rfl ?_
  refine g_iconst (v := 2) K d_lw_law_851 (by decide) ?_
  refine g_iadd K d_lw_law_852 ?_
  obtain ⟨v2, e_v2, hy⟩ := gBd hy
  refine g_sld K d_lw_law_853 e_v2 ?_
  obtain ⟨q3, e_q3, hy⟩ := gBd hy
  refine g_callVi (rest := []) K hx ly_c10_rises kv_lw_111 d_lw_law_854 (ct_c10_rises M.2.1 X hx N 10 v1 v2 h q3 e_q3) rfl rfl (Nat.le_of_ble_eq_true rfl) (gDep rfl) hf0 ?_
  refine g_aload_n K d_lw_law_857 2 rfl ?_
  refine g_aload_n K d_lw_law_858 0 rfl ?_
  refine g_iload K d_lw_law_859 4 rfl ?_
  refine g_iconst (v := 1) K d_lw_law_861 (by decide) ?_
  refine g_iadd K d_lw_law_862 ?_
  obtain ⟨v4, e_v4, hy⟩ := gBd hy
  refine g_sld K d_lw_law_863 e_v4 ?_
  refine g_aload_n K d_lw_law_864 0 rfl ?_
  refine g_iload K d_lw_law_865 4 rfl ?_
  refine g_iconst (v := 2) K d_lw_law_867 (by decide) ?_
  refine g_iadd K d_lw_law_868 ?_
  obtain ⟨v5, e_v5, hy⟩ := gBd hy
  refine g_sld K d_lw_law_869 e_v5 ?_
  obtain ⟨q6, e_q6, hy⟩ := gBd hy
  refine g_callVi (rest := [.int q3.1]) K hx ly_c11_rises kv_lw_114 d_lw_law_870 (ct_c11_rises M.2.1 X hx N 144 v4 v5 q3.2 q6 e_q6) rfl rfl (Nat.le_of_ble_eq_true rfl) (gDep rfl) hf0 ?_
  refine g_icmp_eq K d_lw_law_873 (fun c7 => ?_) (fun c7 => ?_)
  · rw [if_pos c7] at hy
    obtain rfl := Option.some.inj hy
    exact g_wid hE hx
  · rw [if_neg c7] at hy
    refine g_iconst (v := 0) K d_lw_law_876 (by decide) ?_
    cases hy
def c_law_20 (N : Nat) (x4 : Int32) (h : gH) : Option gH :=
  (gas h (x4 + (1 : Int32))).bind fun v1 =>
    (f_c10_richest N 10 v1 h).bind fun q2 =>
    (gas q2.2 (x4 + (1 : Int32))).bind fun v3 =>
    (f_c11_richest N 144 v3 q2.2).bind fun q4 =>
    if q2.1 = q4.1 then
    some q4.2
  else
    none
set_option maxHeartbeats 4000000 in
set_option maxRecDepth 100000 in
theorem wc_law_20 {M : gM} {X : gX} {N : Nat} (hfl : M.2.1.stackTraces = false) (hx : gEx X = false) (hN : 6 ≤ N) (K : gC M X "FullStopWellsLaw" b_lw_law 8 (gRm (100 + N) 601024 7293034)) (cs sl : Nat) (hf : cs + 1 ≤ 601024 ∧ sl + 6 ≤ 7293034) (x4 : Int32) (h h0 : gH) (hy : c_law_20 N x4 h = some h0) (hE : gG M X 8 (cs + 1) (sl + 6) 1620 [(0, .ref 0), (1, .ref 10), (2, .ref 144), (3, .ref 170), (4, .int x4)] [] h0) : gG M X 8 cs sl 878 [(0, .ref 0), (1, .ref 10), (2, .ref 144), (3, .ref 170), (4, .int x4)] [] h := by
  have hf0 : cs ≤ 601024 ∧ sl ≤ 7293034 := by omega
  unfold c_law_20 at hy
  refine g_aload_n K d_lw_law_878 1 rfl ?_
  refine g_aload_n K d_lw_law_879 0 rfl ?_
  refine g_iload K d_lw_law_880 4 rfl ?_
  refine g_iconst (v := 1) K d_lw_law_882 (by decide) ?_
  refine g_iadd K d_lw_law_883 ?_
  obtain ⟨v1, e_v1, hy⟩ := gBd hy
  refine g_sld K d_lw_law_884 e_v1 ?_
  obtain ⟨q2, e_q2, hy⟩ := gBd hy
  refine g_callVi (rest := []) K hx ly_c10_richest kv_lw_115 d_lw_law_885 (ct_c10_richest M.2.1 X hx N 10 v1 h q2 e_q2) rfl rfl (Nat.le_of_ble_eq_true rfl) (gDep rfl) hf0 ?_
  refine g_aload_n K d_lw_law_888 2 rfl ?_
  refine g_aload_n K d_lw_law_889 0 rfl ?_
  refine g_iload K d_lw_law_890 4 rfl ?_
  refine g_iconst (v := 1) K d_lw_law_892 (by decide) ?_
  refine g_iadd K d_lw_law_893 ?_
  obtain ⟨v3, e_v3, hy⟩ := gBd hy
  refine g_sld K d_lw_law_894 e_v3 ?_
  obtain ⟨q4, e_q4, hy⟩ := gBd hy
  refine g_callVi (rest := [.int q2.1]) K hx ly_c11_richest kv_lw_118 d_lw_law_895 (ct_c11_richest M.2.1 X hx N 144 v3 q2.2 q4 e_q4) rfl rfl (Nat.le_of_ble_eq_true rfl) (gDep rfl) hf0 ?_
  refine g_icmp_eq K d_lw_law_898 (fun c5 => ?_) (fun c5 => ?_)
  · rw [if_pos c5] at hy
    obtain rfl := Option.some.inj hy
    exact g_wid hE hx
  · rw [if_neg c5] at hy
    refine g_iconst (v := 0) K d_lw_law_901 (by decide) ?_
    cases hy
def c_law_21 (N : Nat) (x4 : Int32) (h : gH) : Option gH :=
  (f_c10_balance N 10 h).bind fun q1 =>
    (f_c11_balance N 144 q1.2).bind fun q2 =>
    if q1.1 = q2.1 then
    some q2.2
  else
    none
set_option maxHeartbeats 4000000 in
set_option maxRecDepth 100000 in
theorem wc_law_21 {M : gM} {X : gX} {N : Nat} (hfl : M.2.1.stackTraces = false) (hx : gEx X = false) (hN : 6 ≤ N) (K : gC M X "FullStopWellsLaw" b_lw_law 8 (gRm (100 + N) 601024 7293034)) (cs sl : Nat) (hf : cs + 1 ≤ 601024 ∧ sl + 6 ≤ 7293034) (x4 : Int32) (h h0 : gH) (hy : c_law_21 N x4 h = some h0) (hE : gG M X 8 (cs + 1) (sl + 6) 1620 [(0, .ref 0), (1, .ref 10), (2, .ref 144), (3, .ref 170), (4, .int x4)] [] h0) : gG M X 8 cs sl 903 [(0, .ref 0), (1, .ref 10), (2, .ref 144), (3, .ref 170), (4, .int x4)] [] h := by
  have hf0 : cs ≤ 601024 ∧ sl ≤ 7293034 := by omega
  unfold c_law_21 at hy
  refine g_aload_n K d_lw_law_903 1 rfl ?_
  obtain ⟨q1, e_q1, hy⟩ := gBd hy
  refine g_callVi (rest := []) K hx ly_c10_balance kv_lw_119 d_lw_law_904 (ct_c10_balance M.2.1 X hx N 10 h q1 e_q1) rfl rfl (Nat.le_of_ble_eq_true rfl) (gDep rfl) hf0 ?_
  refine g_aload_n K d_lw_law_907 2 rfl ?_
  obtain ⟨q2, e_q2, hy⟩ := gBd hy
  refine g_callVi (rest := [.int q1.1]) K hx ly_c11_balance kv_lw_122 d_lw_law_908 (ct_c11_balance M.2.1 X hx N 144 q1.2 q2 e_q2) rfl rfl (Nat.le_of_ble_eq_true rfl) (gDep rfl) hf0 ?_
  refine g_icmp_eq K d_lw_law_911 (fun c3 => ?_) (fun c3 => ?_)
  · rw [if_pos c3] at hy
    obtain rfl := Option.some.inj hy
    exact g_wid hE hx
  · rw [if_neg c3] at hy
    refine g_iconst (v := 0) K d_lw_law_914 (by decide) ?_
    cases hy
def c_law_22 (N : Nat) (x4 : Int32) (h : gH) : Option gH :=
  (gas h (x4 + (1 : Int32))).bind fun v1 =>
    (f_c10_covers N 10 v1 h).bind fun q2 =>
    (gas q2.2 (x4 + (1 : Int32))).bind fun v3 =>
    (f_c11_covers N 144 v3 q2.2).bind fun q4 =>
    if q2.1 = q4.1 then
    some q4.2
  else
    none
set_option maxHeartbeats 4000000 in
set_option maxRecDepth 100000 in
theorem wc_law_22 {M : gM} {X : gX} {N : Nat} (hfl : M.2.1.stackTraces = false) (hx : gEx X = false) (hN : 6 ≤ N) (K : gC M X "FullStopWellsLaw" b_lw_law 8 (gRm (100 + N) 601024 7293034)) (cs sl : Nat) (hf : cs + 1 ≤ 601024 ∧ sl + 6 ≤ 7293034) (x4 : Int32) (h h0 : gH) (hy : c_law_22 N x4 h = some h0) (hE : gG M X 8 (cs + 1) (sl + 6) 1620 [(0, .ref 0), (1, .ref 10), (2, .ref 144), (3, .ref 170), (4, .int x4)] [] h0) : gG M X 8 cs sl 916 [(0, .ref 0), (1, .ref 10), (2, .ref 144), (3, .ref 170), (4, .int x4)] [] h := by
  have hf0 : cs ≤ 601024 ∧ sl ≤ 7293034 := by omega
  unfold c_law_22 at hy
  refine g_aload_n K d_lw_law_916 1 rfl ?_
  refine g_aload_n K d_lw_law_917 0 rfl ?_
  refine g_iload K d_lw_law_918 4 rfl ?_
  refine g_iconst (v := 1) K d_lw_law_920 (by decide) ?_
  refine g_iadd K d_lw_law_921 ?_
  obtain ⟨v1, e_v1, hy⟩ := gBd hy
  refine g_sld K d_lw_law_922 e_v1 ?_
  obtain ⟨q2, e_q2, hy⟩ := gBd hy
  refine g_callVi (rest := []) K hx ly_c10_covers kv_lw_123 d_lw_law_923 (ct_c10_covers M.2.1 X hx N 10 v1 h q2 e_q2) rfl rfl (Nat.le_of_ble_eq_true rfl) (gDep rfl) hf0 ?_
  refine g_aload_n K d_lw_law_926 2 rfl ?_
  refine g_aload_n K d_lw_law_927 0 rfl ?_
  refine g_iload K d_lw_law_928 4 rfl ?_
  refine g_iconst (v := 1) K d_lw_law_930 (by decide) ?_
  refine g_iadd K d_lw_law_931 ?_
  obtain ⟨v3, e_v3, hy⟩ := gBd hy
  refine g_sld K d_lw_law_932 e_v3 ?_
  obtain ⟨q4, e_q4, hy⟩ := gBd hy
  refine g_callVi (rest := [.int q2.1]) K hx ly_c11_covers kv_lw_126 d_lw_law_933 (ct_c11_covers M.2.1 X hx N 144 v3 q2.2 q4 e_q4) rfl rfl (Nat.le_of_ble_eq_true rfl) (gDep rfl) hf0 ?_
  refine g_icmp_eq K d_lw_law_936 (fun c5 => ?_) (fun c5 => ?_)
  · rw [if_pos c5] at hy
    obtain rfl := Option.some.inj hy
    exact g_wid hE hx
  · rw [if_neg c5] at hy
    refine g_iconst (v := 0) K d_lw_law_939 (by decide) ?_
    cases hy
def c_law_23 (N : Nat) (x4 : Int32) (h : gH) : Option gH :=
  (gas h (x4 + (1 : Int32))).bind fun v1 =>
    (gas h (x4 + (2 : Int32))).bind fun v2 =>
    (f_c10_best N 10 v1 v2 h).bind fun q3 =>
    (gas q3.2 (x4 + (1 : Int32))).bind fun v4 =>
    (gas q3.2 (x4 + (2 : Int32))).bind fun v5 =>
    (f_c11_best N 144 v4 v5 q3.2).bind fun q6 =>
    if q3.1 = q6.1 then
    some q6.2
  else
    none
set_option maxHeartbeats 4000000 in
set_option maxRecDepth 100000 in
theorem wc_law_23 {M : gM} {X : gX} {N : Nat} (hfl : M.2.1.stackTraces = false) (hx : gEx X = false) (hN : 6 ≤ N) (K : gC M X "FullStopWellsLaw" b_lw_law 8 (gRm (100 + N) 601024 7293034)) (cs sl : Nat) (hf : cs + 1 ≤ 601024 ∧ sl + 6 ≤ 7293034) (x4 : Int32) (h h0 : gH) (hy : c_law_23 N x4 h = some h0) (hE : gG M X 8 (cs + 1) (sl + 6) 1620 [(0, .ref 0), (1, .ref 10), (2, .ref 144), (3, .ref 170), (4, .int x4)] [] h0) : gG M X 8 cs sl 941 [(0, .ref 0), (1, .ref 10), (2, .ref 144), (3, .ref 170), (4, .int x4)] [] h := by
  have hf0 : cs ≤ 601024 ∧ sl ≤ 7293034 := by omega
  unfold c_law_23 at hy
  refine g_aload_n K d_lw_law_941 1 rfl ?_
  refine g_aload_n K d_lw_law_942 0 rfl ?_
  refine g_iload K d_lw_law_943 4 rfl ?_
  refine g_iconst (v := 1) K d_lw_law_945 (by decide) ?_
  refine g_iadd K d_lw_law_946 ?_
  obtain ⟨v1, e_v1, hy⟩ := gBd hy
  refine g_sld K d_lw_law_947 e_v1 ?_
  refine g_aload_n K d_lw_law_948 0 rfl ?_
  refine g_iload K d_lw_law_949 4 rfl ?_
  refine g_iconst (v := 2) K d_lw_law_951 (by decide) ?_
  refine g_iadd K d_lw_law_952 ?_
  obtain ⟨v2, e_v2, hy⟩ := gBd hy
  refine g_sld K d_lw_law_953 e_v2 ?_
  obtain ⟨q3, e_q3, hy⟩ := gBd hy
  refine g_callVi (rest := []) K hx ly_c10_best kv_lw_127 d_lw_law_954 (ct_c10_best M.2.1 X hx N 10 v1 v2 h q3 e_q3) rfl rfl (Nat.le_of_ble_eq_true rfl) (gDep rfl) hf0 ?_
  refine g_aload_n K d_lw_law_957 2 rfl ?_
  refine g_aload_n K d_lw_law_958 0 rfl ?_
  refine g_iload K d_lw_law_959 4 rfl ?_
  refine g_iconst (v := 1) K d_lw_law_961 (by decide) ?_
  refine g_iadd K d_lw_law_962 ?_
  obtain ⟨v4, e_v4, hy⟩ := gBd hy
  refine g_sld K d_lw_law_963 e_v4 ?_
  refine g_aload_n K d_lw_law_964 0 rfl ?_
  refine g_iload K d_lw_law_965 4 rfl ?_
  refine g_iconst (v := 2) K d_lw_law_967 (by decide) ?_
  refine g_iadd K d_lw_law_968 ?_
  obtain ⟨v5, e_v5, hy⟩ := gBd hy
  refine g_sld K d_lw_law_969 e_v5 ?_
  obtain ⟨q6, e_q6, hy⟩ := gBd hy
  refine g_callVi (rest := [.int q3.1]) K hx ly_c11_best kv_lw_130 d_lw_law_970 (ct_c11_best M.2.1 X hx N 144 v4 v5 q3.2 q6 e_q6) rfl rfl (Nat.le_of_ble_eq_true rfl) (gDep rfl) hf0 ?_
  refine g_icmp_eq K d_lw_law_973 (fun c7 => ?_) (fun c7 => ?_)
  · rw [if_pos c7] at hy
    obtain rfl := Option.some.inj hy
    exact g_wid hE hx
  · rw [if_neg c7] at hy
    refine g_iconst (v := 0) K d_lw_law_976 (by decide) ?_
    cases hy
def c_law_24 (N : Nat) (x4 : Int32) (h : gH) : Option gH :=
  (gas h (x4 + (1 : Int32))).bind fun v1 =>
    (gas h (x4 + (2 : Int32))).bind fun v2 =>
    (gas h (x4 + (3 : Int32))).bind fun v3 =>
    (f_c10_longest N 10 v1 v2 v3 h).bind fun q4 =>
    (gas q4.2 (x4 + (1 : Int32))).bind fun v5 =>
    (gas q4.2 (x4 + (2 : Int32))).bind fun v6 =>
    (gas q4.2 (x4 + (3 : Int32))).bind fun v7 =>
    (f_c11_longest N 144 v5 v6 v7 q4.2).bind fun q8 =>
    if q4.1 = q8.1 then
    some q8.2
  else
    none
set_option maxHeartbeats 4000000 in
set_option maxRecDepth 100000 in
theorem wc_law_24 {M : gM} {X : gX} {N : Nat} (hfl : M.2.1.stackTraces = false) (hx : gEx X = false) (hN : 6 ≤ N) (K : gC M X "FullStopWellsLaw" b_lw_law 8 (gRm (100 + N) 601024 7293034)) (cs sl : Nat) (hf : cs + 1 ≤ 601024 ∧ sl + 6 ≤ 7293034) (x4 : Int32) (h h0 : gH) (hy : c_law_24 N x4 h = some h0) (hE : gG M X 8 (cs + 1) (sl + 6) 1620 [(0, .ref 0), (1, .ref 10), (2, .ref 144), (3, .ref 170), (4, .int x4)] [] h0) : gG M X 8 cs sl 978 [(0, .ref 0), (1, .ref 10), (2, .ref 144), (3, .ref 170), (4, .int x4)] [] h := by
  have hf0 : cs ≤ 601024 ∧ sl ≤ 7293034 := by omega
  unfold c_law_24 at hy
  refine g_aload_n K d_lw_law_978 1 rfl ?_
  refine g_aload_n K d_lw_law_979 0 rfl ?_
  refine g_iload K d_lw_law_980 4 rfl ?_
  refine g_iconst (v := 1) K d_lw_law_982 (by decide) ?_
  refine g_iadd K d_lw_law_983 ?_
  obtain ⟨v1, e_v1, hy⟩ := gBd hy
  refine g_sld K d_lw_law_984 e_v1 ?_
  refine g_aload_n K d_lw_law_985 0 rfl ?_
  refine g_iload K d_lw_law_986 4 rfl ?_
  refine g_iconst (v := 2) K d_lw_law_988 (by decide) ?_
  refine g_iadd K d_lw_law_989 ?_
  obtain ⟨v2, e_v2, hy⟩ := gBd hy
  refine g_sld K d_lw_law_990 e_v2 ?_
  refine g_aload_n K d_lw_law_991 0 rfl ?_
  refine g_iload K d_lw_law_992 4 rfl ?_
  refine g_iconst (v := 3) K d_lw_law_994 (by decide) ?_
  refine g_iadd K d_lw_law_995 ?_
  obtain ⟨v3, e_v3, hy⟩ := gBd hy
  refine g_sld K d_lw_law_996 e_v3 ?_
  obtain ⟨q4, e_q4, hy⟩ := gBd hy
  refine g_callVi (rest := []) K hx ly_c10_longest kv_lw_131 d_lw_law_997 (ct_c10_longest M.2.1 X hx N 10 v1 v2 v3 h q4 e_q4) rfl rfl (Nat.le_of_ble_eq_true rfl) (gDep rfl) hf0 ?_
  refine g_aload_n K d_lw_law_1000 2 rfl ?_
  refine g_aload_n K d_lw_law_1001 0 rfl ?_
  refine g_iload K d_lw_law_1002 4 rfl ?_
  refine g_iconst (v := 1) K d_lw_law_1004 (by decide) ?_
  refine g_iadd K d_lw_law_1005 ?_
  obtain ⟨v5, e_v5, hy⟩ := gBd hy
  refine g_sld K d_lw_law_1006 e_v5 ?_
  refine g_aload_n K d_lw_law_1007 0 rfl ?_
  refine g_iload K d_lw_law_1008 4 rfl ?_
  refine g_iconst (v := 2) K d_lw_law_1010 (by decide) ?_
  refine g_iadd K d_lw_law_1011 ?_
  obtain ⟨v6, e_v6, hy⟩ := gBd hy
  refine g_sld K d_lw_law_1012 e_v6 ?_
  refine g_aload_n K d_lw_law_1013 0 rfl ?_
  refine g_iload K d_lw_law_1014 4 rfl ?_
  refine g_iconst (v := 3) K d_lw_law_1016 (by decide) ?_
  refine g_iadd K d_lw_law_1017 ?_
  obtain ⟨v7, e_v7, hy⟩ := gBd hy
  refine g_sld K d_lw_law_1018 e_v7 ?_
  obtain ⟨q8, e_q8, hy⟩ := gBd hy
  refine g_callVi (rest := [.int q4.1]) K hx ly_c11_longest kv_lw_134 d_lw_law_1019 (ct_c11_longest M.2.1 X hx N 144 v5 v6 v7 q4.2 q8 e_q8) rfl rfl (Nat.le_of_ble_eq_true rfl) (gDep rfl) hf0 ?_
  refine g_icmp_eq K d_lw_law_1022 (fun c9 => ?_) (fun c9 => ?_)
  · rw [if_pos c9] at hy
    obtain rfl := Option.some.inj hy
    exact g_wid hE hx
  · rw [if_neg c9] at hy
    refine g_iconst (v := 0) K d_lw_law_1025 (by decide) ?_
    cases hy
def c_law_25 (N : Nat) (x4 : Int32) (h : gH) : Option gH :=
  (gas h (x4 + (1 : Int32))).bind fun v1 =>
    (f_c10_dearest N 10 v1 h).bind fun q2 =>
    (gas q2.2 (x4 + (1 : Int32))).bind fun v3 =>
    (f_c11_dearest N 144 v3 q2.2).bind fun q4 =>
    if q2.1 = q4.1 then
    some q4.2
  else
    none
set_option maxHeartbeats 4000000 in
set_option maxRecDepth 100000 in
theorem wc_law_25 {M : gM} {X : gX} {N : Nat} (hfl : M.2.1.stackTraces = false) (hx : gEx X = false) (hN : 6 ≤ N) (K : gC M X "FullStopWellsLaw" b_lw_law 8 (gRm (100 + N) 601024 7293034)) (cs sl : Nat) (hf : cs + 1 ≤ 601024 ∧ sl + 6 ≤ 7293034) (x4 : Int32) (h h0 : gH) (hy : c_law_25 N x4 h = some h0) (hE : gG M X 8 (cs + 1) (sl + 6) 1620 [(0, .ref 0), (1, .ref 10), (2, .ref 144), (3, .ref 170), (4, .int x4)] [] h0) : gG M X 8 cs sl 1027 [(0, .ref 0), (1, .ref 10), (2, .ref 144), (3, .ref 170), (4, .int x4)] [] h := by
  have hf0 : cs ≤ 601024 ∧ sl ≤ 7293034 := by omega
  unfold c_law_25 at hy
  refine g_aload_n K d_lw_law_1027 1 rfl ?_
  refine g_aload_n K d_lw_law_1028 0 rfl ?_
  refine g_iload K d_lw_law_1029 4 rfl ?_
  refine g_iconst (v := 1) K d_lw_law_1031 (by decide) ?_
  refine g_iadd K d_lw_law_1032 ?_
  obtain ⟨v1, e_v1, hy⟩ := gBd hy
  refine g_sld K d_lw_law_1033 e_v1 ?_
  obtain ⟨q2, e_q2, hy⟩ := gBd hy
  refine g_callVi (rest := []) K hx ly_c10_dearest kv_lw_135 d_lw_law_1034 (ct_c10_dearest M.2.1 X hx N 10 v1 h q2 e_q2) rfl rfl (Nat.le_of_ble_eq_true rfl) (gDep rfl) hf0 ?_
  refine g_aload_n K d_lw_law_1037 2 rfl ?_
  refine g_aload_n K d_lw_law_1038 0 rfl ?_
  refine g_iload K d_lw_law_1039 4 rfl ?_
  refine g_iconst (v := 1) K d_lw_law_1041 (by decide) ?_
  refine g_iadd K d_lw_law_1042 ?_
  obtain ⟨v3, e_v3, hy⟩ := gBd hy
  refine g_sld K d_lw_law_1043 e_v3 ?_
  obtain ⟨q4, e_q4, hy⟩ := gBd hy
  refine g_callVi (rest := [.int q2.1]) K hx ly_c11_dearest kv_lw_138 d_lw_law_1044 (ct_c11_dearest M.2.1 X hx N 144 v3 q2.2 q4 e_q4) rfl rfl (Nat.le_of_ble_eq_true rfl) (gDep rfl) hf0 ?_
  refine g_icmp_eq K d_lw_law_1047 (fun c5 => ?_) (fun c5 => ?_)
  · rw [if_pos c5] at hy
    obtain rfl := Option.some.inj hy
    exact g_wid hE hx
  · rw [if_neg c5] at hy
    refine g_iconst (v := 0) K d_lw_law_1050 (by decide) ?_
    cases hy
def c_law_26 (N : Nat) (x4 : Int32) (h : gH) : Option gH :=
  (gas h (x4 + (1 : Int32))).bind fun v1 =>
    (gas h (x4 + (2 : Int32))).bind fun v2 =>
    (f_c10_bears N 10 v1 v2 h).bind fun q3 =>
    (gas q3.2 (x4 + (1 : Int32))).bind fun v4 =>
    (gas q3.2 (x4 + (2 : Int32))).bind fun v5 =>
    (f_c11_bears N 144 v4 v5 q3.2).bind fun q6 =>
    if q3.1 = q6.1 then
    some q6.2
  else
    none
set_option maxHeartbeats 4000000 in
set_option maxRecDepth 100000 in
theorem wc_law_26 {M : gM} {X : gX} {N : Nat} (hfl : M.2.1.stackTraces = false) (hx : gEx X = false) (hN : 6 ≤ N) (K : gC M X "FullStopWellsLaw" b_lw_law 8 (gRm (100 + N) 601024 7293034)) (cs sl : Nat) (hf : cs + 1 ≤ 601024 ∧ sl + 6 ≤ 7293034) (x4 : Int32) (h h0 : gH) (hy : c_law_26 N x4 h = some h0) (hE : gG M X 8 (cs + 1) (sl + 6) 1620 [(0, .ref 0), (1, .ref 10), (2, .ref 144), (3, .ref 170), (4, .int x4)] [] h0) : gG M X 8 cs sl 1052 [(0, .ref 0), (1, .ref 10), (2, .ref 144), (3, .ref 170), (4, .int x4)] [] h := by
  have hf0 : cs ≤ 601024 ∧ sl ≤ 7293034 := by omega
  unfold c_law_26 at hy
  refine g_aload_n K d_lw_law_1052 1 rfl ?_
  refine g_aload_n K d_lw_law_1053 0 rfl ?_
  refine g_iload K d_lw_law_1054 4 rfl ?_
  refine g_iconst (v := 1) K d_lw_law_1056 (by decide) ?_
  refine g_iadd K d_lw_law_1057 ?_
  obtain ⟨v1, e_v1, hy⟩ := gBd hy
  refine g_sld K d_lw_law_1058 e_v1 ?_
  refine g_aload_n K d_lw_law_1059 0 rfl ?_
  refine g_iload K d_lw_law_1060 4 rfl ?_
  refine g_iconst (v := 2) K d_lw_law_1062 (by decide) ?_
  refine g_iadd K d_lw_law_1063 ?_
  obtain ⟨v2, e_v2, hy⟩ := gBd hy
  refine g_sld K d_lw_law_1064 e_v2 ?_
  obtain ⟨q3, e_q3, hy⟩ := gBd hy
  refine g_callVi (rest := []) K hx ly_c10_bears kv_lw_139 d_lw_law_1065 (ct_c10_bears M.2.1 X hx N 10 v1 v2 h q3 e_q3) rfl rfl (Nat.le_of_ble_eq_true rfl) (gDep rfl) hf0 ?_
  refine g_aload_n K d_lw_law_1068 2 rfl ?_
  refine g_aload_n K d_lw_law_1069 0 rfl ?_
  refine g_iload K d_lw_law_1070 4 rfl ?_
  refine g_iconst (v := 1) K d_lw_law_1072 (by decide) ?_
  refine g_iadd K d_lw_law_1073 ?_
  obtain ⟨v4, e_v4, hy⟩ := gBd hy
  refine g_sld K d_lw_law_1074 e_v4 ?_
  refine g_aload_n K d_lw_law_1075 0 rfl ?_
  refine g_iload K d_lw_law_1076 4 rfl ?_
  refine g_iconst (v := 2) K d_lw_law_1078 (by decide) ?_
  refine g_iadd K d_lw_law_1079 ?_
  obtain ⟨v5, e_v5, hy⟩ := gBd hy
  refine g_sld K d_lw_law_1080 e_v5 ?_
  obtain ⟨q6, e_q6, hy⟩ := gBd hy
  refine g_callVi (rest := [.int q3.1]) K hx ly_c11_bears kv_lw_142 d_lw_law_1081 (ct_c11_bears M.2.1 X hx N 144 v4 v5 q3.2 q6 e_q6) rfl rfl (Nat.le_of_ble_eq_true rfl) (gDep rfl) hf0 ?_
  refine g_icmp_eq K d_lw_law_1084 (fun c7 => ?_) (fun c7 => ?_)
  · rw [if_pos c7] at hy
    obtain rfl := Option.some.inj hy
    exact g_wid hE hx
  · rw [if_neg c7] at hy
    refine g_iconst (v := 0) K d_lw_law_1087 (by decide) ?_
    cases hy
def c_law_27 (N : Nat) (x4 : Int32) (h : gH) : Option gH :=
  (f_c10_twins N 10 h).bind fun q1 =>
    (f_c11_twins N 144 q1.2).bind fun q2 =>
    if q1.1 = q2.1 then
    some q2.2
  else
    none
set_option maxHeartbeats 4000000 in
set_option maxRecDepth 100000 in
theorem wc_law_27 {M : gM} {X : gX} {N : Nat} (hfl : M.2.1.stackTraces = false) (hx : gEx X = false) (hN : 6 ≤ N) (K : gC M X "FullStopWellsLaw" b_lw_law 8 (gRm (100 + N) 601024 7293034)) (cs sl : Nat) (hf : cs + 1 ≤ 601024 ∧ sl + 6 ≤ 7293034) (x4 : Int32) (h h0 : gH) (hy : c_law_27 N x4 h = some h0) (hE : gG M X 8 (cs + 1) (sl + 6) 1620 [(0, .ref 0), (1, .ref 10), (2, .ref 144), (3, .ref 170), (4, .int x4)] [] h0) : gG M X 8 cs sl 1089 [(0, .ref 0), (1, .ref 10), (2, .ref 144), (3, .ref 170), (4, .int x4)] [] h := by
  have hf0 : cs ≤ 601024 ∧ sl ≤ 7293034 := by omega
  unfold c_law_27 at hy
  refine g_aload_n K d_lw_law_1089 1 rfl ?_
  obtain ⟨q1, e_q1, hy⟩ := gBd hy
  refine g_callVi (rest := []) K hx ly_c10_twins kv_lw_143 d_lw_law_1090 (ct_c10_twins M.2.1 X hx N 10 h q1 e_q1) rfl rfl (Nat.le_of_ble_eq_true rfl) (gDep rfl) hf0 ?_
  refine g_aload_n K d_lw_law_1093 2 rfl ?_
  obtain ⟨q2, e_q2, hy⟩ := gBd hy
  refine g_callVi (rest := [.int q1.1]) K hx ly_c11_twins kv_lw_146 d_lw_law_1094 (ct_c11_twins M.2.1 X hx N 144 q1.2 q2 e_q2) rfl rfl (Nat.le_of_ble_eq_true rfl) (gDep rfl) hf0 ?_
  refine g_icmp_eq K d_lw_law_1097 (fun c3 => ?_) (fun c3 => ?_)
  · rw [if_pos c3] at hy
    obtain rfl := Option.some.inj hy
    exact g_wid hE hx
  · rw [if_neg c3] at hy
    refine g_iconst (v := 0) K d_lw_law_1100 (by decide) ?_
    cases hy
def c_law_28 (N : Nat) (x4 : Int32) (h : gH) : Option gH :=
  (gas h (x4 + (1 : Int32))).bind fun v1 =>
    (gas h (x4 + (2 : Int32))).bind fun v2 =>
    (gas h (x4 + (3 : Int32))).bind fun v3 =>
    (f_c10_route N 10 v1 v2 v3 h).bind fun q4 =>
    (gas q4.2 (x4 + (1 : Int32))).bind fun v5 =>
    (gas q4.2 (x4 + (2 : Int32))).bind fun v6 =>
    (gas q4.2 (x4 + (3 : Int32))).bind fun v7 =>
    (f_c11_route N 144 v5 v6 v7 q4.2).bind fun q8 =>
    if q4.1 = q8.1 then
    some q8.2
  else
    none
set_option maxHeartbeats 4000000 in
set_option maxRecDepth 100000 in
theorem wc_law_28 {M : gM} {X : gX} {N : Nat} (hfl : M.2.1.stackTraces = false) (hx : gEx X = false) (hN : 6 ≤ N) (K : gC M X "FullStopWellsLaw" b_lw_law 8 (gRm (100 + N) 601024 7293034)) (cs sl : Nat) (hf : cs + 1 ≤ 601024 ∧ sl + 6 ≤ 7293034) (x4 : Int32) (h h0 : gH) (hy : c_law_28 N x4 h = some h0) (hE : gG M X 8 (cs + 1) (sl + 6) 1620 [(0, .ref 0), (1, .ref 10), (2, .ref 144), (3, .ref 170), (4, .int x4)] [] h0) : gG M X 8 cs sl 1102 [(0, .ref 0), (1, .ref 10), (2, .ref 144), (3, .ref 170), (4, .int x4)] [] h := by
  have hf0 : cs ≤ 601024 ∧ sl ≤ 7293034 := by omega
  unfold c_law_28 at hy
  refine g_aload_n K d_lw_law_1102 1 rfl ?_
  refine g_aload_n K d_lw_law_1103 0 rfl ?_
  refine g_iload K d_lw_law_1104 4 rfl ?_
  refine g_iconst (v := 1) K d_lw_law_1106 (by decide) ?_
  refine g_iadd K d_lw_law_1107 ?_
  obtain ⟨v1, e_v1, hy⟩ := gBd hy
  refine g_sld K d_lw_law_1108 e_v1 ?_
  refine g_aload_n K d_lw_law_1109 0 rfl ?_
  refine g_iload K d_lw_law_1110 4 rfl ?_
  refine g_iconst (v := 2) K d_lw_law_1112 (by decide) ?_
  refine g_iadd K d_lw_law_1113 ?_
  obtain ⟨v2, e_v2, hy⟩ := gBd hy
  refine g_sld K d_lw_law_1114 e_v2 ?_
  refine g_aload_n K d_lw_law_1115 0 rfl ?_
  refine g_iload K d_lw_law_1116 4 rfl ?_
  refine g_iconst (v := 3) K d_lw_law_1118 (by decide) ?_
  refine g_iadd K d_lw_law_1119 ?_
  obtain ⟨v3, e_v3, hy⟩ := gBd hy
  refine g_sld K d_lw_law_1120 e_v3 ?_
  obtain ⟨q4, e_q4, hy⟩ := gBd hy
  refine g_callVi (rest := []) K hx ly_c10_route kv_lw_147 d_lw_law_1121 (ct_c10_route M.2.1 X hx N 10 v1 v2 v3 h q4 e_q4) rfl rfl (Nat.le_of_ble_eq_true rfl) (gDep rfl) hf0 ?_
  refine g_aload_n K d_lw_law_1124 2 rfl ?_
  refine g_aload_n K d_lw_law_1125 0 rfl ?_
  refine g_iload K d_lw_law_1126 4 rfl ?_
  refine g_iconst (v := 1) K d_lw_law_1128 (by decide) ?_
  refine g_iadd K d_lw_law_1129 ?_
  obtain ⟨v5, e_v5, hy⟩ := gBd hy
  refine g_sld K d_lw_law_1130 e_v5 ?_
  refine g_aload_n K d_lw_law_1131 0 rfl ?_
  refine g_iload K d_lw_law_1132 4 rfl ?_
  refine g_iconst (v := 2) K d_lw_law_1134 (by decide) ?_
  refine g_iadd K d_lw_law_1135 ?_
  obtain ⟨v6, e_v6, hy⟩ := gBd hy
  refine g_sld K d_lw_law_1136 e_v6 ?_
  refine g_aload_n K d_lw_law_1137 0 rfl ?_
  refine g_iload K d_lw_law_1138 4 rfl ?_
  refine g_iconst (v := 3) K d_lw_law_1140 (by decide) ?_
  refine g_iadd K d_lw_law_1141 ?_
  obtain ⟨v7, e_v7, hy⟩ := gBd hy
  refine g_sld K d_lw_law_1142 e_v7 ?_
  obtain ⟨q8, e_q8, hy⟩ := gBd hy
  refine g_callVi (rest := [.int q4.1]) K hx ly_c11_route kv_lw_150 d_lw_law_1143 (ct_c11_route M.2.1 X hx N 144 v5 v6 v7 q4.2 q8 e_q8) rfl rfl (Nat.le_of_ble_eq_true rfl) (gDep rfl) hf0 ?_
  refine g_icmp_eq K d_lw_law_1146 (fun c9 => ?_) (fun c9 => ?_)
  · rw [if_pos c9] at hy
    obtain rfl := Option.some.inj hy
    exact g_wid hE hx
  · rw [if_neg c9] at hy
    refine g_iconst (v := 0) K d_lw_law_1149 (by decide) ?_
    cases hy
def c_law_29 (N : Nat) (x4 : Int32) (h : gH) : Option gH :=
  (f_c10_reach N 10 h).bind fun q1 =>
    (f_c11_reach N 144 q1.2).bind fun q2 =>
    if q1.1 = q2.1 then
    some q2.2
  else
    none
set_option maxHeartbeats 4000000 in
set_option maxRecDepth 100000 in
theorem wc_law_29 {M : gM} {X : gX} {N : Nat} (hfl : M.2.1.stackTraces = false) (hx : gEx X = false) (hN : 6 ≤ N) (K : gC M X "FullStopWellsLaw" b_lw_law 8 (gRm (100 + N) 601024 7293034)) (cs sl : Nat) (hf : cs + 1 ≤ 601024 ∧ sl + 6 ≤ 7293034) (x4 : Int32) (h h0 : gH) (hy : c_law_29 N x4 h = some h0) (hE : gG M X 8 (cs + 1) (sl + 6) 1620 [(0, .ref 0), (1, .ref 10), (2, .ref 144), (3, .ref 170), (4, .int x4)] [] h0) : gG M X 8 cs sl 1151 [(0, .ref 0), (1, .ref 10), (2, .ref 144), (3, .ref 170), (4, .int x4)] [] h := by
  have hf0 : cs ≤ 601024 ∧ sl ≤ 7293034 := by omega
  unfold c_law_29 at hy
  refine g_aload_n K d_lw_law_1151 1 rfl ?_
  obtain ⟨q1, e_q1, hy⟩ := gBd hy
  refine g_callVi (rest := []) K hx ly_c10_reach kv_lw_151 d_lw_law_1152 (ct_c10_reach M.2.1 X hx N 10 h q1 e_q1) rfl rfl (Nat.le_of_ble_eq_true rfl) (gDep rfl) hf0 ?_
  refine g_aload_n K d_lw_law_1155 2 rfl ?_
  obtain ⟨q2, e_q2, hy⟩ := gBd hy
  refine g_callVi (rest := [.int q1.1]) K hx ly_c11_reach kv_lw_154 d_lw_law_1156 (ct_c11_reach M.2.1 X hx N 144 q1.2 q2 e_q2) rfl rfl (Nat.le_of_ble_eq_true rfl) (gDep rfl) hf0 ?_
  refine g_icmp_eq K d_lw_law_1159 (fun c3 => ?_) (fun c3 => ?_)
  · rw [if_pos c3] at hy
    obtain rfl := Option.some.inj hy
    exact g_wid hE hx
  · rw [if_neg c3] at hy
    refine g_iconst (v := 0) K d_lw_law_1162 (by decide) ?_
    cases hy
def c_law_30 (N : Nat) (x4 : Int32) (h : gH) : Option gH :=
  (f_c10_square N 10 h).bind fun q1 =>
    (f_c11_square N 144 q1.2).bind fun q2 =>
    if q1.1 = q2.1 then
    some q2.2
  else
    none
set_option maxHeartbeats 4000000 in
set_option maxRecDepth 100000 in
theorem wc_law_30 {M : gM} {X : gX} {N : Nat} (hfl : M.2.1.stackTraces = false) (hx : gEx X = false) (hN : 6 ≤ N) (K : gC M X "FullStopWellsLaw" b_lw_law 8 (gRm (100 + N) 601024 7293034)) (cs sl : Nat) (hf : cs + 1 ≤ 601024 ∧ sl + 6 ≤ 7293034) (x4 : Int32) (h h0 : gH) (hy : c_law_30 N x4 h = some h0) (hE : gG M X 8 (cs + 1) (sl + 6) 1620 [(0, .ref 0), (1, .ref 10), (2, .ref 144), (3, .ref 170), (4, .int x4)] [] h0) : gG M X 8 cs sl 1164 [(0, .ref 0), (1, .ref 10), (2, .ref 144), (3, .ref 170), (4, .int x4)] [] h := by
  have hf0 : cs ≤ 601024 ∧ sl ≤ 7293034 := by omega
  unfold c_law_30 at hy
  refine g_aload_n K d_lw_law_1164 1 rfl ?_
  obtain ⟨q1, e_q1, hy⟩ := gBd hy
  refine g_callVi (rest := []) K hx ly_c10_square kv_lw_155 d_lw_law_1165 (ct_c10_square M.2.1 X hx N 10 h q1 e_q1) rfl rfl (Nat.le_of_ble_eq_true rfl) (gDep rfl) hf0 ?_
  refine g_aload_n K d_lw_law_1168 2 rfl ?_
  obtain ⟨q2, e_q2, hy⟩ := gBd hy
  refine g_callVi (rest := [.int q1.1]) K hx ly_c11_square kv_lw_158 d_lw_law_1169 (ct_c11_square M.2.1 X hx N 144 q1.2 q2 e_q2) rfl rfl (Nat.le_of_ble_eq_true rfl) (gDep rfl) hf0 ?_
  refine g_icmp_eq K d_lw_law_1172 (fun c3 => ?_) (fun c3 => ?_)
  · rw [if_pos c3] at hy
    obtain rfl := Option.some.inj hy
    exact g_wid hE hx
  · rw [if_neg c3] at hy
    refine g_iconst (v := 0) K d_lw_law_1175 (by decide) ?_
    cases hy
def c_law_31 (N : Nat) (x4 : Int32) (h : gH) : Option gH :=
  (gas h (x4 + (1 : Int32))).bind fun v1 =>
    (f_c10_dry N 10 v1 h).bind fun q2 =>
    (gas q2.2 (x4 + (1 : Int32))).bind fun v3 =>
    (f_c11_dry N 144 v3 q2.2).bind fun q4 =>
    if (lg_cmp q2.1 q4.1) = 0 then
    some q4.2
  else
    none
set_option maxHeartbeats 4000000 in
set_option maxRecDepth 100000 in
theorem wc_law_31 {M : gM} {X : gX} {N : Nat} (hfl : M.2.1.stackTraces = false) (hx : gEx X = false) (hN : 6 ≤ N) (K : gC M X "FullStopWellsLaw" b_lw_law 8 (gRm (100 + N) 601024 7293034)) (cs sl : Nat) (hf : cs + 1 ≤ 601024 ∧ sl + 6 ≤ 7293034) (x4 : Int32) (h h0 : gH) (hy : c_law_31 N x4 h = some h0) (hE : gG M X 8 (cs + 1) (sl + 6) 1620 [(0, .ref 0), (1, .ref 10), (2, .ref 144), (3, .ref 170), (4, .int x4)] [] h0) : gG M X 8 cs sl 1177 [(0, .ref 0), (1, .ref 10), (2, .ref 144), (3, .ref 170), (4, .int x4)] [] h := by
  have hf0 : cs ≤ 601024 ∧ sl ≤ 7293034 := by omega
  unfold c_law_31 at hy
  refine g_aload_n K d_lw_law_1177 1 rfl ?_
  refine g_aload_n K d_lw_law_1178 0 rfl ?_
  refine g_iload K d_lw_law_1179 4 rfl ?_
  refine g_iconst (v := 1) K d_lw_law_1181 (by decide) ?_
  refine g_iadd K d_lw_law_1182 ?_
  obtain ⟨v1, e_v1, hy⟩ := gBd hy
  refine g_sld K d_lw_law_1183 e_v1 ?_
  obtain ⟨q2, e_q2, hy⟩ := gBd hy
  refine g_callVl (rest := []) K hx ly_c10_dry kv_lw_159 d_lw_law_1184 (ct_c10_dry M.2.1 X hx N 10 v1 h q2 e_q2) rfl rfl (Nat.le_of_ble_eq_true rfl) (gDep rfl) hf0 ?_
  refine g_aload_n K d_lw_law_1187 2 rfl ?_
  refine g_aload_n K d_lw_law_1188 0 rfl ?_
  refine g_iload K d_lw_law_1189 4 rfl ?_
  refine g_iconst (v := 1) K d_lw_law_1191 (by decide) ?_
  refine g_iadd K d_lw_law_1192 ?_
  obtain ⟨v3, e_v3, hy⟩ := gBd hy
  refine g_sld K d_lw_law_1193 e_v3 ?_
  obtain ⟨q4, e_q4, hy⟩ := gBd hy
  refine g_callVl (rest := [.long q2.1]) K hx ly_c11_dry kv_lw_162 d_lw_law_1194 (ct_c11_dry M.2.1 X hx N 144 v3 q2.2 q4 e_q4) rfl rfl (Nat.le_of_ble_eq_true rfl) (gDep rfl) hf0 ?_
  refine g_lcmp K d_lw_law_1197 ?_
  refine g_if_eq K d_lw_law_1198 (fun c5 => ?_) (fun c5 => ?_)
  · rw [if_pos c5] at hy
    obtain rfl := Option.some.inj hy
    exact g_wid hE hx
  · rw [if_neg c5] at hy
    refine g_iconst (v := 0) K d_lw_law_1201 (by decide) ?_
    cases hy
def c_law_32 (N : Nat) (x4 : Int32) (h : gH) : Option gH :=
  (gas h (x4 + (1 : Int32))).bind fun v1 =>
    (gas h (x4 + (2 : Int32))).bind fun v2 =>
    (f_c10_heard N 10 v1 v2 h).bind fun q3 =>
    (gas q3.2 (x4 + (1 : Int32))).bind fun v4 =>
    (gas q3.2 (x4 + (2 : Int32))).bind fun v5 =>
    (f_c11_heard N 144 v4 v5 q3.2).bind fun q6 =>
    if q3.1 = q6.1 then
    some q6.2
  else
    none
set_option maxHeartbeats 4000000 in
set_option maxRecDepth 100000 in
theorem wc_law_32 {M : gM} {X : gX} {N : Nat} (hfl : M.2.1.stackTraces = false) (hx : gEx X = false) (hN : 6 ≤ N) (K : gC M X "FullStopWellsLaw" b_lw_law 8 (gRm (100 + N) 601024 7293034)) (cs sl : Nat) (hf : cs + 1 ≤ 601024 ∧ sl + 6 ≤ 7293034) (x4 : Int32) (h h0 : gH) (hy : c_law_32 N x4 h = some h0) (hE : gG M X 8 (cs + 1) (sl + 6) 1620 [(0, .ref 0), (1, .ref 10), (2, .ref 144), (3, .ref 170), (4, .int x4)] [] h0) : gG M X 8 cs sl 1203 [(0, .ref 0), (1, .ref 10), (2, .ref 144), (3, .ref 170), (4, .int x4)] [] h := by
  have hf0 : cs ≤ 601024 ∧ sl ≤ 7293034 := by omega
  unfold c_law_32 at hy
  refine g_aload_n K d_lw_law_1203 1 rfl ?_
  refine g_aload_n K d_lw_law_1204 0 rfl ?_
  refine g_iload K d_lw_law_1205 4 rfl ?_
  refine g_iconst (v := 1) K d_lw_law_1207 (by decide) ?_
  refine g_iadd K d_lw_law_1208 ?_
  obtain ⟨v1, e_v1, hy⟩ := gBd hy
  refine g_sld K d_lw_law_1209 e_v1 ?_
  refine g_aload_n K d_lw_law_1210 0 rfl ?_
  refine g_iload K d_lw_law_1211 4 rfl ?_
  refine g_iconst (v := 2) K d_lw_law_1213 (by decide) ?_
  refine g_iadd K d_lw_law_1214 ?_
  obtain ⟨v2, e_v2, hy⟩ := gBd hy
  refine g_sld K d_lw_law_1215 e_v2 ?_
  obtain ⟨q3, e_q3, hy⟩ := gBd hy
  refine g_callVi (rest := []) K hx ly_c10_heard kv_lw_163 d_lw_law_1216 (ct_c10_heard M.2.1 X hx N 10 v1 v2 h q3 e_q3) rfl rfl (Nat.le_of_ble_eq_true rfl) (gDep rfl) hf0 ?_
  refine g_aload_n K d_lw_law_1219 2 rfl ?_
  refine g_aload_n K d_lw_law_1220 0 rfl ?_
  refine g_iload K d_lw_law_1221 4 rfl ?_
  refine g_iconst (v := 1) K d_lw_law_1223 (by decide) ?_
  refine g_iadd K d_lw_law_1224 ?_
  obtain ⟨v4, e_v4, hy⟩ := gBd hy
  refine g_sld K d_lw_law_1225 e_v4 ?_
  refine g_aload_n K d_lw_law_1226 0 rfl ?_
  refine g_iload K d_lw_law_1227 4 rfl ?_
  refine g_iconst (v := 2) K d_lw_law_1229 (by decide) ?_
  refine g_iadd K d_lw_law_1230 ?_
  obtain ⟨v5, e_v5, hy⟩ := gBd hy
  refine g_sld K d_lw_law_1231 e_v5 ?_
  obtain ⟨q6, e_q6, hy⟩ := gBd hy
  refine g_callVi (rest := [.int q3.1]) K hx ly_c11_heard kv_lw_166 d_lw_law_1232 (ct_c11_heard M.2.1 X hx N 144 v4 v5 q3.2 q6 e_q6) rfl rfl (Nat.le_of_ble_eq_true rfl) (gDep rfl) hf0 ?_
  refine g_icmp_eq K d_lw_law_1235 (fun c7 => ?_) (fun c7 => ?_)
  · rw [if_pos c7] at hy
    obtain rfl := Option.some.inj hy
    exact g_wid hE hx
  · rw [if_neg c7] at hy
    refine g_iconst (v := 0) K d_lw_law_1238 (by decide) ?_
    cases hy
def c_law_33 (N : Nat) (x4 : Int32) (h : gH) : Option gH :=
  (f_c10_forget N 10 h).bind fun q1 =>
    (f_c11_forget N 144 q1.2).bind fun q2 =>
    if q1.1 = q2.1 then
    some q2.2
  else
    none
set_option maxHeartbeats 4000000 in
set_option maxRecDepth 100000 in
theorem wc_law_33 {M : gM} {X : gX} {N : Nat} (hfl : M.2.1.stackTraces = false) (hx : gEx X = false) (hN : 6 ≤ N) (K : gC M X "FullStopWellsLaw" b_lw_law 8 (gRm (100 + N) 601024 7293034)) (cs sl : Nat) (hf : cs + 1 ≤ 601024 ∧ sl + 6 ≤ 7293034) (x4 : Int32) (h h0 : gH) (hy : c_law_33 N x4 h = some h0) (hE : gG M X 8 (cs + 1) (sl + 6) 1620 [(0, .ref 0), (1, .ref 10), (2, .ref 144), (3, .ref 170), (4, .int x4)] [] h0) : gG M X 8 cs sl 1240 [(0, .ref 0), (1, .ref 10), (2, .ref 144), (3, .ref 170), (4, .int x4)] [] h := by
  have hf0 : cs ≤ 601024 ∧ sl ≤ 7293034 := by omega
  unfold c_law_33 at hy
  refine g_aload_n K d_lw_law_1240 1 rfl ?_
  obtain ⟨q1, e_q1, hy⟩ := gBd hy
  refine g_callVi (rest := []) K hx ly_c10_forget kv_lw_167 d_lw_law_1241 (ct_c10_forget M.2.1 X hx N 10 h q1 e_q1) rfl rfl (Nat.le_of_ble_eq_true rfl) (gDep rfl) hf0 ?_
  refine g_aload_n K d_lw_law_1244 2 rfl ?_
  obtain ⟨q2, e_q2, hy⟩ := gBd hy
  refine g_callVi (rest := [.int q1.1]) K hx ly_c11_forget kv_lw_170 d_lw_law_1245 (ct_c11_forget M.2.1 X hx N 144 q1.2 q2 e_q2) rfl rfl (Nat.le_of_ble_eq_true rfl) (gDep rfl) hf0 ?_
  refine g_icmp_eq K d_lw_law_1248 (fun c3 => ?_) (fun c3 => ?_)
  · rw [if_pos c3] at hy
    obtain rfl := Option.some.inj hy
    exact g_wid hE hx
  · rw [if_neg c3] at hy
    refine g_iconst (v := 0) K d_lw_law_1251 (by decide) ?_
    cases hy
def c_law_34 (N : Nat) (x4 : Int32) (h : gH) : Option gH :=
  (f_c10_fits N 10 h).bind fun q1 =>
    (f_c11_fits2 N 144 q1.2).bind fun q2 =>
    if q1.1 = q2.1 then
    some q2.2
  else
    none
set_option maxHeartbeats 4000000 in
set_option maxRecDepth 100000 in
theorem wc_law_34 {M : gM} {X : gX} {N : Nat} (hfl : M.2.1.stackTraces = false) (hx : gEx X = false) (hN : 6 ≤ N) (K : gC M X "FullStopWellsLaw" b_lw_law 8 (gRm (100 + N) 601024 7293034)) (cs sl : Nat) (hf : cs + 1 ≤ 601024 ∧ sl + 6 ≤ 7293034) (x4 : Int32) (h h0 : gH) (hy : c_law_34 N x4 h = some h0) (hE : gG M X 8 (cs + 1) (sl + 6) 1620 [(0, .ref 0), (1, .ref 10), (2, .ref 144), (3, .ref 170), (4, .int x4)] [] h0) : gG M X 8 cs sl 1253 [(0, .ref 0), (1, .ref 10), (2, .ref 144), (3, .ref 170), (4, .int x4)] [] h := by
  have hf0 : cs ≤ 601024 ∧ sl ≤ 7293034 := by omega
  unfold c_law_34 at hy
  refine g_aload_n K d_lw_law_1253 1 rfl ?_
  obtain ⟨q1, e_q1, hy⟩ := gBd hy
  refine g_callVi (rest := []) K hx ly_c10_fits kv_lw_171 d_lw_law_1254 (ct_c10_fits M.2.1 X hx N 10 h q1 e_q1) rfl rfl (Nat.le_of_ble_eq_true rfl) (gDep rfl) hf0 ?_
  refine g_aload_n K d_lw_law_1257 2 rfl ?_
  obtain ⟨q2, e_q2, hy⟩ := gBd hy
  refine g_callVi (rest := [.int q1.1]) K hx ly_c11_fits2 kv_lw_174 d_lw_law_1258 (ct_c11_fits2 M.2.1 X hx N 144 q1.2 q2 e_q2) rfl rfl (Nat.le_of_ble_eq_true rfl) (gDep rfl) hf0 ?_
  refine g_icmp_eq K d_lw_law_1261 (fun c3 => ?_) (fun c3 => ?_)
  · rw [if_pos c3] at hy
    obtain rfl := Option.some.inj hy
    exact g_wid hE hx
  · rw [if_neg c3] at hy
    refine g_iconst (v := 0) K d_lw_law_1264 (by decide) ?_
    cases hy
def c_law_35 (N : Nat) (x4 : Int32) (h : gH) : Option gH :=
  (f_c10_asks N 10 h).bind fun q1 =>
    (f_c11_asks N 144 q1.2).bind fun q2 =>
    if q1.1 = q2.1 then
    some q2.2
  else
    none
set_option maxHeartbeats 4000000 in
set_option maxRecDepth 100000 in
theorem wc_law_35 {M : gM} {X : gX} {N : Nat} (hfl : M.2.1.stackTraces = false) (hx : gEx X = false) (hN : 6 ≤ N) (K : gC M X "FullStopWellsLaw" b_lw_law 8 (gRm (100 + N) 601024 7293034)) (cs sl : Nat) (hf : cs + 1 ≤ 601024 ∧ sl + 6 ≤ 7293034) (x4 : Int32) (h h0 : gH) (hy : c_law_35 N x4 h = some h0) (hE : gG M X 8 (cs + 1) (sl + 6) 1620 [(0, .ref 0), (1, .ref 10), (2, .ref 144), (3, .ref 170), (4, .int x4)] [] h0) : gG M X 8 cs sl 1266 [(0, .ref 0), (1, .ref 10), (2, .ref 144), (3, .ref 170), (4, .int x4)] [] h := by
  have hf0 : cs ≤ 601024 ∧ sl ≤ 7293034 := by omega
  unfold c_law_35 at hy
  refine g_aload_n K d_lw_law_1266 1 rfl ?_
  obtain ⟨q1, e_q1, hy⟩ := gBd hy
  refine g_callVi (rest := []) K hx ly_c10_asks kv_lw_175 d_lw_law_1267 (ct_c10_asks M.2.1 X hx N 10 h q1 e_q1) rfl rfl (Nat.le_of_ble_eq_true rfl) (gDep rfl) hf0 ?_
  refine g_aload_n K d_lw_law_1270 2 rfl ?_
  obtain ⟨q2, e_q2, hy⟩ := gBd hy
  refine g_callVi (rest := [.int q1.1]) K hx ly_c11_asks kv_lw_178 d_lw_law_1271 (ct_c11_asks M.2.1 X hx N 144 q1.2 q2 e_q2) rfl rfl (Nat.le_of_ble_eq_true rfl) (gDep rfl) hf0 ?_
  refine g_icmp_eq K d_lw_law_1274 (fun c3 => ?_) (fun c3 => ?_)
  · rw [if_pos c3] at hy
    obtain rfl := Option.some.inj hy
    exact g_wid hE hx
  · rw [if_neg c3] at hy
    refine g_iconst (v := 0) K d_lw_law_1277 (by decide) ?_
    cases hy
def c_law_36 (N : Nat) (x4 : Int32) (h : gH) : Option gH :=
  (gas h (x4 + (1 : Int32))).bind fun v1 =>
    (gas h (x4 + (2 : Int32))).bind fun v2 =>
    (gas h (x4 + (3 : Int32))).bind fun v3 =>
    (gas h (x4 + (4 : Int32))).bind fun v4 =>
    (gas h (x4 + (5 : Int32))).bind fun v5 =>
    (f_c10_meant N 10 v1 v2 v3 v4 v5 h).bind fun q6 =>
    (gas q6.2 (x4 + (1 : Int32))).bind fun v7 =>
    (gas q6.2 (x4 + (2 : Int32))).bind fun v8 =>
    (gas q6.2 (x4 + (3 : Int32))).bind fun v9 =>
    (gas q6.2 (x4 + (4 : Int32))).bind fun v10 =>
    (gas q6.2 (x4 + (5 : Int32))).bind fun v11 =>
    (f_c11_meant N 144 v7 v8 v9 v10 v11 q6.2).bind fun q12 =>
    if q6.1 = q12.1 then
    some q12.2
  else
    none
set_option maxHeartbeats 4000000 in
set_option maxRecDepth 100000 in
theorem wc_law_36 {M : gM} {X : gX} {N : Nat} (hfl : M.2.1.stackTraces = false) (hx : gEx X = false) (hN : 6 ≤ N) (K : gC M X "FullStopWellsLaw" b_lw_law 8 (gRm (100 + N) 601024 7293034)) (cs sl : Nat) (hf : cs + 1 ≤ 601024 ∧ sl + 6 ≤ 7293034) (x4 : Int32) (h h0 : gH) (hy : c_law_36 N x4 h = some h0) (hE : gG M X 8 (cs + 1) (sl + 6) 1620 [(0, .ref 0), (1, .ref 10), (2, .ref 144), (3, .ref 170), (4, .int x4)] [] h0) : gG M X 8 cs sl 1279 [(0, .ref 0), (1, .ref 10), (2, .ref 144), (3, .ref 170), (4, .int x4)] [] h := by
  have hf0 : cs ≤ 601024 ∧ sl ≤ 7293034 := by omega
  unfold c_law_36 at hy
  refine g_aload_n K d_lw_law_1279 1 rfl ?_
  refine g_aload_n K d_lw_law_1280 0 rfl ?_
  refine g_iload K d_lw_law_1281 4 rfl ?_
  refine g_iconst (v := 1) K d_lw_law_1283 (by decide) ?_
  refine g_iadd K d_lw_law_1284 ?_
  obtain ⟨v1, e_v1, hy⟩ := gBd hy
  refine g_sld K d_lw_law_1285 e_v1 ?_
  refine g_aload_n K d_lw_law_1286 0 rfl ?_
  refine g_iload K d_lw_law_1287 4 rfl ?_
  refine g_iconst (v := 2) K d_lw_law_1289 (by decide) ?_
  refine g_iadd K d_lw_law_1290 ?_
  obtain ⟨v2, e_v2, hy⟩ := gBd hy
  refine g_sld K d_lw_law_1291 e_v2 ?_
  refine g_aload_n K d_lw_law_1292 0 rfl ?_
  refine g_iload K d_lw_law_1293 4 rfl ?_
  refine g_iconst (v := 3) K d_lw_law_1295 (by decide) ?_
  refine g_iadd K d_lw_law_1296 ?_
  obtain ⟨v3, e_v3, hy⟩ := gBd hy
  refine g_sld K d_lw_law_1297 e_v3 ?_
  refine g_aload_n K d_lw_law_1298 0 rfl ?_
  refine g_iload K d_lw_law_1299 4 rfl ?_
  refine g_iconst (v := 4) K d_lw_law_1301 (by decide) ?_
  refine g_iadd K d_lw_law_1302 ?_
  obtain ⟨v4, e_v4, hy⟩ := gBd hy
  refine g_sld K d_lw_law_1303 e_v4 ?_
  refine g_aload_n K d_lw_law_1304 0 rfl ?_
  refine g_iload K d_lw_law_1305 4 rfl ?_
  refine g_iconst (v := 5) K d_lw_law_1307 (by decide) ?_
  refine g_iadd K d_lw_law_1308 ?_
  obtain ⟨v5, e_v5, hy⟩ := gBd hy
  refine g_sld K d_lw_law_1309 e_v5 ?_
  obtain ⟨q6, e_q6, hy⟩ := gBd hy
  refine g_callVi (rest := []) K hx ly_c10_meant kv_lw_179 d_lw_law_1310 (ct_c10_meant M.2.1 X hx N 10 v1 v2 v3 v4 v5 h q6 e_q6) rfl rfl (Nat.le_of_ble_eq_true rfl) (gDep rfl) hf0 ?_
  refine g_aload_n K d_lw_law_1313 2 rfl ?_
  refine g_aload_n K d_lw_law_1314 0 rfl ?_
  refine g_iload K d_lw_law_1315 4 rfl ?_
  refine g_iconst (v := 1) K d_lw_law_1317 (by decide) ?_
  refine g_iadd K d_lw_law_1318 ?_
  obtain ⟨v7, e_v7, hy⟩ := gBd hy
  refine g_sld K d_lw_law_1319 e_v7 ?_
  refine g_aload_n K d_lw_law_1320 0 rfl ?_
  refine g_iload K d_lw_law_1321 4 rfl ?_
  refine g_iconst (v := 2) K d_lw_law_1323 (by decide) ?_
  refine g_iadd K d_lw_law_1324 ?_
  obtain ⟨v8, e_v8, hy⟩ := gBd hy
  refine g_sld K d_lw_law_1325 e_v8 ?_
  refine g_aload_n K d_lw_law_1326 0 rfl ?_
  refine g_iload K d_lw_law_1327 4 rfl ?_
  refine g_iconst (v := 3) K d_lw_law_1329 (by decide) ?_
  refine g_iadd K d_lw_law_1330 ?_
  obtain ⟨v9, e_v9, hy⟩ := gBd hy
  refine g_sld K d_lw_law_1331 e_v9 ?_
  refine g_aload_n K d_lw_law_1332 0 rfl ?_
  refine g_iload K d_lw_law_1333 4 rfl ?_
  refine g_iconst (v := 4) K d_lw_law_1335 (by decide) ?_
  refine g_iadd K d_lw_law_1336 ?_
  obtain ⟨v10, e_v10, hy⟩ := gBd hy
  refine g_sld K d_lw_law_1337 e_v10 ?_
  refine g_aload_n K d_lw_law_1338 0 rfl ?_
  refine g_iload K d_lw_law_1339 4 rfl ?_
  refine g_iconst (v := 5) K d_lw_law_1341 (by decide) ?_
  refine g_iadd K d_lw_law_1342 ?_
  obtain ⟨v11, e_v11, hy⟩ := gBd hy
  refine g_sld K d_lw_law_1343 e_v11 ?_
  obtain ⟨q12, e_q12, hy⟩ := gBd hy
  refine g_callVi (rest := [.int q6.1]) K hx ly_c11_meant kv_lw_183 d_lw_law_1344 (ct_c11_meant M.2.1 X hx N 144 v7 v8 v9 v10 v11 q6.2 q12 e_q12) rfl rfl (Nat.le_of_ble_eq_true rfl) (gDep rfl) hf0 ?_
  refine g_icmp_eq K d_lw_law_1347 (fun c13 => ?_) (fun c13 => ?_)
  · rw [if_pos c13] at hy
    obtain rfl := Option.some.inj hy
    exact g_wid hE hx
  · rw [if_neg c13] at hy
    refine g_iconst (v := 0) K d_lw_law_1350 (by decide) ?_
    cases hy
def c_law_37 (N : Nat) (x4 : Int32) (h : gH) : Option gH :=
  (f_c10_waits N 10 h).bind fun q1 =>
    (f_c11_waits N 144 q1.2).bind fun q2 =>
    if q1.1 = q2.1 then
    some q2.2
  else
    none
set_option maxHeartbeats 4000000 in
set_option maxRecDepth 100000 in
theorem wc_law_37 {M : gM} {X : gX} {N : Nat} (hfl : M.2.1.stackTraces = false) (hx : gEx X = false) (hN : 6 ≤ N) (K : gC M X "FullStopWellsLaw" b_lw_law 8 (gRm (100 + N) 601024 7293034)) (cs sl : Nat) (hf : cs + 1 ≤ 601024 ∧ sl + 6 ≤ 7293034) (x4 : Int32) (h h0 : gH) (hy : c_law_37 N x4 h = some h0) (hE : gG M X 8 (cs + 1) (sl + 6) 1620 [(0, .ref 0), (1, .ref 10), (2, .ref 144), (3, .ref 170), (4, .int x4)] [] h0) : gG M X 8 cs sl 1352 [(0, .ref 0), (1, .ref 10), (2, .ref 144), (3, .ref 170), (4, .int x4)] [] h := by
  have hf0 : cs ≤ 601024 ∧ sl ≤ 7293034 := by omega
  unfold c_law_37 at hy
  refine g_aload_n K d_lw_law_1352 1 rfl ?_
  obtain ⟨q1, e_q1, hy⟩ := gBd hy
  refine g_callVi (rest := []) K hx ly_c10_waits kv_lw_184 d_lw_law_1353 (ct_c10_waits M.2.1 X hx N 10 h q1 e_q1) rfl rfl (Nat.le_of_ble_eq_true rfl) (gDep rfl) hf0 ?_
  refine g_aload_n K d_lw_law_1356 2 rfl ?_
  obtain ⟨q2, e_q2, hy⟩ := gBd hy
  refine g_callVi (rest := [.int q1.1]) K hx ly_c11_waits kv_lw_187 d_lw_law_1357 (ct_c11_waits M.2.1 X hx N 144 q1.2 q2 e_q2) rfl rfl (Nat.le_of_ble_eq_true rfl) (gDep rfl) hf0 ?_
  refine g_icmp_eq K d_lw_law_1360 (fun c3 => ?_) (fun c3 => ?_)
  · rw [if_pos c3] at hy
    obtain rfl := Option.some.inj hy
    exact g_wid hE hx
  · rw [if_neg c3] at hy
    refine g_iconst (v := 0) K d_lw_law_1363 (by decide) ?_
    cases hy
def c_law_38 (N : Nat) (x4 : Int32) (h : gH) : Option gH :=
  (gas h (x4 + (1 : Int32))).bind fun v1 =>
    (f_c10_shares N 10 v1 h).bind fun q2 =>
    (gas q2.2 (x4 + (1 : Int32))).bind fun v3 =>
    (f_c11_shares N 144 v3 q2.2).bind fun q4 =>
    if q2.1 = q4.1 then
    some q4.2
  else
    none
set_option maxHeartbeats 4000000 in
set_option maxRecDepth 100000 in
theorem wc_law_38 {M : gM} {X : gX} {N : Nat} (hfl : M.2.1.stackTraces = false) (hx : gEx X = false) (hN : 6 ≤ N) (K : gC M X "FullStopWellsLaw" b_lw_law 8 (gRm (100 + N) 601024 7293034)) (cs sl : Nat) (hf : cs + 1 ≤ 601024 ∧ sl + 6 ≤ 7293034) (x4 : Int32) (h h0 : gH) (hy : c_law_38 N x4 h = some h0) (hE : gG M X 8 (cs + 1) (sl + 6) 1620 [(0, .ref 0), (1, .ref 10), (2, .ref 144), (3, .ref 170), (4, .int x4)] [] h0) : gG M X 8 cs sl 1365 [(0, .ref 0), (1, .ref 10), (2, .ref 144), (3, .ref 170), (4, .int x4)] [] h := by
  have hf0 : cs ≤ 601024 ∧ sl ≤ 7293034 := by omega
  unfold c_law_38 at hy
  refine g_aload_n K d_lw_law_1365 1 rfl ?_
  refine g_aload_n K d_lw_law_1366 0 rfl ?_
  refine g_iload K d_lw_law_1367 4 rfl ?_
  refine g_iconst (v := 1) K d_lw_law_1369 (by decide) ?_
  refine g_iadd K d_lw_law_1370 ?_
  obtain ⟨v1, e_v1, hy⟩ := gBd hy
  refine g_sld K d_lw_law_1371 e_v1 ?_
  obtain ⟨q2, e_q2, hy⟩ := gBd hy
  refine g_callVi (rest := []) K hx ly_c10_shares kv_lw_188 d_lw_law_1372 (ct_c10_shares M.2.1 X hx N 10 v1 h q2 e_q2) rfl rfl (Nat.le_of_ble_eq_true rfl) (gDep rfl) hf0 ?_
  refine g_aload_n K d_lw_law_1375 2 rfl ?_
  refine g_aload_n K d_lw_law_1376 0 rfl ?_
  refine g_iload K d_lw_law_1377 4 rfl ?_
  refine g_iconst (v := 1) K d_lw_law_1379 (by decide) ?_
  refine g_iadd K d_lw_law_1380 ?_
  obtain ⟨v3, e_v3, hy⟩ := gBd hy
  refine g_sld K d_lw_law_1381 e_v3 ?_
  obtain ⟨q4, e_q4, hy⟩ := gBd hy
  refine g_callVi (rest := [.int q2.1]) K hx ly_c11_shares kv_lw_191 d_lw_law_1382 (ct_c11_shares M.2.1 X hx N 144 v3 q2.2 q4 e_q4) rfl rfl (Nat.le_of_ble_eq_true rfl) (gDep rfl) hf0 ?_
  refine g_icmp_eq K d_lw_law_1385 (fun c5 => ?_) (fun c5 => ?_)
  · rw [if_pos c5] at hy
    obtain rfl := Option.some.inj hy
    exact g_wid hE hx
  · rw [if_neg c5] at hy
    refine g_iconst (v := 0) K d_lw_law_1388 (by decide) ?_
    cases hy
def c_law_39 (N : Nat) (x4 : Int32) (h : gH) : Option gH :=
  (gas h (x4 + (1 : Int32))).bind fun v1 =>
    (f_c10_squares N 10 v1 h).bind fun q2 =>
    (gas q2.2 (x4 + (1 : Int32))).bind fun v3 =>
    (f_c11_squares N 144 v3 q2.2).bind fun q4 =>
    if q2.1 = q4.1 then
    some q4.2
  else
    none
set_option maxHeartbeats 4000000 in
set_option maxRecDepth 100000 in
theorem wc_law_39 {M : gM} {X : gX} {N : Nat} (hfl : M.2.1.stackTraces = false) (hx : gEx X = false) (hN : 6 ≤ N) (K : gC M X "FullStopWellsLaw" b_lw_law 8 (gRm (100 + N) 601024 7293034)) (cs sl : Nat) (hf : cs + 1 ≤ 601024 ∧ sl + 6 ≤ 7293034) (x4 : Int32) (h h0 : gH) (hy : c_law_39 N x4 h = some h0) (hE : gG M X 8 (cs + 1) (sl + 6) 1620 [(0, .ref 0), (1, .ref 10), (2, .ref 144), (3, .ref 170), (4, .int x4)] [] h0) : gG M X 8 cs sl 1390 [(0, .ref 0), (1, .ref 10), (2, .ref 144), (3, .ref 170), (4, .int x4)] [] h := by
  have hf0 : cs ≤ 601024 ∧ sl ≤ 7293034 := by omega
  unfold c_law_39 at hy
  refine g_aload_n K d_lw_law_1390 1 rfl ?_
  refine g_aload_n K d_lw_law_1391 0 rfl ?_
  refine g_iload K d_lw_law_1392 4 rfl ?_
  refine g_iconst (v := 1) K d_lw_law_1394 (by decide) ?_
  refine g_iadd K d_lw_law_1395 ?_
  obtain ⟨v1, e_v1, hy⟩ := gBd hy
  refine g_sld K d_lw_law_1396 e_v1 ?_
  obtain ⟨q2, e_q2, hy⟩ := gBd hy
  refine g_callVi (rest := []) K hx ly_c10_squares kv_lw_192 d_lw_law_1397 (ct_c10_squares M.2.1 X hx N 10 v1 h q2 e_q2) rfl rfl (Nat.le_of_ble_eq_true rfl) (gDep rfl) hf0 ?_
  refine g_aload_n K d_lw_law_1400 2 rfl ?_
  refine g_aload_n K d_lw_law_1401 0 rfl ?_
  refine g_iload K d_lw_law_1402 4 rfl ?_
  refine g_iconst (v := 1) K d_lw_law_1404 (by decide) ?_
  refine g_iadd K d_lw_law_1405 ?_
  obtain ⟨v3, e_v3, hy⟩ := gBd hy
  refine g_sld K d_lw_law_1406 e_v3 ?_
  obtain ⟨q4, e_q4, hy⟩ := gBd hy
  refine g_callVi (rest := [.int q2.1]) K hx ly_c11_squares kv_lw_195 d_lw_law_1407 (ct_c11_squares M.2.1 X hx N 144 v3 q2.2 q4 e_q4) rfl rfl (Nat.le_of_ble_eq_true rfl) (gDep rfl) hf0 ?_
  refine g_icmp_eq K d_lw_law_1410 (fun c5 => ?_) (fun c5 => ?_)
  · rw [if_pos c5] at hy
    obtain rfl := Option.some.inj hy
    exact g_wid hE hx
  · rw [if_neg c5] at hy
    refine g_iconst (v := 0) K d_lw_law_1413 (by decide) ?_
    cases hy
def c_law_40 (N : Nat) (x4 : Int32) (h : gH) : Option gH :=
  (gas h (x4 + (1 : Int32))).bind fun v1 =>
    (f_c10_rests N 10 v1 h).bind fun q2 =>
    (gas q2.2 (x4 + (1 : Int32))).bind fun v3 =>
    (f_c11_rests N 144 v3 q2.2).bind fun q4 =>
    if q2.1 = q4.1 then
    some q4.2
  else
    none
set_option maxHeartbeats 4000000 in
set_option maxRecDepth 100000 in
theorem wc_law_40 {M : gM} {X : gX} {N : Nat} (hfl : M.2.1.stackTraces = false) (hx : gEx X = false) (hN : 6 ≤ N) (K : gC M X "FullStopWellsLaw" b_lw_law 8 (gRm (100 + N) 601024 7293034)) (cs sl : Nat) (hf : cs + 1 ≤ 601024 ∧ sl + 6 ≤ 7293034) (x4 : Int32) (h h0 : gH) (hy : c_law_40 N x4 h = some h0) (hE : gG M X 8 (cs + 1) (sl + 6) 1620 [(0, .ref 0), (1, .ref 10), (2, .ref 144), (3, .ref 170), (4, .int x4)] [] h0) : gG M X 8 cs sl 1415 [(0, .ref 0), (1, .ref 10), (2, .ref 144), (3, .ref 170), (4, .int x4)] [] h := by
  have hf0 : cs ≤ 601024 ∧ sl ≤ 7293034 := by omega
  unfold c_law_40 at hy
  refine g_aload_n K d_lw_law_1415 1 rfl ?_
  refine g_aload_n K d_lw_law_1416 0 rfl ?_
  refine g_iload K d_lw_law_1417 4 rfl ?_
  refine g_iconst (v := 1) K d_lw_law_1419 (by decide) ?_
  refine g_iadd K d_lw_law_1420 ?_
  obtain ⟨v1, e_v1, hy⟩ := gBd hy
  refine g_sld K d_lw_law_1421 e_v1 ?_
  obtain ⟨q2, e_q2, hy⟩ := gBd hy
  refine g_callVi (rest := []) K hx ly_c10_rests kv_lw_196 d_lw_law_1422 (ct_c10_rests M.2.1 X hx N 10 v1 h q2 e_q2) rfl rfl (Nat.le_of_ble_eq_true rfl) (gDep rfl) hf0 ?_
  refine g_aload_n K d_lw_law_1425 2 rfl ?_
  refine g_aload_n K d_lw_law_1426 0 rfl ?_
  refine g_iload K d_lw_law_1427 4 rfl ?_
  refine g_iconst (v := 1) K d_lw_law_1429 (by decide) ?_
  refine g_iadd K d_lw_law_1430 ?_
  obtain ⟨v3, e_v3, hy⟩ := gBd hy
  refine g_sld K d_lw_law_1431 e_v3 ?_
  obtain ⟨q4, e_q4, hy⟩ := gBd hy
  refine g_callVi (rest := [.int q2.1]) K hx ly_c11_rests kv_lw_199 d_lw_law_1432 (ct_c11_rests M.2.1 X hx N 144 v3 q2.2 q4 e_q4) rfl rfl (Nat.le_of_ble_eq_true rfl) (gDep rfl) hf0 ?_
  refine g_icmp_eq K d_lw_law_1435 (fun c5 => ?_) (fun c5 => ?_)
  · rw [if_pos c5] at hy
    obtain rfl := Option.some.inj hy
    exact g_wid hE hx
  · rw [if_neg c5] at hy
    refine g_iconst (v := 0) K d_lw_law_1438 (by decide) ?_
    cases hy
def c_law_41 (N : Nat) (x4 : Int32) (h : gH) : Option gH :=
  (f_c10_law N 10 h).bind fun q1 =>
    (f_c11_law N 144 q1.2).bind fun q2 =>
    if q1.1 = q2.1 then
    some q2.2
  else
    none
set_option maxHeartbeats 4000000 in
set_option maxRecDepth 100000 in
theorem wc_law_41 {M : gM} {X : gX} {N : Nat} (hfl : M.2.1.stackTraces = false) (hx : gEx X = false) (hN : 6 ≤ N) (K : gC M X "FullStopWellsLaw" b_lw_law 8 (gRm (100 + N) 601024 7293034)) (cs sl : Nat) (hf : cs + 1 ≤ 601024 ∧ sl + 6 ≤ 7293034) (x4 : Int32) (h h0 : gH) (hy : c_law_41 N x4 h = some h0) (hE : gG M X 8 (cs + 1) (sl + 6) 1620 [(0, .ref 0), (1, .ref 10), (2, .ref 144), (3, .ref 170), (4, .int x4)] [] h0) : gG M X 8 cs sl 1440 [(0, .ref 0), (1, .ref 10), (2, .ref 144), (3, .ref 170), (4, .int x4)] [] h := by
  have hf0 : cs ≤ 601024 ∧ sl ≤ 7293034 := by omega
  unfold c_law_41 at hy
  refine g_aload_n K d_lw_law_1440 1 rfl ?_
  obtain ⟨q1, e_q1, hy⟩ := gBd hy
  refine g_callVi (rest := []) K hx ly_c10_law kv_lw_200 d_lw_law_1441 (ct_c10_law M.2.1 X hx N 10 h q1 e_q1) rfl rfl (Nat.le_of_ble_eq_true rfl) (gDep rfl) hf0 ?_
  refine g_aload_n K d_lw_law_1444 2 rfl ?_
  obtain ⟨q2, e_q2, hy⟩ := gBd hy
  refine g_callVi (rest := [.int q1.1]) K hx ly_c11_law kv_lw_203 d_lw_law_1445 (ct_c11_law M.2.1 X hx N 144 q1.2 q2 e_q2) rfl rfl (Nat.le_of_ble_eq_true rfl) (gDep rfl) hf0 ?_
  refine g_icmp_eq K d_lw_law_1448 (fun c3 => ?_) (fun c3 => ?_)
  · rw [if_pos c3] at hy
    obtain rfl := Option.some.inj hy
    exact g_wid hE hx
  · rw [if_neg c3] at hy
    refine g_iconst (v := 0) K d_lw_law_1451 (by decide) ?_
    cases hy
def c_law_42 (N : Nat) (x4 : Int32) (h : gH) : Option gH :=
  (gas h (x4 + (1 : Int32))).bind fun v1 =>
    (gas h (x4 + (2 : Int32))).bind fun v2 =>
    (f_c10_years N 10 v1 v2 h).bind fun q3 =>
    (gas q3.2 (x4 + (1 : Int32))).bind fun v4 =>
    (gas q3.2 (x4 + (2 : Int32))).bind fun v5 =>
    (f_c11_years N 144 v4 v5 q3.2).bind fun q6 =>
    if q3.1 = q6.1 then
    some q6.2
  else
    none
set_option maxHeartbeats 4000000 in
set_option maxRecDepth 100000 in
theorem wc_law_42 {M : gM} {X : gX} {N : Nat} (hfl : M.2.1.stackTraces = false) (hx : gEx X = false) (hN : 6 ≤ N) (K : gC M X "FullStopWellsLaw" b_lw_law 8 (gRm (100 + N) 601024 7293034)) (cs sl : Nat) (hf : cs + 1 ≤ 601024 ∧ sl + 6 ≤ 7293034) (x4 : Int32) (h h0 : gH) (hy : c_law_42 N x4 h = some h0) (hE : gG M X 8 (cs + 1) (sl + 6) 1620 [(0, .ref 0), (1, .ref 10), (2, .ref 144), (3, .ref 170), (4, .int x4)] [] h0) : gG M X 8 cs sl 1453 [(0, .ref 0), (1, .ref 10), (2, .ref 144), (3, .ref 170), (4, .int x4)] [] h := by
  have hf0 : cs ≤ 601024 ∧ sl ≤ 7293034 := by omega
  unfold c_law_42 at hy
  refine g_aload_n K d_lw_law_1453 1 rfl ?_
  refine g_aload_n K d_lw_law_1454 0 rfl ?_
  refine g_iload K d_lw_law_1455 4 rfl ?_
  refine g_iconst (v := 1) K d_lw_law_1457 (by decide) ?_
  refine g_iadd K d_lw_law_1458 ?_
  obtain ⟨v1, e_v1, hy⟩ := gBd hy
  refine g_sld K d_lw_law_1459 e_v1 ?_
  refine g_aload_n K d_lw_law_1460 0 rfl ?_
  refine g_iload K d_lw_law_1461 4 rfl ?_
  refine g_iconst (v := 2) K d_lw_law_1463 (by decide) ?_
  refine g_iadd K d_lw_law_1464 ?_
  obtain ⟨v2, e_v2, hy⟩ := gBd hy
  refine g_sld K d_lw_law_1465 e_v2 ?_
  obtain ⟨q3, e_q3, hy⟩ := gBd hy
  refine g_callVi (rest := []) K hx ly_c10_years kv_lw_204 d_lw_law_1466 (ct_c10_years M.2.1 X hx N 10 v1 v2 h q3 e_q3) rfl rfl (Nat.le_of_ble_eq_true rfl) (gDep rfl) hf0 ?_
  refine g_aload_n K d_lw_law_1469 2 rfl ?_
  refine g_aload_n K d_lw_law_1470 0 rfl ?_
  refine g_iload K d_lw_law_1471 4 rfl ?_
  refine g_iconst (v := 1) K d_lw_law_1473 (by decide) ?_
  refine g_iadd K d_lw_law_1474 ?_
  obtain ⟨v4, e_v4, hy⟩ := gBd hy
  refine g_sld K d_lw_law_1475 e_v4 ?_
  refine g_aload_n K d_lw_law_1476 0 rfl ?_
  refine g_iload K d_lw_law_1477 4 rfl ?_
  refine g_iconst (v := 2) K d_lw_law_1479 (by decide) ?_
  refine g_iadd K d_lw_law_1480 ?_
  obtain ⟨v5, e_v5, hy⟩ := gBd hy
  refine g_sld K d_lw_law_1481 e_v5 ?_
  obtain ⟨q6, e_q6, hy⟩ := gBd hy
  refine g_callVi (rest := [.int q3.1]) K hx ly_c11_years kv_lw_207 d_lw_law_1482 (ct_c11_years M.2.1 X hx N 144 v4 v5 q3.2 q6 e_q6) rfl rfl (Nat.le_of_ble_eq_true rfl) (gDep rfl) hf0 ?_
  refine g_icmp_eq K d_lw_law_1485 (fun c7 => ?_) (fun c7 => ?_)
  · rw [if_pos c7] at hy
    obtain rfl := Option.some.inj hy
    exact g_wid hE hx
  · rw [if_neg c7] at hy
    refine g_iconst (v := 0) K d_lw_law_1488 (by decide) ?_
    cases hy
def c_law_43 (N : Nat) (x4 : Int32) (h : gH) : Option gH :=
  (gas h (x4 + (1 : Int32))).bind fun v1 =>
    (f_c10_keep N 10 v1 h).bind fun q2 =>
    (gas q2.2 (x4 + (1 : Int32))).bind fun v3 =>
    (f_c11_keep N 144 v3 q2.2).bind fun q4 =>
    if q2.1 = q4.1 then
    some q4.2
  else
    none
set_option maxHeartbeats 4000000 in
set_option maxRecDepth 100000 in
theorem wc_law_43 {M : gM} {X : gX} {N : Nat} (hfl : M.2.1.stackTraces = false) (hx : gEx X = false) (hN : 6 ≤ N) (K : gC M X "FullStopWellsLaw" b_lw_law 8 (gRm (100 + N) 601024 7293034)) (cs sl : Nat) (hf : cs + 1 ≤ 601024 ∧ sl + 6 ≤ 7293034) (x4 : Int32) (h h0 : gH) (hy : c_law_43 N x4 h = some h0) (hE : gG M X 8 (cs + 1) (sl + 6) 1620 [(0, .ref 0), (1, .ref 10), (2, .ref 144), (3, .ref 170), (4, .int x4)] [] h0) : gG M X 8 cs sl 1490 [(0, .ref 0), (1, .ref 10), (2, .ref 144), (3, .ref 170), (4, .int x4)] [] h := by
  have hf0 : cs ≤ 601024 ∧ sl ≤ 7293034 := by omega
  unfold c_law_43 at hy
  refine g_aload_n K d_lw_law_1490 1 rfl ?_
  refine g_aload_n K d_lw_law_1491 0 rfl ?_
  refine g_iload K d_lw_law_1492 4 rfl ?_
  refine g_iconst (v := 1) K d_lw_law_1494 (by decide) ?_
  refine g_iadd K d_lw_law_1495 ?_
  obtain ⟨v1, e_v1, hy⟩ := gBd hy
  refine g_sld K d_lw_law_1496 e_v1 ?_
  obtain ⟨q2, e_q2, hy⟩ := gBd hy
  refine g_callVi (rest := []) K hx ly_c10_keep kv_lw_208 d_lw_law_1497 (ct_c10_keep M.2.1 X hx N 10 v1 h q2 e_q2) rfl rfl (Nat.le_of_ble_eq_true rfl) (gDep rfl) hf0 ?_
  refine g_aload_n K d_lw_law_1500 2 rfl ?_
  refine g_aload_n K d_lw_law_1501 0 rfl ?_
  refine g_iload K d_lw_law_1502 4 rfl ?_
  refine g_iconst (v := 1) K d_lw_law_1504 (by decide) ?_
  refine g_iadd K d_lw_law_1505 ?_
  obtain ⟨v3, e_v3, hy⟩ := gBd hy
  refine g_sld K d_lw_law_1506 e_v3 ?_
  obtain ⟨q4, e_q4, hy⟩ := gBd hy
  refine g_callVi (rest := [.int q2.1]) K hx ly_c11_keep kv_lw_211 d_lw_law_1507 (ct_c11_keep M.2.1 X hx N 144 v3 q2.2 q4 e_q4) rfl rfl (Nat.le_of_ble_eq_true rfl) (gDep rfl) hf0 ?_
  refine g_icmp_eq K d_lw_law_1510 (fun c5 => ?_) (fun c5 => ?_)
  · rw [if_pos c5] at hy
    obtain rfl := Option.some.inj hy
    exact g_wid hE hx
  · rw [if_neg c5] at hy
    refine g_iconst (v := 0) K d_lw_law_1513 (by decide) ?_
    cases hy
def c_law_44 (N : Nat) (x4 : Int32) (h : gH) : Option gH :=
  (gas h (x4 + (1 : Int32))).bind fun v1 =>
    (f_c10_again N 10 v1 h).bind fun q2 =>
    (gas q2.2 (x4 + (1 : Int32))).bind fun v3 =>
    (f_c11_again N 144 v3 q2.2).bind fun q4 =>
    if q2.1 = q4.1 then
    some q4.2
  else
    none
set_option maxHeartbeats 4000000 in
set_option maxRecDepth 100000 in
theorem wc_law_44 {M : gM} {X : gX} {N : Nat} (hfl : M.2.1.stackTraces = false) (hx : gEx X = false) (hN : 6 ≤ N) (K : gC M X "FullStopWellsLaw" b_lw_law 8 (gRm (100 + N) 601024 7293034)) (cs sl : Nat) (hf : cs + 1 ≤ 601024 ∧ sl + 6 ≤ 7293034) (x4 : Int32) (h h0 : gH) (hy : c_law_44 N x4 h = some h0) (hE : gG M X 8 (cs + 1) (sl + 6) 1620 [(0, .ref 0), (1, .ref 10), (2, .ref 144), (3, .ref 170), (4, .int x4)] [] h0) : gG M X 8 cs sl 1515 [(0, .ref 0), (1, .ref 10), (2, .ref 144), (3, .ref 170), (4, .int x4)] [] h := by
  have hf0 : cs ≤ 601024 ∧ sl ≤ 7293034 := by omega
  unfold c_law_44 at hy
  refine g_aload_n K d_lw_law_1515 1 rfl ?_
  refine g_aload_n K d_lw_law_1516 0 rfl ?_
  refine g_iload K d_lw_law_1517 4 rfl ?_
  refine g_iconst (v := 1) K d_lw_law_1519 (by decide) ?_
  refine g_iadd K d_lw_law_1520 ?_
  obtain ⟨v1, e_v1, hy⟩ := gBd hy
  refine g_sld K d_lw_law_1521 e_v1 ?_
  obtain ⟨q2, e_q2, hy⟩ := gBd hy
  refine g_callVi (rest := []) K hx ly_c10_again kv_lw_212 d_lw_law_1522 (ct_c10_again M.2.1 X hx N 10 v1 h q2 e_q2) rfl rfl (Nat.le_of_ble_eq_true rfl) (gDep rfl) hf0 ?_
  refine g_aload_n K d_lw_law_1525 2 rfl ?_
  refine g_aload_n K d_lw_law_1526 0 rfl ?_
  refine g_iload K d_lw_law_1527 4 rfl ?_
  refine g_iconst (v := 1) K d_lw_law_1529 (by decide) ?_
  refine g_iadd K d_lw_law_1530 ?_
  obtain ⟨v3, e_v3, hy⟩ := gBd hy
  refine g_sld K d_lw_law_1531 e_v3 ?_
  obtain ⟨q4, e_q4, hy⟩ := gBd hy
  refine g_callVi (rest := [.int q2.1]) K hx ly_c11_again kv_lw_215 d_lw_law_1532 (ct_c11_again M.2.1 X hx N 144 v3 q2.2 q4 e_q4) rfl rfl (Nat.le_of_ble_eq_true rfl) (gDep rfl) hf0 ?_
  refine g_icmp_eq K d_lw_law_1535 (fun c5 => ?_) (fun c5 => ?_)
  · rw [if_pos c5] at hy
    obtain rfl := Option.some.inj hy
    exact g_wid hE hx
  · rw [if_neg c5] at hy
    refine g_iconst (v := 0) K d_lw_law_1538 (by decide) ?_
    cases hy
def c_law_45 (N : Nat) (x4 : Int32) (h : gH) : Option gH :=
  (gas h (x4 + (1 : Int32))).bind fun v1 =>
    (f_c10_count N 10 v1 h).bind fun q2 =>
    (gas h (x4 + (1 : Int32))).bind fun v3 =>
    (f_c11_count N 144 v3 h).bind fun q4 =>
    if q2 = q4.1 then
    some q4.2
  else
    none
set_option maxHeartbeats 4000000 in
set_option maxRecDepth 100000 in
theorem wc_law_45 {M : gM} {X : gX} {N : Nat} (hfl : M.2.1.stackTraces = false) (hx : gEx X = false) (hN : 6 ≤ N) (K : gC M X "FullStopWellsLaw" b_lw_law 8 (gRm (100 + N) 601024 7293034)) (cs sl : Nat) (hf : cs + 1 ≤ 601024 ∧ sl + 6 ≤ 7293034) (x4 : Int32) (h h0 : gH) (hy : c_law_45 N x4 h = some h0) (hE : gG M X 8 (cs + 1) (sl + 6) 1620 [(0, .ref 0), (1, .ref 10), (2, .ref 144), (3, .ref 170), (4, .int x4)] [] h0) : gG M X 8 cs sl 1540 [(0, .ref 0), (1, .ref 10), (2, .ref 144), (3, .ref 170), (4, .int x4)] [] h := by
  have hf0 : cs ≤ 601024 ∧ sl ≤ 7293034 := by omega
  unfold c_law_45 at hy
  refine g_aload_n K d_lw_law_1540 1 rfl ?_
  refine g_aload_n K d_lw_law_1541 0 rfl ?_
  refine g_iload K d_lw_law_1542 4 rfl ?_
  refine g_iconst (v := 1) K d_lw_law_1544 (by decide) ?_
  refine g_iadd K d_lw_law_1545 ?_
  obtain ⟨v1, e_v1, hy⟩ := gBd hy
  refine g_sld K d_lw_law_1546 e_v1 ?_
  obtain ⟨q2, e_q2, hy⟩ := gBd hy
  refine g_callVi (rest := []) K hx ly_c10_count kv_lw_216 d_lw_law_1547 (ct_c10_count M.2.1 X hx N 10 v1 h q2 e_q2) rfl rfl (Nat.le_of_ble_eq_true rfl) (gDep rfl) hf0 ?_
  refine g_aload_n K d_lw_law_1550 2 rfl ?_
  refine g_aload_n K d_lw_law_1551 0 rfl ?_
  refine g_iload K d_lw_law_1552 4 rfl ?_
  refine g_iconst (v := 1) K d_lw_law_1554 (by decide) ?_
  refine g_iadd K d_lw_law_1555 ?_
  obtain ⟨v3, e_v3, hy⟩ := gBd hy
  refine g_sld K d_lw_law_1556 e_v3 ?_
  obtain ⟨q4, e_q4, hy⟩ := gBd hy
  refine g_callVi (rest := [.int q2]) K hx ly_c11_count kv_lw_219 d_lw_law_1557 (ct_c11_count M.2.1 X hx N 144 v3 h q4 e_q4) rfl rfl (Nat.le_of_ble_eq_true rfl) (gDep rfl) hf0 ?_
  refine g_icmp_eq K d_lw_law_1560 (fun c5 => ?_) (fun c5 => ?_)
  · rw [if_pos c5] at hy
    obtain rfl := Option.some.inj hy
    exact g_wid hE hx
  · rw [if_neg c5] at hy
    refine g_iconst (v := 0) K d_lw_law_1563 (by decide) ?_
    cases hy
def c_law_46 (N : Nat) (x4 : Int32) (h : gH) : Option gH :=
  (gas h (x4 + (1 : Int32))).bind fun v1 =>
    (f_lw_row N 10 v1 170 h).bind fun q2 =>
    (gas q2.2 (x4 + (1 : Int32))).bind fun v3 =>
    (f_c11_row N 144 v3 q2.2).bind fun q4 =>
    (f_c11_thrown N 144 q4.2).bind fun q5 =>
    if q5 = q2.1 then
    if q2.1 = 0 then
    (gaL q4.2 170 (0 : Int32)).bind fun v8 =>
    if (lg_cmp v8 q4.1) = 0 then
    some q4.2
  else
    none
  else
    some q4.2
  else
    none
set_option maxHeartbeats 4000000 in
set_option maxRecDepth 100000 in
theorem wc_law_46 {M : gM} {X : gX} {N : Nat} (hfl : M.2.1.stackTraces = false) (hx : gEx X = false) (hN : 6 ≤ N) (K : gC M X "FullStopWellsLaw" b_lw_law 8 (gRm (100 + N) 601024 7293034)) (cs sl : Nat) (hf : cs + 1 ≤ 601024 ∧ sl + 6 ≤ 7293034) (x4 : Int32) (h h0 : gH) (hy : c_law_46 N x4 h = some h0) (hE : gG M X 8 (cs + 1) (sl + 6) 1620 [(0, .ref 0), (1, .ref 10), (2, .ref 144), (3, .ref 170), (4, .int x4)] [] h0) : gG M X 8 cs sl 1565 [(0, .ref 0), (1, .ref 10), (2, .ref 144), (3, .ref 170), (4, .int x4)] [] h := by
  have hf0 : cs ≤ 601024 ∧ sl ≤ 7293034 := by omega
  unfold c_law_46 at hy
  refine g_aload_n K d_lw_law_1565 1 rfl ?_
  refine g_aload_n K d_lw_law_1566 0 rfl ?_
  refine g_iload K d_lw_law_1567 4 rfl ?_
  refine g_iconst (v := 1) K d_lw_law_1569 (by decide) ?_
  refine g_iadd K d_lw_law_1570 ?_
  obtain ⟨v1, e_v1, hy⟩ := gBd hy
  refine g_sld K d_lw_law_1571 e_v1 ?_
  refine g_aload_n K d_lw_law_1572 3 rfl ?_
  obtain ⟨q2, e_q2, hy⟩ := gBd hy
  refine g_callSiW (rest := []) K hx lyw_lw_row ks_lw_220 d_lw_law_1573 (ct_lw_row M.2.1 hfl X hx N hN 10 v1 170 h q2 e_q2) rfl rfl (Nat.le_of_ble_eq_true rfl) (gDep rfl) hf ?_
  refine g_istore (ls2 := [(5, .int q2.1), (0, .ref 0), (1, .ref 10), (2, .ref 144), (3, .ref 170), (4, .int x4)]) K d_lw_law_1576 rfl rfl ?_
  refine g_aload_n K d_lw_law_1578 3 rfl ?_
  refine g_aload_n K d_lw_law_1579 1 rfl ?_
  refine g_iload K d_lw_law_1580 5 rfl ?_
  refine g_iconst (v := 1) K d_lw_law_1582 (by decide) ?_
  refine g_iadd K d_lw_law_1583 ?_
  obtain ⟨v3, e_v3, hy⟩ := gBd hy
  refine g_sld K d_lw_law_1584 e_v3 ?_
  obtain ⟨q4, e_q4, hy⟩ := gBd hy
  refine g_callVl (rest := []) K hx ly_c11_row kv_lw_223 d_lw_law_1585 (ct_c11_row M.2.1 X hx N 144 v3 q2.2 q4 e_q4) rfl rfl (Nat.le_of_ble_eq_true rfl) (gDep rfl) hf ?_
  refine g_lstore (ls2 := [(6, .long q4.1), (5, .int q2.1), (0, .ref 0), (1, .ref 10), (2, .ref 144), (3, .ref 170), (4, .int x4)]) K d_lw_law_1588 rfl rfl ?_
  refine g_aload_n K d_lw_law_1590 4 rfl ?_
  obtain ⟨q5, e_q5, hy⟩ := gBd hy
  refine g_callVi (rest := []) K hx ly_c11_thrown kv_lw_55 d_lw_law_1591 (ct_c11_thrown M.2.1 X hx N 144 q4.2 q5 e_q5) rfl rfl (Nat.le_of_ble_eq_true rfl) (gDep rfl) hf ?_
  refine g_iload K d_lw_law_1594 1 rfl ?_
  refine g_icmp_eq K d_lw_law_1596 (fun c6 => ?_) (fun c6 => ?_)
  · rw [if_pos c6] at hy
    refine g_iload K d_lw_law_1601 1 rfl ?_
    refine g_if_ne K d_lw_law_1603 (fun c7 => ?_) (fun c7 => ?_)
    · rw [if_neg c7] at hy
      refine g_goto K d_lw_law_1617 ?_
      refine g_sub (ls2 := [(0, .ref 0), (1, .ref 10), (2, .ref 144), (3, .ref 170), (4, .int x4)]) [2, 3, 4, 5, 6] rfl ?_
      obtain rfl := Option.some.inj hy
      exact hE
    · rw [if_pos c7] at hy
      refine g_aload_n K d_lw_law_1606 5 rfl ?_
      refine g_iconst (v := 0) K d_lw_law_1607 (by decide) ?_
      obtain ⟨v8, e_v8, hy⟩ := gBd hy
      refine g_lald K d_lw_law_1608 e_v8 ?_
      refine g_lload K d_lw_law_1609 0 rfl ?_
      refine g_lcmp K d_lw_law_1611 ?_
      refine g_if_eq K d_lw_law_1612 (fun c9 => ?_) (fun c9 => ?_)
      · rw [if_pos c9] at hy
        refine g_goto K d_lw_law_1617 ?_
        refine g_sub (ls2 := [(0, .ref 0), (1, .ref 10), (2, .ref 144), (3, .ref 170), (4, .int x4)]) [2, 3, 4, 5, 6] rfl ?_
        obtain rfl := Option.some.inj hy
        exact hE
      · rw [if_neg c9] at hy
        refine g_iconst (v := 0) K d_lw_law_1615 (by decide) ?_
        cases hy
  · rw [if_neg c6] at hy
    refine g_iconst (v := 0) K d_lw_law_1599 (by decide) ?_
    cases hy
def c_law (N : Nat) (v x4 : Int32) (h : gH) : Option gH :=
  if v = (0 : Int32) then
    c_law_0 N x4 h
  else
    if v = (1 : Int32) then
    c_law_1 N x4 h
  else
    if v = (2 : Int32) then
    c_law_2 N x4 h
  else
    if v = (3 : Int32) then
    c_law_3 N x4 h
  else
    if v = (4 : Int32) then
    c_law_4 N x4 h
  else
    if v = (5 : Int32) then
    c_law_5 N x4 h
  else
    if v = (6 : Int32) then
    c_law_6 N x4 h
  else
    if v = (7 : Int32) then
    c_law_7 N x4 h
  else
    if v = (8 : Int32) then
    c_law_8 N x4 h
  else
    if v = (9 : Int32) then
    c_law_9 N x4 h
  else
    if v = (10 : Int32) then
    c_law_10 N x4 h
  else
    if v = (11 : Int32) then
    c_law_11 N x4 h
  else
    if v = (12 : Int32) then
    c_law_12 N x4 h
  else
    if v = (13 : Int32) then
    c_law_13 N x4 h
  else
    if v = (14 : Int32) then
    c_law_14 N x4 h
  else
    if v = (15 : Int32) then
    c_law_15 N x4 h
  else
    if v = (16 : Int32) then
    c_law_16 N x4 h
  else
    if v = (17 : Int32) then
    c_law_17 N x4 h
  else
    if v = (18 : Int32) then
    c_law_18 N x4 h
  else
    if v = (19 : Int32) then
    c_law_19 N x4 h
  else
    if v = (20 : Int32) then
    c_law_20 N x4 h
  else
    if v = (21 : Int32) then
    c_law_21 N x4 h
  else
    if v = (22 : Int32) then
    c_law_22 N x4 h
  else
    if v = (23 : Int32) then
    c_law_23 N x4 h
  else
    if v = (24 : Int32) then
    c_law_24 N x4 h
  else
    if v = (25 : Int32) then
    c_law_25 N x4 h
  else
    if v = (26 : Int32) then
    c_law_26 N x4 h
  else
    if v = (27 : Int32) then
    c_law_27 N x4 h
  else
    if v = (28 : Int32) then
    c_law_28 N x4 h
  else
    if v = (29 : Int32) then
    c_law_29 N x4 h
  else
    if v = (30 : Int32) then
    c_law_30 N x4 h
  else
    if v = (31 : Int32) then
    c_law_31 N x4 h
  else
    if v = (32 : Int32) then
    c_law_32 N x4 h
  else
    if v = (33 : Int32) then
    c_law_33 N x4 h
  else
    if v = (34 : Int32) then
    c_law_34 N x4 h
  else
    if v = (35 : Int32) then
    c_law_35 N x4 h
  else
    if v = (36 : Int32) then
    c_law_36 N x4 h
  else
    if v = (37 : Int32) then
    c_law_37 N x4 h
  else
    if v = (38 : Int32) then
    c_law_38 N x4 h
  else
    if v = (39 : Int32) then
    c_law_39 N x4 h
  else
    if v = (40 : Int32) then
    c_law_40 N x4 h
  else
    if v = (41 : Int32) then
    c_law_41 N x4 h
  else
    if v = (42 : Int32) then
    c_law_42 N x4 h
  else
    if v = (43 : Int32) then
    c_law_43 N x4 h
  else
    if v = (44 : Int32) then
    c_law_44 N x4 h
  else
    if v = (45 : Int32) then
    c_law_45 N x4 h
  else
    if v = (46 : Int32) then
    c_law_46 N x4 h
  else
    some h
def lp_law (N : Nat) : Nat → Int32 → gH → Option gH
  | 0, _, _ => none
  | k + 1, x4, h =>
  (gsn h).bind fun n =>
    if n - (6 : Int32) < x4 then some h
    else (gas h x4).bind fun v =>
      (c_law N (v &&& (63 : Int32)) x4 h).bind fun h1 =>
      lp_law N k (x4 + (6 : Int32)) h1
set_option maxHeartbeats 4000000 in
set_option maxRecDepth 100000 in
theorem wlp_law {M : gM} {X : gX} {N : Nat} (hfl : M.2.1.stackTraces = false) (hx : gEx X = false) (hN : 6 ≤ N) (K : gC M X "FullStopWellsLaw" b_lw_law 8 (gRm (100 + N) 601024 7293034)) : ∀ (k : Nat) (cs sl : Nat) (_ : cs + k ≤ 601024 ∧ sl + 6 * k ≤ 7293034) (x4 : Int32) (h h0 : gH) (_ : lp_law N k x4 h = some h0) (_ : ∀ (cs sl : Nat) (x4 : Int32), cs ≤ 601024 → sl ≤ 7293034 → gG M X 8 cs sl 1626 [(0, .ref 0), (1, .ref 10), (2, .ref 144), (3, .ref 170), (4, .int x4)] [] h0), gG M X 8 cs sl 23 [(0, .ref 0), (1, .ref 10), (2, .ref 144), (3, .ref 170), (4, .int x4)] [] h := by
  intro k
  induction k with
  | zero =>
    intro cs sl hcs x4 h h0 hy hE
    rw [lp_law.eq_1] at hy
    cases hy
  | succ k ih =>
    intro cs sl hcs x4 h h0 hy hE
    have hf : cs + 1 ≤ 601024 ∧ sl + 6 ≤ 7293034 := by omega
    rw [lp_law.eq_2] at hy
    obtain ⟨n, e_n, hy⟩ := gBd hy
    refine g_iload K d_lw_law_23 4 rfl ?_
    refine g_aload_n K d_lw_law_25 0 rfl ?_
    refine g_slen K d_lw_law_26 e_n ?_
    refine g_bipush (v := 6) K d_lw_law_27 (by decide) ?_
    refine g_isub K d_lw_law_29 ?_
    refine g_icmp_gt K d_lw_law_30 (fun c1 => ?_) (fun c1 => ?_)
    · rw [if_pos c1] at hy
      obtain rfl := Option.some.inj hy
      exact hE cs sl x4 (by omega) (by omega)
    rw [if_neg c1] at hy
    obtain ⟨v, e_v, hy⟩ := gBd hy
    obtain ⟨h1, e_h1, hy⟩ := gBd hy
    refine g_aload_n K d_lw_law_33 0 rfl ?_
    refine g_iload K d_lw_law_34 4 rfl ?_
    refine g_sld K d_lw_law_36 e_v ?_
    refine g_bipush (v := 63) K d_lw_law_37 (by decide) ?_
    refine g_iand K d_lw_law_39 ?_
    have hJ : gG M X 8 (cs + 1) (sl + 6) 1620 [(0, .ref 0), (1, .ref 10), (2, .ref 144), (3, .ref 170), (4, .int x4)] [] h1 := by
      refine g_iinc (ls2 := [(4, .int (x4 + (6 : Int32))), (0, .ref 0), (1, .ref 10), (2, .ref 144), (3, .ref 170)]) (v := 6) K d_lw_law_1620 4 rfl (by decide) rfl rfl ?_
      refine g_goto K d_lw_law_1623 ?_
      refine g_sub (ls2 := [(0, .ref 0), (1, .ref 10), (2, .ref 144), (3, .ref 170), (4, .int (x4 + (6 : Int32)))]) [1, 2, 3, 4, 0] rfl ?_
      exact ih (cs + 1) (sl + 6) (by omega) _ _ _ hy hE
    generalize v &&& (63 : Int32) = w at e_h1 ⊢
    unfold c_law at e_h1
    by_cases c_0 : w = (0 : Int32)
    · rw [if_pos c_0] at e_h1
      refine g_tabIn (v := (0 : Int32)) (off := 204) (tgt := 244) K d_lw_law_40 c_0 (by decide) (by decide) (by decide +kernel) (by decide) ?_
      exact wc_law_0 hfl hx hN K cs sl hf x4 h h1 e_h1 hJ
    rw [if_neg c_0] at e_h1
    by_cases c_1 : w = (1 : Int32)
    · rw [if_pos c_1] at e_h1
      refine g_tabIn (v := (1 : Int32)) (off := 229) (tgt := 269) K d_lw_law_40 c_1 (by decide) (by decide) (by decide +kernel) (by decide) ?_
      exact wc_law_1 hfl hx hN K cs sl hf x4 h h1 e_h1 hJ
    rw [if_neg c_1] at e_h1
    by_cases c_2 : w = (2 : Int32)
    · rw [if_pos c_2] at e_h1
      refine g_tabIn (v := (2 : Int32)) (off := 254) (tgt := 294) K d_lw_law_40 c_2 (by decide) (by decide) (by decide +kernel) (by decide) ?_
      exact wc_law_2 hfl hx hN K cs sl hf x4 h h1 e_h1 hJ
    rw [if_neg c_2] at e_h1
    by_cases c_3 : w = (3 : Int32)
    · rw [if_pos c_3] at e_h1
      refine g_tabIn (v := (3 : Int32)) (off := 267) (tgt := 307) K d_lw_law_40 c_3 (by decide) (by decide) (by decide +kernel) (by decide) ?_
      exact wc_law_3 hfl hx hN K cs sl hf x4 h h1 e_h1 hJ
    rw [if_neg c_3] at e_h1
    by_cases c_4 : w = (4 : Int32)
    · rw [if_pos c_4] at e_h1
      refine g_tabIn (v := (4 : Int32)) (off := 280) (tgt := 320) K d_lw_law_40 c_4 (by decide) (by decide) (by decide +kernel) (by decide) ?_
      exact wc_law_4 hfl hx hN K cs sl hf x4 h h1 e_h1 hJ
    rw [if_neg c_4] at e_h1
    by_cases c_5 : w = (5 : Int32)
    · rw [if_pos c_5] at e_h1
      refine g_tabIn (v := (5 : Int32)) (off := 293) (tgt := 333) K d_lw_law_40 c_5 (by decide) (by decide) (by decide +kernel) (by decide) ?_
      exact wc_law_5 hfl hx hN K cs sl hf x4 h h1 e_h1 hJ
    rw [if_neg c_5] at e_h1
    by_cases c_6 : w = (6 : Int32)
    · rw [if_pos c_6] at e_h1
      refine g_tabIn (v := (6 : Int32)) (off := 361) (tgt := 401) K d_lw_law_40 c_6 (by decide) (by decide) (by decide +kernel) (by decide) ?_
      exact wc_law_6 hfl hx hN K cs sl hf x4 h h1 e_h1 hJ
    rw [if_neg c_6] at e_h1
    by_cases c_7 : w = (7 : Int32)
    · rw [if_pos c_7] at e_h1
      refine g_tabIn (v := (7 : Int32)) (off := 429) (tgt := 469) K d_lw_law_40 c_7 (by decide) (by decide) (by decide +kernel) (by decide) ?_
      exact wc_law_7 hfl hx hN K cs sl hf x4 h h1 e_h1 hJ
    rw [if_neg c_7] at e_h1
    by_cases c_8 : w = (8 : Int32)
    · rw [if_pos c_8] at e_h1
      refine g_tabIn (v := (8 : Int32)) (off := 490) (tgt := 530) K d_lw_law_40 c_8 (by decide) (by decide) (by decide +kernel) (by decide) ?_
      exact wc_law_8 hfl hx hN K cs sl hf x4 h h1 e_h1 hJ
    rw [if_neg c_8] at e_h1
    by_cases c_9 : w = (9 : Int32)
    · rw [if_pos c_9] at e_h1
      refine g_tabIn (v := (9 : Int32)) (off := 515) (tgt := 555) K d_lw_law_40 c_9 (by decide) (by decide) (by decide +kernel) (by decide) ?_
      exact wc_law_9 hfl hx hN K cs sl hf x4 h h1 e_h1 hJ
    rw [if_neg c_9] at e_h1
    by_cases c_10 : w = (10 : Int32)
    · rw [if_pos c_10] at e_h1
      refine g_tabIn (v := (10 : Int32)) (off := 564) (tgt := 604) K d_lw_law_40 c_10 (by decide) (by decide) (by decide +kernel) (by decide) ?_
      exact wc_law_10 hfl hx hN K cs sl hf x4 h h1 e_h1 hJ
    rw [if_neg c_10] at e_h1
    by_cases c_11 : w = (11 : Int32)
    · rw [if_pos c_11] at e_h1
      refine g_tabIn (v := (11 : Int32)) (off := 589) (tgt := 629) K d_lw_law_40 c_11 (by decide) (by decide) (by decide +kernel) (by decide) ?_
      exact wc_law_11 hfl hx hN K cs sl hf x4 h h1 e_h1 hJ
    rw [if_neg c_11] at e_h1
    by_cases c_12 : w = (12 : Int32)
    · rw [if_pos c_12] at e_h1
      refine g_tabIn (v := (12 : Int32)) (off := 614) (tgt := 654) K d_lw_law_40 c_12 (by decide) (by decide) (by decide +kernel) (by decide) ?_
      exact wc_law_12 hfl hx hN K cs sl hf x4 h h1 e_h1 hJ
    rw [if_neg c_12] at e_h1
    by_cases c_13 : w = (13 : Int32)
    · rw [if_pos c_13] at e_h1
      refine g_tabIn (v := (13 : Int32)) (off := 651) (tgt := 691) K d_lw_law_40 c_13 (by decide) (by decide) (by decide +kernel) (by decide) ?_
      exact wc_law_13 hfl hx hN K cs sl hf x4 h h1 e_h1 hJ
    rw [if_neg c_13] at e_h1
    by_cases c_14 : w = (14 : Int32)
    · rw [if_pos c_14] at e_h1
      refine g_tabIn (v := (14 : Int32)) (off := 676) (tgt := 716) K d_lw_law_40 c_14 (by decide) (by decide) (by decide +kernel) (by decide) ?_
      exact wc_law_14 hfl hx hN K cs sl hf x4 h h1 e_h1 hJ
    rw [if_neg c_14] at e_h1
    by_cases c_15 : w = (15 : Int32)
    · rw [if_pos c_15] at e_h1
      refine g_tabIn (v := (15 : Int32)) (off := 689) (tgt := 729) K d_lw_law_40 c_15 (by decide) (by decide) (by decide +kernel) (by decide) ?_
      exact wc_law_15 hfl hx hN K cs sl hf x4 h h1 e_h1 hJ
    rw [if_neg c_15] at e_h1
    by_cases c_16 : w = (16 : Int32)
    · rw [if_pos c_16] at e_h1
      refine g_tabIn (v := (16 : Int32)) (off := 702) (tgt := 742) K d_lw_law_40 c_16 (by decide) (by decide) (by decide +kernel) (by decide) ?_
      exact wc_law_16 hfl hx hN K cs sl hf x4 h h1 e_h1 hJ
    rw [if_neg c_16] at e_h1
    by_cases c_17 : w = (17 : Int32)
    · rw [if_pos c_17] at e_h1
      refine g_tabIn (v := (17 : Int32)) (off := 739) (tgt := 779) K d_lw_law_40 c_17 (by decide) (by decide) (by decide +kernel) (by decide) ?_
      exact wc_law_17 hfl hx hN K cs sl hf x4 h h1 e_h1 hJ
    rw [if_neg c_17] at e_h1
    by_cases c_18 : w = (18 : Int32)
    · rw [if_pos c_18] at e_h1
      refine g_tabIn (v := (18 : Int32)) (off := 764) (tgt := 804) K d_lw_law_40 c_18 (by decide) (by decide) (by decide +kernel) (by decide) ?_
      exact wc_law_18 hfl hx hN K cs sl hf x4 h h1 e_h1 hJ
    rw [if_neg c_18] at e_h1
    by_cases c_19 : w = (19 : Int32)
    · rw [if_pos c_19] at e_h1
      refine g_tabIn (v := (19 : Int32)) (off := 801) (tgt := 841) K d_lw_law_40 c_19 (by decide) (by decide) (by decide +kernel) (by decide) ?_
      exact wc_law_19 hfl hx hN K cs sl hf x4 h h1 e_h1 hJ
    rw [if_neg c_19] at e_h1
    by_cases c_20 : w = (20 : Int32)
    · rw [if_pos c_20] at e_h1
      refine g_tabIn (v := (20 : Int32)) (off := 838) (tgt := 878) K d_lw_law_40 c_20 (by decide) (by decide) (by decide +kernel) (by decide) ?_
      exact wc_law_20 hfl hx hN K cs sl hf x4 h h1 e_h1 hJ
    rw [if_neg c_20] at e_h1
    by_cases c_21 : w = (21 : Int32)
    · rw [if_pos c_21] at e_h1
      refine g_tabIn (v := (21 : Int32)) (off := 863) (tgt := 903) K d_lw_law_40 c_21 (by decide) (by decide) (by decide +kernel) (by decide) ?_
      exact wc_law_21 hfl hx hN K cs sl hf x4 h h1 e_h1 hJ
    rw [if_neg c_21] at e_h1
    by_cases c_22 : w = (22 : Int32)
    · rw [if_pos c_22] at e_h1
      refine g_tabIn (v := (22 : Int32)) (off := 876) (tgt := 916) K d_lw_law_40 c_22 (by decide) (by decide) (by decide +kernel) (by decide) ?_
      exact wc_law_22 hfl hx hN K cs sl hf x4 h h1 e_h1 hJ
    rw [if_neg c_22] at e_h1
    by_cases c_23 : w = (23 : Int32)
    · rw [if_pos c_23] at e_h1
      refine g_tabIn (v := (23 : Int32)) (off := 901) (tgt := 941) K d_lw_law_40 c_23 (by decide) (by decide) (by decide +kernel) (by decide) ?_
      exact wc_law_23 hfl hx hN K cs sl hf x4 h h1 e_h1 hJ
    rw [if_neg c_23] at e_h1
    by_cases c_24 : w = (24 : Int32)
    · rw [if_pos c_24] at e_h1
      refine g_tabIn (v := (24 : Int32)) (off := 938) (tgt := 978) K d_lw_law_40 c_24 (by decide) (by decide) (by decide +kernel) (by decide) ?_
      exact wc_law_24 hfl hx hN K cs sl hf x4 h h1 e_h1 hJ
    rw [if_neg c_24] at e_h1
    by_cases c_25 : w = (25 : Int32)
    · rw [if_pos c_25] at e_h1
      refine g_tabIn (v := (25 : Int32)) (off := 987) (tgt := 1027) K d_lw_law_40 c_25 (by decide) (by decide) (by decide +kernel) (by decide) ?_
      exact wc_law_25 hfl hx hN K cs sl hf x4 h h1 e_h1 hJ
    rw [if_neg c_25] at e_h1
    by_cases c_26 : w = (26 : Int32)
    · rw [if_pos c_26] at e_h1
      refine g_tabIn (v := (26 : Int32)) (off := 1012) (tgt := 1052) K d_lw_law_40 c_26 (by decide) (by decide) (by decide +kernel) (by decide) ?_
      exact wc_law_26 hfl hx hN K cs sl hf x4 h h1 e_h1 hJ
    rw [if_neg c_26] at e_h1
    by_cases c_27 : w = (27 : Int32)
    · rw [if_pos c_27] at e_h1
      refine g_tabIn (v := (27 : Int32)) (off := 1049) (tgt := 1089) K d_lw_law_40 c_27 (by decide) (by decide) (by decide +kernel) (by decide) ?_
      exact wc_law_27 hfl hx hN K cs sl hf x4 h h1 e_h1 hJ
    rw [if_neg c_27] at e_h1
    by_cases c_28 : w = (28 : Int32)
    · rw [if_pos c_28] at e_h1
      refine g_tabIn (v := (28 : Int32)) (off := 1062) (tgt := 1102) K d_lw_law_40 c_28 (by decide) (by decide) (by decide +kernel) (by decide) ?_
      exact wc_law_28 hfl hx hN K cs sl hf x4 h h1 e_h1 hJ
    rw [if_neg c_28] at e_h1
    by_cases c_29 : w = (29 : Int32)
    · rw [if_pos c_29] at e_h1
      refine g_tabIn (v := (29 : Int32)) (off := 1111) (tgt := 1151) K d_lw_law_40 c_29 (by decide) (by decide) (by decide +kernel) (by decide) ?_
      exact wc_law_29 hfl hx hN K cs sl hf x4 h h1 e_h1 hJ
    rw [if_neg c_29] at e_h1
    by_cases c_30 : w = (30 : Int32)
    · rw [if_pos c_30] at e_h1
      refine g_tabIn (v := (30 : Int32)) (off := 1124) (tgt := 1164) K d_lw_law_40 c_30 (by decide) (by decide) (by decide +kernel) (by decide) ?_
      exact wc_law_30 hfl hx hN K cs sl hf x4 h h1 e_h1 hJ
    rw [if_neg c_30] at e_h1
    by_cases c_31 : w = (31 : Int32)
    · rw [if_pos c_31] at e_h1
      refine g_tabIn (v := (31 : Int32)) (off := 1137) (tgt := 1177) K d_lw_law_40 c_31 (by decide) (by decide) (by decide +kernel) (by decide) ?_
      exact wc_law_31 hfl hx hN K cs sl hf x4 h h1 e_h1 hJ
    rw [if_neg c_31] at e_h1
    by_cases c_32 : w = (32 : Int32)
    · rw [if_pos c_32] at e_h1
      refine g_tabIn (v := (32 : Int32)) (off := 1163) (tgt := 1203) K d_lw_law_40 c_32 (by decide) (by decide) (by decide +kernel) (by decide) ?_
      exact wc_law_32 hfl hx hN K cs sl hf x4 h h1 e_h1 hJ
    rw [if_neg c_32] at e_h1
    by_cases c_33 : w = (33 : Int32)
    · rw [if_pos c_33] at e_h1
      refine g_tabIn (v := (33 : Int32)) (off := 1200) (tgt := 1240) K d_lw_law_40 c_33 (by decide) (by decide) (by decide +kernel) (by decide) ?_
      exact wc_law_33 hfl hx hN K cs sl hf x4 h h1 e_h1 hJ
    rw [if_neg c_33] at e_h1
    by_cases c_34 : w = (34 : Int32)
    · rw [if_pos c_34] at e_h1
      refine g_tabIn (v := (34 : Int32)) (off := 1213) (tgt := 1253) K d_lw_law_40 c_34 (by decide) (by decide) (by decide +kernel) (by decide) ?_
      exact wc_law_34 hfl hx hN K cs sl hf x4 h h1 e_h1 hJ
    rw [if_neg c_34] at e_h1
    by_cases c_35 : w = (35 : Int32)
    · rw [if_pos c_35] at e_h1
      refine g_tabIn (v := (35 : Int32)) (off := 1226) (tgt := 1266) K d_lw_law_40 c_35 (by decide) (by decide) (by decide +kernel) (by decide) ?_
      exact wc_law_35 hfl hx hN K cs sl hf x4 h h1 e_h1 hJ
    rw [if_neg c_35] at e_h1
    by_cases c_36 : w = (36 : Int32)
    · rw [if_pos c_36] at e_h1
      refine g_tabIn (v := (36 : Int32)) (off := 1239) (tgt := 1279) K d_lw_law_40 c_36 (by decide) (by decide) (by decide +kernel) (by decide) ?_
      exact wc_law_36 hfl hx hN K cs sl hf x4 h h1 e_h1 hJ
    rw [if_neg c_36] at e_h1
    by_cases c_37 : w = (37 : Int32)
    · rw [if_pos c_37] at e_h1
      refine g_tabIn (v := (37 : Int32)) (off := 1312) (tgt := 1352) K d_lw_law_40 c_37 (by decide) (by decide) (by decide +kernel) (by decide) ?_
      exact wc_law_37 hfl hx hN K cs sl hf x4 h h1 e_h1 hJ
    rw [if_neg c_37] at e_h1
    by_cases c_38 : w = (38 : Int32)
    · rw [if_pos c_38] at e_h1
      refine g_tabIn (v := (38 : Int32)) (off := 1325) (tgt := 1365) K d_lw_law_40 c_38 (by decide) (by decide) (by decide +kernel) (by decide) ?_
      exact wc_law_38 hfl hx hN K cs sl hf x4 h h1 e_h1 hJ
    rw [if_neg c_38] at e_h1
    by_cases c_39 : w = (39 : Int32)
    · rw [if_pos c_39] at e_h1
      refine g_tabIn (v := (39 : Int32)) (off := 1350) (tgt := 1390) K d_lw_law_40 c_39 (by decide) (by decide) (by decide +kernel) (by decide) ?_
      exact wc_law_39 hfl hx hN K cs sl hf x4 h h1 e_h1 hJ
    rw [if_neg c_39] at e_h1
    by_cases c_40 : w = (40 : Int32)
    · rw [if_pos c_40] at e_h1
      refine g_tabIn (v := (40 : Int32)) (off := 1375) (tgt := 1415) K d_lw_law_40 c_40 (by decide) (by decide) (by decide +kernel) (by decide) ?_
      exact wc_law_40 hfl hx hN K cs sl hf x4 h h1 e_h1 hJ
    rw [if_neg c_40] at e_h1
    by_cases c_41 : w = (41 : Int32)
    · rw [if_pos c_41] at e_h1
      refine g_tabIn (v := (41 : Int32)) (off := 1400) (tgt := 1440) K d_lw_law_40 c_41 (by decide) (by decide) (by decide +kernel) (by decide) ?_
      exact wc_law_41 hfl hx hN K cs sl hf x4 h h1 e_h1 hJ
    rw [if_neg c_41] at e_h1
    by_cases c_42 : w = (42 : Int32)
    · rw [if_pos c_42] at e_h1
      refine g_tabIn (v := (42 : Int32)) (off := 1413) (tgt := 1453) K d_lw_law_40 c_42 (by decide) (by decide) (by decide +kernel) (by decide) ?_
      exact wc_law_42 hfl hx hN K cs sl hf x4 h h1 e_h1 hJ
    rw [if_neg c_42] at e_h1
    by_cases c_43 : w = (43 : Int32)
    · rw [if_pos c_43] at e_h1
      refine g_tabIn (v := (43 : Int32)) (off := 1450) (tgt := 1490) K d_lw_law_40 c_43 (by decide) (by decide) (by decide +kernel) (by decide) ?_
      exact wc_law_43 hfl hx hN K cs sl hf x4 h h1 e_h1 hJ
    rw [if_neg c_43] at e_h1
    by_cases c_44 : w = (44 : Int32)
    · rw [if_pos c_44] at e_h1
      refine g_tabIn (v := (44 : Int32)) (off := 1475) (tgt := 1515) K d_lw_law_40 c_44 (by decide) (by decide) (by decide +kernel) (by decide) ?_
      exact wc_law_44 hfl hx hN K cs sl hf x4 h h1 e_h1 hJ
    rw [if_neg c_44] at e_h1
    by_cases c_45 : w = (45 : Int32)
    · rw [if_pos c_45] at e_h1
      refine g_tabIn (v := (45 : Int32)) (off := 1500) (tgt := 1540) K d_lw_law_40 c_45 (by decide) (by decide) (by decide +kernel) (by decide) ?_
      exact wc_law_45 hfl hx hN K cs sl hf x4 h h1 e_h1 hJ
    rw [if_neg c_45] at e_h1
    by_cases c_46 : w = (46 : Int32)
    · rw [if_pos c_46] at e_h1
      refine g_tabIn (v := (46 : Int32)) (off := 1525) (tgt := 1565) K d_lw_law_40 c_46 (by decide) (by decide) (by decide +kernel) (by decide) ?_
      exact wc_law_46 hfl hx hN K cs sl hf x4 h h1 e_h1 hJ
    rw [if_neg c_46] at e_h1
    obtain rfl := Option.some.inj e_h1
    refine g_tabD (tgt := 1620) [(0 : Int32), (1 : Int32), (2 : Int32), (3 : Int32), (4 : Int32), (5 : Int32), (6 : Int32), (7 : Int32), (8 : Int32), (9 : Int32), (10 : Int32), (11 : Int32), (12 : Int32), (13 : Int32), (14 : Int32), (15 : Int32), (16 : Int32), (17 : Int32), (18 : Int32), (19 : Int32), (20 : Int32), (21 : Int32), (22 : Int32), (23 : Int32), (24 : Int32), (25 : Int32), (26 : Int32), (27 : Int32), (28 : Int32), (29 : Int32), (30 : Int32), (31 : Int32), (32 : Int32), (33 : Int32), (34 : Int32), (35 : Int32), (36 : Int32), (37 : Int32), (38 : Int32), (39 : Int32), (40 : Int32), (41 : Int32), (42 : Int32), (43 : Int32), (44 : Int32), (45 : Int32), (46 : Int32)] K d_lw_law_40 (List.forall_mem_cons.mpr ⟨c_0, (List.forall_mem_cons.mpr ⟨c_1, (List.forall_mem_cons.mpr ⟨c_2, (List.forall_mem_cons.mpr ⟨c_3, (List.forall_mem_cons.mpr ⟨c_4, (List.forall_mem_cons.mpr ⟨c_5, (List.forall_mem_cons.mpr ⟨c_6, (List.forall_mem_cons.mpr ⟨c_7, (List.forall_mem_cons.mpr ⟨c_8, (List.forall_mem_cons.mpr ⟨c_9, (List.forall_mem_cons.mpr ⟨c_10, (List.forall_mem_cons.mpr ⟨c_11, (List.forall_mem_cons.mpr ⟨c_12, (List.forall_mem_cons.mpr ⟨c_13, (List.forall_mem_cons.mpr ⟨c_14, (List.forall_mem_cons.mpr ⟨c_15, (List.forall_mem_cons.mpr ⟨c_16, (List.forall_mem_cons.mpr ⟨c_17, (List.forall_mem_cons.mpr ⟨c_18, (List.forall_mem_cons.mpr ⟨c_19, (List.forall_mem_cons.mpr ⟨c_20, (List.forall_mem_cons.mpr ⟨c_21, (List.forall_mem_cons.mpr ⟨c_22, (List.forall_mem_cons.mpr ⟨c_23, (List.forall_mem_cons.mpr ⟨c_24, (List.forall_mem_cons.mpr ⟨c_25, (List.forall_mem_cons.mpr ⟨c_26, (List.forall_mem_cons.mpr ⟨c_27, (List.forall_mem_cons.mpr ⟨c_28, (List.forall_mem_cons.mpr ⟨c_29, (List.forall_mem_cons.mpr ⟨c_30, (List.forall_mem_cons.mpr ⟨c_31, (List.forall_mem_cons.mpr ⟨c_32, (List.forall_mem_cons.mpr ⟨c_33, (List.forall_mem_cons.mpr ⟨c_34, (List.forall_mem_cons.mpr ⟨c_35, (List.forall_mem_cons.mpr ⟨c_36, (List.forall_mem_cons.mpr ⟨c_37, (List.forall_mem_cons.mpr ⟨c_38, (List.forall_mem_cons.mpr ⟨c_39, (List.forall_mem_cons.mpr ⟨c_40, (List.forall_mem_cons.mpr ⟨c_41, (List.forall_mem_cons.mpr ⟨c_42, (List.forall_mem_cons.mpr ⟨c_43, (List.forall_mem_cons.mpr ⟨c_44, (List.forall_mem_cons.mpr ⟨c_45, (List.forall_mem_cons.mpr ⟨c_46, (fun _ h => absurd h List.not_mem_nil)⟩)⟩)⟩)⟩)⟩)⟩)⟩)⟩)⟩)⟩)⟩)⟩)⟩)⟩)⟩)⟩)⟩)⟩)⟩)⟩)⟩)⟩)⟩)⟩)⟩)⟩)⟩)⟩)⟩)⟩)⟩)⟩)⟩)⟩)⟩)⟩)⟩)⟩)⟩)⟩)⟩)⟩)⟩)⟩)⟩)⟩)⟩) (by decide +kernel) (by decide) ?_
    exact g_wid hJ hx
