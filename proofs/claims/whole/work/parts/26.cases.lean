/-! Part 26: the law's cases. -/
set_option maxHeartbeats 4000000 in
set_option maxRecDepth 100000 in
theorem k_valley {p : Program} {l : Launch} {e : Env} {s : State} {m : MethodId} {below : List Frame} {meth : Method} {c : Code} {b L : Nat} {xs : Nat → Int32} {Q : State → Prop} {G : z_GT} {ad am : Nat → Nat} {ox i : Nat} {H : Heap} {locs : List Loc} {ls : Array Slot} (hx : p.tables.exec = Jvm.exec) (hb : c.code = cL_law) (hml : c.maxLocals = 9) (hown : s.vm.findClass RL = some m.cls) (hts : ∀ w ∈ wsL_law, w.before #[Value.ref b] s = true) (hXs : va_X b L xs s s.heap) (hbl : b < s.heap.size) (hst : l.stackTraces = false) (hF : q_F G ad am ox s) (hL : L ≤ 2048) (hi : 4 * i + 4 ≤ L) (hI : q_I G ad am ox s i H locs) (hl : lv_has ls 9 [(0, .ref b), (1, .ref (ad 0)), (2, .ref (am 0)), (3, .ref ox), (4, .int (nI (4 * i)))])
    (hc : ∀ (H : Heap) (locs : List Loc) (ls : Array Slot), q_I G ad am ox s (i + 1) H locs → lv_has ls 9 [(0, .ref b), (1, .ref (ad 0)), (2, .ref (am 0)), (3, .ref ox), (4, .int (nI (4 * i)))] → W p l e room_1 s m #[Value.ref b] below meth c H locs (47 + 12 * (i + 1)) (365 + 100 * (i + 1)) Q (F0 m 1219 ls [])) : W p l e room_1 s m #[Value.ref b] below meth c H locs (47 + 12 * i) (365 + 100 * i) Q (F0 m 124 ls []) := by
  obtain ⟨E, σ, κ, μ, ν, T, o, h, hT, hP, hM, hO, hS⟩ := hI
  have hX := hF.2.2.2.2.2.2.2.2.1
  have hK := hX.1
  have hZ := hF.2.2.2.2.2.2.2.2.2.2
  have hbA : ¬ (fun q : Nat => s.heap.size ≤ q) b := Nat.not_le.mpr hbl
  obtain ⟨k, v, o', E', σ', κ', μ', ν', T', hL1, hM1, hk8, hko, hR, hTT⟩ := P_valley (am := am) hst hF.1 hF.2.1 hF.2.2.1 h (by omega) o (xs (nI (4 * i + 1)).toNatClampNeg) (xs (nI (4 * i + 2)).toNatClampNeg) (xs (nI (4 * i + 3)).toNatClampNeg)
  refine lv_aload_n hx hb dL_law_124 rfl (lv_at hl 1 rfl) ?_
  refine lv_aload_n hx hb dL_law_125 rfl (lv_at hl 0 rfl) ?_
  refine lv_iload hx hb dL_law_126 (lv_at hl 4 rfl) ?_
  refine lv_iconst (v := nI 1) hx hb dL_law_128 (by decide) ?_
  refine lv_iadd hx hb dL_law_129 ?_
  refine z_top (show (.int (nI (4 * i) + nI 1) : Value) = .int (nI (4 * i + 1)) from by rw [nI_add]) ?_
  refine va_sld (i := nI (4 * i + 1)) hx hb hXs hbl hbA hS (vp_in_nI (by omega) (by omega)) dL_law_130 ?_
  refine lv_aload_n hx hb dL_law_131 rfl (lv_at hl 0 rfl) ?_
  refine lv_iload hx hb dL_law_132 (lv_at hl 4 rfl) ?_
  refine lv_iconst (v := nI 2) hx hb dL_law_134 (by decide) ?_
  refine lv_iadd hx hb dL_law_135 ?_
  refine z_top (show (.int (nI (4 * i) + nI 2) : Value) = .int (nI (4 * i + 2)) from by rw [nI_add]) ?_
  refine va_sld (i := nI (4 * i + 2)) hx hb hXs hbl hbA hS (vp_in_nI (by omega) (by omega)) dL_law_136 ?_
  refine lv_aload_n hx hb dL_law_137 rfl (lv_at hl 0 rfl) ?_
  refine lv_iload hx hb dL_law_138 (lv_at hl 4 rfl) ?_
  refine lv_iconst (v := nI 3) hx hb dL_law_140 (by decide) ?_
  refine lv_iadd hx hb dL_law_141 ?_
  refine z_top (show (.int (nI (4 * i) + nI 3) : Value) = .int (nI (4 * i + 3)) from by rw [nI_add]) ?_
  refine va_sld (i := nI (4 * i + 3)) hx hb hXs hbl hbA hS (vp_in_nI (by omega) (by omega)) dL_law_142 ?_
  refine lv_aload_n hx hb dL_law_143 rfl (lv_at hl 3 rfl) ?_
  refine z_calll (vx_runSW (As := [.ref (ad 0), .int (xs (nI (4 * i + 1)).toNatClampNeg), .int (xs (nI (4 * i + 2)).toNatClampNeg), .int (xs (nI (4 * i + 3)).toNatClampNeg), .ref ox]) (rest := []) ⟨hx, hb, hml, hown, hts⟩ hL1 (vx_cwSW 5 hts gL_law_L_valley rfl rfl rfl (by decide +kernel) ⟨Nat.le_of_ble_eq_true rfl, Nat.le_of_ble_eq_true rfl⟩) (z_plS hX hP hO (q_T hF hS)) rfl rfl hl.1 rfl (lv_room (Nat.le_of_ble_eq_true rfl)) dL_law_144 ⟨by show _ ≤ 601024; omega, by show _ ≤ 7293034; omega⟩) hS (q_Al hF) (fun H locs hP hO hz9 hk9 hS => ?_)
  have hM : va_P (z_DD G) vwCl (z_wM G am μ ν) H := z_Pk hM hk9 (q_nM hF)
  refine lv_istore (lv' := [(5, .int k), (0, .ref b), (1, .ref (ad 0)), (2, .ref (am 0)), (3, .ref ox), (4, .int (nI (4 * i)))]) hx hb dL_law_147 hl (by decide) rfl (fun ls hl => ?_)
  refine lv_aload_n hx hb dL_law_149 rfl (lv_at hl 3 rfl) ?_
  refine lv_aload_n hx hb dL_law_150 rfl (lv_at hl 1 rfl) ?_
  refine lv_iload hx hb dL_law_151 (lv_at hl 5 rfl) ?_
  refine lv_iconst (v := nI 1) hx hb dL_law_153 (by decide) ?_
  refine lv_iadd hx hb dL_law_154 ?_
  refine z_top (show (.int (nI (4 * i) + nI 1) : Value) = .int (nI (4 * i + 1)) from by rw [nI_add]) ?_
  refine va_sld (i := nI (4 * i + 1)) hx hb hXs hbl hbA hS (vp_in_nI (by omega) (by omega)) dL_law_155 ?_
  refine lv_aload_n hx hb dL_law_156 rfl (lv_at hl 1 rfl) ?_
  refine lv_iload hx hb dL_law_157 (lv_at hl 5 rfl) ?_
  refine lv_iconst (v := nI 2) hx hb dL_law_159 (by decide) ?_
  refine lv_iadd hx hb dL_law_160 ?_
  refine z_top (show (.int (nI (4 * i) + nI 2) : Value) = .int (nI (4 * i + 2)) from by rw [nI_add]) ?_
  refine va_sld (i := nI (4 * i + 2)) hx hb hXs hbl hbA hS (vp_in_nI (by omega) (by omega)) dL_law_161 ?_
  refine lv_aload_n hx hb dL_law_162 rfl (lv_at hl 1 rfl) ?_
  refine lv_iload hx hb dL_law_163 (lv_at hl 5 rfl) ?_
  refine lv_iconst (v := nI 3) hx hb dL_law_165 (by decide) ?_
  refine lv_iadd hx hb dL_law_166 ?_
  refine z_top (show (.int (nI (4 * i) + nI 3) : Value) = .int (nI (4 * i + 3)) from by rw [nI_add]) ?_
  refine va_sld (i := nI (4 * i + 3)) hx hb hXs hbl hbA hS (vp_in_nI (by omega) (by omega)) dL_law_167 ?_
  refine z_callm (va_runV (As := [.int (xs (nI (4 * i + 1)).toNatClampNeg), .int (xs (nI (4 * i + 2)).toNatClampNeg), .int (xs (nI (4 * i + 3)).toNatClampNeg)]) (rest := []) ⟨hx, hb, hml, hown, hts⟩ hM1 (cwV 3 hts gL_law_X5_valley rfl rfl rfl (by decide +kernel) ⟨Nat.le_of_ble_eq_true rfl, Nat.le_of_ble_eq_true rfl⟩) (z_pcV (ci := 5) (k := 0) hZ hX hM rfl z_m0) rfl rfl hl.1 rfl (lv_room (Nat.le_of_ble_eq_true rfl)) dL_law_168 ⟨by show _ ≤ 601024; omega, by show _ ≤ 7293034; omega⟩) hS (fun q _ h9 => q_A10 hF q h9) (q_A10 hF) (fun H locs hM hz9 hk9 hS => ?_)
  have hP : va_P (z_DD G) vwCl (z_wC G ad σ' κ') H := z_Pk hP hk9 (q_nC hF)
  have hO : va_P (z_DD G) vwCl (z_wO G ox o') H := z_keep1 hO (hk9 _ (z_lt1 hO) (q_nO hF))
  refine W.eq (g2 := F0 m 171 ls [.int v]) rfl ?_
  refine lv_istore (lv' := [(6, .int v), (5, .int k), (0, .ref b), (1, .ref (ad 0)), (2, .ref (am 0)), (3, .ref ox), (4, .int (nI (4 * i)))]) hx hb dL_law_171 hl (by decide) rfl (fun ls hl => ?_)
  refine lv_aload_n hx hb dL_law_173 rfl (lv_at hl 4 rfl) ?_
  refine z_call (va_runV (As := []) (rest := []) ⟨hx, hb, hml, hown, hts⟩ (c_X5_thrown l G am μ' ν') (cwV 0 hts gL_law_X5_thrown rfl rfl rfl (by decide +kernel) ⟨Nat.le_of_ble_eq_true rfl, Nat.le_of_ble_eq_true rfl⟩) (z_prV (ci := 5) (k := 0) hX hM rfl z_m0) rfl rfl hl.1 rfl (lv_room (Nat.le_of_ble_eq_true rfl)) dL_law_174 ⟨by show _ ≤ 601024; omega, by show _ ≤ 7293034; omega⟩) (fun _ h9 => h9) ?_
  refine W.eq (g2 := F0 m 177 ls [.int (μ' 8 1)]) rfl ?_
  refine lv_iload hx hb dL_law_177 (lv_at hl 1 rfl) ?_
  refine lv_icmp_eq (tgt := 184) hx hb dL_law_179 (by decide) (fun _ => ?_) (fun c1 => absurd hk8 c1)
  refine W.widen (k := 47 + 12 * (i + 1)) (n := 365 + 100 * (i + 1)) (by omega) (by omega) ?_
  have hI2 : q_I G ad am ox s (i + 1) H locs := ⟨E', σ', κ', μ', ν', T', o', hR, by omega, hP, hM, hO, hS⟩
  refine lv_iload hx hb dL_law_184 (lv_at hl 1 rfl) ?_
  refine lv_if_ne (tgt := 201) hx hb dL_law_186 (by decide) (fun _ => ?_) (fun c2 => ?_)
  · skip
    refine lv_goto (tgt := 1219) hx hb dL_law_201 (by decide) ?_
    exact hc H locs ls hI2 (lv_sub hl [2, 3, 4, 5, 6] rfl)
  · skip
    refine lv_aload_n hx hb dL_law_189 rfl (lv_at hl 5 rfl) ?_
    refine lv_iconst (v := nI 0) hx hb dL_law_190 (by decide) ?_
    refine va_lald (i := nI 0) (f := fun _ => o') hx hb hK hO 0 4 rfl rfl (vp_in_nI (by decide) (by decide)) dL_law_191 ?_
    refine lv_iload hx hb dL_law_192 (lv_at hl 0 rfl) ?_
    refine lv_i2l hx hb dL_law_194 rfl ?_
    refine W.lcmp hx hb dL_law_195 ?_
    refine lv_if_eq (tgt := 201) hx hb dL_law_196 (by decide) (fun _ => ?_) (fun c3 => absurd (show lg_cmp o' v.toInt64 = 0 by rw [hko c2]; exact q_cmp _) c3)
    refine lv_goto (tgt := 1219) hx hb dL_law_201 (by decide) ?_
    exact hc H locs ls hI2 (lv_sub hl [2, 3, 4, 5, 6] rfl)

set_option maxHeartbeats 4000000 in
set_option maxRecDepth 100000 in
theorem k_road {p : Program} {l : Launch} {e : Env} {s : State} {m : MethodId} {below : List Frame} {meth : Method} {c : Code} {b L : Nat} {xs : Nat → Int32} {Q : State → Prop} {G : z_GT} {ad am : Nat → Nat} {ox i : Nat} {H : Heap} {locs : List Loc} {ls : Array Slot} (hx : p.tables.exec = Jvm.exec) (hb : c.code = cL_law) (hml : c.maxLocals = 9) (hown : s.vm.findClass RL = some m.cls) (hts : ∀ w ∈ wsL_law, w.before #[Value.ref b] s = true) (hXs : va_X b L xs s s.heap) (hbl : b < s.heap.size) (hst : l.stackTraces = false) (hF : q_F G ad am ox s) (hL : L ≤ 2048) (hi : 4 * i + 4 ≤ L) (hI : q_I G ad am ox s i H locs) (hl : lv_has ls 9 [(0, .ref b), (1, .ref (ad 0)), (2, .ref (am 0)), (3, .ref ox), (4, .int (nI (4 * i)))])
    (hc : ∀ (H : Heap) (locs : List Loc) (ls : Array Slot), q_I G ad am ox s (i + 1) H locs → lv_has ls 9 [(0, .ref b), (1, .ref (ad 0)), (2, .ref (am 0)), (3, .ref ox), (4, .int (nI (4 * i)))] → W p l e room_1 s m #[Value.ref b] below meth c H locs (47 + 12 * (i + 1)) (365 + 100 * (i + 1)) Q (F0 m 1219 ls [])) : W p l e room_1 s m #[Value.ref b] below meth c H locs (47 + 12 * i) (365 + 100 * i) Q (F0 m 204 ls []) := by
  obtain ⟨E, σ, κ, μ, ν, T, o, h, hT, hP, hM, hO, hS⟩ := hI
  have hX := hF.2.2.2.2.2.2.2.2.1
  have hK := hX.1
  have hZ := hF.2.2.2.2.2.2.2.2.2.2
  have hbA : ¬ (fun q : Nat => s.heap.size ≤ q) b := Nat.not_le.mpr hbl
  obtain ⟨k, v, o', E', σ', κ', μ', ν', T', hL1, hM1, hk8, hko, hR, hTT⟩ := P_road (am := am) hst hF.1 hF.2.1 hF.2.2.1 h (by omega) o (xs (nI (4 * i + 1)).toNatClampNeg) (xs (nI (4 * i + 2)).toNatClampNeg) (xs (nI (4 * i + 3)).toNatClampNeg)
  refine lv_aload_n hx hb dL_law_204 rfl (lv_at hl 1 rfl) ?_
  refine lv_aload_n hx hb dL_law_205 rfl (lv_at hl 0 rfl) ?_
  refine lv_iload hx hb dL_law_206 (lv_at hl 4 rfl) ?_
  refine lv_iconst (v := nI 1) hx hb dL_law_208 (by decide) ?_
  refine lv_iadd hx hb dL_law_209 ?_
  refine z_top (show (.int (nI (4 * i) + nI 1) : Value) = .int (nI (4 * i + 1)) from by rw [nI_add]) ?_
  refine va_sld (i := nI (4 * i + 1)) hx hb hXs hbl hbA hS (vp_in_nI (by omega) (by omega)) dL_law_210 ?_
  refine lv_aload_n hx hb dL_law_211 rfl (lv_at hl 0 rfl) ?_
  refine lv_iload hx hb dL_law_212 (lv_at hl 4 rfl) ?_
  refine lv_iconst (v := nI 2) hx hb dL_law_214 (by decide) ?_
  refine lv_iadd hx hb dL_law_215 ?_
  refine z_top (show (.int (nI (4 * i) + nI 2) : Value) = .int (nI (4 * i + 2)) from by rw [nI_add]) ?_
  refine va_sld (i := nI (4 * i + 2)) hx hb hXs hbl hbA hS (vp_in_nI (by omega) (by omega)) dL_law_216 ?_
  refine lv_aload_n hx hb dL_law_217 rfl (lv_at hl 0 rfl) ?_
  refine lv_iload hx hb dL_law_218 (lv_at hl 4 rfl) ?_
  refine lv_iconst (v := nI 3) hx hb dL_law_220 (by decide) ?_
  refine lv_iadd hx hb dL_law_221 ?_
  refine z_top (show (.int (nI (4 * i) + nI 3) : Value) = .int (nI (4 * i + 3)) from by rw [nI_add]) ?_
  refine va_sld (i := nI (4 * i + 3)) hx hb hXs hbl hbA hS (vp_in_nI (by omega) (by omega)) dL_law_222 ?_
  refine lv_aload_n hx hb dL_law_223 rfl (lv_at hl 3 rfl) ?_
  refine z_calll (vx_runSW (As := [.ref (ad 0), .int (xs (nI (4 * i + 1)).toNatClampNeg), .int (xs (nI (4 * i + 2)).toNatClampNeg), .int (xs (nI (4 * i + 3)).toNatClampNeg), .ref ox]) (rest := []) ⟨hx, hb, hml, hown, hts⟩ hL1 (vx_cwSW 5 hts gL_law_L_road rfl rfl rfl (by decide +kernel) ⟨Nat.le_of_ble_eq_true rfl, Nat.le_of_ble_eq_true rfl⟩) (z_plS hX hP hO (q_T hF hS)) rfl rfl hl.1 rfl (lv_room (Nat.le_of_ble_eq_true rfl)) dL_law_224 ⟨by show _ ≤ 601024; omega, by show _ ≤ 7293034; omega⟩) hS (q_Al hF) (fun H locs hP hO hz9 hk9 hS => ?_)
  have hM : va_P (z_DD G) vwCl (z_wM G am μ ν) H := z_Pk hM hk9 (q_nM hF)
  refine lv_istore (lv' := [(5, .int k), (0, .ref b), (1, .ref (ad 0)), (2, .ref (am 0)), (3, .ref ox), (4, .int (nI (4 * i)))]) hx hb dL_law_227 hl (by decide) rfl (fun ls hl => ?_)
  refine lv_aload_n hx hb dL_law_229 rfl (lv_at hl 3 rfl) ?_
  refine lv_aload_n hx hb dL_law_230 rfl (lv_at hl 1 rfl) ?_
  refine lv_iload hx hb dL_law_231 (lv_at hl 5 rfl) ?_
  refine lv_iconst (v := nI 1) hx hb dL_law_233 (by decide) ?_
  refine lv_iadd hx hb dL_law_234 ?_
  refine z_top (show (.int (nI (4 * i) + nI 1) : Value) = .int (nI (4 * i + 1)) from by rw [nI_add]) ?_
  refine va_sld (i := nI (4 * i + 1)) hx hb hXs hbl hbA hS (vp_in_nI (by omega) (by omega)) dL_law_235 ?_
  refine lv_aload_n hx hb dL_law_236 rfl (lv_at hl 1 rfl) ?_
  refine lv_iload hx hb dL_law_237 (lv_at hl 5 rfl) ?_
  refine lv_iconst (v := nI 2) hx hb dL_law_239 (by decide) ?_
  refine lv_iadd hx hb dL_law_240 ?_
  refine z_top (show (.int (nI (4 * i) + nI 2) : Value) = .int (nI (4 * i + 2)) from by rw [nI_add]) ?_
  refine va_sld (i := nI (4 * i + 2)) hx hb hXs hbl hbA hS (vp_in_nI (by omega) (by omega)) dL_law_241 ?_
  refine lv_aload_n hx hb dL_law_242 rfl (lv_at hl 1 rfl) ?_
  refine lv_iload hx hb dL_law_243 (lv_at hl 5 rfl) ?_
  refine lv_iconst (v := nI 3) hx hb dL_law_245 (by decide) ?_
  refine lv_iadd hx hb dL_law_246 ?_
  refine z_top (show (.int (nI (4 * i) + nI 3) : Value) = .int (nI (4 * i + 3)) from by rw [nI_add]) ?_
  refine va_sld (i := nI (4 * i + 3)) hx hb hXs hbl hbA hS (vp_in_nI (by omega) (by omega)) dL_law_247 ?_
  refine z_callm (va_runV (As := [.int (xs (nI (4 * i + 1)).toNatClampNeg), .int (xs (nI (4 * i + 2)).toNatClampNeg), .int (xs (nI (4 * i + 3)).toNatClampNeg)]) (rest := []) ⟨hx, hb, hml, hown, hts⟩ hM1 (cwV 3 hts gL_law_X5_road rfl rfl rfl (by decide +kernel) ⟨Nat.le_of_ble_eq_true rfl, Nat.le_of_ble_eq_true rfl⟩) (z_pcV (ci := 5) (k := 0) hZ hX hM rfl z_m0) rfl rfl hl.1 rfl (lv_room (Nat.le_of_ble_eq_true rfl)) dL_law_248 ⟨by show _ ≤ 601024; omega, by show _ ≤ 7293034; omega⟩) hS (fun q _ h9 => q_A10 hF q h9) (q_A10 hF) (fun H locs hM hz9 hk9 hS => ?_)
  have hP : va_P (z_DD G) vwCl (z_wC G ad σ' κ') H := z_Pk hP hk9 (q_nC hF)
  have hO : va_P (z_DD G) vwCl (z_wO G ox o') H := z_keep1 hO (hk9 _ (z_lt1 hO) (q_nO hF))
  refine W.eq (g2 := F0 m 251 ls [.int v]) rfl ?_
  refine lv_istore (lv' := [(6, .int v), (5, .int k), (0, .ref b), (1, .ref (ad 0)), (2, .ref (am 0)), (3, .ref ox), (4, .int (nI (4 * i)))]) hx hb dL_law_251 hl (by decide) rfl (fun ls hl => ?_)
  refine lv_aload_n hx hb dL_law_253 rfl (lv_at hl 4 rfl) ?_
  refine z_call (va_runV (As := []) (rest := []) ⟨hx, hb, hml, hown, hts⟩ (c_X5_thrown l G am μ' ν') (cwV 0 hts gL_law_X5_thrown rfl rfl rfl (by decide +kernel) ⟨Nat.le_of_ble_eq_true rfl, Nat.le_of_ble_eq_true rfl⟩) (z_prV (ci := 5) (k := 0) hX hM rfl z_m0) rfl rfl hl.1 rfl (lv_room (Nat.le_of_ble_eq_true rfl)) dL_law_254 ⟨by show _ ≤ 601024; omega, by show _ ≤ 7293034; omega⟩) (fun _ h9 => h9) ?_
  refine W.eq (g2 := F0 m 257 ls [.int (μ' 8 1)]) rfl ?_
  refine lv_iload hx hb dL_law_257 (lv_at hl 1 rfl) ?_
  refine lv_icmp_eq (tgt := 264) hx hb dL_law_259 (by decide) (fun _ => ?_) (fun c1 => absurd hk8 c1)
  refine W.widen (k := 47 + 12 * (i + 1)) (n := 365 + 100 * (i + 1)) (by omega) (by omega) ?_
  have hI2 : q_I G ad am ox s (i + 1) H locs := ⟨E', σ', κ', μ', ν', T', o', hR, by omega, hP, hM, hO, hS⟩
  refine lv_iload hx hb dL_law_264 (lv_at hl 1 rfl) ?_
  refine lv_if_ne (tgt := 281) hx hb dL_law_266 (by decide) (fun _ => ?_) (fun c2 => ?_)
  · skip
    refine lv_goto (tgt := 1219) hx hb dL_law_281 (by decide) ?_
    exact hc H locs ls hI2 (lv_sub hl [2, 3, 4, 5, 6] rfl)
  · skip
    refine lv_aload_n hx hb dL_law_269 rfl (lv_at hl 5 rfl) ?_
    refine lv_iconst (v := nI 0) hx hb dL_law_270 (by decide) ?_
    refine va_lald (i := nI 0) (f := fun _ => o') hx hb hK hO 0 4 rfl rfl (vp_in_nI (by decide) (by decide)) dL_law_271 ?_
    refine lv_iload hx hb dL_law_272 (lv_at hl 0 rfl) ?_
    refine lv_i2l hx hb dL_law_274 rfl ?_
    refine W.lcmp hx hb dL_law_275 ?_
    refine lv_if_eq (tgt := 281) hx hb dL_law_276 (by decide) (fun _ => ?_) (fun c3 => absurd (show lg_cmp o' v.toInt64 = 0 by rw [hko c2]; exact q_cmp _) c3)
    refine lv_goto (tgt := 1219) hx hb dL_law_281 (by decide) ?_
    exact hc H locs ls hI2 (lv_sub hl [2, 3, 4, 5, 6] rfl)

set_option maxHeartbeats 4000000 in
set_option maxRecDepth 100000 in
theorem k_setHeat {p : Program} {l : Launch} {e : Env} {s : State} {m : MethodId} {below : List Frame} {meth : Method} {c : Code} {b L : Nat} {xs : Nat → Int32} {Q : State → Prop} {G : z_GT} {ad am : Nat → Nat} {ox i : Nat} {H : Heap} {locs : List Loc} {ls : Array Slot} (hx : p.tables.exec = Jvm.exec) (hb : c.code = cL_law) (hml : c.maxLocals = 9) (hown : s.vm.findClass RL = some m.cls) (hts : ∀ w ∈ wsL_law, w.before #[Value.ref b] s = true) (hXs : va_X b L xs s s.heap) (hbl : b < s.heap.size) (hst : l.stackTraces = false) (hF : q_F G ad am ox s) (hL : L ≤ 2048) (hi : 4 * i + 4 ≤ L) (hI : q_I G ad am ox s i H locs) (hl : lv_has ls 9 [(0, .ref b), (1, .ref (ad 0)), (2, .ref (am 0)), (3, .ref ox), (4, .int (nI (4 * i)))])
    (hc : ∀ (H : Heap) (locs : List Loc) (ls : Array Slot), q_I G ad am ox s (i + 1) H locs → lv_has ls 9 [(0, .ref b), (1, .ref (ad 0)), (2, .ref (am 0)), (3, .ref ox), (4, .int (nI (4 * i)))] → W p l e room_1 s m #[Value.ref b] below meth c H locs (47 + 12 * (i + 1)) (365 + 100 * (i + 1)) Q (F0 m 1219 ls [])) : W p l e room_1 s m #[Value.ref b] below meth c H locs (47 + 12 * i) (365 + 100 * i) Q (F0 m 284 ls []) := by
  obtain ⟨E, σ, κ, μ, ν, T, o, h, hT, hP, hM, hO, hS⟩ := hI
  have hX := hF.2.2.2.2.2.2.2.2.1
  have hK := hX.1
  have hZ := hF.2.2.2.2.2.2.2.2.2.2
  have hbA : ¬ (fun q : Nat => s.heap.size ≤ q) b := Nat.not_le.mpr hbl
  obtain ⟨k, v, o', E', σ', κ', μ', ν', T', hL1, hM1, hk8, hko, hR, hTT⟩ := P_setHeat (am := am) hst hF.1 hF.2.1 hF.2.2.1 h (by omega) o (xs (nI (4 * i + 1)).toNatClampNeg) (xs (nI (4 * i + 2)).toNatClampNeg)
  refine lv_aload_n hx hb dL_law_284 rfl (lv_at hl 1 rfl) ?_
  refine lv_aload_n hx hb dL_law_285 rfl (lv_at hl 0 rfl) ?_
  refine lv_iload hx hb dL_law_286 (lv_at hl 4 rfl) ?_
  refine lv_iconst (v := nI 1) hx hb dL_law_288 (by decide) ?_
  refine lv_iadd hx hb dL_law_289 ?_
  refine z_top (show (.int (nI (4 * i) + nI 1) : Value) = .int (nI (4 * i + 1)) from by rw [nI_add]) ?_
  refine va_sld (i := nI (4 * i + 1)) hx hb hXs hbl hbA hS (vp_in_nI (by omega) (by omega)) dL_law_290 ?_
  refine lv_aload_n hx hb dL_law_291 rfl (lv_at hl 0 rfl) ?_
  refine lv_iload hx hb dL_law_292 (lv_at hl 4 rfl) ?_
  refine lv_iconst (v := nI 2) hx hb dL_law_294 (by decide) ?_
  refine lv_iadd hx hb dL_law_295 ?_
  refine z_top (show (.int (nI (4 * i) + nI 2) : Value) = .int (nI (4 * i + 2)) from by rw [nI_add]) ?_
  refine va_sld (i := nI (4 * i + 2)) hx hb hXs hbl hbA hS (vp_in_nI (by omega) (by omega)) dL_law_296 ?_
  refine lv_aload_n hx hb dL_law_297 rfl (lv_at hl 3 rfl) ?_
  refine z_calll (vx_runSW (As := [.ref (ad 0), .int (xs (nI (4 * i + 1)).toNatClampNeg), .int (xs (nI (4 * i + 2)).toNatClampNeg), .ref ox]) (rest := []) ⟨hx, hb, hml, hown, hts⟩ hL1 (vx_cwSW 4 hts gL_law_L_setHeat rfl rfl rfl (by decide +kernel) ⟨Nat.le_of_ble_eq_true rfl, Nat.le_of_ble_eq_true rfl⟩) (z_plS hX hP hO (q_T hF hS)) rfl rfl hl.1 rfl (lv_room (Nat.le_of_ble_eq_true rfl)) dL_law_298 ⟨by show _ ≤ 601024; omega, by show _ ≤ 7293034; omega⟩) hS (q_Al hF) (fun H locs hP hO hz9 hk9 hS => ?_)
  have hM : va_P (z_DD G) vwCl (z_wM G am μ ν) H := z_Pk hM hk9 (q_nM hF)
  refine lv_istore (lv' := [(5, .int k), (0, .ref b), (1, .ref (ad 0)), (2, .ref (am 0)), (3, .ref ox), (4, .int (nI (4 * i)))]) hx hb dL_law_301 hl (by decide) rfl (fun ls hl => ?_)
  refine lv_aload_n hx hb dL_law_303 rfl (lv_at hl 3 rfl) ?_
  refine lv_aload_n hx hb dL_law_304 rfl (lv_at hl 1 rfl) ?_
  refine lv_iload hx hb dL_law_305 (lv_at hl 5 rfl) ?_
  refine lv_iconst (v := nI 1) hx hb dL_law_307 (by decide) ?_
  refine lv_iadd hx hb dL_law_308 ?_
  refine z_top (show (.int (nI (4 * i) + nI 1) : Value) = .int (nI (4 * i + 1)) from by rw [nI_add]) ?_
  refine va_sld (i := nI (4 * i + 1)) hx hb hXs hbl hbA hS (vp_in_nI (by omega) (by omega)) dL_law_309 ?_
  refine lv_aload_n hx hb dL_law_310 rfl (lv_at hl 1 rfl) ?_
  refine lv_iload hx hb dL_law_311 (lv_at hl 5 rfl) ?_
  refine lv_iconst (v := nI 2) hx hb dL_law_313 (by decide) ?_
  refine lv_iadd hx hb dL_law_314 ?_
  refine z_top (show (.int (nI (4 * i) + nI 2) : Value) = .int (nI (4 * i + 2)) from by rw [nI_add]) ?_
  refine va_sld (i := nI (4 * i + 2)) hx hb hXs hbl hbA hS (vp_in_nI (by omega) (by omega)) dL_law_315 ?_
  refine z_callm (va_runV (As := [.int (xs (nI (4 * i + 1)).toNatClampNeg), .int (xs (nI (4 * i + 2)).toNatClampNeg)]) (rest := []) ⟨hx, hb, hml, hown, hts⟩ hM1 (cwV 2 hts gL_law_X5_setHeat rfl rfl rfl (by decide +kernel) ⟨Nat.le_of_ble_eq_true rfl, Nat.le_of_ble_eq_true rfl⟩) (z_pcV (ci := 5) (k := 0) hZ hX hM rfl z_m0) rfl rfl hl.1 rfl (lv_room (Nat.le_of_ble_eq_true rfl)) dL_law_316 ⟨by show _ ≤ 601024; omega, by show _ ≤ 7293034; omega⟩) hS (fun q _ h9 => q_A10 hF q h9) (q_A10 hF) (fun H locs hM hz9 hk9 hS => ?_)
  have hP : va_P (z_DD G) vwCl (z_wC G ad σ' κ') H := z_Pk hP hk9 (q_nC hF)
  have hO : va_P (z_DD G) vwCl (z_wO G ox o') H := z_keep1 hO (hk9 _ (z_lt1 hO) (q_nO hF))
  refine W.eq (g2 := F0 m 319 ls [.int v]) rfl ?_
  refine lv_istore (lv' := [(6, .int v), (5, .int k), (0, .ref b), (1, .ref (ad 0)), (2, .ref (am 0)), (3, .ref ox), (4, .int (nI (4 * i)))]) hx hb dL_law_319 hl (by decide) rfl (fun ls hl => ?_)
  refine lv_aload_n hx hb dL_law_321 rfl (lv_at hl 4 rfl) ?_
  refine z_call (va_runV (As := []) (rest := []) ⟨hx, hb, hml, hown, hts⟩ (c_X5_thrown l G am μ' ν') (cwV 0 hts gL_law_X5_thrown rfl rfl rfl (by decide +kernel) ⟨Nat.le_of_ble_eq_true rfl, Nat.le_of_ble_eq_true rfl⟩) (z_prV (ci := 5) (k := 0) hX hM rfl z_m0) rfl rfl hl.1 rfl (lv_room (Nat.le_of_ble_eq_true rfl)) dL_law_322 ⟨by show _ ≤ 601024; omega, by show _ ≤ 7293034; omega⟩) (fun _ h9 => h9) ?_
  refine W.eq (g2 := F0 m 325 ls [.int (μ' 8 1)]) rfl ?_
  refine lv_iload hx hb dL_law_325 (lv_at hl 1 rfl) ?_
  refine lv_icmp_eq (tgt := 332) hx hb dL_law_327 (by decide) (fun _ => ?_) (fun c1 => absurd hk8 c1)
  refine W.widen (k := 47 + 12 * (i + 1)) (n := 365 + 100 * (i + 1)) (by omega) (by omega) ?_
  have hI2 : q_I G ad am ox s (i + 1) H locs := ⟨E', σ', κ', μ', ν', T', o', hR, by omega, hP, hM, hO, hS⟩
  refine lv_iload hx hb dL_law_332 (lv_at hl 1 rfl) ?_
  refine lv_if_ne (tgt := 349) hx hb dL_law_334 (by decide) (fun _ => ?_) (fun c2 => ?_)
  · skip
    refine lv_goto (tgt := 1219) hx hb dL_law_349 (by decide) ?_
    exact hc H locs ls hI2 (lv_sub hl [2, 3, 4, 5, 6] rfl)
  · skip
    refine lv_aload_n hx hb dL_law_337 rfl (lv_at hl 5 rfl) ?_
    refine lv_iconst (v := nI 0) hx hb dL_law_338 (by decide) ?_
    refine va_lald (i := nI 0) (f := fun _ => o') hx hb hK hO 0 4 rfl rfl (vp_in_nI (by decide) (by decide)) dL_law_339 ?_
    refine lv_iload hx hb dL_law_340 (lv_at hl 0 rfl) ?_
    refine lv_i2l hx hb dL_law_342 rfl ?_
    refine W.lcmp hx hb dL_law_343 ?_
    refine lv_if_eq (tgt := 349) hx hb dL_law_344 (by decide) (fun _ => ?_) (fun c3 => absurd (show lg_cmp o' v.toInt64 = 0 by rw [hko c2]; exact q_cmp _) c3)
    refine lv_goto (tgt := 1219) hx hb dL_law_349 (by decide) ?_
    exact hc H locs ls hI2 (lv_sub hl [2, 3, 4, 5, 6] rfl)

set_option maxHeartbeats 4000000 in
set_option maxRecDepth 100000 in
theorem k_bloom {p : Program} {l : Launch} {e : Env} {s : State} {m : MethodId} {below : List Frame} {meth : Method} {c : Code} {b L : Nat} {xs : Nat → Int32} {Q : State → Prop} {G : z_GT} {ad am : Nat → Nat} {ox i : Nat} {H : Heap} {locs : List Loc} {ls : Array Slot} (hx : p.tables.exec = Jvm.exec) (hb : c.code = cL_law) (hml : c.maxLocals = 9) (hown : s.vm.findClass RL = some m.cls) (hts : ∀ w ∈ wsL_law, w.before #[Value.ref b] s = true) (hXs : va_X b L xs s s.heap) (hbl : b < s.heap.size) (hst : l.stackTraces = false) (hF : q_F G ad am ox s) (hL : L ≤ 2048) (hi : 4 * i + 4 ≤ L) (hI : q_I G ad am ox s i H locs) (hl : lv_has ls 9 [(0, .ref b), (1, .ref (ad 0)), (2, .ref (am 0)), (3, .ref ox), (4, .int (nI (4 * i)))])
    (hc : ∀ (H : Heap) (locs : List Loc) (ls : Array Slot), q_I G ad am ox s (i + 1) H locs → lv_has ls 9 [(0, .ref b), (1, .ref (ad 0)), (2, .ref (am 0)), (3, .ref ox), (4, .int (nI (4 * i)))] → W p l e room_1 s m #[Value.ref b] below meth c H locs (47 + 12 * (i + 1)) (365 + 100 * (i + 1)) Q (F0 m 1219 ls [])) : W p l e room_1 s m #[Value.ref b] below meth c H locs (47 + 12 * i) (365 + 100 * i) Q (F0 m 352 ls []) := by
  obtain ⟨E, σ, κ, μ, ν, T, o, h, hT, hP, hM, hO, hS⟩ := hI
  have hX := hF.2.2.2.2.2.2.2.2.1
  have hK := hX.1
  have hZ := hF.2.2.2.2.2.2.2.2.2.2
  have hbA : ¬ (fun q : Nat => s.heap.size ≤ q) b := Nat.not_le.mpr hbl
  obtain ⟨k, v, o', E', σ', κ', μ', ν', T', hL1, hM1, hk8, hko, hR, hTT⟩ := P_bloom (am := am) hst hF.1 hF.2.1 hF.2.2.1 h (by omega) o (xs (nI (4 * i + 1)).toNatClampNeg) (xs (nI (4 * i + 2)).toNatClampNeg)
  refine lv_aload_n hx hb dL_law_352 rfl (lv_at hl 1 rfl) ?_
  refine lv_aload_n hx hb dL_law_353 rfl (lv_at hl 0 rfl) ?_
  refine lv_iload hx hb dL_law_354 (lv_at hl 4 rfl) ?_
  refine lv_iconst (v := nI 1) hx hb dL_law_356 (by decide) ?_
  refine lv_iadd hx hb dL_law_357 ?_
  refine z_top (show (.int (nI (4 * i) + nI 1) : Value) = .int (nI (4 * i + 1)) from by rw [nI_add]) ?_
  refine va_sld (i := nI (4 * i + 1)) hx hb hXs hbl hbA hS (vp_in_nI (by omega) (by omega)) dL_law_358 ?_
  refine lv_aload_n hx hb dL_law_359 rfl (lv_at hl 0 rfl) ?_
  refine lv_iload hx hb dL_law_360 (lv_at hl 4 rfl) ?_
  refine lv_iconst (v := nI 2) hx hb dL_law_362 (by decide) ?_
  refine lv_iadd hx hb dL_law_363 ?_
  refine z_top (show (.int (nI (4 * i) + nI 2) : Value) = .int (nI (4 * i + 2)) from by rw [nI_add]) ?_
  refine va_sld (i := nI (4 * i + 2)) hx hb hXs hbl hbA hS (vp_in_nI (by omega) (by omega)) dL_law_364 ?_
  refine lv_aload_n hx hb dL_law_365 rfl (lv_at hl 3 rfl) ?_
  refine z_calll (vx_runSW (As := [.ref (ad 0), .int (xs (nI (4 * i + 1)).toNatClampNeg), .int (xs (nI (4 * i + 2)).toNatClampNeg), .ref ox]) (rest := []) ⟨hx, hb, hml, hown, hts⟩ hL1 (vx_cwSW 4 hts gL_law_L_bloom rfl rfl rfl (by decide +kernel) ⟨Nat.le_of_ble_eq_true rfl, Nat.le_of_ble_eq_true rfl⟩) (z_plS hX hP hO (q_T hF hS)) rfl rfl hl.1 rfl (lv_room (Nat.le_of_ble_eq_true rfl)) dL_law_366 ⟨by show _ ≤ 601024; omega, by show _ ≤ 7293034; omega⟩) hS (q_Al hF) (fun H locs hP hO hz9 hk9 hS => ?_)
  have hM : va_P (z_DD G) vwCl (z_wM G am μ ν) H := z_Pk hM hk9 (q_nM hF)
  refine lv_istore (lv' := [(5, .int k), (0, .ref b), (1, .ref (ad 0)), (2, .ref (am 0)), (3, .ref ox), (4, .int (nI (4 * i)))]) hx hb dL_law_369 hl (by decide) rfl (fun ls hl => ?_)
  refine lv_aload_n hx hb dL_law_371 rfl (lv_at hl 3 rfl) ?_
  refine lv_aload_n hx hb dL_law_372 rfl (lv_at hl 1 rfl) ?_
  refine lv_iload hx hb dL_law_373 (lv_at hl 5 rfl) ?_
  refine lv_iconst (v := nI 1) hx hb dL_law_375 (by decide) ?_
  refine lv_iadd hx hb dL_law_376 ?_
  refine z_top (show (.int (nI (4 * i) + nI 1) : Value) = .int (nI (4 * i + 1)) from by rw [nI_add]) ?_
  refine va_sld (i := nI (4 * i + 1)) hx hb hXs hbl hbA hS (vp_in_nI (by omega) (by omega)) dL_law_377 ?_
  refine lv_aload_n hx hb dL_law_378 rfl (lv_at hl 1 rfl) ?_
  refine lv_iload hx hb dL_law_379 (lv_at hl 5 rfl) ?_
  refine lv_iconst (v := nI 2) hx hb dL_law_381 (by decide) ?_
  refine lv_iadd hx hb dL_law_382 ?_
  refine z_top (show (.int (nI (4 * i) + nI 2) : Value) = .int (nI (4 * i + 2)) from by rw [nI_add]) ?_
  refine va_sld (i := nI (4 * i + 2)) hx hb hXs hbl hbA hS (vp_in_nI (by omega) (by omega)) dL_law_383 ?_
  refine z_callm (va_runV (As := [.int (xs (nI (4 * i + 1)).toNatClampNeg), .int (xs (nI (4 * i + 2)).toNatClampNeg)]) (rest := []) ⟨hx, hb, hml, hown, hts⟩ hM1 (cwV 2 hts gL_law_X5_bloom rfl rfl rfl (by decide +kernel) ⟨Nat.le_of_ble_eq_true rfl, Nat.le_of_ble_eq_true rfl⟩) (z_pcV (ci := 5) (k := 0) hZ hX hM rfl z_m0) rfl rfl hl.1 rfl (lv_room (Nat.le_of_ble_eq_true rfl)) dL_law_384 ⟨by show _ ≤ 601024; omega, by show _ ≤ 7293034; omega⟩) hS (fun q _ h9 => q_A10 hF q h9) (q_A10 hF) (fun H locs hM hz9 hk9 hS => ?_)
  have hP : va_P (z_DD G) vwCl (z_wC G ad σ' κ') H := z_Pk hP hk9 (q_nC hF)
  have hO : va_P (z_DD G) vwCl (z_wO G ox o') H := z_keep1 hO (hk9 _ (z_lt1 hO) (q_nO hF))
  refine W.eq (g2 := F0 m 387 ls [.int v]) rfl ?_
  refine lv_istore (lv' := [(6, .int v), (5, .int k), (0, .ref b), (1, .ref (ad 0)), (2, .ref (am 0)), (3, .ref ox), (4, .int (nI (4 * i)))]) hx hb dL_law_387 hl (by decide) rfl (fun ls hl => ?_)
  refine lv_aload_n hx hb dL_law_389 rfl (lv_at hl 4 rfl) ?_
  refine z_call (va_runV (As := []) (rest := []) ⟨hx, hb, hml, hown, hts⟩ (c_X5_thrown l G am μ' ν') (cwV 0 hts gL_law_X5_thrown rfl rfl rfl (by decide +kernel) ⟨Nat.le_of_ble_eq_true rfl, Nat.le_of_ble_eq_true rfl⟩) (z_prV (ci := 5) (k := 0) hX hM rfl z_m0) rfl rfl hl.1 rfl (lv_room (Nat.le_of_ble_eq_true rfl)) dL_law_390 ⟨by show _ ≤ 601024; omega, by show _ ≤ 7293034; omega⟩) (fun _ h9 => h9) ?_
  refine W.eq (g2 := F0 m 393 ls [.int (μ' 8 1)]) rfl ?_
  refine lv_iload hx hb dL_law_393 (lv_at hl 1 rfl) ?_
  refine lv_icmp_eq (tgt := 400) hx hb dL_law_395 (by decide) (fun _ => ?_) (fun c1 => absurd hk8 c1)
  refine W.widen (k := 47 + 12 * (i + 1)) (n := 365 + 100 * (i + 1)) (by omega) (by omega) ?_
  have hI2 : q_I G ad am ox s (i + 1) H locs := ⟨E', σ', κ', μ', ν', T', o', hR, by omega, hP, hM, hO, hS⟩
  refine lv_iload hx hb dL_law_400 (lv_at hl 1 rfl) ?_
  refine lv_if_ne (tgt := 417) hx hb dL_law_402 (by decide) (fun _ => ?_) (fun c2 => ?_)
  · skip
    refine lv_goto (tgt := 1219) hx hb dL_law_417 (by decide) ?_
    exact hc H locs ls hI2 (lv_sub hl [2, 3, 4, 5, 6] rfl)
  · skip
    refine lv_aload_n hx hb dL_law_405 rfl (lv_at hl 5 rfl) ?_
    refine lv_iconst (v := nI 0) hx hb dL_law_406 (by decide) ?_
    refine va_lald (i := nI 0) (f := fun _ => o') hx hb hK hO 0 4 rfl rfl (vp_in_nI (by decide) (by decide)) dL_law_407 ?_
    refine lv_iload hx hb dL_law_408 (lv_at hl 0 rfl) ?_
    refine lv_i2l hx hb dL_law_410 rfl ?_
    refine W.lcmp hx hb dL_law_411 ?_
    refine lv_if_eq (tgt := 417) hx hb dL_law_412 (by decide) (fun _ => ?_) (fun c3 => absurd (show lg_cmp o' v.toInt64 = 0 by rw [hko c2]; exact q_cmp _) c3)
    refine lv_goto (tgt := 1219) hx hb dL_law_417 (by decide) ?_
    exact hc H locs ls hI2 (lv_sub hl [2, 3, 4, 5, 6] rfl)

set_option maxHeartbeats 4000000 in
set_option maxRecDepth 100000 in
theorem k_way {p : Program} {l : Launch} {e : Env} {s : State} {m : MethodId} {below : List Frame} {meth : Method} {c : Code} {b L : Nat} {xs : Nat → Int32} {Q : State → Prop} {G : z_GT} {ad am : Nat → Nat} {ox i : Nat} {H : Heap} {locs : List Loc} {ls : Array Slot} (hx : p.tables.exec = Jvm.exec) (hb : c.code = cL_law) (hml : c.maxLocals = 9) (hown : s.vm.findClass RL = some m.cls) (hts : ∀ w ∈ wsL_law, w.before #[Value.ref b] s = true) (hXs : va_X b L xs s s.heap) (hbl : b < s.heap.size) (hst : l.stackTraces = false) (hF : q_F G ad am ox s) (hL : L ≤ 2048) (hi : 4 * i + 4 ≤ L) (hI : q_I G ad am ox s i H locs) (hl : lv_has ls 9 [(0, .ref b), (1, .ref (ad 0)), (2, .ref (am 0)), (3, .ref ox), (4, .int (nI (4 * i)))])
    (hc : ∀ (H : Heap) (locs : List Loc) (ls : Array Slot), q_I G ad am ox s (i + 1) H locs → lv_has ls 9 [(0, .ref b), (1, .ref (ad 0)), (2, .ref (am 0)), (3, .ref ox), (4, .int (nI (4 * i)))] → W p l e room_1 s m #[Value.ref b] below meth c H locs (47 + 12 * (i + 1)) (365 + 100 * (i + 1)) Q (F0 m 1219 ls [])) : W p l e room_1 s m #[Value.ref b] below meth c H locs (47 + 12 * i) (365 + 100 * i) Q (F0 m 420 ls []) := by
  obtain ⟨E, σ, κ, μ, ν, T, o, h, hT, hP, hM, hO, hS⟩ := hI
  have hX := hF.2.2.2.2.2.2.2.2.1
  have hK := hX.1
  have hZ := hF.2.2.2.2.2.2.2.2.2.2
  have hbA : ¬ (fun q : Nat => s.heap.size ≤ q) b := Nat.not_le.mpr hbl
  obtain ⟨k, v, o', E', σ', κ', μ', ν', T', hL1, hM1, hk8, hko, hR, hTT⟩ := P_way (am := am) hst hF.1 hF.2.1 hF.2.2.1 h (by omega) o (xs (nI (4 * i + 1)).toNatClampNeg) (xs (nI (4 * i + 2)).toNatClampNeg)
  refine lv_aload_n hx hb dL_law_420 rfl (lv_at hl 1 rfl) ?_
  refine lv_aload_n hx hb dL_law_421 rfl (lv_at hl 0 rfl) ?_
  refine lv_iload hx hb dL_law_422 (lv_at hl 4 rfl) ?_
  refine lv_iconst (v := nI 1) hx hb dL_law_424 (by decide) ?_
  refine lv_iadd hx hb dL_law_425 ?_
  refine z_top (show (.int (nI (4 * i) + nI 1) : Value) = .int (nI (4 * i + 1)) from by rw [nI_add]) ?_
  refine va_sld (i := nI (4 * i + 1)) hx hb hXs hbl hbA hS (vp_in_nI (by omega) (by omega)) dL_law_426 ?_
  refine lv_aload_n hx hb dL_law_427 rfl (lv_at hl 0 rfl) ?_
  refine lv_iload hx hb dL_law_428 (lv_at hl 4 rfl) ?_
  refine lv_iconst (v := nI 2) hx hb dL_law_430 (by decide) ?_
  refine lv_iadd hx hb dL_law_431 ?_
  refine z_top (show (.int (nI (4 * i) + nI 2) : Value) = .int (nI (4 * i + 2)) from by rw [nI_add]) ?_
  refine va_sld (i := nI (4 * i + 2)) hx hb hXs hbl hbA hS (vp_in_nI (by omega) (by omega)) dL_law_432 ?_
  refine lv_aload_n hx hb dL_law_433 rfl (lv_at hl 3 rfl) ?_
  refine z_calll (vx_runSW (As := [.ref (ad 0), .int (xs (nI (4 * i + 1)).toNatClampNeg), .int (xs (nI (4 * i + 2)).toNatClampNeg), .ref ox]) (rest := []) ⟨hx, hb, hml, hown, hts⟩ hL1 (vx_cwSW 4 hts gL_law_L_way rfl rfl rfl (by decide +kernel) ⟨Nat.le_of_ble_eq_true rfl, Nat.le_of_ble_eq_true rfl⟩) (z_plS hX hP hO (q_T hF hS)) rfl rfl hl.1 rfl (lv_room (Nat.le_of_ble_eq_true rfl)) dL_law_434 ⟨by show _ ≤ 601024; omega, by show _ ≤ 7293034; omega⟩) hS (q_Al hF) (fun H locs hP hO hz9 hk9 hS => ?_)
  have hM : va_P (z_DD G) vwCl (z_wM G am μ ν) H := z_Pk hM hk9 (q_nM hF)
  refine lv_istore (lv' := [(5, .int k), (0, .ref b), (1, .ref (ad 0)), (2, .ref (am 0)), (3, .ref ox), (4, .int (nI (4 * i)))]) hx hb dL_law_437 hl (by decide) rfl (fun ls hl => ?_)
  refine lv_aload_n hx hb dL_law_439 rfl (lv_at hl 3 rfl) ?_
  refine lv_aload_n hx hb dL_law_440 rfl (lv_at hl 1 rfl) ?_
  refine lv_iload hx hb dL_law_441 (lv_at hl 5 rfl) ?_
  refine lv_iconst (v := nI 1) hx hb dL_law_443 (by decide) ?_
  refine lv_iadd hx hb dL_law_444 ?_
  refine z_top (show (.int (nI (4 * i) + nI 1) : Value) = .int (nI (4 * i + 1)) from by rw [nI_add]) ?_
  refine va_sld (i := nI (4 * i + 1)) hx hb hXs hbl hbA hS (vp_in_nI (by omega) (by omega)) dL_law_445 ?_
  refine lv_aload_n hx hb dL_law_446 rfl (lv_at hl 1 rfl) ?_
  refine lv_iload hx hb dL_law_447 (lv_at hl 5 rfl) ?_
  refine lv_iconst (v := nI 2) hx hb dL_law_449 (by decide) ?_
  refine lv_iadd hx hb dL_law_450 ?_
  refine z_top (show (.int (nI (4 * i) + nI 2) : Value) = .int (nI (4 * i + 2)) from by rw [nI_add]) ?_
  refine va_sld (i := nI (4 * i + 2)) hx hb hXs hbl hbA hS (vp_in_nI (by omega) (by omega)) dL_law_451 ?_
  refine z_callm (va_runV (As := [.int (xs (nI (4 * i + 1)).toNatClampNeg), .int (xs (nI (4 * i + 2)).toNatClampNeg)]) (rest := []) ⟨hx, hb, hml, hown, hts⟩ hM1 (cwV 2 hts gL_law_X5_way rfl rfl rfl (by decide +kernel) ⟨Nat.le_of_ble_eq_true rfl, Nat.le_of_ble_eq_true rfl⟩) (z_pcV (ci := 5) (k := 0) hZ hX hM rfl z_m0) rfl rfl hl.1 rfl (lv_room (Nat.le_of_ble_eq_true rfl)) dL_law_452 ⟨by show _ ≤ 601024; omega, by show _ ≤ 7293034; omega⟩) hS (fun q _ h9 => q_A10 hF q h9) (q_A10 hF) (fun H locs hM hz9 hk9 hS => ?_)
  have hP : va_P (z_DD G) vwCl (z_wC G ad σ' κ') H := z_Pk hP hk9 (q_nC hF)
  have hO : va_P (z_DD G) vwCl (z_wO G ox o') H := z_keep1 hO (hk9 _ (z_lt1 hO) (q_nO hF))
  refine W.eq (g2 := F0 m 455 ls [.int v]) rfl ?_
  refine lv_istore (lv' := [(6, .int v), (5, .int k), (0, .ref b), (1, .ref (ad 0)), (2, .ref (am 0)), (3, .ref ox), (4, .int (nI (4 * i)))]) hx hb dL_law_455 hl (by decide) rfl (fun ls hl => ?_)
  refine lv_aload_n hx hb dL_law_457 rfl (lv_at hl 4 rfl) ?_
  refine z_call (va_runV (As := []) (rest := []) ⟨hx, hb, hml, hown, hts⟩ (c_X5_thrown l G am μ' ν') (cwV 0 hts gL_law_X5_thrown rfl rfl rfl (by decide +kernel) ⟨Nat.le_of_ble_eq_true rfl, Nat.le_of_ble_eq_true rfl⟩) (z_prV (ci := 5) (k := 0) hX hM rfl z_m0) rfl rfl hl.1 rfl (lv_room (Nat.le_of_ble_eq_true rfl)) dL_law_458 ⟨by show _ ≤ 601024; omega, by show _ ≤ 7293034; omega⟩) (fun _ h9 => h9) ?_
  refine W.eq (g2 := F0 m 461 ls [.int (μ' 8 1)]) rfl ?_
  refine lv_iload hx hb dL_law_461 (lv_at hl 1 rfl) ?_
  refine lv_icmp_eq (tgt := 468) hx hb dL_law_463 (by decide) (fun _ => ?_) (fun c1 => absurd hk8 c1)
  refine W.widen (k := 47 + 12 * (i + 1)) (n := 365 + 100 * (i + 1)) (by omega) (by omega) ?_
  have hI2 : q_I G ad am ox s (i + 1) H locs := ⟨E', σ', κ', μ', ν', T', o', hR, by omega, hP, hM, hO, hS⟩
  refine lv_iload hx hb dL_law_468 (lv_at hl 1 rfl) ?_
  refine lv_if_ne (tgt := 485) hx hb dL_law_470 (by decide) (fun _ => ?_) (fun c2 => ?_)
  · skip
    refine lv_goto (tgt := 1219) hx hb dL_law_485 (by decide) ?_
    exact hc H locs ls hI2 (lv_sub hl [2, 3, 4, 5, 6] rfl)
  · skip
    refine lv_aload_n hx hb dL_law_473 rfl (lv_at hl 5 rfl) ?_
    refine lv_iconst (v := nI 0) hx hb dL_law_474 (by decide) ?_
    refine va_lald (i := nI 0) (f := fun _ => o') hx hb hK hO 0 4 rfl rfl (vp_in_nI (by decide) (by decide)) dL_law_475 ?_
    refine lv_iload hx hb dL_law_476 (lv_at hl 0 rfl) ?_
    refine lv_i2l hx hb dL_law_478 rfl ?_
    refine W.lcmp hx hb dL_law_479 ?_
    refine lv_if_eq (tgt := 485) hx hb dL_law_480 (by decide) (fun _ => ?_) (fun c3 => absurd (show lg_cmp o' v.toInt64 = 0 by rw [hko c2]; exact q_cmp _) c3)
    refine lv_goto (tgt := 1219) hx hb dL_law_485 (by decide) ?_
    exact hc H locs ls hI2 (lv_sub hl [2, 3, 4, 5, 6] rfl)

set_option maxHeartbeats 4000000 in
set_option maxRecDepth 100000 in
theorem k_tour {p : Program} {l : Launch} {e : Env} {s : State} {m : MethodId} {below : List Frame} {meth : Method} {c : Code} {b L : Nat} {xs : Nat → Int32} {Q : State → Prop} {G : z_GT} {ad am : Nat → Nat} {ox i : Nat} {H : Heap} {locs : List Loc} {ls : Array Slot} (hx : p.tables.exec = Jvm.exec) (hb : c.code = cL_law) (hml : c.maxLocals = 9) (hown : s.vm.findClass RL = some m.cls) (hts : ∀ w ∈ wsL_law, w.before #[Value.ref b] s = true) (hXs : va_X b L xs s s.heap) (hbl : b < s.heap.size) (hst : l.stackTraces = false) (hF : q_F G ad am ox s) (hL : L ≤ 2048) (hi : 4 * i + 4 ≤ L) (hI : q_I G ad am ox s i H locs) (hl : lv_has ls 9 [(0, .ref b), (1, .ref (ad 0)), (2, .ref (am 0)), (3, .ref ox), (4, .int (nI (4 * i)))])
    (hc : ∀ (H : Heap) (locs : List Loc) (ls : Array Slot), q_I G ad am ox s (i + 1) H locs → lv_has ls 9 [(0, .ref b), (1, .ref (ad 0)), (2, .ref (am 0)), (3, .ref ox), (4, .int (nI (4 * i)))] → W p l e room_1 s m #[Value.ref b] below meth c H locs (47 + 12 * (i + 1)) (365 + 100 * (i + 1)) Q (F0 m 1219 ls [])) : W p l e room_1 s m #[Value.ref b] below meth c H locs (47 + 12 * i) (365 + 100 * i) Q (F0 m 488 ls []) := by
  obtain ⟨E, σ, κ, μ, ν, T, o, h, hT, hP, hM, hO, hS⟩ := hI
  have hX := hF.2.2.2.2.2.2.2.2.1
  have hK := hX.1
  have hZ := hF.2.2.2.2.2.2.2.2.2.2
  have hbA : ¬ (fun q : Nat => s.heap.size ≤ q) b := Nat.not_le.mpr hbl
  obtain ⟨k, v, o', E', σ', κ', μ', ν', T', hL1, hM1, hk8, hko, hR, hTT⟩ := P_tour (am := am) hst hF.1 hF.2.1 hF.2.2.1 h (by omega) o (xs (nI (4 * i + 1)).toNatClampNeg)
  refine lv_aload_n hx hb dL_law_488 rfl (lv_at hl 1 rfl) ?_
  refine lv_aload_n hx hb dL_law_489 rfl (lv_at hl 0 rfl) ?_
  refine lv_iload hx hb dL_law_490 (lv_at hl 4 rfl) ?_
  refine lv_iconst (v := nI 1) hx hb dL_law_492 (by decide) ?_
  refine lv_iadd hx hb dL_law_493 ?_
  refine z_top (show (.int (nI (4 * i) + nI 1) : Value) = .int (nI (4 * i + 1)) from by rw [nI_add]) ?_
  refine va_sld (i := nI (4 * i + 1)) hx hb hXs hbl hbA hS (vp_in_nI (by omega) (by omega)) dL_law_494 ?_
  refine lv_aload_n hx hb dL_law_495 rfl (lv_at hl 3 rfl) ?_
  refine z_calll (vx_runSW (As := [.ref (ad 0), .int (xs (nI (4 * i + 1)).toNatClampNeg), .ref ox]) (rest := []) ⟨hx, hb, hml, hown, hts⟩ hL1 (vx_cwSW 3 hts gL_law_L_tour rfl rfl rfl (by decide +kernel) ⟨Nat.le_of_ble_eq_true rfl, Nat.le_of_ble_eq_true rfl⟩) (z_plS hX hP hO (q_T hF hS)) rfl rfl hl.1 rfl (lv_room (Nat.le_of_ble_eq_true rfl)) dL_law_496 ⟨by show _ ≤ 601024; omega, by show _ ≤ 7293034; omega⟩) hS (q_Al hF) (fun H locs hP hO hz9 hk9 hS => ?_)
  have hM : va_P (z_DD G) vwCl (z_wM G am μ ν) H := z_Pk hM hk9 (q_nM hF)
  refine lv_istore (lv' := [(5, .int k), (0, .ref b), (1, .ref (ad 0)), (2, .ref (am 0)), (3, .ref ox), (4, .int (nI (4 * i)))]) hx hb dL_law_499 hl (by decide) rfl (fun ls hl => ?_)
  refine lv_aload_n hx hb dL_law_501 rfl (lv_at hl 3 rfl) ?_
  refine lv_aload_n hx hb dL_law_502 rfl (lv_at hl 1 rfl) ?_
  refine lv_iload hx hb dL_law_503 (lv_at hl 5 rfl) ?_
  refine lv_iconst (v := nI 1) hx hb dL_law_505 (by decide) ?_
  refine lv_iadd hx hb dL_law_506 ?_
  refine z_top (show (.int (nI (4 * i) + nI 1) : Value) = .int (nI (4 * i + 1)) from by rw [nI_add]) ?_
  refine va_sld (i := nI (4 * i + 1)) hx hb hXs hbl hbA hS (vp_in_nI (by omega) (by omega)) dL_law_507 ?_
  refine z_callm (va_runV (As := [.int (xs (nI (4 * i + 1)).toNatClampNeg)]) (rest := []) ⟨hx, hb, hml, hown, hts⟩ hM1 (cwV 1 hts gL_law_X5_tour rfl rfl rfl (by decide +kernel) ⟨Nat.le_of_ble_eq_true rfl, Nat.le_of_ble_eq_true rfl⟩) (z_pcV (ci := 5) (k := 0) hZ hX hM rfl z_m0) rfl rfl hl.1 rfl (lv_room (Nat.le_of_ble_eq_true rfl)) dL_law_508 ⟨by show _ ≤ 601024; omega, by show _ ≤ 7293034; omega⟩) hS (fun q _ h9 => q_A10 hF q h9) (q_A10 hF) (fun H locs hM hz9 hk9 hS => ?_)
  have hP : va_P (z_DD G) vwCl (z_wC G ad σ' κ') H := z_Pk hP hk9 (q_nC hF)
  have hO : va_P (z_DD G) vwCl (z_wO G ox o') H := z_keep1 hO (hk9 _ (z_lt1 hO) (q_nO hF))
  refine W.eq (g2 := F0 m 511 ls [.int v]) rfl ?_
  refine lv_istore (lv' := [(6, .int v), (5, .int k), (0, .ref b), (1, .ref (ad 0)), (2, .ref (am 0)), (3, .ref ox), (4, .int (nI (4 * i)))]) hx hb dL_law_511 hl (by decide) rfl (fun ls hl => ?_)
  refine lv_aload_n hx hb dL_law_513 rfl (lv_at hl 4 rfl) ?_
  refine z_call (va_runV (As := []) (rest := []) ⟨hx, hb, hml, hown, hts⟩ (c_X5_thrown l G am μ' ν') (cwV 0 hts gL_law_X5_thrown rfl rfl rfl (by decide +kernel) ⟨Nat.le_of_ble_eq_true rfl, Nat.le_of_ble_eq_true rfl⟩) (z_prV (ci := 5) (k := 0) hX hM rfl z_m0) rfl rfl hl.1 rfl (lv_room (Nat.le_of_ble_eq_true rfl)) dL_law_514 ⟨by show _ ≤ 601024; omega, by show _ ≤ 7293034; omega⟩) (fun _ h9 => h9) ?_
  refine W.eq (g2 := F0 m 517 ls [.int (μ' 8 1)]) rfl ?_
  refine lv_iload hx hb dL_law_517 (lv_at hl 1 rfl) ?_
  refine lv_icmp_eq (tgt := 524) hx hb dL_law_519 (by decide) (fun _ => ?_) (fun c1 => absurd hk8 c1)
  refine W.widen (k := 47 + 12 * (i + 1)) (n := 365 + 100 * (i + 1)) (by omega) (by omega) ?_
  have hI2 : q_I G ad am ox s (i + 1) H locs := ⟨E', σ', κ', μ', ν', T', o', hR, by omega, hP, hM, hO, hS⟩
  refine lv_iload hx hb dL_law_524 (lv_at hl 1 rfl) ?_
  refine lv_if_ne (tgt := 541) hx hb dL_law_526 (by decide) (fun _ => ?_) (fun c2 => ?_)
  · skip
    refine lv_goto (tgt := 1219) hx hb dL_law_541 (by decide) ?_
    exact hc H locs ls hI2 (lv_sub hl [2, 3, 4, 5, 6] rfl)
  · skip
    refine lv_aload_n hx hb dL_law_529 rfl (lv_at hl 5 rfl) ?_
    refine lv_iconst (v := nI 0) hx hb dL_law_530 (by decide) ?_
    refine va_lald (i := nI 0) (f := fun _ => o') hx hb hK hO 0 4 rfl rfl (vp_in_nI (by decide) (by decide)) dL_law_531 ?_
    refine lv_iload hx hb dL_law_532 (lv_at hl 0 rfl) ?_
    refine lv_i2l hx hb dL_law_534 rfl ?_
    refine W.lcmp hx hb dL_law_535 ?_
    refine lv_if_eq (tgt := 541) hx hb dL_law_536 (by decide) (fun _ => ?_) (fun c3 => absurd (show lg_cmp o' v.toInt64 = 0 by rw [hko c2]; exact q_cmp _) c3)
    refine lv_goto (tgt := 1219) hx hb dL_law_541 (by decide) ?_
    exact hc H locs ls hI2 (lv_sub hl [2, 3, 4, 5, 6] rfl)

set_option maxHeartbeats 4000000 in
set_option maxRecDepth 100000 in
theorem k_add {p : Program} {l : Launch} {e : Env} {s : State} {m : MethodId} {below : List Frame} {meth : Method} {c : Code} {b L : Nat} {xs : Nat → Int32} {Q : State → Prop} {G : z_GT} {ad am : Nat → Nat} {ox i : Nat} {H : Heap} {locs : List Loc} {ls : Array Slot} (hx : p.tables.exec = Jvm.exec) (hb : c.code = cL_law) (hml : c.maxLocals = 9) (hown : s.vm.findClass RL = some m.cls) (hts : ∀ w ∈ wsL_law, w.before #[Value.ref b] s = true) (hXs : va_X b L xs s s.heap) (hbl : b < s.heap.size) (hst : l.stackTraces = false) (hF : q_F G ad am ox s) (hL : L ≤ 2048) (hi : 4 * i + 4 ≤ L) (hI : q_I G ad am ox s i H locs) (hl : lv_has ls 9 [(0, .ref b), (1, .ref (ad 0)), (2, .ref (am 0)), (3, .ref ox), (4, .int (nI (4 * i)))])
    (hc : ∀ (H : Heap) (locs : List Loc) (ls : Array Slot), q_I G ad am ox s (i + 1) H locs → lv_has ls 9 [(0, .ref b), (1, .ref (ad 0)), (2, .ref (am 0)), (3, .ref ox), (4, .int (nI (4 * i)))] → W p l e room_1 s m #[Value.ref b] below meth c H locs (47 + 12 * (i + 1)) (365 + 100 * (i + 1)) Q (F0 m 1219 ls [])) : W p l e room_1 s m #[Value.ref b] below meth c H locs (47 + 12 * i) (365 + 100 * i) Q (F0 m 544 ls []) := by
  obtain ⟨E, σ, κ, μ, ν, T, o, h, hT, hP, hM, hO, hS⟩ := hI
  have hX := hF.2.2.2.2.2.2.2.2.1
  have hK := hX.1
  have hZ := hF.2.2.2.2.2.2.2.2.2.2
  have hbA : ¬ (fun q : Nat => s.heap.size ≤ q) b := Nat.not_le.mpr hbl
  obtain ⟨k, v, o', E', σ', κ', μ', ν', T', hL1, hM1, hk8, hko, hR, hTT⟩ := P_add (am := am) hst hF.1 hF.2.1 hF.2.2.1 h (by omega) o (xs (nI (4 * i + 1)).toNatClampNeg) (xs (nI (4 * i + 2)).toNatClampNeg)
  refine lv_aload_n hx hb dL_law_544 rfl (lv_at hl 1 rfl) ?_
  refine lv_aload_n hx hb dL_law_545 rfl (lv_at hl 0 rfl) ?_
  refine lv_iload hx hb dL_law_546 (lv_at hl 4 rfl) ?_
  refine lv_iconst (v := nI 1) hx hb dL_law_548 (by decide) ?_
  refine lv_iadd hx hb dL_law_549 ?_
  refine z_top (show (.int (nI (4 * i) + nI 1) : Value) = .int (nI (4 * i + 1)) from by rw [nI_add]) ?_
  refine va_sld (i := nI (4 * i + 1)) hx hb hXs hbl hbA hS (vp_in_nI (by omega) (by omega)) dL_law_550 ?_
  refine lv_aload_n hx hb dL_law_551 rfl (lv_at hl 0 rfl) ?_
  refine lv_iload hx hb dL_law_552 (lv_at hl 4 rfl) ?_
  refine lv_iconst (v := nI 2) hx hb dL_law_554 (by decide) ?_
  refine lv_iadd hx hb dL_law_555 ?_
  refine z_top (show (.int (nI (4 * i) + nI 2) : Value) = .int (nI (4 * i + 2)) from by rw [nI_add]) ?_
  refine va_sld (i := nI (4 * i + 2)) hx hb hXs hbl hbA hS (vp_in_nI (by omega) (by omega)) dL_law_556 ?_
  refine lv_aload_n hx hb dL_law_557 rfl (lv_at hl 3 rfl) ?_
  refine z_calll (vx_runSW (As := [.ref (ad 0), .int (xs (nI (4 * i + 1)).toNatClampNeg), .int (xs (nI (4 * i + 2)).toNatClampNeg), .ref ox]) (rest := []) ⟨hx, hb, hml, hown, hts⟩ hL1 (vx_cwSW 4 hts gL_law_L_add rfl rfl rfl (by decide +kernel) ⟨Nat.le_of_ble_eq_true rfl, Nat.le_of_ble_eq_true rfl⟩) (z_plS hX hP hO (q_T hF hS)) rfl rfl hl.1 rfl (lv_room (Nat.le_of_ble_eq_true rfl)) dL_law_558 ⟨by show _ ≤ 601024; omega, by show _ ≤ 7293034; omega⟩) hS (q_Al hF) (fun H locs hP hO hz9 hk9 hS => ?_)
  have hM : va_P (z_DD G) vwCl (z_wM G am μ ν) H := z_Pk hM hk9 (q_nM hF)
  refine lv_istore (lv' := [(5, .int k), (0, .ref b), (1, .ref (ad 0)), (2, .ref (am 0)), (3, .ref ox), (4, .int (nI (4 * i)))]) hx hb dL_law_561 hl (by decide) rfl (fun ls hl => ?_)
  refine lv_aload_n hx hb dL_law_563 rfl (lv_at hl 3 rfl) ?_
  refine lv_aload_n hx hb dL_law_564 rfl (lv_at hl 1 rfl) ?_
  refine lv_iload hx hb dL_law_565 (lv_at hl 5 rfl) ?_
  refine lv_iconst (v := nI 1) hx hb dL_law_567 (by decide) ?_
  refine lv_iadd hx hb dL_law_568 ?_
  refine z_top (show (.int (nI (4 * i) + nI 1) : Value) = .int (nI (4 * i + 1)) from by rw [nI_add]) ?_
  refine va_sld (i := nI (4 * i + 1)) hx hb hXs hbl hbA hS (vp_in_nI (by omega) (by omega)) dL_law_569 ?_
  refine lv_aload_n hx hb dL_law_570 rfl (lv_at hl 1 rfl) ?_
  refine lv_iload hx hb dL_law_571 (lv_at hl 5 rfl) ?_
  refine lv_iconst (v := nI 2) hx hb dL_law_573 (by decide) ?_
  refine lv_iadd hx hb dL_law_574 ?_
  refine z_top (show (.int (nI (4 * i) + nI 2) : Value) = .int (nI (4 * i + 2)) from by rw [nI_add]) ?_
  refine va_sld (i := nI (4 * i + 2)) hx hb hXs hbl hbA hS (vp_in_nI (by omega) (by omega)) dL_law_575 ?_
  refine z_callm (va_runV (As := [.int (xs (nI (4 * i + 1)).toNatClampNeg), .int (xs (nI (4 * i + 2)).toNatClampNeg)]) (rest := []) ⟨hx, hb, hml, hown, hts⟩ hM1 (cwV 2 hts gL_law_X5_add rfl rfl rfl (by decide +kernel) ⟨Nat.le_of_ble_eq_true rfl, Nat.le_of_ble_eq_true rfl⟩) (z_pcV (ci := 5) (k := 0) hZ hX hM rfl z_m0) rfl rfl hl.1 rfl (lv_room (Nat.le_of_ble_eq_true rfl)) dL_law_576 ⟨by show _ ≤ 601024; omega, by show _ ≤ 7293034; omega⟩) hS (fun q _ h9 => q_A10 hF q h9) (q_A10 hF) (fun H locs hM hz9 hk9 hS => ?_)
  have hP : va_P (z_DD G) vwCl (z_wC G ad σ' κ') H := z_Pk hP hk9 (q_nC hF)
  have hO : va_P (z_DD G) vwCl (z_wO G ox o') H := z_keep1 hO (hk9 _ (z_lt1 hO) (q_nO hF))
  refine W.eq (g2 := F0 m 579 ls [.int v]) rfl ?_
  refine lv_istore (lv' := [(6, .int v), (5, .int k), (0, .ref b), (1, .ref (ad 0)), (2, .ref (am 0)), (3, .ref ox), (4, .int (nI (4 * i)))]) hx hb dL_law_579 hl (by decide) rfl (fun ls hl => ?_)
  refine lv_aload_n hx hb dL_law_581 rfl (lv_at hl 4 rfl) ?_
  refine z_call (va_runV (As := []) (rest := []) ⟨hx, hb, hml, hown, hts⟩ (c_X5_thrown l G am μ' ν') (cwV 0 hts gL_law_X5_thrown rfl rfl rfl (by decide +kernel) ⟨Nat.le_of_ble_eq_true rfl, Nat.le_of_ble_eq_true rfl⟩) (z_prV (ci := 5) (k := 0) hX hM rfl z_m0) rfl rfl hl.1 rfl (lv_room (Nat.le_of_ble_eq_true rfl)) dL_law_582 ⟨by show _ ≤ 601024; omega, by show _ ≤ 7293034; omega⟩) (fun _ h9 => h9) ?_
  refine W.eq (g2 := F0 m 585 ls [.int (μ' 8 1)]) rfl ?_
  refine lv_iload hx hb dL_law_585 (lv_at hl 1 rfl) ?_
  refine lv_icmp_eq (tgt := 592) hx hb dL_law_587 (by decide) (fun _ => ?_) (fun c1 => absurd hk8 c1)
  refine W.widen (k := 47 + 12 * (i + 1)) (n := 365 + 100 * (i + 1)) (by omega) (by omega) ?_
  have hI2 : q_I G ad am ox s (i + 1) H locs := ⟨E', σ', κ', μ', ν', T', o', hR, by omega, hP, hM, hO, hS⟩
  refine lv_iload hx hb dL_law_592 (lv_at hl 1 rfl) ?_
  refine lv_if_ne (tgt := 609) hx hb dL_law_594 (by decide) (fun _ => ?_) (fun c2 => ?_)
  · skip
    refine lv_goto (tgt := 1219) hx hb dL_law_609 (by decide) ?_
    exact hc H locs ls hI2 (lv_sub hl [2, 3, 4, 5, 6] rfl)
  · skip
    refine lv_aload_n hx hb dL_law_597 rfl (lv_at hl 5 rfl) ?_
    refine lv_iconst (v := nI 0) hx hb dL_law_598 (by decide) ?_
    refine va_lald (i := nI 0) (f := fun _ => o') hx hb hK hO 0 4 rfl rfl (vp_in_nI (by decide) (by decide)) dL_law_599 ?_
    refine lv_iload hx hb dL_law_600 (lv_at hl 0 rfl) ?_
    refine lv_i2l hx hb dL_law_602 rfl ?_
    refine W.lcmp hx hb dL_law_603 ?_
    refine lv_if_eq (tgt := 609) hx hb dL_law_604 (by decide) (fun _ => ?_) (fun c3 => absurd (show lg_cmp o' v.toInt64 = 0 by rw [hko c2]; exact q_cmp _) c3)
    refine lv_goto (tgt := 1219) hx hb dL_law_609 (by decide) ?_
    exact hc H locs ls hI2 (lv_sub hl [2, 3, 4, 5, 6] rfl)

set_option maxHeartbeats 4000000 in
set_option maxRecDepth 100000 in
theorem k_cut {p : Program} {l : Launch} {e : Env} {s : State} {m : MethodId} {below : List Frame} {meth : Method} {c : Code} {b L : Nat} {xs : Nat → Int32} {Q : State → Prop} {G : z_GT} {ad am : Nat → Nat} {ox i : Nat} {H : Heap} {locs : List Loc} {ls : Array Slot} (hx : p.tables.exec = Jvm.exec) (hb : c.code = cL_law) (hml : c.maxLocals = 9) (hown : s.vm.findClass RL = some m.cls) (hts : ∀ w ∈ wsL_law, w.before #[Value.ref b] s = true) (hXs : va_X b L xs s s.heap) (hbl : b < s.heap.size) (hst : l.stackTraces = false) (hF : q_F G ad am ox s) (hL : L ≤ 2048) (hi : 4 * i + 4 ≤ L) (hI : q_I G ad am ox s i H locs) (hl : lv_has ls 9 [(0, .ref b), (1, .ref (ad 0)), (2, .ref (am 0)), (3, .ref ox), (4, .int (nI (4 * i)))])
    (hc : ∀ (H : Heap) (locs : List Loc) (ls : Array Slot), q_I G ad am ox s (i + 1) H locs → lv_has ls 9 [(0, .ref b), (1, .ref (ad 0)), (2, .ref (am 0)), (3, .ref ox), (4, .int (nI (4 * i)))] → W p l e room_1 s m #[Value.ref b] below meth c H locs (47 + 12 * (i + 1)) (365 + 100 * (i + 1)) Q (F0 m 1219 ls [])) : W p l e room_1 s m #[Value.ref b] below meth c H locs (47 + 12 * i) (365 + 100 * i) Q (F0 m 612 ls []) := by
  obtain ⟨E, σ, κ, μ, ν, T, o, h, hT, hP, hM, hO, hS⟩ := hI
  have hX := hF.2.2.2.2.2.2.2.2.1
  have hK := hX.1
  have hZ := hF.2.2.2.2.2.2.2.2.2.2
  have hbA : ¬ (fun q : Nat => s.heap.size ≤ q) b := Nat.not_le.mpr hbl
  obtain ⟨k, v, o', E', σ', κ', μ', ν', T', hL1, hM1, hk8, hko, hR, hTT⟩ := P_cut (am := am) hst hF.1 hF.2.1 hF.2.2.1 h (by omega) o (xs (nI (4 * i + 1)).toNatClampNeg)
  refine lv_aload_n hx hb dL_law_612 rfl (lv_at hl 1 rfl) ?_
  refine lv_aload_n hx hb dL_law_613 rfl (lv_at hl 0 rfl) ?_
  refine lv_iload hx hb dL_law_614 (lv_at hl 4 rfl) ?_
  refine lv_iconst (v := nI 1) hx hb dL_law_616 (by decide) ?_
  refine lv_iadd hx hb dL_law_617 ?_
  refine z_top (show (.int (nI (4 * i) + nI 1) : Value) = .int (nI (4 * i + 1)) from by rw [nI_add]) ?_
  refine va_sld (i := nI (4 * i + 1)) hx hb hXs hbl hbA hS (vp_in_nI (by omega) (by omega)) dL_law_618 ?_
  refine lv_aload_n hx hb dL_law_619 rfl (lv_at hl 3 rfl) ?_
  refine z_calll (vx_runSW (As := [.ref (ad 0), .int (xs (nI (4 * i + 1)).toNatClampNeg), .ref ox]) (rest := []) ⟨hx, hb, hml, hown, hts⟩ hL1 (vx_cwSW 3 hts gL_law_L_cut rfl rfl rfl (by decide +kernel) ⟨Nat.le_of_ble_eq_true rfl, Nat.le_of_ble_eq_true rfl⟩) (z_plS hX hP hO (q_T hF hS)) rfl rfl hl.1 rfl (lv_room (Nat.le_of_ble_eq_true rfl)) dL_law_620 ⟨by show _ ≤ 601024; omega, by show _ ≤ 7293034; omega⟩) hS (q_Al hF) (fun H locs hP hO hz9 hk9 hS => ?_)
  have hM : va_P (z_DD G) vwCl (z_wM G am μ ν) H := z_Pk hM hk9 (q_nM hF)
  refine lv_istore (lv' := [(5, .int k), (0, .ref b), (1, .ref (ad 0)), (2, .ref (am 0)), (3, .ref ox), (4, .int (nI (4 * i)))]) hx hb dL_law_623 hl (by decide) rfl (fun ls hl => ?_)
  refine lv_aload_n hx hb dL_law_625 rfl (lv_at hl 3 rfl) ?_
  refine lv_aload_n hx hb dL_law_626 rfl (lv_at hl 1 rfl) ?_
  refine lv_iload hx hb dL_law_627 (lv_at hl 5 rfl) ?_
  refine lv_iconst (v := nI 1) hx hb dL_law_629 (by decide) ?_
  refine lv_iadd hx hb dL_law_630 ?_
  refine z_top (show (.int (nI (4 * i) + nI 1) : Value) = .int (nI (4 * i + 1)) from by rw [nI_add]) ?_
  refine va_sld (i := nI (4 * i + 1)) hx hb hXs hbl hbA hS (vp_in_nI (by omega) (by omega)) dL_law_631 ?_
  refine z_callm (va_runV (As := [.int (xs (nI (4 * i + 1)).toNatClampNeg)]) (rest := []) ⟨hx, hb, hml, hown, hts⟩ hM1 (cwV 1 hts gL_law_X5_cut rfl rfl rfl (by decide +kernel) ⟨Nat.le_of_ble_eq_true rfl, Nat.le_of_ble_eq_true rfl⟩) (z_pcV (ci := 5) (k := 0) hZ hX hM rfl z_m0) rfl rfl hl.1 rfl (lv_room (Nat.le_of_ble_eq_true rfl)) dL_law_632 ⟨by show _ ≤ 601024; omega, by show _ ≤ 7293034; omega⟩) hS (fun q _ h9 => q_A10 hF q h9) (q_A10 hF) (fun H locs hM hz9 hk9 hS => ?_)
  have hP : va_P (z_DD G) vwCl (z_wC G ad σ' κ') H := z_Pk hP hk9 (q_nC hF)
  have hO : va_P (z_DD G) vwCl (z_wO G ox o') H := z_keep1 hO (hk9 _ (z_lt1 hO) (q_nO hF))
  refine W.eq (g2 := F0 m 635 ls [.int v]) rfl ?_
  refine lv_istore (lv' := [(6, .int v), (5, .int k), (0, .ref b), (1, .ref (ad 0)), (2, .ref (am 0)), (3, .ref ox), (4, .int (nI (4 * i)))]) hx hb dL_law_635 hl (by decide) rfl (fun ls hl => ?_)
  refine lv_aload_n hx hb dL_law_637 rfl (lv_at hl 4 rfl) ?_
  refine z_call (va_runV (As := []) (rest := []) ⟨hx, hb, hml, hown, hts⟩ (c_X5_thrown l G am μ' ν') (cwV 0 hts gL_law_X5_thrown rfl rfl rfl (by decide +kernel) ⟨Nat.le_of_ble_eq_true rfl, Nat.le_of_ble_eq_true rfl⟩) (z_prV (ci := 5) (k := 0) hX hM rfl z_m0) rfl rfl hl.1 rfl (lv_room (Nat.le_of_ble_eq_true rfl)) dL_law_638 ⟨by show _ ≤ 601024; omega, by show _ ≤ 7293034; omega⟩) (fun _ h9 => h9) ?_
  refine W.eq (g2 := F0 m 641 ls [.int (μ' 8 1)]) rfl ?_
  refine lv_iload hx hb dL_law_641 (lv_at hl 1 rfl) ?_
  refine lv_icmp_eq (tgt := 648) hx hb dL_law_643 (by decide) (fun _ => ?_) (fun c1 => absurd hk8 c1)
  refine W.widen (k := 47 + 12 * (i + 1)) (n := 365 + 100 * (i + 1)) (by omega) (by omega) ?_
  have hI2 : q_I G ad am ox s (i + 1) H locs := ⟨E', σ', κ', μ', ν', T', o', hR, by omega, hP, hM, hO, hS⟩
  refine lv_iload hx hb dL_law_648 (lv_at hl 1 rfl) ?_
  refine lv_if_ne (tgt := 665) hx hb dL_law_650 (by decide) (fun _ => ?_) (fun c2 => ?_)
  · skip
    refine lv_goto (tgt := 1219) hx hb dL_law_665 (by decide) ?_
    exact hc H locs ls hI2 (lv_sub hl [2, 3, 4, 5, 6] rfl)
  · skip
    refine lv_aload_n hx hb dL_law_653 rfl (lv_at hl 5 rfl) ?_
    refine lv_iconst (v := nI 0) hx hb dL_law_654 (by decide) ?_
    refine va_lald (i := nI 0) (f := fun _ => o') hx hb hK hO 0 4 rfl rfl (vp_in_nI (by decide) (by decide)) dL_law_655 ?_
    refine lv_iload hx hb dL_law_656 (lv_at hl 0 rfl) ?_
    refine lv_i2l hx hb dL_law_658 rfl ?_
    refine W.lcmp hx hb dL_law_659 ?_
    refine lv_if_eq (tgt := 665) hx hb dL_law_660 (by decide) (fun _ => ?_) (fun c3 => absurd (show lg_cmp o' v.toInt64 = 0 by rw [hko c2]; exact q_cmp _) c3)
    refine lv_goto (tgt := 1219) hx hb dL_law_665 (by decide) ?_
    exact hc H locs ls hI2 (lv_sub hl [2, 3, 4, 5, 6] rfl)

set_option maxHeartbeats 4000000 in
set_option maxRecDepth 100000 in
theorem k_told {p : Program} {l : Launch} {e : Env} {s : State} {m : MethodId} {below : List Frame} {meth : Method} {c : Code} {b L : Nat} {xs : Nat → Int32} {Q : State → Prop} {G : z_GT} {ad am : Nat → Nat} {ox i : Nat} {H : Heap} {locs : List Loc} {ls : Array Slot} (hx : p.tables.exec = Jvm.exec) (hb : c.code = cL_law) (hml : c.maxLocals = 9) (hown : s.vm.findClass RL = some m.cls) (hts : ∀ w ∈ wsL_law, w.before #[Value.ref b] s = true) (hXs : va_X b L xs s s.heap) (hbl : b < s.heap.size) (hst : l.stackTraces = false) (hF : q_F G ad am ox s) (hL : L ≤ 2048) (hi : 4 * i + 4 ≤ L) (hI : q_I G ad am ox s i H locs) (hl : lv_has ls 9 [(0, .ref b), (1, .ref (ad 0)), (2, .ref (am 0)), (3, .ref ox), (4, .int (nI (4 * i)))])
    (hc : ∀ (H : Heap) (locs : List Loc) (ls : Array Slot), q_I G ad am ox s (i + 1) H locs → lv_has ls 9 [(0, .ref b), (1, .ref (ad 0)), (2, .ref (am 0)), (3, .ref ox), (4, .int (nI (4 * i)))] → W p l e room_1 s m #[Value.ref b] below meth c H locs (47 + 12 * (i + 1)) (365 + 100 * (i + 1)) Q (F0 m 1219 ls [])) : W p l e room_1 s m #[Value.ref b] below meth c H locs (47 + 12 * i) (365 + 100 * i) Q (F0 m 668 ls []) := by
  obtain ⟨E, σ, κ, μ, ν, T, o, h, hT, hP, hM, hO, hS⟩ := hI
  have hX := hF.2.2.2.2.2.2.2.2.1
  have hK := hX.1
  have hZ := hF.2.2.2.2.2.2.2.2.2.2
  have hbA : ¬ (fun q : Nat => s.heap.size ≤ q) b := Nat.not_le.mpr hbl
  obtain ⟨k, v, o', E', σ', κ', μ', ν', T', hL1, hM1, hk8, hko, hR, hTT⟩ := P_told (am := am) hst hF.1 hF.2.1 hF.2.2.1 h (by omega) o (xs (nI (4 * i + 1)).toNatClampNeg) (xs (nI (4 * i + 2)).toNatClampNeg)
  refine lv_aload_n hx hb dL_law_668 rfl (lv_at hl 1 rfl) ?_
  refine lv_aload_n hx hb dL_law_669 rfl (lv_at hl 0 rfl) ?_
  refine lv_iload hx hb dL_law_670 (lv_at hl 4 rfl) ?_
  refine lv_iconst (v := nI 1) hx hb dL_law_672 (by decide) ?_
  refine lv_iadd hx hb dL_law_673 ?_
  refine z_top (show (.int (nI (4 * i) + nI 1) : Value) = .int (nI (4 * i + 1)) from by rw [nI_add]) ?_
  refine va_sld (i := nI (4 * i + 1)) hx hb hXs hbl hbA hS (vp_in_nI (by omega) (by omega)) dL_law_674 ?_
  refine lv_aload_n hx hb dL_law_675 rfl (lv_at hl 0 rfl) ?_
  refine lv_iload hx hb dL_law_676 (lv_at hl 4 rfl) ?_
  refine lv_iconst (v := nI 2) hx hb dL_law_678 (by decide) ?_
  refine lv_iadd hx hb dL_law_679 ?_
  refine z_top (show (.int (nI (4 * i) + nI 2) : Value) = .int (nI (4 * i + 2)) from by rw [nI_add]) ?_
  refine va_sld (i := nI (4 * i + 2)) hx hb hXs hbl hbA hS (vp_in_nI (by omega) (by omega)) dL_law_680 ?_
  refine lv_aload_n hx hb dL_law_681 rfl (lv_at hl 3 rfl) ?_
  refine z_calll (vx_runSW (As := [.ref (ad 0), .int (xs (nI (4 * i + 1)).toNatClampNeg), .int (xs (nI (4 * i + 2)).toNatClampNeg), .ref ox]) (rest := []) ⟨hx, hb, hml, hown, hts⟩ hL1 (vx_cwSW 4 hts gL_law_L_told rfl rfl rfl (by decide +kernel) ⟨Nat.le_of_ble_eq_true rfl, Nat.le_of_ble_eq_true rfl⟩) (z_plS hX hP hO (q_T hF hS)) rfl rfl hl.1 rfl (lv_room (Nat.le_of_ble_eq_true rfl)) dL_law_682 ⟨by show _ ≤ 601024; omega, by show _ ≤ 7293034; omega⟩) hS (q_Al hF) (fun H locs hP hO hz9 hk9 hS => ?_)
  have hM : va_P (z_DD G) vwCl (z_wM G am μ ν) H := z_Pk hM hk9 (q_nM hF)
  refine lv_istore (lv' := [(5, .int k), (0, .ref b), (1, .ref (ad 0)), (2, .ref (am 0)), (3, .ref ox), (4, .int (nI (4 * i)))]) hx hb dL_law_685 hl (by decide) rfl (fun ls hl => ?_)
  refine lv_aload_n hx hb dL_law_687 rfl (lv_at hl 3 rfl) ?_
  refine lv_aload_n hx hb dL_law_688 rfl (lv_at hl 1 rfl) ?_
  refine lv_iload hx hb dL_law_689 (lv_at hl 5 rfl) ?_
  refine lv_iconst (v := nI 1) hx hb dL_law_691 (by decide) ?_
  refine lv_iadd hx hb dL_law_692 ?_
  refine z_top (show (.int (nI (4 * i) + nI 1) : Value) = .int (nI (4 * i + 1)) from by rw [nI_add]) ?_
  refine va_sld (i := nI (4 * i + 1)) hx hb hXs hbl hbA hS (vp_in_nI (by omega) (by omega)) dL_law_693 ?_
  refine lv_aload_n hx hb dL_law_694 rfl (lv_at hl 1 rfl) ?_
  refine lv_iload hx hb dL_law_695 (lv_at hl 5 rfl) ?_
  refine lv_iconst (v := nI 2) hx hb dL_law_697 (by decide) ?_
  refine lv_iadd hx hb dL_law_698 ?_
  refine z_top (show (.int (nI (4 * i) + nI 2) : Value) = .int (nI (4 * i + 2)) from by rw [nI_add]) ?_
  refine va_sld (i := nI (4 * i + 2)) hx hb hXs hbl hbA hS (vp_in_nI (by omega) (by omega)) dL_law_699 ?_
  refine z_callm (va_runV (As := [.int (xs (nI (4 * i + 1)).toNatClampNeg), .int (xs (nI (4 * i + 2)).toNatClampNeg)]) (rest := []) ⟨hx, hb, hml, hown, hts⟩ hM1 (cwV 2 hts gL_law_X5_told rfl rfl rfl (by decide +kernel) ⟨Nat.le_of_ble_eq_true rfl, Nat.le_of_ble_eq_true rfl⟩) (z_pcV (ci := 5) (k := 0) hZ hX hM rfl z_m0) rfl rfl hl.1 rfl (lv_room (Nat.le_of_ble_eq_true rfl)) dL_law_700 ⟨by show _ ≤ 601024; omega, by show _ ≤ 7293034; omega⟩) hS (fun q _ h9 => q_A10 hF q h9) (q_A10 hF) (fun H locs hM hz9 hk9 hS => ?_)
  have hP : va_P (z_DD G) vwCl (z_wC G ad σ' κ') H := z_Pk hP hk9 (q_nC hF)
  have hO : va_P (z_DD G) vwCl (z_wO G ox o') H := z_keep1 hO (hk9 _ (z_lt1 hO) (q_nO hF))
  refine W.eq (g2 := F0 m 703 ls [.int v]) rfl ?_
  refine lv_istore (lv' := [(6, .int v), (5, .int k), (0, .ref b), (1, .ref (ad 0)), (2, .ref (am 0)), (3, .ref ox), (4, .int (nI (4 * i)))]) hx hb dL_law_703 hl (by decide) rfl (fun ls hl => ?_)
  refine lv_aload_n hx hb dL_law_705 rfl (lv_at hl 4 rfl) ?_
  refine z_call (va_runV (As := []) (rest := []) ⟨hx, hb, hml, hown, hts⟩ (c_X5_thrown l G am μ' ν') (cwV 0 hts gL_law_X5_thrown rfl rfl rfl (by decide +kernel) ⟨Nat.le_of_ble_eq_true rfl, Nat.le_of_ble_eq_true rfl⟩) (z_prV (ci := 5) (k := 0) hX hM rfl z_m0) rfl rfl hl.1 rfl (lv_room (Nat.le_of_ble_eq_true rfl)) dL_law_706 ⟨by show _ ≤ 601024; omega, by show _ ≤ 7293034; omega⟩) (fun _ h9 => h9) ?_
  refine W.eq (g2 := F0 m 709 ls [.int (μ' 8 1)]) rfl ?_
  refine lv_iload hx hb dL_law_709 (lv_at hl 1 rfl) ?_
  refine lv_icmp_eq (tgt := 716) hx hb dL_law_711 (by decide) (fun _ => ?_) (fun c1 => absurd hk8 c1)
  refine W.widen (k := 47 + 12 * (i + 1)) (n := 365 + 100 * (i + 1)) (by omega) (by omega) ?_
  have hI2 : q_I G ad am ox s (i + 1) H locs := ⟨E', σ', κ', μ', ν', T', o', hR, by omega, hP, hM, hO, hS⟩
  refine lv_iload hx hb dL_law_716 (lv_at hl 1 rfl) ?_
  refine lv_if_ne (tgt := 733) hx hb dL_law_718 (by decide) (fun _ => ?_) (fun c2 => ?_)
  · skip
    refine lv_goto (tgt := 1219) hx hb dL_law_733 (by decide) ?_
    exact hc H locs ls hI2 (lv_sub hl [2, 3, 4, 5, 6] rfl)
  · skip
    refine lv_aload_n hx hb dL_law_721 rfl (lv_at hl 5 rfl) ?_
    refine lv_iconst (v := nI 0) hx hb dL_law_722 (by decide) ?_
    refine va_lald (i := nI 0) (f := fun _ => o') hx hb hK hO 0 4 rfl rfl (vp_in_nI (by decide) (by decide)) dL_law_723 ?_
    refine lv_iload hx hb dL_law_724 (lv_at hl 0 rfl) ?_
    refine lv_i2l hx hb dL_law_726 rfl ?_
    refine W.lcmp hx hb dL_law_727 ?_
    refine lv_if_eq (tgt := 733) hx hb dL_law_728 (by decide) (fun _ => ?_) (fun c3 => absurd (show lg_cmp o' v.toInt64 = 0 by rw [hko c2]; exact q_cmp _) c3)
    refine lv_goto (tgt := 1219) hx hb dL_law_733 (by decide) ?_
    exact hc H locs ls hI2 (lv_sub hl [2, 3, 4, 5, 6] rfl)

set_option maxHeartbeats 4000000 in
set_option maxRecDepth 100000 in
theorem k_about {p : Program} {l : Launch} {e : Env} {s : State} {m : MethodId} {below : List Frame} {meth : Method} {c : Code} {b L : Nat} {xs : Nat → Int32} {Q : State → Prop} {G : z_GT} {ad am : Nat → Nat} {ox i : Nat} {H : Heap} {locs : List Loc} {ls : Array Slot} (hx : p.tables.exec = Jvm.exec) (hb : c.code = cL_law) (hml : c.maxLocals = 9) (hown : s.vm.findClass RL = some m.cls) (hts : ∀ w ∈ wsL_law, w.before #[Value.ref b] s = true) (hXs : va_X b L xs s s.heap) (hbl : b < s.heap.size) (hst : l.stackTraces = false) (hF : q_F G ad am ox s) (hL : L ≤ 2048) (hi : 4 * i + 4 ≤ L) (hI : q_I G ad am ox s i H locs) (hl : lv_has ls 9 [(0, .ref b), (1, .ref (ad 0)), (2, .ref (am 0)), (3, .ref ox), (4, .int (nI (4 * i)))])
    (hc : ∀ (H : Heap) (locs : List Loc) (ls : Array Slot), q_I G ad am ox s (i + 1) H locs → lv_has ls 9 [(0, .ref b), (1, .ref (ad 0)), (2, .ref (am 0)), (3, .ref ox), (4, .int (nI (4 * i)))] → W p l e room_1 s m #[Value.ref b] below meth c H locs (47 + 12 * (i + 1)) (365 + 100 * (i + 1)) Q (F0 m 1219 ls [])) : W p l e room_1 s m #[Value.ref b] below meth c H locs (47 + 12 * i) (365 + 100 * i) Q (F0 m 736 ls []) := by
  obtain ⟨E, σ, κ, μ, ν, T, o, h, hT, hP, hM, hO, hS⟩ := hI
  have hX := hF.2.2.2.2.2.2.2.2.1
  have hK := hX.1
  have hZ := hF.2.2.2.2.2.2.2.2.2.2
  have hbA : ¬ (fun q : Nat => s.heap.size ≤ q) b := Nat.not_le.mpr hbl
  obtain ⟨k, v, o', E', σ', κ', μ', ν', T', hL1, hM1, hk8, hko, hR, hTT⟩ := P_about (am := am) hst hF.1 hF.2.1 hF.2.2.1 h (by omega) o (xs (nI (4 * i + 1)).toNatClampNeg) (xs (nI (4 * i + 2)).toNatClampNeg)
  refine lv_aload_n hx hb dL_law_736 rfl (lv_at hl 1 rfl) ?_
  refine lv_aload_n hx hb dL_law_737 rfl (lv_at hl 0 rfl) ?_
  refine lv_iload hx hb dL_law_738 (lv_at hl 4 rfl) ?_
  refine lv_iconst (v := nI 1) hx hb dL_law_740 (by decide) ?_
  refine lv_iadd hx hb dL_law_741 ?_
  refine z_top (show (.int (nI (4 * i) + nI 1) : Value) = .int (nI (4 * i + 1)) from by rw [nI_add]) ?_
  refine va_sld (i := nI (4 * i + 1)) hx hb hXs hbl hbA hS (vp_in_nI (by omega) (by omega)) dL_law_742 ?_
  refine lv_aload_n hx hb dL_law_743 rfl (lv_at hl 0 rfl) ?_
  refine lv_iload hx hb dL_law_744 (lv_at hl 4 rfl) ?_
  refine lv_iconst (v := nI 2) hx hb dL_law_746 (by decide) ?_
  refine lv_iadd hx hb dL_law_747 ?_
  refine z_top (show (.int (nI (4 * i) + nI 2) : Value) = .int (nI (4 * i + 2)) from by rw [nI_add]) ?_
  refine va_sld (i := nI (4 * i + 2)) hx hb hXs hbl hbA hS (vp_in_nI (by omega) (by omega)) dL_law_748 ?_
  refine lv_aload_n hx hb dL_law_749 rfl (lv_at hl 3 rfl) ?_
  refine z_calll (vx_runSW (As := [.ref (ad 0), .int (xs (nI (4 * i + 1)).toNatClampNeg), .int (xs (nI (4 * i + 2)).toNatClampNeg), .ref ox]) (rest := []) ⟨hx, hb, hml, hown, hts⟩ hL1 (vx_cwSW 4 hts gL_law_L_about rfl rfl rfl (by decide +kernel) ⟨Nat.le_of_ble_eq_true rfl, Nat.le_of_ble_eq_true rfl⟩) (z_plS hX hP hO (q_T hF hS)) rfl rfl hl.1 rfl (lv_room (Nat.le_of_ble_eq_true rfl)) dL_law_750 ⟨by show _ ≤ 601024; omega, by show _ ≤ 7293034; omega⟩) hS (q_Al hF) (fun H locs hP hO hz9 hk9 hS => ?_)
  have hM : va_P (z_DD G) vwCl (z_wM G am μ ν) H := z_Pk hM hk9 (q_nM hF)
  refine lv_istore (lv' := [(5, .int k), (0, .ref b), (1, .ref (ad 0)), (2, .ref (am 0)), (3, .ref ox), (4, .int (nI (4 * i)))]) hx hb dL_law_753 hl (by decide) rfl (fun ls hl => ?_)
  refine lv_aload_n hx hb dL_law_755 rfl (lv_at hl 3 rfl) ?_
  refine lv_aload_n hx hb dL_law_756 rfl (lv_at hl 1 rfl) ?_
  refine lv_iload hx hb dL_law_757 (lv_at hl 5 rfl) ?_
  refine lv_iconst (v := nI 1) hx hb dL_law_759 (by decide) ?_
  refine lv_iadd hx hb dL_law_760 ?_
  refine z_top (show (.int (nI (4 * i) + nI 1) : Value) = .int (nI (4 * i + 1)) from by rw [nI_add]) ?_
  refine va_sld (i := nI (4 * i + 1)) hx hb hXs hbl hbA hS (vp_in_nI (by omega) (by omega)) dL_law_761 ?_
  refine lv_aload_n hx hb dL_law_762 rfl (lv_at hl 1 rfl) ?_
  refine lv_iload hx hb dL_law_763 (lv_at hl 5 rfl) ?_
  refine lv_iconst (v := nI 2) hx hb dL_law_765 (by decide) ?_
  refine lv_iadd hx hb dL_law_766 ?_
  refine z_top (show (.int (nI (4 * i) + nI 2) : Value) = .int (nI (4 * i + 2)) from by rw [nI_add]) ?_
  refine va_sld (i := nI (4 * i + 2)) hx hb hXs hbl hbA hS (vp_in_nI (by omega) (by omega)) dL_law_767 ?_
  refine z_callm (va_runV (As := [.int (xs (nI (4 * i + 1)).toNatClampNeg), .int (xs (nI (4 * i + 2)).toNatClampNeg)]) (rest := []) ⟨hx, hb, hml, hown, hts⟩ hM1 (cwV 2 hts gL_law_X5_about rfl rfl rfl (by decide +kernel) ⟨Nat.le_of_ble_eq_true rfl, Nat.le_of_ble_eq_true rfl⟩) (z_pcV (ci := 5) (k := 0) hZ hX hM rfl z_m0) rfl rfl hl.1 rfl (lv_room (Nat.le_of_ble_eq_true rfl)) dL_law_768 ⟨by show _ ≤ 601024; omega, by show _ ≤ 7293034; omega⟩) hS (fun q _ h9 => q_A10 hF q h9) (q_A10 hF) (fun H locs hM hz9 hk9 hS => ?_)
  have hP : va_P (z_DD G) vwCl (z_wC G ad σ' κ') H := z_Pk hP hk9 (q_nC hF)
  have hO : va_P (z_DD G) vwCl (z_wO G ox o') H := z_keep1 hO (hk9 _ (z_lt1 hO) (q_nO hF))
  refine W.eq (g2 := F0 m 771 ls [.int v]) rfl ?_
  refine lv_istore (lv' := [(6, .int v), (5, .int k), (0, .ref b), (1, .ref (ad 0)), (2, .ref (am 0)), (3, .ref ox), (4, .int (nI (4 * i)))]) hx hb dL_law_771 hl (by decide) rfl (fun ls hl => ?_)
  refine lv_aload_n hx hb dL_law_773 rfl (lv_at hl 4 rfl) ?_
  refine z_call (va_runV (As := []) (rest := []) ⟨hx, hb, hml, hown, hts⟩ (c_X5_thrown l G am μ' ν') (cwV 0 hts gL_law_X5_thrown rfl rfl rfl (by decide +kernel) ⟨Nat.le_of_ble_eq_true rfl, Nat.le_of_ble_eq_true rfl⟩) (z_prV (ci := 5) (k := 0) hX hM rfl z_m0) rfl rfl hl.1 rfl (lv_room (Nat.le_of_ble_eq_true rfl)) dL_law_774 ⟨by show _ ≤ 601024; omega, by show _ ≤ 7293034; omega⟩) (fun _ h9 => h9) ?_
  refine W.eq (g2 := F0 m 777 ls [.int (μ' 8 1)]) rfl ?_
  refine lv_iload hx hb dL_law_777 (lv_at hl 1 rfl) ?_
  refine lv_icmp_eq (tgt := 784) hx hb dL_law_779 (by decide) (fun _ => ?_) (fun c1 => absurd hk8 c1)
  refine W.widen (k := 47 + 12 * (i + 1)) (n := 365 + 100 * (i + 1)) (by omega) (by omega) ?_
  have hI2 : q_I G ad am ox s (i + 1) H locs := ⟨E', σ', κ', μ', ν', T', o', hR, by omega, hP, hM, hO, hS⟩
  refine lv_iload hx hb dL_law_784 (lv_at hl 1 rfl) ?_
  refine lv_if_ne (tgt := 801) hx hb dL_law_786 (by decide) (fun _ => ?_) (fun c2 => ?_)
  · skip
    refine lv_goto (tgt := 1219) hx hb dL_law_801 (by decide) ?_
    exact hc H locs ls hI2 (lv_sub hl [2, 3, 4, 5, 6] rfl)
  · skip
    refine lv_aload_n hx hb dL_law_789 rfl (lv_at hl 5 rfl) ?_
    refine lv_iconst (v := nI 0) hx hb dL_law_790 (by decide) ?_
    refine va_lald (i := nI 0) (f := fun _ => o') hx hb hK hO 0 4 rfl rfl (vp_in_nI (by decide) (by decide)) dL_law_791 ?_
    refine lv_iload hx hb dL_law_792 (lv_at hl 0 rfl) ?_
    refine lv_i2l hx hb dL_law_794 rfl ?_
    refine W.lcmp hx hb dL_law_795 ?_
    refine lv_if_eq (tgt := 801) hx hb dL_law_796 (by decide) (fun _ => ?_) (fun c3 => absurd (show lg_cmp o' v.toInt64 = 0 by rw [hko c2]; exact q_cmp _) c3)
    refine lv_goto (tgt := 1219) hx hb dL_law_801 (by decide) ?_
    exact hc H locs ls hI2 (lv_sub hl [2, 3, 4, 5, 6] rfl)

set_option maxHeartbeats 4000000 in
set_option maxRecDepth 100000 in
theorem k_count {p : Program} {l : Launch} {e : Env} {s : State} {m : MethodId} {below : List Frame} {meth : Method} {c : Code} {b L : Nat} {xs : Nat → Int32} {Q : State → Prop} {G : z_GT} {ad am : Nat → Nat} {ox i : Nat} {H : Heap} {locs : List Loc} {ls : Array Slot} (hx : p.tables.exec = Jvm.exec) (hb : c.code = cL_law) (hml : c.maxLocals = 9) (hown : s.vm.findClass RL = some m.cls) (hts : ∀ w ∈ wsL_law, w.before #[Value.ref b] s = true) (hXs : va_X b L xs s s.heap) (hbl : b < s.heap.size) (hst : l.stackTraces = false) (hF : q_F G ad am ox s) (hL : L ≤ 2048) (hi : 4 * i + 4 ≤ L) (hI : q_I G ad am ox s i H locs) (hl : lv_has ls 9 [(0, .ref b), (1, .ref (ad 0)), (2, .ref (am 0)), (3, .ref ox), (4, .int (nI (4 * i)))])
    (hc : ∀ (H : Heap) (locs : List Loc) (ls : Array Slot), q_I G ad am ox s (i + 1) H locs → lv_has ls 9 [(0, .ref b), (1, .ref (ad 0)), (2, .ref (am 0)), (3, .ref ox), (4, .int (nI (4 * i)))] → W p l e room_1 s m #[Value.ref b] below meth c H locs (47 + 12 * (i + 1)) (365 + 100 * (i + 1)) Q (F0 m 1219 ls [])) : W p l e room_1 s m #[Value.ref b] below meth c H locs (47 + 12 * i) (365 + 100 * i) Q (F0 m 804 ls []) := by
  obtain ⟨E, σ, κ, μ, ν, T, o, h, hT, hP, hM, hO, hS⟩ := hI
  have hX := hF.2.2.2.2.2.2.2.2.1
  have hK := hX.1
  have hZ := hF.2.2.2.2.2.2.2.2.2.2
  have hbA : ¬ (fun q : Nat => s.heap.size ≤ q) b := Nat.not_le.mpr hbl
  obtain ⟨k, v, o', E', σ', κ', μ', ν', T', hL1, hM1, hk8, hko, hR, hTT⟩ := P_count (am := am) hst hF.1 hF.2.1 hF.2.2.1 h (by omega) o (xs (nI (4 * i + 1)).toNatClampNeg)
  refine lv_aload_n hx hb dL_law_804 rfl (lv_at hl 1 rfl) ?_
  refine lv_aload_n hx hb dL_law_805 rfl (lv_at hl 0 rfl) ?_
  refine lv_iload hx hb dL_law_806 (lv_at hl 4 rfl) ?_
  refine lv_iconst (v := nI 1) hx hb dL_law_808 (by decide) ?_
  refine lv_iadd hx hb dL_law_809 ?_
  refine z_top (show (.int (nI (4 * i) + nI 1) : Value) = .int (nI (4 * i + 1)) from by rw [nI_add]) ?_
  refine va_sld (i := nI (4 * i + 1)) hx hb hXs hbl hbA hS (vp_in_nI (by omega) (by omega)) dL_law_810 ?_
  refine lv_aload_n hx hb dL_law_811 rfl (lv_at hl 3 rfl) ?_
  refine z_calll (vx_runSW (As := [.ref (ad 0), .int (xs (nI (4 * i + 1)).toNatClampNeg), .ref ox]) (rest := []) ⟨hx, hb, hml, hown, hts⟩ hL1 (vx_cwSW 3 hts gL_law_L_count rfl rfl rfl (by decide +kernel) ⟨Nat.le_of_ble_eq_true rfl, Nat.le_of_ble_eq_true rfl⟩) (z_plS hX hP hO (q_T hF hS)) rfl rfl hl.1 rfl (lv_room (Nat.le_of_ble_eq_true rfl)) dL_law_812 ⟨by show _ ≤ 601024; omega, by show _ ≤ 7293034; omega⟩) hS (q_Al hF) (fun H locs hP hO hz9 hk9 hS => ?_)
  have hM : va_P (z_DD G) vwCl (z_wM G am μ ν) H := z_Pk hM hk9 (q_nM hF)
  refine lv_istore (lv' := [(5, .int k), (0, .ref b), (1, .ref (ad 0)), (2, .ref (am 0)), (3, .ref ox), (4, .int (nI (4 * i)))]) hx hb dL_law_815 hl (by decide) rfl (fun ls hl => ?_)
  refine lv_aload_n hx hb dL_law_817 rfl (lv_at hl 3 rfl) ?_
  refine lv_aload_n hx hb dL_law_818 rfl (lv_at hl 1 rfl) ?_
  refine lv_iload hx hb dL_law_819 (lv_at hl 5 rfl) ?_
  refine lv_iconst (v := nI 1) hx hb dL_law_821 (by decide) ?_
  refine lv_iadd hx hb dL_law_822 ?_
  refine z_top (show (.int (nI (4 * i) + nI 1) : Value) = .int (nI (4 * i + 1)) from by rw [nI_add]) ?_
  refine va_sld (i := nI (4 * i + 1)) hx hb hXs hbl hbA hS (vp_in_nI (by omega) (by omega)) dL_law_823 ?_
  refine z_callm (va_runV (As := [.int (xs (nI (4 * i + 1)).toNatClampNeg)]) (rest := []) ⟨hx, hb, hml, hown, hts⟩ hM1 (cwV 1 hts gL_law_X5_count rfl rfl rfl (by decide +kernel) ⟨Nat.le_of_ble_eq_true rfl, Nat.le_of_ble_eq_true rfl⟩) (z_pcV (ci := 5) (k := 0) hZ hX hM rfl z_m0) rfl rfl hl.1 rfl (lv_room (Nat.le_of_ble_eq_true rfl)) dL_law_824 ⟨by show _ ≤ 601024; omega, by show _ ≤ 7293034; omega⟩) hS (fun q _ h9 => q_A10 hF q h9) (q_A10 hF) (fun H locs hM hz9 hk9 hS => ?_)
  have hP : va_P (z_DD G) vwCl (z_wC G ad σ' κ') H := z_Pk hP hk9 (q_nC hF)
  have hO : va_P (z_DD G) vwCl (z_wO G ox o') H := z_keep1 hO (hk9 _ (z_lt1 hO) (q_nO hF))
  refine W.eq (g2 := F0 m 827 ls [.int v]) rfl ?_
  refine lv_istore (lv' := [(6, .int v), (5, .int k), (0, .ref b), (1, .ref (ad 0)), (2, .ref (am 0)), (3, .ref ox), (4, .int (nI (4 * i)))]) hx hb dL_law_827 hl (by decide) rfl (fun ls hl => ?_)
  refine lv_aload_n hx hb dL_law_829 rfl (lv_at hl 4 rfl) ?_
  refine z_call (va_runV (As := []) (rest := []) ⟨hx, hb, hml, hown, hts⟩ (c_X5_thrown l G am μ' ν') (cwV 0 hts gL_law_X5_thrown rfl rfl rfl (by decide +kernel) ⟨Nat.le_of_ble_eq_true rfl, Nat.le_of_ble_eq_true rfl⟩) (z_prV (ci := 5) (k := 0) hX hM rfl z_m0) rfl rfl hl.1 rfl (lv_room (Nat.le_of_ble_eq_true rfl)) dL_law_830 ⟨by show _ ≤ 601024; omega, by show _ ≤ 7293034; omega⟩) (fun _ h9 => h9) ?_
  refine W.eq (g2 := F0 m 833 ls [.int (μ' 8 1)]) rfl ?_
  refine lv_iload hx hb dL_law_833 (lv_at hl 1 rfl) ?_
  refine lv_icmp_eq (tgt := 840) hx hb dL_law_835 (by decide) (fun _ => ?_) (fun c1 => absurd hk8 c1)
  refine W.widen (k := 47 + 12 * (i + 1)) (n := 365 + 100 * (i + 1)) (by omega) (by omega) ?_
  have hI2 : q_I G ad am ox s (i + 1) H locs := ⟨E', σ', κ', μ', ν', T', o', hR, by omega, hP, hM, hO, hS⟩
  refine lv_iload hx hb dL_law_840 (lv_at hl 1 rfl) ?_
  refine lv_if_ne (tgt := 857) hx hb dL_law_842 (by decide) (fun _ => ?_) (fun c2 => ?_)
  · skip
    refine lv_goto (tgt := 1219) hx hb dL_law_857 (by decide) ?_
    exact hc H locs ls hI2 (lv_sub hl [2, 3, 4, 5, 6] rfl)
  · skip
    refine lv_aload_n hx hb dL_law_845 rfl (lv_at hl 5 rfl) ?_
    refine lv_iconst (v := nI 0) hx hb dL_law_846 (by decide) ?_
    refine va_lald (i := nI 0) (f := fun _ => o') hx hb hK hO 0 4 rfl rfl (vp_in_nI (by decide) (by decide)) dL_law_847 ?_
    refine lv_iload hx hb dL_law_848 (lv_at hl 0 rfl) ?_
    refine lv_i2l hx hb dL_law_850 rfl ?_
    refine W.lcmp hx hb dL_law_851 ?_
    refine lv_if_eq (tgt := 857) hx hb dL_law_852 (by decide) (fun _ => ?_) (fun c3 => absurd (show lg_cmp o' v.toInt64 = 0 by rw [hko c2]; exact q_cmp _) c3)
    refine lv_goto (tgt := 1219) hx hb dL_law_857 (by decide) ?_
    exact hc H locs ls hI2 (lv_sub hl [2, 3, 4, 5, 6] rfl)

set_option maxHeartbeats 4000000 in
set_option maxRecDepth 100000 in
theorem k_pass {p : Program} {l : Launch} {e : Env} {s : State} {m : MethodId} {below : List Frame} {meth : Method} {c : Code} {b L : Nat} {xs : Nat → Int32} {Q : State → Prop} {G : z_GT} {ad am : Nat → Nat} {ox i : Nat} {H : Heap} {locs : List Loc} {ls : Array Slot} (hx : p.tables.exec = Jvm.exec) (hb : c.code = cL_law) (hml : c.maxLocals = 9) (hown : s.vm.findClass RL = some m.cls) (hts : ∀ w ∈ wsL_law, w.before #[Value.ref b] s = true) (hXs : va_X b L xs s s.heap) (hbl : b < s.heap.size) (hst : l.stackTraces = false) (hF : q_F G ad am ox s) (hL : L ≤ 2048) (hi : 4 * i + 4 ≤ L) (hI : q_I G ad am ox s i H locs) (hl : lv_has ls 9 [(0, .ref b), (1, .ref (ad 0)), (2, .ref (am 0)), (3, .ref ox), (4, .int (nI (4 * i)))])
    (hc : ∀ (H : Heap) (locs : List Loc) (ls : Array Slot), q_I G ad am ox s (i + 1) H locs → lv_has ls 9 [(0, .ref b), (1, .ref (ad 0)), (2, .ref (am 0)), (3, .ref ox), (4, .int (nI (4 * i)))] → W p l e room_1 s m #[Value.ref b] below meth c H locs (47 + 12 * (i + 1)) (365 + 100 * (i + 1)) Q (F0 m 1219 ls [])) : W p l e room_1 s m #[Value.ref b] below meth c H locs (47 + 12 * i) (365 + 100 * i) Q (F0 m 860 ls []) := by
  obtain ⟨E, σ, κ, μ, ν, T, o, h, hT, hP, hM, hO, hS⟩ := hI
  have hX := hF.2.2.2.2.2.2.2.2.1
  have hK := hX.1
  have hZ := hF.2.2.2.2.2.2.2.2.2.2
  have hbA : ¬ (fun q : Nat => s.heap.size ≤ q) b := Nat.not_le.mpr hbl
  obtain ⟨k, v, o', E', σ', κ', μ', ν', T', hL1, hM1, hk8, hko, hR, hTT⟩ := P_pass (am := am) hst hF.1 hF.2.1 hF.2.2.1 h (by omega) o (xs (nI (4 * i + 1)).toNatClampNeg)
  refine lv_aload_n hx hb dL_law_860 rfl (lv_at hl 1 rfl) ?_
  refine lv_aload_n hx hb dL_law_861 rfl (lv_at hl 0 rfl) ?_
  refine lv_iload hx hb dL_law_862 (lv_at hl 4 rfl) ?_
  refine lv_iconst (v := nI 1) hx hb dL_law_864 (by decide) ?_
  refine lv_iadd hx hb dL_law_865 ?_
  refine z_top (show (.int (nI (4 * i) + nI 1) : Value) = .int (nI (4 * i + 1)) from by rw [nI_add]) ?_
  refine va_sld (i := nI (4 * i + 1)) hx hb hXs hbl hbA hS (vp_in_nI (by omega) (by omega)) dL_law_866 ?_
  refine lv_aload_n hx hb dL_law_867 rfl (lv_at hl 3 rfl) ?_
  refine z_calll (vx_runSW (As := [.ref (ad 0), .int (xs (nI (4 * i + 1)).toNatClampNeg), .ref ox]) (rest := []) ⟨hx, hb, hml, hown, hts⟩ hL1 (vx_cwSW 3 hts gL_law_L_pass rfl rfl rfl (by decide +kernel) ⟨Nat.le_of_ble_eq_true rfl, Nat.le_of_ble_eq_true rfl⟩) (z_plS hX hP hO (q_T hF hS)) rfl rfl hl.1 rfl (lv_room (Nat.le_of_ble_eq_true rfl)) dL_law_868 ⟨by show _ ≤ 601024; omega, by show _ ≤ 7293034; omega⟩) hS (q_Al hF) (fun H locs hP hO hz9 hk9 hS => ?_)
  have hM : va_P (z_DD G) vwCl (z_wM G am μ ν) H := z_Pk hM hk9 (q_nM hF)
  refine lv_istore (lv' := [(5, .int k), (0, .ref b), (1, .ref (ad 0)), (2, .ref (am 0)), (3, .ref ox), (4, .int (nI (4 * i)))]) hx hb dL_law_871 hl (by decide) rfl (fun ls hl => ?_)
  refine lv_aload_n hx hb dL_law_873 rfl (lv_at hl 3 rfl) ?_
  refine lv_aload_n hx hb dL_law_874 rfl (lv_at hl 1 rfl) ?_
  refine lv_iload hx hb dL_law_875 (lv_at hl 5 rfl) ?_
  refine lv_iconst (v := nI 1) hx hb dL_law_877 (by decide) ?_
  refine lv_iadd hx hb dL_law_878 ?_
  refine z_top (show (.int (nI (4 * i) + nI 1) : Value) = .int (nI (4 * i + 1)) from by rw [nI_add]) ?_
  refine va_sld (i := nI (4 * i + 1)) hx hb hXs hbl hbA hS (vp_in_nI (by omega) (by omega)) dL_law_879 ?_
  refine z_callm (va_runV (As := [.int (xs (nI (4 * i + 1)).toNatClampNeg)]) (rest := []) ⟨hx, hb, hml, hown, hts⟩ hM1 (cwV 1 hts gL_law_X5_pass_ rfl rfl rfl (by decide +kernel) ⟨Nat.le_of_ble_eq_true rfl, Nat.le_of_ble_eq_true rfl⟩) (z_pcV (ci := 5) (k := 0) hZ hX hM rfl z_m0) rfl rfl hl.1 rfl (lv_room (Nat.le_of_ble_eq_true rfl)) dL_law_880 ⟨by show _ ≤ 601024; omega, by show _ ≤ 7293034; omega⟩) hS (fun q _ h9 => q_A10 hF q h9) (q_A10 hF) (fun H locs hM hz9 hk9 hS => ?_)
  have hP : va_P (z_DD G) vwCl (z_wC G ad σ' κ') H := z_Pk hP hk9 (q_nC hF)
  have hO : va_P (z_DD G) vwCl (z_wO G ox o') H := z_keep1 hO (hk9 _ (z_lt1 hO) (q_nO hF))
  refine W.eq (g2 := F0 m 883 ls [.int v]) rfl ?_
  refine lv_istore (lv' := [(6, .int v), (5, .int k), (0, .ref b), (1, .ref (ad 0)), (2, .ref (am 0)), (3, .ref ox), (4, .int (nI (4 * i)))]) hx hb dL_law_883 hl (by decide) rfl (fun ls hl => ?_)
  refine lv_aload_n hx hb dL_law_885 rfl (lv_at hl 4 rfl) ?_
  refine z_call (va_runV (As := []) (rest := []) ⟨hx, hb, hml, hown, hts⟩ (c_X5_thrown l G am μ' ν') (cwV 0 hts gL_law_X5_thrown rfl rfl rfl (by decide +kernel) ⟨Nat.le_of_ble_eq_true rfl, Nat.le_of_ble_eq_true rfl⟩) (z_prV (ci := 5) (k := 0) hX hM rfl z_m0) rfl rfl hl.1 rfl (lv_room (Nat.le_of_ble_eq_true rfl)) dL_law_886 ⟨by show _ ≤ 601024; omega, by show _ ≤ 7293034; omega⟩) (fun _ h9 => h9) ?_
  refine W.eq (g2 := F0 m 889 ls [.int (μ' 8 1)]) rfl ?_
  refine lv_iload hx hb dL_law_889 (lv_at hl 1 rfl) ?_
  refine lv_icmp_eq (tgt := 896) hx hb dL_law_891 (by decide) (fun _ => ?_) (fun c1 => absurd hk8 c1)
  refine W.widen (k := 47 + 12 * (i + 1)) (n := 365 + 100 * (i + 1)) (by omega) (by omega) ?_
  have hI2 : q_I G ad am ox s (i + 1) H locs := ⟨E', σ', κ', μ', ν', T', o', hR, by omega, hP, hM, hO, hS⟩
  refine lv_iload hx hb dL_law_896 (lv_at hl 1 rfl) ?_
  refine lv_if_ne (tgt := 913) hx hb dL_law_898 (by decide) (fun _ => ?_) (fun c2 => ?_)
  · skip
    refine lv_goto (tgt := 1219) hx hb dL_law_913 (by decide) ?_
    exact hc H locs ls hI2 (lv_sub hl [2, 3, 4, 5, 6] rfl)
  · skip
    refine lv_aload_n hx hb dL_law_901 rfl (lv_at hl 5 rfl) ?_
    refine lv_iconst (v := nI 0) hx hb dL_law_902 (by decide) ?_
    refine va_lald (i := nI 0) (f := fun _ => o') hx hb hK hO 0 4 rfl rfl (vp_in_nI (by decide) (by decide)) dL_law_903 ?_
    refine lv_iload hx hb dL_law_904 (lv_at hl 0 rfl) ?_
    refine lv_i2l hx hb dL_law_906 rfl ?_
    refine W.lcmp hx hb dL_law_907 ?_
    refine lv_if_eq (tgt := 913) hx hb dL_law_908 (by decide) (fun _ => ?_) (fun c3 => absurd (show lg_cmp o' v.toInt64 = 0 by rw [hko c2]; exact q_cmp _) c3)
    refine lv_goto (tgt := 1219) hx hb dL_law_913 (by decide) ?_
    exact hc H locs ls hI2 (lv_sub hl [2, 3, 4, 5, 6] rfl)

set_option maxHeartbeats 4000000 in
set_option maxRecDepth 100000 in
theorem k_joy {p : Program} {l : Launch} {e : Env} {s : State} {m : MethodId} {below : List Frame} {meth : Method} {c : Code} {b L : Nat} {xs : Nat → Int32} {Q : State → Prop} {G : z_GT} {ad am : Nat → Nat} {ox i : Nat} {H : Heap} {locs : List Loc} {ls : Array Slot} (hx : p.tables.exec = Jvm.exec) (hb : c.code = cL_law) (hml : c.maxLocals = 9) (hown : s.vm.findClass RL = some m.cls) (hts : ∀ w ∈ wsL_law, w.before #[Value.ref b] s = true) (hXs : va_X b L xs s s.heap) (hbl : b < s.heap.size) (hst : l.stackTraces = false) (hF : q_F G ad am ox s) (hL : L ≤ 2048) (hi : 4 * i + 4 ≤ L) (hI : q_I G ad am ox s i H locs) (hl : lv_has ls 9 [(0, .ref b), (1, .ref (ad 0)), (2, .ref (am 0)), (3, .ref ox), (4, .int (nI (4 * i)))])
    (hc : ∀ (H : Heap) (locs : List Loc) (ls : Array Slot), q_I G ad am ox s (i + 1) H locs → lv_has ls 9 [(0, .ref b), (1, .ref (ad 0)), (2, .ref (am 0)), (3, .ref ox), (4, .int (nI (4 * i)))] → W p l e room_1 s m #[Value.ref b] below meth c H locs (47 + 12 * (i + 1)) (365 + 100 * (i + 1)) Q (F0 m 1219 ls [])) : W p l e room_1 s m #[Value.ref b] below meth c H locs (47 + 12 * i) (365 + 100 * i) Q (F0 m 916 ls []) := by
  obtain ⟨E, σ, κ, μ, ν, T, o, h, hT, hP, hM, hO, hS⟩ := hI
  have hX := hF.2.2.2.2.2.2.2.2.1
  have hK := hX.1
  have hZ := hF.2.2.2.2.2.2.2.2.2.2
  have hbA : ¬ (fun q : Nat => s.heap.size ≤ q) b := Nat.not_le.mpr hbl
  obtain ⟨k, v, o', E', σ', κ', μ', ν', T', hL1, hM1, hk8, hko, hR, hTT⟩ := P_joy (am := am) hst hF.1 hF.2.1 hF.2.2.1 h (by omega) o (xs (nI (4 * i + 1)).toNatClampNeg) (xs (nI (4 * i + 2)).toNatClampNeg)
  refine lv_aload_n hx hb dL_law_916 rfl (lv_at hl 1 rfl) ?_
  refine lv_aload_n hx hb dL_law_917 rfl (lv_at hl 0 rfl) ?_
  refine lv_iload hx hb dL_law_918 (lv_at hl 4 rfl) ?_
  refine lv_iconst (v := nI 1) hx hb dL_law_920 (by decide) ?_
  refine lv_iadd hx hb dL_law_921 ?_
  refine z_top (show (.int (nI (4 * i) + nI 1) : Value) = .int (nI (4 * i + 1)) from by rw [nI_add]) ?_
  refine va_sld (i := nI (4 * i + 1)) hx hb hXs hbl hbA hS (vp_in_nI (by omega) (by omega)) dL_law_922 ?_
  refine lv_aload_n hx hb dL_law_923 rfl (lv_at hl 0 rfl) ?_
  refine lv_iload hx hb dL_law_924 (lv_at hl 4 rfl) ?_
  refine lv_iconst (v := nI 2) hx hb dL_law_926 (by decide) ?_
  refine lv_iadd hx hb dL_law_927 ?_
  refine z_top (show (.int (nI (4 * i) + nI 2) : Value) = .int (nI (4 * i + 2)) from by rw [nI_add]) ?_
  refine va_sld (i := nI (4 * i + 2)) hx hb hXs hbl hbA hS (vp_in_nI (by omega) (by omega)) dL_law_928 ?_
  refine lv_aload_n hx hb dL_law_929 rfl (lv_at hl 3 rfl) ?_
  refine z_calll (vx_runSW (As := [.ref (ad 0), .int (xs (nI (4 * i + 1)).toNatClampNeg), .int (xs (nI (4 * i + 2)).toNatClampNeg), .ref ox]) (rest := []) ⟨hx, hb, hml, hown, hts⟩ hL1 (vx_cwSW 4 hts gL_law_L_joy rfl rfl rfl (by decide +kernel) ⟨Nat.le_of_ble_eq_true rfl, Nat.le_of_ble_eq_true rfl⟩) (z_plS hX hP hO (q_T hF hS)) rfl rfl hl.1 rfl (lv_room (Nat.le_of_ble_eq_true rfl)) dL_law_930 ⟨by show _ ≤ 601024; omega, by show _ ≤ 7293034; omega⟩) hS (q_Al hF) (fun H locs hP hO hz9 hk9 hS => ?_)
  have hM : va_P (z_DD G) vwCl (z_wM G am μ ν) H := z_Pk hM hk9 (q_nM hF)
  refine lv_istore (lv' := [(5, .int k), (0, .ref b), (1, .ref (ad 0)), (2, .ref (am 0)), (3, .ref ox), (4, .int (nI (4 * i)))]) hx hb dL_law_933 hl (by decide) rfl (fun ls hl => ?_)
  refine lv_aload_n hx hb dL_law_935 rfl (lv_at hl 3 rfl) ?_
  refine lv_aload_n hx hb dL_law_936 rfl (lv_at hl 1 rfl) ?_
  refine lv_iload hx hb dL_law_937 (lv_at hl 5 rfl) ?_
  refine lv_iconst (v := nI 1) hx hb dL_law_939 (by decide) ?_
  refine lv_iadd hx hb dL_law_940 ?_
  refine z_top (show (.int (nI (4 * i) + nI 1) : Value) = .int (nI (4 * i + 1)) from by rw [nI_add]) ?_
  refine va_sld (i := nI (4 * i + 1)) hx hb hXs hbl hbA hS (vp_in_nI (by omega) (by omega)) dL_law_941 ?_
  refine lv_aload_n hx hb dL_law_942 rfl (lv_at hl 1 rfl) ?_
  refine lv_iload hx hb dL_law_943 (lv_at hl 5 rfl) ?_
  refine lv_iconst (v := nI 2) hx hb dL_law_945 (by decide) ?_
  refine lv_iadd hx hb dL_law_946 ?_
  refine z_top (show (.int (nI (4 * i) + nI 2) : Value) = .int (nI (4 * i + 2)) from by rw [nI_add]) ?_
  refine va_sld (i := nI (4 * i + 2)) hx hb hXs hbl hbA hS (vp_in_nI (by omega) (by omega)) dL_law_947 ?_
  refine z_callm (va_runV (As := [.int (xs (nI (4 * i + 1)).toNatClampNeg), .int (xs (nI (4 * i + 2)).toNatClampNeg)]) (rest := []) ⟨hx, hb, hml, hown, hts⟩ hM1 (cwV 2 hts gL_law_X5_joy rfl rfl rfl (by decide +kernel) ⟨Nat.le_of_ble_eq_true rfl, Nat.le_of_ble_eq_true rfl⟩) (z_pcV (ci := 5) (k := 0) hZ hX hM rfl z_m0) rfl rfl hl.1 rfl (lv_room (Nat.le_of_ble_eq_true rfl)) dL_law_948 ⟨by show _ ≤ 601024; omega, by show _ ≤ 7293034; omega⟩) hS (fun q _ h9 => q_A10 hF q h9) (q_A10 hF) (fun H locs hM hz9 hk9 hS => ?_)
  have hP : va_P (z_DD G) vwCl (z_wC G ad σ' κ') H := z_Pk hP hk9 (q_nC hF)
  have hO : va_P (z_DD G) vwCl (z_wO G ox o') H := z_keep1 hO (hk9 _ (z_lt1 hO) (q_nO hF))
  refine W.eq (g2 := F0 m 951 ls [.int v]) rfl ?_
  refine lv_istore (lv' := [(6, .int v), (5, .int k), (0, .ref b), (1, .ref (ad 0)), (2, .ref (am 0)), (3, .ref ox), (4, .int (nI (4 * i)))]) hx hb dL_law_951 hl (by decide) rfl (fun ls hl => ?_)
  refine lv_aload_n hx hb dL_law_953 rfl (lv_at hl 4 rfl) ?_
  refine z_call (va_runV (As := []) (rest := []) ⟨hx, hb, hml, hown, hts⟩ (c_X5_thrown l G am μ' ν') (cwV 0 hts gL_law_X5_thrown rfl rfl rfl (by decide +kernel) ⟨Nat.le_of_ble_eq_true rfl, Nat.le_of_ble_eq_true rfl⟩) (z_prV (ci := 5) (k := 0) hX hM rfl z_m0) rfl rfl hl.1 rfl (lv_room (Nat.le_of_ble_eq_true rfl)) dL_law_954 ⟨by show _ ≤ 601024; omega, by show _ ≤ 7293034; omega⟩) (fun _ h9 => h9) ?_
  refine W.eq (g2 := F0 m 957 ls [.int (μ' 8 1)]) rfl ?_
  refine lv_iload hx hb dL_law_957 (lv_at hl 1 rfl) ?_
  refine lv_icmp_eq (tgt := 964) hx hb dL_law_959 (by decide) (fun _ => ?_) (fun c1 => absurd hk8 c1)
  refine W.widen (k := 47 + 12 * (i + 1)) (n := 365 + 100 * (i + 1)) (by omega) (by omega) ?_
  have hI2 : q_I G ad am ox s (i + 1) H locs := ⟨E', σ', κ', μ', ν', T', o', hR, by omega, hP, hM, hO, hS⟩
  refine lv_iload hx hb dL_law_964 (lv_at hl 1 rfl) ?_
  refine lv_if_ne (tgt := 981) hx hb dL_law_966 (by decide) (fun _ => ?_) (fun c2 => ?_)
  · skip
    refine lv_goto (tgt := 1219) hx hb dL_law_981 (by decide) ?_
    exact hc H locs ls hI2 (lv_sub hl [2, 3, 4, 5, 6] rfl)
  · skip
    refine lv_aload_n hx hb dL_law_969 rfl (lv_at hl 5 rfl) ?_
    refine lv_iconst (v := nI 0) hx hb dL_law_970 (by decide) ?_
    refine va_lald (i := nI 0) (f := fun _ => o') hx hb hK hO 0 4 rfl rfl (vp_in_nI (by decide) (by decide)) dL_law_971 ?_
    refine lv_iload hx hb dL_law_972 (lv_at hl 0 rfl) ?_
    refine lv_i2l hx hb dL_law_974 rfl ?_
    refine W.lcmp hx hb dL_law_975 ?_
    refine lv_if_eq (tgt := 981) hx hb dL_law_976 (by decide) (fun _ => ?_) (fun c3 => absurd (show lg_cmp o' v.toInt64 = 0 by rw [hko c2]; exact q_cmp _) c3)
    refine lv_goto (tgt := 1219) hx hb dL_law_981 (by decide) ?_
    exact hc H locs ls hI2 (lv_sub hl [2, 3, 4, 5, 6] rfl)

set_option maxHeartbeats 4000000 in
set_option maxRecDepth 100000 in
theorem k_best {p : Program} {l : Launch} {e : Env} {s : State} {m : MethodId} {below : List Frame} {meth : Method} {c : Code} {b L : Nat} {xs : Nat → Int32} {Q : State → Prop} {G : z_GT} {ad am : Nat → Nat} {ox i : Nat} {H : Heap} {locs : List Loc} {ls : Array Slot} (hx : p.tables.exec = Jvm.exec) (hb : c.code = cL_law) (hml : c.maxLocals = 9) (hown : s.vm.findClass RL = some m.cls) (hts : ∀ w ∈ wsL_law, w.before #[Value.ref b] s = true) (hXs : va_X b L xs s s.heap) (hbl : b < s.heap.size) (hst : l.stackTraces = false) (hF : q_F G ad am ox s) (hL : L ≤ 2048) (hi : 4 * i + 4 ≤ L) (hI : q_I G ad am ox s i H locs) (hl : lv_has ls 9 [(0, .ref b), (1, .ref (ad 0)), (2, .ref (am 0)), (3, .ref ox), (4, .int (nI (4 * i)))])
    (hc : ∀ (H : Heap) (locs : List Loc) (ls : Array Slot), q_I G ad am ox s (i + 1) H locs → lv_has ls 9 [(0, .ref b), (1, .ref (ad 0)), (2, .ref (am 0)), (3, .ref ox), (4, .int (nI (4 * i)))] → W p l e room_1 s m #[Value.ref b] below meth c H locs (47 + 12 * (i + 1)) (365 + 100 * (i + 1)) Q (F0 m 1219 ls [])) : W p l e room_1 s m #[Value.ref b] below meth c H locs (47 + 12 * i) (365 + 100 * i) Q (F0 m 984 ls []) := by
  obtain ⟨E, σ, κ, μ, ν, T, o, h, hT, hP, hM, hO, hS⟩ := hI
  have hX := hF.2.2.2.2.2.2.2.2.1
  have hK := hX.1
  have hZ := hF.2.2.2.2.2.2.2.2.2.2
  have hbA : ¬ (fun q : Nat => s.heap.size ≤ q) b := Nat.not_le.mpr hbl
  obtain ⟨k, v, o', E', σ', κ', μ', ν', T', hL1, hM1, hk8, hko, hR, hTT⟩ := P_best (am := am) hst hF.1 hF.2.1 hF.2.2.1 h (by omega) o (xs (nI (4 * i + 1)).toNatClampNeg)
  refine lv_aload_n hx hb dL_law_984 rfl (lv_at hl 1 rfl) ?_
  refine lv_aload_n hx hb dL_law_985 rfl (lv_at hl 0 rfl) ?_
  refine lv_iload hx hb dL_law_986 (lv_at hl 4 rfl) ?_
  refine lv_iconst (v := nI 1) hx hb dL_law_988 (by decide) ?_
  refine lv_iadd hx hb dL_law_989 ?_
  refine z_top (show (.int (nI (4 * i) + nI 1) : Value) = .int (nI (4 * i + 1)) from by rw [nI_add]) ?_
  refine va_sld (i := nI (4 * i + 1)) hx hb hXs hbl hbA hS (vp_in_nI (by omega) (by omega)) dL_law_990 ?_
  refine lv_aload_n hx hb dL_law_991 rfl (lv_at hl 3 rfl) ?_
  refine z_calll (vx_runSW (As := [.ref (ad 0), .int (xs (nI (4 * i + 1)).toNatClampNeg), .ref ox]) (rest := []) ⟨hx, hb, hml, hown, hts⟩ hL1 (vx_cwSW 3 hts gL_law_L_best rfl rfl rfl (by decide +kernel) ⟨Nat.le_of_ble_eq_true rfl, Nat.le_of_ble_eq_true rfl⟩) (z_plS hX hP hO (q_T hF hS)) rfl rfl hl.1 rfl (lv_room (Nat.le_of_ble_eq_true rfl)) dL_law_992 ⟨by show _ ≤ 601024; omega, by show _ ≤ 7293034; omega⟩) hS (q_Al hF) (fun H locs hP hO hz9 hk9 hS => ?_)
  have hM : va_P (z_DD G) vwCl (z_wM G am μ ν) H := z_Pk hM hk9 (q_nM hF)
  refine lv_istore (lv' := [(5, .int k), (0, .ref b), (1, .ref (ad 0)), (2, .ref (am 0)), (3, .ref ox), (4, .int (nI (4 * i)))]) hx hb dL_law_995 hl (by decide) rfl (fun ls hl => ?_)
  refine lv_aload_n hx hb dL_law_997 rfl (lv_at hl 3 rfl) ?_
  refine lv_aload_n hx hb dL_law_998 rfl (lv_at hl 1 rfl) ?_
  refine lv_iload hx hb dL_law_999 (lv_at hl 5 rfl) ?_
  refine lv_iconst (v := nI 1) hx hb dL_law_1001 (by decide) ?_
  refine lv_iadd hx hb dL_law_1002 ?_
  refine z_top (show (.int (nI (4 * i) + nI 1) : Value) = .int (nI (4 * i + 1)) from by rw [nI_add]) ?_
  refine va_sld (i := nI (4 * i + 1)) hx hb hXs hbl hbA hS (vp_in_nI (by omega) (by omega)) dL_law_1003 ?_
  refine z_callm (va_runV (As := [.int (xs (nI (4 * i + 1)).toNatClampNeg)]) (rest := []) ⟨hx, hb, hml, hown, hts⟩ hM1 (cwV 1 hts gL_law_X5_best rfl rfl rfl (by decide +kernel) ⟨Nat.le_of_ble_eq_true rfl, Nat.le_of_ble_eq_true rfl⟩) (z_pcV (ci := 5) (k := 0) hZ hX hM rfl z_m0) rfl rfl hl.1 rfl (lv_room (Nat.le_of_ble_eq_true rfl)) dL_law_1004 ⟨by show _ ≤ 601024; omega, by show _ ≤ 7293034; omega⟩) hS (fun q _ h9 => q_A10 hF q h9) (q_A10 hF) (fun H locs hM hz9 hk9 hS => ?_)
  have hP : va_P (z_DD G) vwCl (z_wC G ad σ' κ') H := z_Pk hP hk9 (q_nC hF)
  have hO : va_P (z_DD G) vwCl (z_wO G ox o') H := z_keep1 hO (hk9 _ (z_lt1 hO) (q_nO hF))
  refine W.eq (g2 := F0 m 1007 ls [.int v]) rfl ?_
  refine lv_istore (lv' := [(6, .int v), (5, .int k), (0, .ref b), (1, .ref (ad 0)), (2, .ref (am 0)), (3, .ref ox), (4, .int (nI (4 * i)))]) hx hb dL_law_1007 hl (by decide) rfl (fun ls hl => ?_)
  refine lv_aload_n hx hb dL_law_1009 rfl (lv_at hl 4 rfl) ?_
  refine z_call (va_runV (As := []) (rest := []) ⟨hx, hb, hml, hown, hts⟩ (c_X5_thrown l G am μ' ν') (cwV 0 hts gL_law_X5_thrown rfl rfl rfl (by decide +kernel) ⟨Nat.le_of_ble_eq_true rfl, Nat.le_of_ble_eq_true rfl⟩) (z_prV (ci := 5) (k := 0) hX hM rfl z_m0) rfl rfl hl.1 rfl (lv_room (Nat.le_of_ble_eq_true rfl)) dL_law_1010 ⟨by show _ ≤ 601024; omega, by show _ ≤ 7293034; omega⟩) (fun _ h9 => h9) ?_
  refine W.eq (g2 := F0 m 1013 ls [.int (μ' 8 1)]) rfl ?_
  refine lv_iload hx hb dL_law_1013 (lv_at hl 1 rfl) ?_
  refine lv_icmp_eq (tgt := 1020) hx hb dL_law_1015 (by decide) (fun _ => ?_) (fun c1 => absurd hk8 c1)
  refine W.widen (k := 47 + 12 * (i + 1)) (n := 365 + 100 * (i + 1)) (by omega) (by omega) ?_
  have hI2 : q_I G ad am ox s (i + 1) H locs := ⟨E', σ', κ', μ', ν', T', o', hR, by omega, hP, hM, hO, hS⟩
  refine lv_iload hx hb dL_law_1020 (lv_at hl 1 rfl) ?_
  refine lv_if_ne (tgt := 1037) hx hb dL_law_1022 (by decide) (fun _ => ?_) (fun c2 => ?_)
  · skip
    refine lv_goto (tgt := 1219) hx hb dL_law_1037 (by decide) ?_
    exact hc H locs ls hI2 (lv_sub hl [2, 3, 4, 5, 6] rfl)
  · skip
    refine lv_aload_n hx hb dL_law_1025 rfl (lv_at hl 5 rfl) ?_
    refine lv_iconst (v := nI 0) hx hb dL_law_1026 (by decide) ?_
    refine va_lald (i := nI 0) (f := fun _ => o') hx hb hK hO 0 4 rfl rfl (vp_in_nI (by decide) (by decide)) dL_law_1027 ?_
    refine lv_iload hx hb dL_law_1028 (lv_at hl 0 rfl) ?_
    refine lv_i2l hx hb dL_law_1030 rfl ?_
    refine W.lcmp hx hb dL_law_1031 ?_
    refine lv_if_eq (tgt := 1037) hx hb dL_law_1032 (by decide) (fun _ => ?_) (fun c3 => absurd (show lg_cmp o' v.toInt64 = 0 by rw [hko c2]; exact q_cmp _) c3)
    refine lv_goto (tgt := 1219) hx hb dL_law_1037 (by decide) ?_
    exact hc H locs ls hI2 (lv_sub hl [2, 3, 4, 5, 6] rfl)

set_option maxHeartbeats 4000000 in
set_option maxRecDepth 100000 in
theorem k_advise {p : Program} {l : Launch} {e : Env} {s : State} {m : MethodId} {below : List Frame} {meth : Method} {c : Code} {b L : Nat} {xs : Nat → Int32} {Q : State → Prop} {G : z_GT} {ad am : Nat → Nat} {ox i : Nat} {H : Heap} {locs : List Loc} {ls : Array Slot} (hx : p.tables.exec = Jvm.exec) (hb : c.code = cL_law) (hml : c.maxLocals = 9) (hown : s.vm.findClass RL = some m.cls) (hts : ∀ w ∈ wsL_law, w.before #[Value.ref b] s = true) (hXs : va_X b L xs s s.heap) (hbl : b < s.heap.size) (hst : l.stackTraces = false) (hF : q_F G ad am ox s) (hL : L ≤ 2048) (hi : 4 * i + 4 ≤ L) (hI : q_I G ad am ox s i H locs) (hl : lv_has ls 9 [(0, .ref b), (1, .ref (ad 0)), (2, .ref (am 0)), (3, .ref ox), (4, .int (nI (4 * i)))])
    (hc : ∀ (H : Heap) (locs : List Loc) (ls : Array Slot), q_I G ad am ox s (i + 1) H locs → lv_has ls 9 [(0, .ref b), (1, .ref (ad 0)), (2, .ref (am 0)), (3, .ref ox), (4, .int (nI (4 * i)))] → W p l e room_1 s m #[Value.ref b] below meth c H locs (47 + 12 * (i + 1)) (365 + 100 * (i + 1)) Q (F0 m 1219 ls [])) : W p l e room_1 s m #[Value.ref b] below meth c H locs (47 + 12 * i) (365 + 100 * i) Q (F0 m 1040 ls []) := by
  obtain ⟨E, σ, κ, μ, ν, T, o, h, hT, hP, hM, hO, hS⟩ := hI
  have hX := hF.2.2.2.2.2.2.2.2.1
  have hK := hX.1
  have hZ := hF.2.2.2.2.2.2.2.2.2.2
  have hbA : ¬ (fun q : Nat => s.heap.size ≤ q) b := Nat.not_le.mpr hbl
  obtain ⟨k, v, o', E', σ', κ', μ', ν', T', hL1, hM1, hk8, hko, hR, hTT⟩ := P_advise (am := am) hst hF.1 hF.2.1 hF.2.2.1 h (by omega) o (xs (nI (4 * i + 1)).toNatClampNeg)
  refine lv_aload_n hx hb dL_law_1040 rfl (lv_at hl 1 rfl) ?_
  refine lv_aload_n hx hb dL_law_1041 rfl (lv_at hl 0 rfl) ?_
  refine lv_iload hx hb dL_law_1042 (lv_at hl 4 rfl) ?_
  refine lv_iconst (v := nI 1) hx hb dL_law_1044 (by decide) ?_
  refine lv_iadd hx hb dL_law_1045 ?_
  refine z_top (show (.int (nI (4 * i) + nI 1) : Value) = .int (nI (4 * i + 1)) from by rw [nI_add]) ?_
  refine va_sld (i := nI (4 * i + 1)) hx hb hXs hbl hbA hS (vp_in_nI (by omega) (by omega)) dL_law_1046 ?_
  refine lv_aload_n hx hb dL_law_1047 rfl (lv_at hl 3 rfl) ?_
  refine z_calll (vx_runSW (As := [.ref (ad 0), .int (xs (nI (4 * i + 1)).toNatClampNeg), .ref ox]) (rest := []) ⟨hx, hb, hml, hown, hts⟩ hL1 (vx_cwSW 3 hts gL_law_L_advise rfl rfl rfl (by decide +kernel) ⟨Nat.le_of_ble_eq_true rfl, Nat.le_of_ble_eq_true rfl⟩) (z_plS hX hP hO (q_T hF hS)) rfl rfl hl.1 rfl (lv_room (Nat.le_of_ble_eq_true rfl)) dL_law_1048 ⟨by show _ ≤ 601024; omega, by show _ ≤ 7293034; omega⟩) hS (q_Al hF) (fun H locs hP hO hz9 hk9 hS => ?_)
  have hM : va_P (z_DD G) vwCl (z_wM G am μ ν) H := z_Pk hM hk9 (q_nM hF)
  refine lv_istore (lv' := [(5, .int k), (0, .ref b), (1, .ref (ad 0)), (2, .ref (am 0)), (3, .ref ox), (4, .int (nI (4 * i)))]) hx hb dL_law_1051 hl (by decide) rfl (fun ls hl => ?_)
  refine lv_aload_n hx hb dL_law_1053 rfl (lv_at hl 3 rfl) ?_
  refine lv_aload_n hx hb dL_law_1054 rfl (lv_at hl 1 rfl) ?_
  refine lv_iload hx hb dL_law_1055 (lv_at hl 5 rfl) ?_
  refine lv_iconst (v := nI 1) hx hb dL_law_1057 (by decide) ?_
  refine lv_iadd hx hb dL_law_1058 ?_
  refine z_top (show (.int (nI (4 * i) + nI 1) : Value) = .int (nI (4 * i + 1)) from by rw [nI_add]) ?_
  refine va_sld (i := nI (4 * i + 1)) hx hb hXs hbl hbA hS (vp_in_nI (by omega) (by omega)) dL_law_1059 ?_
  refine z_callm (va_runV (As := [.int (xs (nI (4 * i + 1)).toNatClampNeg)]) (rest := []) ⟨hx, hb, hml, hown, hts⟩ hM1 (cwV 1 hts gL_law_X5_advise rfl rfl rfl (by decide +kernel) ⟨Nat.le_of_ble_eq_true rfl, Nat.le_of_ble_eq_true rfl⟩) (z_pcV (ci := 5) (k := 0) hZ hX hM rfl z_m0) rfl rfl hl.1 rfl (lv_room (Nat.le_of_ble_eq_true rfl)) dL_law_1060 ⟨by show _ ≤ 601024; omega, by show _ ≤ 7293034; omega⟩) hS (fun q _ h9 => q_A10 hF q h9) (q_A10 hF) (fun H locs hM hz9 hk9 hS => ?_)
  have hP : va_P (z_DD G) vwCl (z_wC G ad σ' κ') H := z_Pk hP hk9 (q_nC hF)
  have hO : va_P (z_DD G) vwCl (z_wO G ox o') H := z_keep1 hO (hk9 _ (z_lt1 hO) (q_nO hF))
  refine W.eq (g2 := F0 m 1063 ls [.int v]) rfl ?_
  refine lv_istore (lv' := [(6, .int v), (5, .int k), (0, .ref b), (1, .ref (ad 0)), (2, .ref (am 0)), (3, .ref ox), (4, .int (nI (4 * i)))]) hx hb dL_law_1063 hl (by decide) rfl (fun ls hl => ?_)
  refine lv_aload_n hx hb dL_law_1065 rfl (lv_at hl 4 rfl) ?_
  refine z_call (va_runV (As := []) (rest := []) ⟨hx, hb, hml, hown, hts⟩ (c_X5_thrown l G am μ' ν') (cwV 0 hts gL_law_X5_thrown rfl rfl rfl (by decide +kernel) ⟨Nat.le_of_ble_eq_true rfl, Nat.le_of_ble_eq_true rfl⟩) (z_prV (ci := 5) (k := 0) hX hM rfl z_m0) rfl rfl hl.1 rfl (lv_room (Nat.le_of_ble_eq_true rfl)) dL_law_1066 ⟨by show _ ≤ 601024; omega, by show _ ≤ 7293034; omega⟩) (fun _ h9 => h9) ?_
  refine W.eq (g2 := F0 m 1069 ls [.int (μ' 8 1)]) rfl ?_
  refine lv_iload hx hb dL_law_1069 (lv_at hl 1 rfl) ?_
  refine lv_icmp_eq (tgt := 1076) hx hb dL_law_1071 (by decide) (fun _ => ?_) (fun c1 => absurd hk8 c1)
  refine W.widen (k := 47 + 12 * (i + 1)) (n := 365 + 100 * (i + 1)) (by omega) (by omega) ?_
  have hI2 : q_I G ad am ox s (i + 1) H locs := ⟨E', σ', κ', μ', ν', T', o', hR, by omega, hP, hM, hO, hS⟩
  refine lv_iload hx hb dL_law_1076 (lv_at hl 1 rfl) ?_
  refine lv_if_ne (tgt := 1093) hx hb dL_law_1078 (by decide) (fun _ => ?_) (fun c2 => ?_)
  · skip
    refine lv_goto (tgt := 1219) hx hb dL_law_1093 (by decide) ?_
    exact hc H locs ls hI2 (lv_sub hl [2, 3, 4, 5, 6] rfl)
  · skip
    refine lv_aload_n hx hb dL_law_1081 rfl (lv_at hl 5 rfl) ?_
    refine lv_iconst (v := nI 0) hx hb dL_law_1082 (by decide) ?_
    refine va_lald (i := nI 0) (f := fun _ => o') hx hb hK hO 0 4 rfl rfl (vp_in_nI (by decide) (by decide)) dL_law_1083 ?_
    refine lv_iload hx hb dL_law_1084 (lv_at hl 0 rfl) ?_
    refine lv_i2l hx hb dL_law_1086 rfl ?_
    refine W.lcmp hx hb dL_law_1087 ?_
    refine lv_if_eq (tgt := 1093) hx hb dL_law_1088 (by decide) (fun _ => ?_) (fun c3 => absurd (show lg_cmp o' v.toInt64 = 0 by rw [hko c2]; exact q_cmp _) c3)
    refine lv_goto (tgt := 1219) hx hb dL_law_1093 (by decide) ?_
    exact hc H locs ls hI2 (lv_sub hl [2, 3, 4, 5, 6] rfl)

set_option maxHeartbeats 4000000 in
set_option maxRecDepth 100000 in
theorem k_foresee {p : Program} {l : Launch} {e : Env} {s : State} {m : MethodId} {below : List Frame} {meth : Method} {c : Code} {b L : Nat} {xs : Nat → Int32} {Q : State → Prop} {G : z_GT} {ad am : Nat → Nat} {ox i : Nat} {H : Heap} {locs : List Loc} {ls : Array Slot} (hx : p.tables.exec = Jvm.exec) (hb : c.code = cL_law) (hml : c.maxLocals = 9) (hown : s.vm.findClass RL = some m.cls) (hts : ∀ w ∈ wsL_law, w.before #[Value.ref b] s = true) (hXs : va_X b L xs s s.heap) (hbl : b < s.heap.size) (hst : l.stackTraces = false) (hF : q_F G ad am ox s) (hL : L ≤ 2048) (hi : 4 * i + 4 ≤ L) (hI : q_I G ad am ox s i H locs) (hl : lv_has ls 9 [(0, .ref b), (1, .ref (ad 0)), (2, .ref (am 0)), (3, .ref ox), (4, .int (nI (4 * i)))])
    (hc : ∀ (H : Heap) (locs : List Loc) (ls : Array Slot), q_I G ad am ox s (i + 1) H locs → lv_has ls 9 [(0, .ref b), (1, .ref (ad 0)), (2, .ref (am 0)), (3, .ref ox), (4, .int (nI (4 * i)))] → W p l e room_1 s m #[Value.ref b] below meth c H locs (47 + 12 * (i + 1)) (365 + 100 * (i + 1)) Q (F0 m 1219 ls [])) : W p l e room_1 s m #[Value.ref b] below meth c H locs (47 + 12 * i) (365 + 100 * i) Q (F0 m 1096 ls []) := by
  obtain ⟨E, σ, κ, μ, ν, T, o, h, hT, hP, hM, hO, hS⟩ := hI
  have hX := hF.2.2.2.2.2.2.2.2.1
  have hK := hX.1
  have hZ := hF.2.2.2.2.2.2.2.2.2.2
  have hbA : ¬ (fun q : Nat => s.heap.size ≤ q) b := Nat.not_le.mpr hbl
  obtain ⟨k, v, o', E', σ', κ', μ', ν', T', hL1, hM1, hk8, hko, hR, hTT⟩ := P_foresee (am := am) hst hF.1 hF.2.1 hF.2.2.1 h (by omega) o (xs (nI (4 * i + 1)).toNatClampNeg) (xs (nI (4 * i + 2)).toNatClampNeg)
  refine lv_aload_n hx hb dL_law_1096 rfl (lv_at hl 1 rfl) ?_
  refine lv_aload_n hx hb dL_law_1097 rfl (lv_at hl 0 rfl) ?_
  refine lv_iload hx hb dL_law_1098 (lv_at hl 4 rfl) ?_
  refine lv_iconst (v := nI 1) hx hb dL_law_1100 (by decide) ?_
  refine lv_iadd hx hb dL_law_1101 ?_
  refine z_top (show (.int (nI (4 * i) + nI 1) : Value) = .int (nI (4 * i + 1)) from by rw [nI_add]) ?_
  refine va_sld (i := nI (4 * i + 1)) hx hb hXs hbl hbA hS (vp_in_nI (by omega) (by omega)) dL_law_1102 ?_
  refine lv_aload_n hx hb dL_law_1103 rfl (lv_at hl 0 rfl) ?_
  refine lv_iload hx hb dL_law_1104 (lv_at hl 4 rfl) ?_
  refine lv_iconst (v := nI 2) hx hb dL_law_1106 (by decide) ?_
  refine lv_iadd hx hb dL_law_1107 ?_
  refine z_top (show (.int (nI (4 * i) + nI 2) : Value) = .int (nI (4 * i + 2)) from by rw [nI_add]) ?_
  refine va_sld (i := nI (4 * i + 2)) hx hb hXs hbl hbA hS (vp_in_nI (by omega) (by omega)) dL_law_1108 ?_
  refine lv_aload_n hx hb dL_law_1109 rfl (lv_at hl 3 rfl) ?_
  refine z_calll (vx_runSW (As := [.ref (ad 0), .int (xs (nI (4 * i + 1)).toNatClampNeg), .int (xs (nI (4 * i + 2)).toNatClampNeg), .ref ox]) (rest := []) ⟨hx, hb, hml, hown, hts⟩ hL1 (vx_cwSW 4 hts gL_law_L_foresee rfl rfl rfl (by decide +kernel) ⟨Nat.le_of_ble_eq_true rfl, Nat.le_of_ble_eq_true rfl⟩) (z_plS hX hP hO (q_T hF hS)) rfl rfl hl.1 rfl (lv_room (Nat.le_of_ble_eq_true rfl)) dL_law_1110 ⟨by show _ ≤ 601024; omega, by show _ ≤ 7293034; omega⟩) hS (q_Al hF) (fun H locs hP hO hz9 hk9 hS => ?_)
  have hM : va_P (z_DD G) vwCl (z_wM G am μ ν) H := z_Pk hM hk9 (q_nM hF)
  refine lv_istore (lv' := [(5, .int k), (0, .ref b), (1, .ref (ad 0)), (2, .ref (am 0)), (3, .ref ox), (4, .int (nI (4 * i)))]) hx hb dL_law_1113 hl (by decide) rfl (fun ls hl => ?_)
  refine lv_aload_n hx hb dL_law_1115 rfl (lv_at hl 3 rfl) ?_
  refine lv_aload_n hx hb dL_law_1116 rfl (lv_at hl 1 rfl) ?_
  refine lv_iload hx hb dL_law_1117 (lv_at hl 5 rfl) ?_
  refine lv_iconst (v := nI 1) hx hb dL_law_1119 (by decide) ?_
  refine lv_iadd hx hb dL_law_1120 ?_
  refine z_top (show (.int (nI (4 * i) + nI 1) : Value) = .int (nI (4 * i + 1)) from by rw [nI_add]) ?_
  refine va_sld (i := nI (4 * i + 1)) hx hb hXs hbl hbA hS (vp_in_nI (by omega) (by omega)) dL_law_1121 ?_
  refine lv_aload_n hx hb dL_law_1122 rfl (lv_at hl 1 rfl) ?_
  refine lv_iload hx hb dL_law_1123 (lv_at hl 5 rfl) ?_
  refine lv_iconst (v := nI 2) hx hb dL_law_1125 (by decide) ?_
  refine lv_iadd hx hb dL_law_1126 ?_
  refine z_top (show (.int (nI (4 * i) + nI 2) : Value) = .int (nI (4 * i + 2)) from by rw [nI_add]) ?_
  refine va_sld (i := nI (4 * i + 2)) hx hb hXs hbl hbA hS (vp_in_nI (by omega) (by omega)) dL_law_1127 ?_
  refine z_callm (va_runV (As := [.int (xs (nI (4 * i + 1)).toNatClampNeg), .int (xs (nI (4 * i + 2)).toNatClampNeg)]) (rest := []) ⟨hx, hb, hml, hown, hts⟩ hM1 (cwV 2 hts gL_law_X5_foresee rfl rfl rfl (by decide +kernel) ⟨Nat.le_of_ble_eq_true rfl, Nat.le_of_ble_eq_true rfl⟩) (z_pcV (ci := 5) (k := 0) hZ hX hM rfl z_m0) rfl rfl hl.1 rfl (lv_room (Nat.le_of_ble_eq_true rfl)) dL_law_1128 ⟨by show _ ≤ 601024; omega, by show _ ≤ 7293034; omega⟩) hS (fun q _ h9 => q_A10 hF q h9) (q_A10 hF) (fun H locs hM hz9 hk9 hS => ?_)
  have hP : va_P (z_DD G) vwCl (z_wC G ad σ' κ') H := z_Pk hP hk9 (q_nC hF)
  have hO : va_P (z_DD G) vwCl (z_wO G ox o') H := z_keep1 hO (hk9 _ (z_lt1 hO) (q_nO hF))
  refine W.eq (g2 := F0 m 1131 ls [.int v]) rfl ?_
  refine lv_istore (lv' := [(6, .int v), (5, .int k), (0, .ref b), (1, .ref (ad 0)), (2, .ref (am 0)), (3, .ref ox), (4, .int (nI (4 * i)))]) hx hb dL_law_1131 hl (by decide) rfl (fun ls hl => ?_)
  refine lv_aload_n hx hb dL_law_1133 rfl (lv_at hl 4 rfl) ?_
  refine z_call (va_runV (As := []) (rest := []) ⟨hx, hb, hml, hown, hts⟩ (c_X5_thrown l G am μ' ν') (cwV 0 hts gL_law_X5_thrown rfl rfl rfl (by decide +kernel) ⟨Nat.le_of_ble_eq_true rfl, Nat.le_of_ble_eq_true rfl⟩) (z_prV (ci := 5) (k := 0) hX hM rfl z_m0) rfl rfl hl.1 rfl (lv_room (Nat.le_of_ble_eq_true rfl)) dL_law_1134 ⟨by show _ ≤ 601024; omega, by show _ ≤ 7293034; omega⟩) (fun _ h9 => h9) ?_
  refine W.eq (g2 := F0 m 1137 ls [.int (μ' 8 1)]) rfl ?_
  refine lv_iload hx hb dL_law_1137 (lv_at hl 1 rfl) ?_
  refine lv_icmp_eq (tgt := 1144) hx hb dL_law_1139 (by decide) (fun _ => ?_) (fun c1 => absurd hk8 c1)
  refine W.widen (k := 47 + 12 * (i + 1)) (n := 365 + 100 * (i + 1)) (by omega) (by omega) ?_
  have hI2 : q_I G ad am ox s (i + 1) H locs := ⟨E', σ', κ', μ', ν', T', o', hR, by omega, hP, hM, hO, hS⟩
  refine lv_iload hx hb dL_law_1144 (lv_at hl 1 rfl) ?_
  refine lv_if_ne (tgt := 1161) hx hb dL_law_1146 (by decide) (fun _ => ?_) (fun c2 => ?_)
  · skip
    refine lv_goto (tgt := 1219) hx hb dL_law_1161 (by decide) ?_
    exact hc H locs ls hI2 (lv_sub hl [2, 3, 4, 5, 6] rfl)
  · skip
    refine lv_aload_n hx hb dL_law_1149 rfl (lv_at hl 5 rfl) ?_
    refine lv_iconst (v := nI 0) hx hb dL_law_1150 (by decide) ?_
    refine va_lald (i := nI 0) (f := fun _ => o') hx hb hK hO 0 4 rfl rfl (vp_in_nI (by decide) (by decide)) dL_law_1151 ?_
    refine lv_iload hx hb dL_law_1152 (lv_at hl 0 rfl) ?_
    refine lv_i2l hx hb dL_law_1154 rfl ?_
    refine W.lcmp hx hb dL_law_1155 ?_
    refine lv_if_eq (tgt := 1161) hx hb dL_law_1156 (by decide) (fun _ => ?_) (fun c3 => absurd (show lg_cmp o' v.toInt64 = 0 by rw [hko c2]; exact q_cmp _) c3)
    refine lv_goto (tgt := 1219) hx hb dL_law_1161 (by decide) ?_
    exact hc H locs ls hI2 (lv_sub hl [2, 3, 4, 5, 6] rfl)

set_option maxHeartbeats 4000000 in
set_option maxRecDepth 100000 in
theorem k_mean {p : Program} {l : Launch} {e : Env} {s : State} {m : MethodId} {below : List Frame} {meth : Method} {c : Code} {b L : Nat} {xs : Nat → Int32} {Q : State → Prop} {G : z_GT} {ad am : Nat → Nat} {ox i : Nat} {H : Heap} {locs : List Loc} {ls : Array Slot} (hx : p.tables.exec = Jvm.exec) (hb : c.code = cL_law) (hml : c.maxLocals = 9) (hown : s.vm.findClass RL = some m.cls) (hts : ∀ w ∈ wsL_law, w.before #[Value.ref b] s = true) (hXs : va_X b L xs s s.heap) (hbl : b < s.heap.size) (hst : l.stackTraces = false) (hF : q_F G ad am ox s) (hL : L ≤ 2048) (hi : 4 * i + 4 ≤ L) (hI : q_I G ad am ox s i H locs) (hl : lv_has ls 9 [(0, .ref b), (1, .ref (ad 0)), (2, .ref (am 0)), (3, .ref ox), (4, .int (nI (4 * i)))])
    (hc : ∀ (H : Heap) (locs : List Loc) (ls : Array Slot), q_I G ad am ox s (i + 1) H locs → lv_has ls 9 [(0, .ref b), (1, .ref (ad 0)), (2, .ref (am 0)), (3, .ref ox), (4, .int (nI (4 * i)))] → W p l e room_1 s m #[Value.ref b] below meth c H locs (47 + 12 * (i + 1)) (365 + 100 * (i + 1)) Q (F0 m 1219 ls [])) : W p l e room_1 s m #[Value.ref b] below meth c H locs (47 + 12 * i) (365 + 100 * i) Q (F0 m 1164 ls []) := by
  obtain ⟨E, σ, κ, μ, ν, T, o, h, hT, hP, hM, hO, hS⟩ := hI
  have hX := hF.2.2.2.2.2.2.2.2.1
  have hK := hX.1
  have hZ := hF.2.2.2.2.2.2.2.2.2.2
  have hbA : ¬ (fun q : Nat => s.heap.size ≤ q) b := Nat.not_le.mpr hbl
  have hw := r_wf h.1
  have hy := r_ywf h.1
  refine lv_aload_n hx hb dL_law_1164 rfl (lv_at hl 1 rfl) ?_
  refine z_call (va_runV (As := []) (rest := []) ⟨hx, hb, hml, hown, hts⟩ (c_X4_mean l G ad σ κ hw) (cwV 0 hts gL_law_X4_mean rfl rfl rfl (by decide +kernel) ⟨Nat.le_of_ble_eq_true rfl, Nat.le_of_ble_eq_true rfl⟩) (z_prV (ci := 4) (k := 0) hX hP rfl z_g0) rfl rfl hl.1 rfl (lv_room (Nat.le_of_ble_eq_true rfl)) dL_law_1165 ⟨by show _ ≤ 601024; omega, by show _ ≤ 7293034; omega⟩) (fun _ h9 => h9) ?_
  refine W.eq (g2 := F0 m 1168 ls [.double (z_me σ κ)]) rfl ?_
  rw [r_me h]
  refine lv_dstore (lv' := [(5, .double (y_me μ ν)), (0, .ref b), (1, .ref (ad 0)), (2, .ref (am 0)), (3, .ref ox), (4, .int (nI (4 * i)))]) hx hb dL_law_1168 hl (by decide) rfl (fun ls hl => ?_)
  refine lv_aload_n hx hb dL_law_1170 rfl (lv_at hl 3 rfl) ?_
  refine z_callm (va_runV (As := []) (rest := []) ⟨hx, hb, hml, hown, hts⟩ (c_X5_mean l G am μ ν hF.2.1 hy) (cwV 0 hts gL_law_X5_mean rfl rfl rfl (by decide +kernel) ⟨Nat.le_of_ble_eq_true rfl, Nat.le_of_ble_eq_true rfl⟩) (z_prV (ci := 5) (k := 0) hX hM rfl z_m0) rfl rfl hl.1 rfl (lv_room (Nat.le_of_ble_eq_true rfl)) dL_law_1171 ⟨by show _ ≤ 601024; omega, by show _ ≤ 7293034; omega⟩) hS (fun q _ h9 => q_A10 hF q h9) (q_A10 hF) (fun H locs hM hz9 hk9 hS => ?_)
  have hP : va_P (z_DD G) vwCl (z_wC G ad σ κ) H := z_Pk hP hk9 (q_nC hF)
  have hO : va_P (z_DD G) vwCl (z_wO G ox o) H := z_keep1 hO (hk9 _ (z_lt1 hO) (q_nO hF))
  refine W.eq (g2 := F0 m 1174 ls [.double (y_me μ ν)]) rfl ?_
  refine W.widen (k := 47 + 12 * (i + 1)) (n := 365 + 100 * (i + 1)) (by omega) (by omega) ?_
  have hI2 : q_I G ad am ox s (i + 1) H locs := ⟨E, σ, κ, z_up μ 8 1 0, ν, T, o, r_thrown h 0, by omega, hP, hM, hO, hS⟩
  refine lv_dstore (lv' := [(7, .double (y_me μ ν)), (5, .double (y_me μ ν)), (0, .ref b), (1, .ref (ad 0)), (2, .ref (am 0)), (3, .ref ox), (4, .int (nI (4 * i)))]) hx hb dL_law_1174 hl (by decide) rfl (fun ls hl => ?_)
  refine lv_dload hx hb dL_law_1176 (lv_at hl 1 rfl) ?_
  refine lv_dload hx hb dL_law_1178 (lv_at hl 0 rfl) ?_
  refine lv_dcmp hx hb dL_law_1180 ?_
  refine lv_if_eq (tgt := 1202) hx hb dL_law_1181 (by decide) (fun _ => ?_) (fun c1 => ?_)
  · skip
    refine lv_goto (tgt := 1219) hx hb dL_law_1202 (by decide) ?_
    exact hc H locs ls hI2 (lv_sub hl [2, 3, 4, 5, 6] rfl)
  · skip
    refine lv_dload hx hb dL_law_1184 (lv_at hl 1 rfl) ?_
    refine lv_dload hx hb dL_law_1186 (lv_at hl 1 rfl) ?_
    refine lv_dcmp hx hb dL_law_1188 ?_
    refine lv_if_eq (tgt := 1200) hx hb dL_law_1189 (by decide) (fun c2 => absurd c2 c1) (fun _ => ?_)
    refine lv_dload hx hb dL_law_1192 (lv_at hl 0 rfl) ?_
    refine lv_dload hx hb dL_law_1194 (lv_at hl 0 rfl) ?_
    refine lv_dcmp hx hb dL_law_1196 ?_
    refine lv_if_ne (tgt := 1202) hx hb dL_law_1197 (by decide) (fun _ => ?_) (fun c3 => absurd c3 c1)
    refine lv_goto (tgt := 1219) hx hb dL_law_1202 (by decide) ?_
    exact hc H locs ls hI2 (lv_sub hl [2, 3, 4, 5, 6] rfl)

set_option maxHeartbeats 4000000 in
set_option maxRecDepth 100000 in
theorem k_digest {p : Program} {l : Launch} {e : Env} {s : State} {m : MethodId} {below : List Frame} {meth : Method} {c : Code} {b L : Nat} {xs : Nat → Int32} {Q : State → Prop} {G : z_GT} {ad am : Nat → Nat} {ox i : Nat} {H : Heap} {locs : List Loc} {ls : Array Slot} (hx : p.tables.exec = Jvm.exec) (hb : c.code = cL_law) (hml : c.maxLocals = 9) (hown : s.vm.findClass RL = some m.cls) (hts : ∀ w ∈ wsL_law, w.before #[Value.ref b] s = true) (hXs : va_X b L xs s s.heap) (hbl : b < s.heap.size) (hst : l.stackTraces = false) (hF : q_F G ad am ox s) (hL : L ≤ 2048) (hi : 4 * i + 4 ≤ L) (hI : q_I G ad am ox s i H locs) (hl : lv_has ls 9 [(0, .ref b), (1, .ref (ad 0)), (2, .ref (am 0)), (3, .ref ox), (4, .int (nI (4 * i)))])
    (hc : ∀ (H : Heap) (locs : List Loc) (ls : Array Slot), q_I G ad am ox s (i + 1) H locs → lv_has ls 9 [(0, .ref b), (1, .ref (ad 0)), (2, .ref (am 0)), (3, .ref ox), (4, .int (nI (4 * i)))] → W p l e room_1 s m #[Value.ref b] below meth c H locs (47 + 12 * (i + 1)) (365 + 100 * (i + 1)) Q (F0 m 1219 ls [])) : W p l e room_1 s m #[Value.ref b] below meth c H locs (47 + 12 * i) (365 + 100 * i) Q (F0 m 1205 ls []) := by
  obtain ⟨E, σ, κ, μ, ν, T, o, h, hT, hP, hM, hO, hS⟩ := hI
  have hX := hF.2.2.2.2.2.2.2.2.1
  have hK := hX.1
  have hZ := hF.2.2.2.2.2.2.2.2.2.2
  have hbA : ¬ (fun q : Nat => s.heap.size ≤ q) b := Nat.not_le.mpr hbl
  have hw := r_wf h.1
  have hy := r_ywf h.1
  refine lv_aload_n hx hb dL_law_1205 rfl (lv_at hl 1 rfl) ?_
  refine z_call (va_runV (As := []) (rest := []) ⟨hx, hb, hml, hown, hts⟩ (c_X4_digest l G ad σ κ hw) (cwV 0 hts gL_law_X4_digest rfl rfl rfl (by decide +kernel) ⟨Nat.le_of_ble_eq_true rfl, Nat.le_of_ble_eq_true rfl⟩) (z_prV (ci := 4) (k := 0) hX hP rfl z_g0) rfl rfl hl.1 rfl (lv_room (Nat.le_of_ble_eq_true rfl)) dL_law_1206 ⟨by show _ ≤ 601024; omega, by show _ ≤ 7293034; omega⟩) (fun _ h9 => h9) ?_
  refine W.eq (g2 := F0 m 1209 ls [.long (z_dg σ κ)]) rfl ?_
  refine lv_aload_n hx hb dL_law_1209 rfl (lv_at hl 2 rfl) ?_
  refine z_callm (va_runV (As := []) (rest := [.long (z_dg σ κ)]) ⟨hx, hb, hml, hown, hts⟩ (c_X5_digest l G am μ ν hF.2.1 hy) (cwV 0 hts gL_law_X5_digest rfl rfl rfl (by decide +kernel) ⟨Nat.le_of_ble_eq_true rfl, Nat.le_of_ble_eq_true rfl⟩) (z_prV (ci := 5) (k := 0) hX hM rfl z_m0) rfl rfl hl.1 rfl (lv_room (Nat.le_of_ble_eq_true rfl)) dL_law_1210 ⟨by show _ ≤ 601024; omega, by show _ ≤ 7293034; omega⟩) hS (fun q _ h9 => q_A10 hF q h9) (q_A10 hF) (fun H locs hM hz9 hk9 hS => ?_)
  have hP : va_P (z_DD G) vwCl (z_wC G ad σ κ) H := z_Pk hP hk9 (q_nC hF)
  have hO : va_P (z_DD G) vwCl (z_wO G ox o) H := z_keep1 hO (hk9 _ (z_lt1 hO) (q_nO hF))
  refine W.eq (g2 := F0 m 1213 ls [.long (y_dg (z_up μ 8 1 0) ν), .long (z_dg σ κ)]) rfl ?_
  refine W.widen (k := 47 + 12 * (i + 1)) (n := 365 + 100 * (i + 1)) (by omega) (by omega) ?_
  have hI2 : q_I G ad am ox s (i + 1) H locs := ⟨E, σ, κ, z_up μ 8 1 0, ν, T, o, r_thrown h 0, by omega, hP, hM, hO, hS⟩
  refine W.lcmp hx hb dL_law_1213 ?_
  refine lv_if_eq (tgt := 1219) hx hb dL_law_1214 (by decide) (fun _ => ?_) (fun c3 => absurd (show lg_cmp (z_dg σ κ) (y_dg (z_up μ 8 1 0) ν) = 0 by rw [r_dg (r_thrown h 0)]; exact q_cmp _) c3)
  exact hc H locs ls hI2 (lv_sub hl [0, 1, 2, 3, 4] rfl)
