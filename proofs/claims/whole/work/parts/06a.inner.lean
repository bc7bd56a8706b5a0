/-! Part 06a: the class's inner methods. -/
set_option maxHeartbeats 4000000 in
set_option maxRecDepth 100000 in
theorem c_J9_floorMod (l : Launch) (G : z_GT) (a : Nat) (ha : a < 2 ^ 31) : Met l yJ9_floorMod_7cf53 wsJ9_floorMod_7cf53 ({ frames := 0, cells := 0, slots := 0, locals := 0 } : Room) (z_Pr G [.int (nI a), .int 10] []) (z_Qo (some (.int (nI (a % 10))))) 0 0 (fun _ => False) := by
  refine z_ofWF (cc := cJ9_floorMod_7cf53) (maxL := 3) (ret := (some .int)) (by decide +kernel) rfl ?_
  intro p e s m args below meth c s₁ B hml hw0
  obtain ⟨rfl, hX, hP⟩ := hw0
  have hK := hX.1
  have hx := B.exec
  have hb := B.bytes
  have hr := B.returns
  have hts := atoms_spec (ws := wsJ9_floorMod_7cf53) B.pre
  have hown : s.vm.findClass RJ9 = some m.cls := findClass_of_methodNamed B.named
  have hlocks := B.notSynchronized
  have hl := lv_entry ([.int (nI a), .int 10]) (n := 3) (Nat.le_of_ble_eq_true rfl)
  rw [lg_entry_eq]
  generalize (lg_sl ([.int (nI a), .int 10]) ++ List.replicate (3 - (lg_sl ([.int (nI a), .int 10])).length) Slot.unset).toArray = ls at hl ⊢
  have hl : lv_has ls 3 [(0, .int (nI a)), (1, .int 10)] := hl
  refine lv_iload_n hx hb dJ9_floorMod_7cf53_0 rfl (lv_at hl 0 rfl) ?_
  refine lv_iload_n hx hb dJ9_floorMod_7cf53_1 rfl (lv_at hl 1 rfl) ?_
  refine lv_irem hx hb dJ9_floorMod_7cf53_2 (by decide) ?_
  refine z_top (show (.int ((nI a) - (nI a) / 10 * 10) : Value) = .int (nI (a % 10)) from by exact congrArg Value.int (pk_rem (d := 10) ha (by decide) (by decide))) ?_
  refine lv_istore_n (lv' := [(2, .int (nI (a % 10))), (0, .int (nI a)), (1, .int 10)]) hx hb dJ9_floorMod_7cf53_3 rfl hl (by decide) rfl (fun ls hl => ?_)
  refine lv_iload_n hx hb dJ9_floorMod_7cf53_4 rfl (lv_at hl 1 rfl) ?_
  refine lv_iload_n hx hb dJ9_floorMod_7cf53_5 rfl (lv_at hl 2 rfl) ?_
  refine lv_ixor hx hb dJ9_floorMod_7cf53_6 ?_
  refine lv_if_ge (tgt := 18) hx hb dJ9_floorMod_7cf53_7 (by decide) (fun c7 => ?_) (fun c7 => ?_)
  · skip
    refine lv_iload_n hx hb dJ9_floorMod_7cf53_18 rfl (lv_at hl 0 rfl) ?_
    refine z_iret hx hb hr hlocks dJ9_floorMod_7cf53_19 (fun t ht hW => ⟨rfl, ht⟩) (fun _ h9 => nomatch h9) ?_
    rfl
  · skip
    exact absurd (z_xor ha) c7

set_option maxHeartbeats 4000000 in
set_option maxRecDepth 100000 in
theorem c_X2_append (l : Launch) (G : z_GT) (ad : Nat → Nat) (σ : Nat → Nat → Int32) (κ : Nat → Nat → Nat) (hinj : ∀ i j, i < 36 → j < 36 → ad i = ad j → i = j) (t v : Nat) (ht : t < 6) (hv : v < 8) (hn : κ 1 t < 5) : Met l yX2_append wsX2_append ({ frames := 1, cells := 0, slots := 0, locals := 20 } : Room) (z_Pr G [.ref (ad (16 + t)), .int (nI v)] (z_wC G ad σ κ)) (z_Qm G none (z_wC G ad σ (z_ap κ t v)) (z_A 36 ad)) 0 0 (z_A 36 ad) := by
  refine Met.ofW (cc := cX2_append) (maxL := 2) (ret := none) (by decide) rfl ?_
  intro p e s m args below meth c s₁ B hml hw0
  obtain ⟨rfl, hX, hP⟩ := hw0
  have hK := hX.1
  have hx := B.exec
  have hb := B.bytes
  have hr := B.returns
  have hts := atoms_spec (ws := wsX2_append) B.pre
  have hown : s.vm.findClass RX2 = some m.cls := findClass_of_methodNamed B.named
  have hlocks := B.notSynchronized
  have hl := lv_entry ([.ref (ad (16 + t)), .int (nI v)]) (n := 2) (Nat.le_of_ble_eq_true rfl)
  rw [lg_entry_eq]
  generalize (lg_sl ([.ref (ad (16 + t)), .int (nI v)]) ++ List.replicate (2 - (lg_sl ([.ref (ad (16 + t)), .int (nI v)])).length) Slot.unset).toArray = ls at hl ⊢
  have hl : lv_has ls 2 [(0, .ref (ad (16 + t))), (1, .int (nI v))] := hl
  have hf_RX2_15 : (Cond.fieldLink RX2 15 "BlossomTours$Tour" "stopCount" "I").before ([.ref (ad (16 + t)), .int (nI v)] : List Value).toArray s = true := hts _ (by decide +kernel)
  have hf_RX2_9 : (Cond.fieldLink RX2 9 "BlossomTours$Tour" "stops" "[I").before ([.ref (ad (16 + t)), .int (nI v)] : List Value).toArray s = true := hts _ (by decide +kernel)
  have hi_RX2 : ∀ w ∈ u_ws RX2 TX2 4, w ∈ wsX2_append := by decide +kernel
  have hS : va_S (z_A 36 ad) s.heap s.heap [] := va_S.rf
  have hD := z_Dm hinj (z_cC G ad σ κ)
  refine lv_aload_n hx hb dX2_append_0 rfl (lv_at hl 0 rfl) ?_
  refine z_call (va_runV (As := []) (rest := []) ⟨hx, hb, hml, hown, hts⟩ (c_X2_isFull l G ad σ κ t ht) (cwV 0 hts gX2_append_X2_isFull rfl rfl rfl (by decide +kernel) ⟨Nat.le_of_ble_eq_true rfl, Nat.le_of_ble_eq_true rfl⟩) (z_prV (ci := 2) (k := (16 + t)) hX hP rfl (z_gT ht)) rfl rfl hl.1 rfl (lv_room (Nat.le_of_ble_eq_true rfl)) dX2_append_1 ⟨Nat.le_of_ble_eq_true rfl, Nat.le_of_ble_eq_true rfl⟩) (fun _ h9 => h9) ?_
  refine W.eq (g2 := F0 m 4 ls [.int (z_full (κ 1 t))]) rfl ?_
  refine lv_if_ne (tgt := 27) hx hb dX2_append_4 (by decide) (fun c4 => ?_) (fun c4 => ?_)
  · skip
    exact absurd (z_full0 hn) c4
  · skip
    refine lv_aload_n hx hb dX2_append_7 rfl (lv_at hl 0 rfl) ?_
    refine va_get (D := z_DD G) (ci := 2) (v := .ref (ad (22 + t))) (C := RX2) (T := TX2) (N := 4) hx hb hts hi_RX2 hown hK hP (16 + t) (z_gT ht) rfl 0 (by decide) hf_RX2_9 (fun _ h9 => h9) rfl dX2_append_8 ?_
    refine lv_aload_n hx hb dX2_append_11 rfl (lv_at hl 0 rfl) ?_
    refine va_get (D := z_DD G) (ci := 2) (v := .int (nI (κ 1 t))) (C := RX2) (T := TX2) (N := 4) hx hb hts hi_RX2 hown hK hP (16 + t) (z_gT ht) rfl 1 (by decide) hf_RX2_15 (fun _ h9 => h9) rfl dX2_append_12 ?_
    refine lv_iload_n hx hb dX2_append_15 rfl (lv_at hl 1 rfl) ?_
    refine va_iast (f := fun z9 => nI (κ (2 + t) z9)) hx hb hK hP hD hS (22 + t) 0 (z_gS ht) rfl (vp_in_nI (by omega) (by omega)) dX2_append_16 (fun H locs hP hD hS => ?_)
    have hP : va_P (z_DD G) vwCl (z_wC G ad σ (z_up κ (2 + t) (κ 1 t) v)) H := Eq.mp (congrArg (fun w => va_P (z_DD G) vwCl w H) (z_sS ht (by omega))) hP
    have hD := z_Dm hinj (z_cC G ad σ (z_up κ (2 + t) (κ 1 t) v))
    refine lv_aload_n hx hb dX2_append_17 rfl (lv_at hl 0 rfl) ?_
    refine lv_dup hx hb dX2_append_18 rfl ?_
    refine va_get (D := z_DD G) (ci := 2) (v := .int (nI ((z_up κ (2 + t) (κ 1 t) v) 1 t))) (C := RX2) (T := TX2) (N := 4) hx hb hts hi_RX2 hown hK hP (16 + t) (z_gT ht) rfl 1 (by decide) hf_RX2_15 (fun _ h9 => h9) rfl dX2_append_19 ?_
    refine lv_iconst (v := 1) hx hb dX2_append_22 (by decide) ?_
    refine lv_iadd hx hb dX2_append_23 ?_
    refine z_top (show (.int ((nI ((z_up κ (2 + t) (κ 1 t) v) 1 t)) + 1) : Value) = .int (nI (κ 1 t + 1)) from by rw [z_up_1 κ v (show 1 ≠ 2 + t by omega), nI_1]) ?_
    refine va_put (D := z_DD G) (ci := 2) (v := .int (nI (κ 1 t + 1))) (ty := .int) (C := RX2) (T := TX2) (N := 4) hx hb hts hi_RX2 tyX2 tyX2_ok nmX2 hown hK hP hD hS (16 + t) (z_gT ht) rfl 1 (by decide) hf_RX2_15 (fun _ h9 => h9) rfl (by decide +kernel) rfl rfl (Nat.le_of_ble_eq_true rfl) dX2_append_24 (fun H locs hP hD hS => ?_)
    have hP : va_P (z_DD G) vwCl (z_wC G ad σ (z_up (z_up κ (2 + t) (κ 1 t) v) 1 t (κ 1 t + 1))) H := Eq.mp (congrArg (fun w => va_P (z_DD G) vwCl w H) (z_sT1 ht)) hP
    have hD := z_Dm hinj (z_cC G ad σ (z_up (z_up κ (2 + t) (κ 1 t) v) 1 t (κ 1 t + 1)))
    have hPf : va_P (z_DD G) vwCl (z_wC G ad σ (z_ap κ t v)) H := by exact hP
    exact W.vret hx hb hr (fun t ht hW => ⟨rfl, by rw [ht]; exact hPf, hS.F ht⟩) hS.2.2 dX2_append_27

set_option maxHeartbeats 4000000 in
set_option maxRecDepth 100000 in
theorem c_X2_takeLast (l : Launch) (G : z_GT) (ad : Nat → Nat) (σ : Nat → Nat → Int32) (κ : Nat → Nat → Nat) (hinj : ∀ i j, i < 36 → j < 36 → ad i = ad j → i = j) (t : Nat) (ht : t < 6) (hn : 0 < κ 1 t) (hk : κ 1 t ≤ 5) : Met l yX2_takeLast wsX2_takeLast ({ frames := 0, cells := 0, slots := 0, locals := 0 } : Room) (z_Pr G [.ref (ad (16 + t))] (z_wC G ad σ κ)) (z_Qm G (some (.int (nI (κ (2 + t) (κ 1 t - 1))))) (z_wC G ad σ (z_tk κ t)) (z_A 36 ad)) 0 0 (z_A 36 ad) := by
  refine Met.ofW (cc := cX2_takeLast) (maxL := 1) (ret := (some .int)) (by decide) rfl ?_
  intro p e s m args below meth c s₁ B hml hw0
  obtain ⟨rfl, hX, hP⟩ := hw0
  have hK := hX.1
  have hx := B.exec
  have hb := B.bytes
  have hr := B.returns
  have hts := atoms_spec (ws := wsX2_takeLast) B.pre
  have hown : s.vm.findClass RX2 = some m.cls := findClass_of_methodNamed B.named
  have hlocks := B.notSynchronized
  have hl := lv_entry ([.ref (ad (16 + t))]) (n := 1) (Nat.le_of_ble_eq_true rfl)
  rw [lg_entry_eq]
  generalize (lg_sl ([.ref (ad (16 + t))]) ++ List.replicate (1 - (lg_sl ([.ref (ad (16 + t))])).length) Slot.unset).toArray = ls at hl ⊢
  have hl : lv_has ls 1 [(0, .ref (ad (16 + t)))] := hl
  have hf_RX2_15 : (Cond.fieldLink RX2 15 "BlossomTours$Tour" "stopCount" "I").before ([.ref (ad (16 + t))] : List Value).toArray s = true := hts _ (by decide +kernel)
  have hf_RX2_9 : (Cond.fieldLink RX2 9 "BlossomTours$Tour" "stops" "[I").before ([.ref (ad (16 + t))] : List Value).toArray s = true := hts _ (by decide +kernel)
  have hi_RX2 : ∀ w ∈ u_ws RX2 TX2 4, w ∈ wsX2_takeLast := by decide +kernel
  have hS : va_S (z_A 36 ad) s.heap s.heap [] := va_S.rf
  have hD := z_Dm hinj (z_cC G ad σ κ)
  refine lv_aload_n hx hb dX2_takeLast_0 rfl (lv_at hl 0 rfl) ?_
  refine va_get (D := z_DD G) (ci := 2) (v := .int (nI (κ 1 t))) (C := RX2) (T := TX2) (N := 4) hx hb hts hi_RX2 hown hK hP (16 + t) (z_gT ht) rfl 1 (by decide) hf_RX2_15 (fun _ h9 => h9) rfl dX2_takeLast_1 ?_
  refine lv_if_gt (tgt := 9) hx hb dX2_takeLast_4 (by decide) (fun c4 => ?_) (fun c4 => ?_)
  · skip
    refine lv_aload_n hx hb dX2_takeLast_9 rfl (lv_at hl 0 rfl) ?_
    refine lv_dup hx hb dX2_takeLast_10 rfl ?_
    refine va_get (D := z_DD G) (ci := 2) (v := .int (nI (κ 1 t))) (C := RX2) (T := TX2) (N := 4) hx hb hts hi_RX2 hown hK hP (16 + t) (z_gT ht) rfl 1 (by decide) hf_RX2_15 (fun _ h9 => h9) rfl dX2_takeLast_11 ?_
    refine lv_iconst (v := 1) hx hb dX2_takeLast_14 (by decide) ?_
    refine lv_isub hx hb dX2_takeLast_15 ?_
    refine z_top (show (.int ((nI (κ 1 t)) - 1) : Value) = .int (nI (κ 1 t - 1)) from by obtain ⟨q, hq⟩ : ∃ q, κ 1 t = q + 1 := ⟨κ 1 t - 1, by omega⟩; rw [hq, nI_pred]; rfl) ?_
    refine va_put (D := z_DD G) (ci := 2) (v := .int (nI (κ 1 t - 1))) (ty := .int) (C := RX2) (T := TX2) (N := 4) hx hb hts hi_RX2 tyX2 tyX2_ok nmX2 hown hK hP hD hS (16 + t) (z_gT ht) rfl 1 (by decide) hf_RX2_15 (fun _ h9 => h9) rfl (by decide +kernel) rfl rfl (Nat.le_of_ble_eq_true rfl) dX2_takeLast_16 (fun H locs hP hD hS => ?_)
    have hP : va_P (z_DD G) vwCl (z_wC G ad σ (z_up κ 1 t (κ 1 t - 1))) H := Eq.mp (congrArg (fun w => va_P (z_DD G) vwCl w H) (z_sT1 ht)) hP
    have hD := z_Dm hinj (z_cC G ad σ (z_up κ 1 t (κ 1 t - 1)))
    refine lv_aload_n hx hb dX2_takeLast_19 rfl (lv_at hl 0 rfl) ?_
    refine va_get (D := z_DD G) (ci := 2) (v := .ref (ad (22 + t))) (C := RX2) (T := TX2) (N := 4) hx hb hts hi_RX2 hown hK hP (16 + t) (z_gT ht) rfl 0 (by decide) hf_RX2_9 (fun _ h9 => h9) rfl dX2_takeLast_20 ?_
    refine lv_aload_n hx hb dX2_takeLast_23 rfl (lv_at hl 0 rfl) ?_
    refine va_get (D := z_DD G) (ci := 2) (v := .int (nI ((z_up κ 1 t (κ 1 t - 1)) 1 t))) (C := RX2) (T := TX2) (N := 4) hx hb hts hi_RX2 hown hK hP (16 + t) (z_gT ht) rfl 1 (by decide) hf_RX2_15 (fun _ h9 => h9) rfl dX2_takeLast_24 ?_
    refine z_top (show (.int (nI ((z_up κ 1 t (κ 1 t - 1)) 1 t)) : Value) = .int (nI (κ 1 t - 1)) from by rw [z_up_s]) ?_
    refine z_iald (k := (κ 1 t - 1)) (f := fun z9 => nI ((z_up κ 1 t (κ 1 t - 1)) (2 + t) z9)) hx hb hK hP (22 + t) 0 (z_gS ht) rfl (by omega) (by decide) dX2_takeLast_27 ?_
    have hPf : va_P (z_DD G) vwCl (z_wC G ad σ (z_tk κ t)) H := by exact hP
    refine z_iret hx hb hr hlocks dX2_takeLast_28 (fun t ht hW => ⟨rfl, by rw [ht]; exact hPf, hS.F ht⟩) hS.2.2 ?_
    rw [z_up_1 _ _ (show 2 + t ≠ 1 by omega)]
  · skip
    exact absurd (show (0 : Int32) < nI (κ 1 t) from nI_lt (a := 0) hn (by omega)) c4

set_option maxHeartbeats 4000000 in
set_option maxRecDepth 100000 in
theorem c_X2_measure (l : Launch) (G : z_GT) (ad : Nat → Nat) (σ : Nat → Nat → Int32) (κ : Nat → Nat → Nat) (hinj : ∀ i j, i < 36 → j < 36 → ad i = ad j → i = j) (hw : z_wf κ) (t : Nat) (ht : t < 6) : Met l yX2_measure wsX2_measure ({ frames := 3, cells := 0, slots := 0, locals := 64 } : Room) (z_Pr G [.ref (ad (16 + t)), .ref (ad 4)] (z_wC G ad σ κ)) (z_Qm G none (z_wC G ad (z_ms σ κ t) κ) (z_A 36 ad)) 0 0 (z_A 36 ad) := by
  refine Met.ofW (cc := cX2_measure) (maxL := 5) (ret := none) (by decide) rfl ?_
  intro p e s m args below meth c s₁ B hml hw0
  obtain ⟨rfl, hX, hP⟩ := hw0
  have hK := hX.1
  have hx := B.exec
  have hb := B.bytes
  have hr := B.returns
  have hts := atoms_spec (ws := wsX2_measure) B.pre
  have hown : s.vm.findClass RX2 = some m.cls := findClass_of_methodNamed B.named
  have hlocks := B.notSynchronized
  have hl := lv_entry ([.ref (ad (16 + t)), .ref (ad 4)]) (n := 5) (Nat.le_of_ble_eq_true rfl)
  rw [lg_entry_eq]
  generalize (lg_sl ([.ref (ad (16 + t)), .ref (ad 4)]) ++ List.replicate (5 - (lg_sl ([.ref (ad (16 + t)), .ref (ad 4)])).length) Slot.unset).toArray = ls at hl ⊢
  have hl : lv_has ls 5 [(0, .ref (ad (16 + t))), (1, .ref (ad 4))] := hl
  have hf_RX2_15 : (Cond.fieldLink RX2 15 "BlossomTours$Tour" "stopCount" "I").before ([.ref (ad (16 + t)), .ref (ad 4)] : List Value).toArray s = true := hts _ (by decide +kernel)
  have hf_RX2_29 : (Cond.fieldLink RX2 29 "BlossomTours$Tour" "minutes" "I").before ([.ref (ad (16 + t)), .ref (ad 4)] : List Value).toArray s = true := hts _ (by decide +kernel)
  have hf_RX2_9 : (Cond.fieldLink RX2 9 "BlossomTours$Tour" "stops" "[I").before ([.ref (ad (16 + t)), .ref (ad 4)] : List Value).toArray s = true := hts _ (by decide +kernel)
  have hi_RX2 : ∀ w ∈ u_ws RX2 TX2 4, w ∈ wsX2_measure := by decide +kernel
  have hk := hw.2.2.1 t ht
  have hS : va_S (z_A 36 ad) s.heap s.heap [] := va_S.rf
  have hD := z_Dm hinj (z_cC G ad σ κ)
  refine lv_bipush (v := 50) hx hb dX2_measure_0 (by decide) ?_
  refine lv_aload_n hx hb dX2_measure_2 rfl (lv_at hl 0 rfl) ?_
  refine va_get (D := z_DD G) (ci := 2) (v := .int (nI (κ 1 t))) (C := RX2) (T := TX2) (N := 4) hx hb hts hi_RX2 hown hK hP (16 + t) (z_gT ht) rfl 1 (by decide) hf_RX2_15 (fun _ h9 => h9) rfl dX2_measure_3 ?_
  refine lv_imul hx hb dX2_measure_6 ?_
  refine lv_istore_n (lv' := [(2, .int (50 * (nI (κ 1 t)))), (0, .ref (ad (16 + t))), (1, .ref (ad 4))]) hx hb dX2_measure_7 rfl hl (by decide) rfl (fun ls hl => ?_)
  refine lv_iconst (v := nI (0 + 1)) hx hb dX2_measure_8 (by decide) ?_
  refine lv_istore_n (lv' := [(3, .int (nI (0 + 1))), (2, .int (50 * (nI (κ 1 t)))), (0, .ref (ad (16 + t))), (1, .ref (ad 4))]) hx hb dX2_measure_9 rfl hl (by decide) rfl (fun ls hl => ?_)
  have lp10 : ∀ (fu10 : Nat) (k : Nat), k ≤ κ 1 t - 1 → κ 1 t < k + fu10 → z_mf (fun a b => z_mb (σ (10 + a) b)) (κ (2 + t)) k = false → ∀ (ls : Array Slot), lv_has ls 5 [(0, .ref (ad (16 + t))), (1, .ref (ad 4)), (2, .int (z_mt (fun a b => z_mb (σ (10 + a) b)) (κ (2 + t)) (50 * nI (κ 1 t)) k)), (3, .int (nI (k + 1)))] → W p l e (headSpec wsX2_measure ({ frames := 3, cells := 0, slots := 0, locals := 64 } : Room)).room s m ([.ref (ad (16 + t)), .ref (ad 4)] : List Value).toArray below meth c s.heap [] 0 0 (MQ below (z_Qm G none (z_wC G ad (z_ms σ κ t) κ) (z_A 36 ad)) ([.ref (ad (16 + t)), .ref (ad 4)] : List Value).toArray s 0 0 (z_A 36 ad)) (F0 m 10 ls []) := by
    intro fu10
    induction fu10 with
    | zero =>
      intro k h1 h2 h3
      exfalso; omega
    | succ fu10 ih10 =>
      intro k h1 h2 h3 ls hl
      refine lv_iload_n hx hb dX2_measure_10 rfl (lv_at hl 3 rfl) ?_
      refine lv_aload_n hx hb dX2_measure_11 rfl (lv_at hl 0 rfl) ?_
      refine va_get (D := z_DD G) (ci := 2) (v := .int (nI (κ 1 t))) (C := RX2) (T := TX2) (N := 4) hx hb hts hi_RX2 hown hK hP (16 + t) (z_gT ht) rfl 1 (by decide) hf_RX2_15 (fun _ h9 => h9) rfl dX2_measure_12 ?_
      refine lv_icmp_ge (tgt := 60) hx hb dX2_measure_15 (by decide) (fun c15 => ?_) (fun c15 => ?_)
      · skip
        have hi := z_ge (by omega) (by omega) c15
        have hk1 : k = κ 1 t - 1 := by omega
        refine lv_aload_n hx hb dX2_measure_60 rfl (lv_at hl 0 rfl) ?_
        refine lv_iload_n hx hb dX2_measure_61 rfl (lv_at hl 2 rfl) ?_
        refine va_put (D := z_DD G) (ci := 2) (v := .int (z_mt (fun a b => z_mb (σ (10 + a) b)) (κ (2 + t)) (50 * nI (κ 1 t)) k)) (ty := .int) (C := RX2) (T := TX2) (N := 4) hx hb hts hi_RX2 tyX2 tyX2_ok nmX2 hown hK hP hD hS (16 + t) (z_gT ht) rfl 3 (by decide) hf_RX2_29 (fun _ h9 => h9) rfl (by decide +kernel) rfl rfl (Nat.le_of_ble_eq_true rfl) dX2_measure_62 (fun H locs hP hD hS => ?_)
        have hP : va_P (z_DD G) vwCl (z_wC G ad (z_up σ 6 t (z_mt (fun a b => z_mb (σ (10 + a) b)) (κ (2 + t)) (50 * nI (κ 1 t)) k)) κ) H := Eq.mp (congrArg (fun w => va_P (z_DD G) vwCl w H) (z_sT3 ht)) hP
        have hD := z_Dm hinj (z_cC G ad (z_up σ 6 t (z_mt (fun a b => z_mb (σ (10 + a) b)) (κ (2 + t)) (50 * nI (κ 1 t)) k)) κ)
        have hPf : va_P (z_DD G) vwCl (z_wC G ad (z_ms σ κ t) κ) H := by rw [z_mns_t hk1 h3]; exact hP
        exact W.vret hx hb hr (fun t ht hW => ⟨rfl, by rw [ht]; exact hPf, hS.F ht⟩) hS.2.2 dX2_measure_65
      · skip
        have hi := z_ng (by omega) (by omega) c15
        refine lv_aload_n hx hb dX2_measure_18 rfl (lv_at hl 1 rfl) ?_
        refine lv_aload_n hx hb dX2_measure_19 rfl (lv_at hl 0 rfl) ?_
        refine va_get (D := z_DD G) (ci := 2) (v := .ref (ad (22 + t))) (C := RX2) (T := TX2) (N := 4) hx hb hts hi_RX2 hown hK hP (16 + t) (z_gT ht) rfl 0 (by decide) hf_RX2_9 (fun _ h9 => h9) rfl dX2_measure_20 ?_
        refine lv_iload_n hx hb dX2_measure_23 rfl (lv_at hl 3 rfl) ?_
        refine lv_iconst (v := 1) hx hb dX2_measure_24 (by decide) ?_
        refine lv_isub hx hb dX2_measure_25 ?_
        refine z_top (show (.int ((nI (k + 1)) - 1) : Value) = .int (nI k) from by rw [nI_pred]) ?_
        refine z_iald (k := k) (f := fun z9 => nI (κ (2 + t) z9)) hx hb hK hP (22 + t) 0 (z_gS ht) rfl (by omega) (by decide) dX2_measure_26 ?_
        refine lv_aload_n hx hb dX2_measure_27 rfl (lv_at hl 0 rfl) ?_
        refine va_get (D := z_DD G) (ci := 2) (v := .ref (ad (22 + t))) (C := RX2) (T := TX2) (N := 4) hx hb hts hi_RX2 hown hK hP (16 + t) (z_gT ht) rfl 0 (by decide) hf_RX2_9 (fun _ h9 => h9) rfl dX2_measure_28 ?_
        refine lv_iload_n hx hb dX2_measure_31 rfl (lv_at hl 3 rfl) ?_
        refine z_iald (k := (k + 1)) (f := fun z9 => nI (κ (2 + t) z9)) hx hb hK hP (22 + t) 0 (z_gS ht) rfl (by omega) (by decide) dX2_measure_32 ?_
        refine z_call (va_runVN (As := [.int (nI (κ (2 + t) k)), .int (nI (κ (2 + t) (k + 1)))]) (rest := []) ⟨hx, hb, hml, hown, hts⟩ (c_X1_minutesBetween l G ad σ κ (κ (2 + t) k) (κ (2 + t) (k + 1)) (hw.2.2.2 t ht k (by omega)) (hw.2.2.2 t ht (k + 1) (by omega))) ⟨va_cnB 2 hts gX2_measure_X1_minutesBetween_n23 rfl rfl rfl (z_nmw hX.2 12 rfl) (hts (.initialized RX1) (by decide +kernel)) (by decide +kernel) ⟨Nat.le_of_ble_eq_true rfl, Nat.le_of_ble_eq_true rfl⟩, hts (.instanceMethod yX1_minutesBetween) (by decide +kernel), hts (.selects RX1 yX1_minutesBetween yX1_minutesBetween) (by decide +kernel)⟩ (z_prV (ci := 1) (k := 4) hX hP rfl z_g4) rfl rfl hl.1 rfl (lv_room (Nat.le_of_ble_eq_true rfl)) dX2_measure_33 ⟨Nat.le_of_ble_eq_true rfl, Nat.le_of_ble_eq_true rfl⟩) (fun _ h9 => h9) ?_
        refine W.eq (g2 := F0 m 36 ls [.int (z_mb (σ (10 + (κ (2 + t) k)) (κ (2 + t) (k + 1))))]) rfl ?_
        refine lv_istore (lv' := [(4, .int (z_mb (σ (10 + (κ (2 + t) k)) (κ (2 + t) (k + 1))))), (0, .ref (ad (16 + t))), (1, .ref (ad 4)), (2, .int (z_mt (fun a b => z_mb (σ (10 + a) b)) (κ (2 + t)) (50 * nI (κ 1 t)) k)), (3, .int (nI (k + 1)))]) hx hb dX2_measure_36 hl (by decide) rfl (fun ls hl => ?_)
        refine lv_iload hx hb dX2_measure_38 (lv_at hl 0 rfl) ?_
        refine lv_if_ge (tgt := 49) hx hb dX2_measure_40 (by decide) (fun c40 => ?_) (fun c40 => ?_)
        · skip
          refine lv_iload_n hx hb dX2_measure_49 rfl (lv_at hl 3 rfl) ?_
          refine lv_iload hx hb dX2_measure_50 (lv_at hl 0 rfl) ?_
          refine lv_iadd hx hb dX2_measure_52 ?_
          refine lv_istore_n (lv' := [(2, .int ((z_mt (fun a b => z_mb (σ (10 + a) b)) (κ (2 + t)) (50 * nI (κ 1 t)) k) + (z_mb (σ (10 + (κ (2 + t) k)) (κ (2 + t) (k + 1)))))), (4, .int (z_mb (σ (10 + (κ (2 + t) k)) (κ (2 + t) (k + 1))))), (0, .ref (ad (16 + t))), (1, .ref (ad 4)), (3, .int (nI (k + 1)))]) hx hb dX2_measure_53 rfl hl (by decide) rfl (fun ls hl => ?_)
          refine lv_iinc (v := nI ((k + 1) + 1)) (lv' := [(3, .int (nI ((k + 1) + 1))), (2, .int ((z_mt (fun a b => z_mb (σ (10 + a) b)) (κ (2 + t)) (50 * nI (κ 1 t)) k) + (z_mb (σ (10 + (κ (2 + t) k)) (κ (2 + t) (k + 1)))))), (4, .int (z_mb (σ (10 + (κ (2 + t) k)) (κ (2 + t) (k + 1))))), (0, .ref (ad (16 + t))), (1, .ref (ad 4))]) hx hb dX2_measure_54 hl (k := 4) rfl (z_inc _) (by decide) rfl (fun ls hl => ?_)
          refine lv_goto (tgt := 10) hx hb dX2_measure_57 (by decide) ?_
          -- back to 10
          rw [show ((z_mt (fun a b => z_mb (σ (10 + a) b)) (κ (2 + t)) (50 * nI (κ 1 t)) k) + (z_mb (σ (10 + (κ (2 + t) k)) (κ (2 + t) (k + 1)))) : Int32) = z_mt (fun a b => z_mb (σ (10 + a) b)) (κ (2 + t)) (50 * nI (κ 1 t)) (k + 1) from by rfl] at hl
          exact ih10 (k + 1) (by omega) (by omega) (by simp [z_mf, h3, c40]) ls (lv_sub hl [3, 4, 1, 0] rfl)
        · skip
          refine lv_aload_n hx hb dX2_measure_43 rfl (lv_at hl 1 rfl) ?_
          refine lv_iconst (v := (-1)) hx hb dX2_measure_44 (by decide) ?_
          refine va_put (D := z_DD G) (ci := 2) (v := .int (-1)) (ty := .int) (C := RX2) (T := TX2) (N := 4) hx hb hts hi_RX2 tyX2 tyX2_ok nmX2 hown hK hP hD hS (16 + t) (z_gT ht) rfl 3 (by decide) hf_RX2_29 (fun _ h9 => h9) rfl (by decide +kernel) rfl rfl (Nat.le_of_ble_eq_true rfl) dX2_measure_45 (fun H locs hP hD hS => ?_)
          have hP : va_P (z_DD G) vwCl (z_wC G ad (z_up σ 6 t (-1)) κ) H := Eq.mp (congrArg (fun w => va_P (z_DD G) vwCl w H) (z_sT3 ht)) hP
          have hD := z_Dm hinj (z_cC G ad (z_up σ 6 t (-1)) κ)
          have hPf : va_P (z_DD G) vwCl (z_wC G ad (z_ms σ κ t) κ) H := by rw [z_mns_f (show k < κ 1 t - 1 by omega) c40]; exact hP
          exact W.vret hx hb hr (fun t ht hW => ⟨rfl, by rw [ht]; exact hPf, hS.F ht⟩) hS.2.2 dX2_measure_48
  rw [show (50 * (nI (κ 1 t)) : Int32) = z_mt (fun a b => z_mb (σ (10 + a) b)) (κ (2 + t)) (50 * nI (κ 1 t)) 0 from by rfl] at hl
  exact lp10 (κ 1 t + 1) 0 (by omega) (by omega) rfl ls (lv_sub hl [2, 3, 1, 0] rfl)

set_option maxHeartbeats 4000000 in
set_option maxRecDepth 100000 in
theorem c_X1_lay (l : Launch) (G : z_GT) (ad : Nat → Nat) (σ : Nat → Nat → Int32) (κ : Nat → Nat → Nat) (hinj : ∀ i j, i < 36 → j < 36 → ad i = ad j → i = j) (a b : Nat) (mi : Int32) (ha : a < 8) (hb8 : b < 8) : Met l yX1_lay wsX1_lay ({ frames := 2, cells := 0, slots := 0, locals := 42 } : Room) (z_Pr G [.ref (ad 4), .int (nI a), .int (nI b), .int mi] (z_wC G ad σ κ)) (z_Qm G none (z_wC G ad (z_ly σ a b mi) κ) (z_A 36 ad)) 0 0 (z_A 36 ad) := by
  refine Met.ofW (cc := cX1_lay) (maxL := 8) (ret := none) (by decide) rfl ?_
  intro p e s m args below meth c s₁ B hml hw0
  obtain ⟨rfl, hX, hP⟩ := hw0
  have hK := hX.1
  have hx := B.exec
  have hb := B.bytes
  have hr := B.returns
  have hts := atoms_spec (ws := wsX1_lay) B.pre
  have hown : s.vm.findClass RX1 = some m.cls := findClass_of_methodNamed B.named
  have hlocks := B.notSynchronized
  have hl := lv_entry ([.ref (ad 4), .int (nI a), .int (nI b), .int mi]) (n := 8) (Nat.le_of_ble_eq_true rfl)
  rw [lg_entry_eq]
  generalize (lg_sl ([.ref (ad 4), .int (nI a), .int (nI b), .int mi]) ++ List.replicate (8 - (lg_sl ([.ref (ad 4), .int (nI a), .int (nI b), .int mi])).length) Slot.unset).toArray = ls at hl ⊢
  have hl : lv_has ls 8 [(0, .ref (ad 4)), (1, .int (nI a)), (2, .int (nI b)), (3, .int mi)] := hl
  have hf_RX1_11 : (Cond.fieldLink RX1 11 "BlossomTours$Roads" "ways" "[[I").before ([.ref (ad 4), .int (nI a), .int (nI b), .int mi] : List Value).toArray s = true := hts _ (by decide +kernel)
  have hf_RX1_27 : (Cond.fieldLink RX1 27 "BlossomTours$Roads" "laid" "I").before ([.ref (ad 4), .int (nI a), .int (nI b), .int mi] : List Value).toArray s = true := hts _ (by decide +kernel)
  have hi_RX1 : ∀ w ∈ u_ws RX1 TX1 2, w ∈ wsX1_lay := by decide +kernel
  have hS : va_S (z_A 36 ad) s.heap s.heap [] := va_S.rf
  have hD := z_Dm hinj (z_cC G ad σ κ)
  refine lv_iload_n hx hb dX1_lay_0 rfl (lv_at hl 1 rfl) ?_
  refine z_call (va_runS (As := [.int (nI a)]) (rest := []) ⟨hx, hb, hml, hown, hts⟩ (c_X1_isPlace l G (nI a)) (va_cwS 1 hts gX1_lay_X1_isPlace rfl rfl rfl (by decide +kernel) ⟨Nat.le_of_ble_eq_true rfl, Nat.le_of_ble_eq_true rfl⟩) (z_prS hX z_P0) rfl rfl hl.1 rfl (lv_room (Nat.le_of_ble_eq_true rfl)) dX1_lay_1 ⟨Nat.le_of_ble_eq_true rfl, Nat.le_of_ble_eq_true rfl⟩) (fun _ h9 => h9) ?_
  refine W.eq (g2 := F0 m 4 ls [.int (z_wi (nI a) 0 7)]) rfl ?_
  refine lv_if_eq (tgt := 14) hx hb dX1_lay_4 (by decide) (fun c4 => ?_) (fun c4 => ?_)
  · skip
    exact absurd (c4.symm.trans (z_pl ha)) (by decide)
  · skip
    refine lv_iload_n hx hb dX1_lay_7 rfl (lv_at hl 2 rfl) ?_
    refine z_call (va_runS (As := [.int (nI b)]) (rest := []) ⟨hx, hb, hml, hown, hts⟩ (c_X1_isPlace l G (nI b)) (va_cwS 1 hts gX1_lay_X1_isPlace rfl rfl rfl (by decide +kernel) ⟨Nat.le_of_ble_eq_true rfl, Nat.le_of_ble_eq_true rfl⟩) (z_prS hX z_P0) rfl rfl hl.1 rfl (lv_room (Nat.le_of_ble_eq_true rfl)) dX1_lay_8 ⟨Nat.le_of_ble_eq_true rfl, Nat.le_of_ble_eq_true rfl⟩) (fun _ h9 => h9) ?_
    refine W.eq (g2 := F0 m 11 ls [.int (z_wi (nI b) 0 7)]) rfl ?_
    refine lv_if_ne (tgt := 15) hx hb dX1_lay_11 (by decide) (fun c11 => ?_) (fun c11 => ?_)
    · skip
      refine lv_iconst (v := nI 0) hx hb dX1_lay_15 (by decide) ?_
      refine lv_istore (lv' := [(4, .int (nI 0)), (0, .ref (ad 4)), (1, .int (nI a)), (2, .int (nI b)), (3, .int mi)]) hx hb dX1_lay_16 hl (by decide) rfl (fun ls hl => ?_)
      have lp18 : ∀ (fu18 : Nat) (i : Nat), i ≤ 8 → 8 < i + fu18 → ∀ (H : Heap) (locs : List Loc), va_P (z_DD G) vwCl (z_wC G ad (z_l2 σ a b mi i) κ) H → va_S (z_A 36 ad) s.heap H locs → ∀ (ls : Array Slot), lv_has ls 8 [(0, .ref (ad 4)), (1, .int (nI a)), (2, .int (nI b)), (3, .int mi), (4, .int (nI i))] → W p l e (headSpec wsX1_lay ({ frames := 2, cells := 0, slots := 0, locals := 42 } : Room)).room s m ([.ref (ad 4), .int (nI a), .int (nI b), .int mi] : List Value).toArray below meth c H locs 0 0 (MQ below (z_Qm G none (z_wC G ad (z_ly σ a b mi) κ) (z_A 36 ad)) ([.ref (ad 4), .int (nI a), .int (nI b), .int mi] : List Value).toArray s 0 0 (z_A 36 ad)) (F0 m 18 ls []) := by
        intro fu18
        induction fu18 with
        | zero =>
          intro i h1 h2
          exfalso; omega
        | succ fu18 ih18 =>
          intro i h1 h2 H locs hP hS ls hl
          have hD := z_Dm hinj (z_cC G ad (z_l2 σ a b mi i) κ)
          refine lv_iload hx hb dX1_lay_18 (lv_at hl 4 rfl) ?_
          refine lv_bipush (v := nI 8) hx hb dX1_lay_20 (by decide) ?_
          refine lv_icmp_ge (tgt := 123) hx hb dX1_lay_22 (by decide) (fun c22 => ?_) (fun c22 => ?_)
          · skip
            have hi : i = 8 := Nat.le_antisymm h1 (z_ge (by omega) (by omega) c22)
            have hP : va_P (z_DD G) vwCl (z_wC G ad (z_l2 σ a b mi 8) κ) H := by rw [hi] at hP; exact hP
            have hD := z_Dm hinj (z_cC G ad (z_l2 σ a b mi 8) κ)
            refine lv_aload_n hx hb dX1_lay_123 rfl (lv_at hl 0 rfl) ?_
            refine lv_dup hx hb dX1_lay_124 rfl ?_
            refine va_get (D := z_DD G) (ci := 1) (v := .int ((z_l2 σ a b mi 8) 8 0)) (C := RX1) (T := TX1) (N := 2) hx hb hts hi_RX1 hown hK hP 4 z_g4 rfl 1 (by decide) hf_RX1_27 (fun _ h9 => h9) rfl dX1_lay_125 ?_
            refine lv_iconst (v := 1) hx hb dX1_lay_128 (by decide) ?_
            refine lv_iadd hx hb dX1_lay_129 ?_
            refine va_put (D := z_DD G) (ci := 1) (v := .int (((z_l2 σ a b mi 8) 8 0) + 1)) (ty := .int) (C := RX1) (T := TX1) (N := 2) hx hb hts hi_RX1 tyX1 tyX1_ok nmX1 hown hK hP hD hS 4 z_g4 rfl 1 (by decide) hf_RX1_27 (fun _ h9 => h9) rfl (by decide +kernel) rfl rfl (Nat.le_of_ble_eq_true rfl) dX1_lay_130 (fun H locs hP hD hS => ?_)
            have hP : va_P (z_DD G) vwCl (z_wC G ad (z_up (z_l2 σ a b mi 8) 8 0 (((z_l2 σ a b mi 8) 8 0) + 1)) κ) H := Eq.mp (congrArg (fun w => va_P (z_DD G) vwCl w H) z_sL) hP
            have hD := z_Dm hinj (z_cC G ad (z_up (z_l2 σ a b mi 8) 8 0 (((z_l2 σ a b mi 8) 8 0) + 1)) κ)
            have hPf : va_P (z_DD G) vwCl (z_wC G ad (z_ly σ a b mi) κ) H := by exact hP
            exact W.vret hx hb hr (fun t ht hW => ⟨rfl, by rw [ht]; exact hPf, hS.F ht⟩) hS.2.2 dX1_lay_133
          · skip
            have hi := z_ng (by omega) (by omega) c22
            refine lv_iconst (v := nI 0) hx hb dX1_lay_25 (by decide) ?_
            refine lv_istore (lv' := [(5, .int (nI 0)), (0, .ref (ad 4)), (1, .int (nI a)), (2, .int (nI b)), (3, .int mi), (4, .int (nI i))]) hx hb dX1_lay_26 hl (by decide) rfl (fun ls hl => ?_)
            have lp28 : ∀ (fu28 : Nat) (j : Nat), j ≤ 8 → 8 < j + fu28 → ∀ (H : Heap) (locs : List Loc), va_P (z_DD G) vwCl (z_wC G ad (z_l1 (z_l2 σ a b mi i) i a b mi j) κ) H → va_S (z_A 36 ad) s.heap H locs → ∀ (ls : Array Slot), lv_has ls 8 [(0, .ref (ad 4)), (1, .int (nI a)), (2, .int (nI b)), (3, .int mi), (4, .int (nI i)), (5, .int (nI j))] → W p l e (headSpec wsX1_lay ({ frames := 2, cells := 0, slots := 0, locals := 42 } : Room)).room s m ([.ref (ad 4), .int (nI a), .int (nI b), .int mi] : List Value).toArray below meth c H locs 0 0 (MQ below (z_Qm G none (z_wC G ad (z_ly σ a b mi) κ) (z_A 36 ad)) ([.ref (ad 4), .int (nI a), .int (nI b), .int mi] : List Value).toArray s 0 0 (z_A 36 ad)) (F0 m 28 ls []) := by
              intro fu28
              induction fu28 with
              | zero =>
                intro j g1 g2
                exfalso; omega
              | succ fu28 ih28 =>
                intro j g1 g2 H locs hP hS ls hl
                have hD := z_Dm hinj (z_cC G ad (z_l1 (z_l2 σ a b mi i) i a b mi j) κ)
                refine lv_iload hx hb dX1_lay_28 (lv_at hl 5 rfl) ?_
                refine lv_bipush (v := nI 8) hx hb dX1_lay_30 (by decide) ?_
                refine lv_icmp_ge (tgt := 117) hx hb dX1_lay_32 (by decide) (fun c32 => ?_) (fun c32 => ?_)
                · skip
                  have hj : j = 8 := Nat.le_antisymm g1 (z_ge (by omega) (by omega) c32)
                  refine lv_iinc (v := nI (i + 1)) (lv' := [(4, .int (nI (i + 1))), (0, .ref (ad 4)), (1, .int (nI a)), (2, .int (nI b)), (3, .int mi), (5, .int (nI j))]) hx hb dX1_lay_117 hl (k := 4) rfl (z_inc _) (by decide) rfl (fun ls hl => ?_)
                  refine lv_goto (tgt := 18) hx hb dX1_lay_120 (by decide) ?_
                  -- back to 18
                  have hP : va_P (z_DD G) vwCl (z_wC G ad (z_l2 σ a b mi (i + 1)) κ) H := by rw [hj] at hP; exact hP
                  exact ih18 (i + 1) (by omega) (by omega) _ _ hP hS ls (lv_sub hl [1, 2, 3, 4, 0] rfl)
                · skip
                  have hj := z_ng (by omega) (by omega) c32
                  refine lv_aload_n hx hb dX1_lay_35 rfl (lv_at hl 0 rfl) ?_
                  refine va_get (D := z_DD G) (ci := 1) (v := .ref (ad 5)) (C := RX1) (T := TX1) (N := 2) hx hb hts hi_RX1 hown hK hP 4 z_g4 rfl 0 (by decide) hf_RX1_11 (fun _ h9 => h9) rfl dX1_lay_36 ?_
                  refine lv_iload hx hb dX1_lay_39 (lv_at hl 4 rfl) ?_
                  refine z_aalA (k := i) (g := fun j => ad (28 + j)) hx hb hK hP 5 3 z_g5 rfl (by omega) (by decide) dX1_lay_41 ?_
                  refine lv_iload_n hx hb dX1_lay_42 rfl (lv_at hl 1 rfl) ?_
                  refine z_iald (k := a) (f := fun z9 => (z_l1 (z_l2 σ a b mi i) i a b mi j) (10 + i) z9) hx hb hK hP (28 + i) 0 (z_gR (by omega)) rfl ha (by decide) dX1_lay_43 ?_
                  refine lv_iload_n hx hb dX1_lay_44 rfl (lv_at hl 3 rfl) ?_
                  refine lv_iadd hx hb dX1_lay_45 ?_
                  refine lv_aload_n hx hb dX1_lay_46 rfl (lv_at hl 0 rfl) ?_
                  refine va_get (D := z_DD G) (ci := 1) (v := .ref (ad 5)) (C := RX1) (T := TX1) (N := 2) hx hb hts hi_RX1 hown hK hP 4 z_g4 rfl 0 (by decide) hf_RX1_11 (fun _ h9 => h9) rfl dX1_lay_47 ?_
                  refine lv_iload_n hx hb dX1_lay_50 rfl (lv_at hl 2 rfl) ?_
                  refine z_aalA (k := b) (g := fun j => ad (28 + j)) hx hb hK hP 5 3 z_g5 rfl hb8 (by decide) dX1_lay_51 ?_
                  refine lv_iload hx hb dX1_lay_52 (lv_at hl 5 rfl) ?_
                  refine z_iald (k := j) (f := fun z9 => (z_l1 (z_l2 σ a b mi i) i a b mi j) (10 + b) z9) hx hb hK hP (28 + b) 0 (z_gR hb8) rfl (by omega) (by decide) dX1_lay_54 ?_
                  refine lv_iadd hx hb dX1_lay_55 ?_
                  refine lv_istore (lv' := [(6, .int ((((z_l1 (z_l2 σ a b mi i) i a b mi j) (10 + i) a) + mi) + ((z_l1 (z_l2 σ a b mi i) i a b mi j) (10 + b) j))), (0, .ref (ad 4)), (1, .int (nI a)), (2, .int (nI b)), (3, .int mi), (4, .int (nI i)), (5, .int (nI j))]) hx hb dX1_lay_56 hl (by decide) rfl (fun ls hl => ?_)
                  refine lv_aload_n hx hb dX1_lay_58 rfl (lv_at hl 1 rfl) ?_
                  refine va_get (D := z_DD G) (ci := 1) (v := .ref (ad 5)) (C := RX1) (T := TX1) (N := 2) hx hb hts hi_RX1 hown hK hP 4 z_g4 rfl 0 (by decide) hf_RX1_11 (fun _ h9 => h9) rfl dX1_lay_59 ?_
                  refine lv_iload hx hb dX1_lay_62 (lv_at hl 5 rfl) ?_
                  refine z_aalA (k := i) (g := fun j => ad (28 + j)) hx hb hK hP 5 3 z_g5 rfl (by omega) (by decide) dX1_lay_64 ?_
                  refine lv_iload_n hx hb dX1_lay_65 rfl (lv_at hl 3 rfl) ?_
                  refine z_iald (k := b) (f := fun z9 => (z_l1 (z_l2 σ a b mi i) i a b mi j) (10 + i) z9) hx hb hK hP (28 + i) 0 (z_gR (by omega)) rfl hb8 (by decide) dX1_lay_66 ?_
                  refine lv_iload_n hx hb dX1_lay_67 rfl (lv_at hl 4 rfl) ?_
                  refine lv_iadd hx hb dX1_lay_68 ?_
                  refine lv_aload_n hx hb dX1_lay_69 rfl (lv_at hl 1 rfl) ?_
                  refine va_get (D := z_DD G) (ci := 1) (v := .ref (ad 5)) (C := RX1) (T := TX1) (N := 2) hx hb hts hi_RX1 hown hK hP 4 z_g4 rfl 0 (by decide) hf_RX1_11 (fun _ h9 => h9) rfl dX1_lay_70 ?_
                  refine lv_iload_n hx hb dX1_lay_73 rfl (lv_at hl 2 rfl) ?_
                  refine z_aalA (k := a) (g := fun j => ad (28 + j)) hx hb hK hP 5 3 z_g5 rfl ha (by decide) dX1_lay_74 ?_
                  refine lv_iload hx hb dX1_lay_75 (lv_at hl 6 rfl) ?_
                  refine z_iald (k := j) (f := fun z9 => (z_l1 (z_l2 σ a b mi i) i a b mi j) (10 + a) z9) hx hb hK hP (28 + a) 0 (z_gR ha) rfl (by omega) (by decide) dX1_lay_77 ?_
                  refine lv_iadd hx hb dX1_lay_78 ?_
                  refine lv_istore (lv' := [(7, .int ((((z_l1 (z_l2 σ a b mi i) i a b mi j) (10 + i) b) + mi) + ((z_l1 (z_l2 σ a b mi i) i a b mi j) (10 + a) j))), (6, .int ((((z_l1 (z_l2 σ a b mi i) i a b mi j) (10 + i) a) + mi) + ((z_l1 (z_l2 σ a b mi i) i a b mi j) (10 + b) j))), (0, .ref (ad 4)), (1, .int (nI a)), (2, .int (nI b)), (3, .int mi), (4, .int (nI i)), (5, .int (nI j))]) hx hb dX1_lay_79 hl (by decide) rfl (fun ls hl => ?_)
                  refine lv_aload_n hx hb dX1_lay_81 rfl (lv_at hl 2 rfl) ?_
                  refine va_get (D := z_DD G) (ci := 1) (v := .ref (ad 5)) (C := RX1) (T := TX1) (N := 2) hx hb hts hi_RX1 hown hK hP 4 z_g4 rfl 0 (by decide) hf_RX1_11 (fun _ h9 => h9) rfl dX1_lay_82 ?_
                  refine lv_iload hx hb dX1_lay_85 (lv_at hl 6 rfl) ?_
                  refine z_aalA (k := i) (g := fun j => ad (28 + j)) hx hb hK hP 5 3 z_g5 rfl (by omega) (by decide) dX1_lay_87 ?_
                  refine lv_iload hx hb dX1_lay_88 (lv_at hl 7 rfl) ?_
                  refine lv_aload_n hx hb dX1_lay_90 rfl (lv_at hl 2 rfl) ?_
                  refine va_get (D := z_DD G) (ci := 1) (v := .ref (ad 5)) (C := RX1) (T := TX1) (N := 2) hx hb hts hi_RX1 hown hK hP 4 z_g4 rfl 0 (by decide) hf_RX1_11 (fun _ h9 => h9) rfl dX1_lay_91 ?_
                  refine lv_iload hx hb dX1_lay_94 (lv_at hl 6 rfl) ?_
                  refine z_aalA (k := i) (g := fun j => ad (28 + j)) hx hb hK hP 5 3 z_g5 rfl (by omega) (by decide) dX1_lay_96 ?_
                  refine lv_iload hx hb dX1_lay_97 (lv_at hl 7 rfl) ?_
                  refine z_iald (k := j) (f := fun z9 => (z_l1 (z_l2 σ a b mi i) i a b mi j) (10 + i) z9) hx hb hK hP (28 + i) 0 (z_gR (by omega)) rfl (by omega) (by decide) dX1_lay_99 ?_
                  refine lv_iload hx hb dX1_lay_100 (lv_at hl 1 rfl) ?_
                  refine lv_iload hx hb dX1_lay_102 (lv_at hl 0 rfl) ?_
                  refine va_mmin hx hb (hml.trans hl.1.symm) hown (hts (.methodLink RX1 21 Lib.Math.min.name) (by decide +kernel)) (hts (.static Lib.Math.min.name) (by decide +kernel)) (hts (.initialized "java/lang/Math") (by decide +kernel)) (hts (.code Lib.Math.min.name Lib.Math.min.code 2 (some .int)) (by decide +kernel)) (Nat.le_of_ble_eq_true rfl) (Nat.le_of_ble_eq_true rfl) (Nat.le_of_ble_eq_true rfl) (Nat.le_of_ble_eq_true rfl) dX1_lay_104 ?_
                  refine va_mmin hx hb (hml.trans hl.1.symm) hown (hts (.methodLink RX1 21 Lib.Math.min.name) (by decide +kernel)) (hts (.static Lib.Math.min.name) (by decide +kernel)) (hts (.initialized "java/lang/Math") (by decide +kernel)) (hts (.code Lib.Math.min.name Lib.Math.min.code 2 (some .int)) (by decide +kernel)) (Nat.le_of_ble_eq_true rfl) (Nat.le_of_ble_eq_true rfl) (Nat.le_of_ble_eq_true rfl) (Nat.le_of_ble_eq_true rfl) dX1_lay_107 ?_
                  refine va_iast (f := fun z9 => (z_l1 (z_l2 σ a b mi i) i a b mi j) (10 + i) z9) hx hb hK hP hD hS (28 + i) 0 (z_gR (by omega)) rfl (vp_in_nI (by omega) (by omega)) dX1_lay_110 (fun H locs hP hD hS => ?_)
                  have hP : va_P (z_DD G) vwCl (z_wC G ad (z_up (z_l1 (z_l2 σ a b mi i) i a b mi j) (10 + i) j (if (if (((z_l1 (z_l2 σ a b mi i) i a b mi j) (10 + i) b) + mi) + ((z_l1 (z_l2 σ a b mi i) i a b mi j) (10 + a) j) < (((z_l1 (z_l2 σ a b mi i) i a b mi j) (10 + i) a) + mi) + ((z_l1 (z_l2 σ a b mi i) i a b mi j) (10 + b) j) then (((z_l1 (z_l2 σ a b mi i) i a b mi j) (10 + i) b) + mi) + ((z_l1 (z_l2 σ a b mi i) i a b mi j) (10 + a) j) else (((z_l1 (z_l2 σ a b mi i) i a b mi j) (10 + i) a) + mi) + ((z_l1 (z_l2 σ a b mi i) i a b mi j) (10 + b) j)) < (z_l1 (z_l2 σ a b mi i) i a b mi j) (10 + i) j then (if (((z_l1 (z_l2 σ a b mi i) i a b mi j) (10 + i) b) + mi) + ((z_l1 (z_l2 σ a b mi i) i a b mi j) (10 + a) j) < (((z_l1 (z_l2 σ a b mi i) i a b mi j) (10 + i) a) + mi) + ((z_l1 (z_l2 σ a b mi i) i a b mi j) (10 + b) j) then (((z_l1 (z_l2 σ a b mi i) i a b mi j) (10 + i) b) + mi) + ((z_l1 (z_l2 σ a b mi i) i a b mi j) (10 + a) j) else (((z_l1 (z_l2 σ a b mi i) i a b mi j) (10 + i) a) + mi) + ((z_l1 (z_l2 σ a b mi i) i a b mi j) (10 + b) j)) else (z_l1 (z_l2 σ a b mi i) i a b mi j) (10 + i) j)) κ) H := Eq.mp (congrArg (fun w => va_P (z_DD G) vwCl w H) (z_sR (by omega) (by omega))) hP
                  have hD := z_Dm hinj (z_cC G ad (z_up (z_l1 (z_l2 σ a b mi i) i a b mi j) (10 + i) j (if (if (((z_l1 (z_l2 σ a b mi i) i a b mi j) (10 + i) b) + mi) + ((z_l1 (z_l2 σ a b mi i) i a b mi j) (10 + a) j) < (((z_l1 (z_l2 σ a b mi i) i a b mi j) (10 + i) a) + mi) + ((z_l1 (z_l2 σ a b mi i) i a b mi j) (10 + b) j) then (((z_l1 (z_l2 σ a b mi i) i a b mi j) (10 + i) b) + mi) + ((z_l1 (z_l2 σ a b mi i) i a b mi j) (10 + a) j) else (((z_l1 (z_l2 σ a b mi i) i a b mi j) (10 + i) a) + mi) + ((z_l1 (z_l2 σ a b mi i) i a b mi j) (10 + b) j)) < (z_l1 (z_l2 σ a b mi i) i a b mi j) (10 + i) j then (if (((z_l1 (z_l2 σ a b mi i) i a b mi j) (10 + i) b) + mi) + ((z_l1 (z_l2 σ a b mi i) i a b mi j) (10 + a) j) < (((z_l1 (z_l2 σ a b mi i) i a b mi j) (10 + i) a) + mi) + ((z_l1 (z_l2 σ a b mi i) i a b mi j) (10 + b) j) then (((z_l1 (z_l2 σ a b mi i) i a b mi j) (10 + i) b) + mi) + ((z_l1 (z_l2 σ a b mi i) i a b mi j) (10 + a) j) else (((z_l1 (z_l2 σ a b mi i) i a b mi j) (10 + i) a) + mi) + ((z_l1 (z_l2 σ a b mi i) i a b mi j) (10 + b) j)) else (z_l1 (z_l2 σ a b mi i) i a b mi j) (10 + i) j)) κ)
                  refine lv_iinc (v := nI (j + 1)) (lv' := [(5, .int (nI (j + 1))), (7, .int ((((z_l1 (z_l2 σ a b mi i) i a b mi j) (10 + i) b) + mi) + ((z_l1 (z_l2 σ a b mi i) i a b mi j) (10 + a) j))), (6, .int ((((z_l1 (z_l2 σ a b mi i) i a b mi j) (10 + i) a) + mi) + ((z_l1 (z_l2 σ a b mi i) i a b mi j) (10 + b) j))), (0, .ref (ad 4)), (1, .int (nI a)), (2, .int (nI b)), (3, .int mi), (4, .int (nI i))]) hx hb dX1_lay_111 hl (k := 7) rfl (z_inc _) (by decide) rfl (fun ls hl => ?_)
                  refine lv_goto (tgt := 28) hx hb dX1_lay_114 (by decide) ?_
                  -- back to 28
                  exact ih28 (j + 1) (by omega) (by omega) _ _ hP hS ls (lv_sub hl [3, 4, 5, 6, 7, 0] rfl)
            exact lp28 9 0 (by omega) (by omega) _ _ hP hS ls (lv_sub hl [1, 2, 3, 4, 5, 0] rfl)
      exact lp18 9 0 (by omega) (by omega) _ _ hP hS ls (lv_sub hl [1, 2, 3, 4, 0] rfl)
    · skip
      exact absurd (c11.symm.trans (z_pl hb8)) (by decide)

set_option maxHeartbeats 4000000 in
set_option maxRecDepth 100000 in
theorem c_X0_copyFrom (l : Launch) (G : z_GT) (ad : Nat → Nat) (σ : Nat → Nat → Int32) (κ : Nat → Nat → Nat) (hinj : ∀ i j, i < 36 → j < 36 → ad i = ad j → i = j) : Met l yX0_copyFrom wsX0_copyFrom ({ frames := 0, cells := 0, slots := 0, locals := 0 } : Room) (z_Pr G [.ref (ad 7), .ref (ad 6)] (z_wC G ad σ κ)) (z_Qm G none (z_wC G ad (z_k3 σ 5 (σ 8 2) (σ 8 3) (σ 8 4)) κ) (z_A 36 ad)) 0 0 (z_A 36 ad) := by
  refine Met.ofW (cc := cX0_copyFrom) (maxL := 2) (ret := none) (by decide) rfl ?_
  intro p e s m args below meth c s₁ B hml hw0
  obtain ⟨rfl, hX, hP⟩ := hw0
  have hK := hX.1
  have hx := B.exec
  have hb := B.bytes
  have hr := B.returns
  have hts := atoms_spec (ws := wsX0_copyFrom) B.pre
  have hown : s.vm.findClass RX0 = some m.cls := findClass_of_methodNamed B.named
  have hlocks := B.notSynchronized
  have hl := lv_entry ([.ref (ad 7), .ref (ad 6)]) (n := 2) (Nat.le_of_ble_eq_true rfl)
  rw [lg_entry_eq]
  generalize (lg_sl ([.ref (ad 7), .ref (ad 6)]) ++ List.replicate (2 - (lg_sl ([.ref (ad 7), .ref (ad 6)])).length) Slot.unset).toArray = ls at hl ⊢
  have hl : lv_has ls 2 [(0, .ref (ad 7)), (1, .ref (ad 6))] := hl
  have hf_RX0_13 : (Cond.fieldLink RX0 13 "BlossomTours$Books" "joyInAll" "I").before ([.ref (ad 7), .ref (ad 6)] : List Value).toArray s = true := hts _ (by decide +kernel)
  have hf_RX0_16 : (Cond.fieldLink RX0 16 "BlossomTours$Books" "stingsInAll" "I").before ([.ref (ad 7), .ref (ad 6)] : List Value).toArray s = true := hts _ (by decide +kernel)
  have hf_RX0_7 : (Cond.fieldLink RX0 7 "BlossomTours$Books" "coins" "I").before ([.ref (ad 7), .ref (ad 6)] : List Value).toArray s = true := hts _ (by decide +kernel)
  have hi_RX0 : ∀ w ∈ u_ws RX0 TX0 3, w ∈ wsX0_copyFrom := by decide +kernel
  have hS : va_S (z_A 36 ad) s.heap s.heap [] := va_S.rf
  have hD := z_Dm hinj (z_cC G ad σ κ)
  refine lv_aload_n hx hb dX0_copyFrom_0 rfl (lv_at hl 0 rfl) ?_
  refine lv_aload_n hx hb dX0_copyFrom_1 rfl (lv_at hl 1 rfl) ?_
  refine va_get (D := z_DD G) (ci := 0) (v := .int (σ 8 2)) (C := RX0) (T := TX0) (N := 3) hx hb hts hi_RX0 hown hK hP 6 z_g6 rfl 0 (by decide) hf_RX0_7 (fun _ h9 => h9) rfl dX0_copyFrom_2 ?_
  refine va_put (D := z_DD G) (ci := 0) (v := .int (σ 8 2)) (ty := .int) (C := RX0) (T := TX0) (N := 3) hx hb hts hi_RX0 tyX0 tyX0_ok nmX0 hown hK hP hD hS 7 z_g7 rfl 0 (by decide) hf_RX0_7 (fun _ h9 => h9) rfl (by decide +kernel) rfl rfl (Nat.le_of_ble_eq_true rfl) dX0_copyFrom_5 (fun H locs hP hD hS => ?_)
  have hP : va_P (z_DD G) vwCl (z_wC G ad (z_up σ 8 5 (σ 8 2)) κ) H := Eq.mp (congrArg (fun w => va_P (z_DD G) vwCl w H) z_sB70) hP
  have hD := z_Dm hinj (z_cC G ad (z_up σ 8 5 (σ 8 2)) κ)
  refine lv_aload_n hx hb dX0_copyFrom_8 rfl (lv_at hl 0 rfl) ?_
  refine lv_aload_n hx hb dX0_copyFrom_9 rfl (lv_at hl 1 rfl) ?_
  refine va_get (D := z_DD G) (ci := 0) (v := .int ((z_up σ 8 5 (σ 8 2)) 8 3)) (C := RX0) (T := TX0) (N := 3) hx hb hts hi_RX0 hown hK hP 6 z_g6 rfl 1 (by decide) hf_RX0_13 (fun _ h9 => h9) rfl dX0_copyFrom_10 ?_
  refine va_put (D := z_DD G) (ci := 0) (v := .int ((z_up σ 8 5 (σ 8 2)) 8 3)) (ty := .int) (C := RX0) (T := TX0) (N := 3) hx hb hts hi_RX0 tyX0 tyX0_ok nmX0 hown hK hP hD hS 7 z_g7 rfl 1 (by decide) hf_RX0_13 (fun _ h9 => h9) rfl (by decide +kernel) rfl rfl (Nat.le_of_ble_eq_true rfl) dX0_copyFrom_13 (fun H locs hP hD hS => ?_)
  have hP : va_P (z_DD G) vwCl (z_wC G ad (z_up (z_up σ 8 5 (σ 8 2)) 8 6 ((z_up σ 8 5 (σ 8 2)) 8 3)) κ) H := Eq.mp (congrArg (fun w => va_P (z_DD G) vwCl w H) z_sB71) hP
  have hD := z_Dm hinj (z_cC G ad (z_up (z_up σ 8 5 (σ 8 2)) 8 6 ((z_up σ 8 5 (σ 8 2)) 8 3)) κ)
  refine lv_aload_n hx hb dX0_copyFrom_16 rfl (lv_at hl 0 rfl) ?_
  refine lv_aload_n hx hb dX0_copyFrom_17 rfl (lv_at hl 1 rfl) ?_
  refine va_get (D := z_DD G) (ci := 0) (v := .int ((z_up (z_up σ 8 5 (σ 8 2)) 8 6 ((z_up σ 8 5 (σ 8 2)) 8 3)) 8 4)) (C := RX0) (T := TX0) (N := 3) hx hb hts hi_RX0 hown hK hP 6 z_g6 rfl 2 (by decide) hf_RX0_16 (fun _ h9 => h9) rfl dX0_copyFrom_18 ?_
  refine va_put (D := z_DD G) (ci := 0) (v := .int ((z_up (z_up σ 8 5 (σ 8 2)) 8 6 ((z_up σ 8 5 (σ 8 2)) 8 3)) 8 4)) (ty := .int) (C := RX0) (T := TX0) (N := 3) hx hb hts hi_RX0 tyX0 tyX0_ok nmX0 hown hK hP hD hS 7 z_g7 rfl 2 (by decide) hf_RX0_16 (fun _ h9 => h9) rfl (by decide +kernel) rfl rfl (Nat.le_of_ble_eq_true rfl) dX0_copyFrom_21 (fun H locs hP hD hS => ?_)
  have hP : va_P (z_DD G) vwCl (z_wC G ad (z_up (z_up (z_up σ 8 5 (σ 8 2)) 8 6 ((z_up σ 8 5 (σ 8 2)) 8 3)) 8 7 ((z_up (z_up σ 8 5 (σ 8 2)) 8 6 ((z_up σ 8 5 (σ 8 2)) 8 3)) 8 4)) κ) H := Eq.mp (congrArg (fun w => va_P (z_DD G) vwCl w H) z_sB72) hP
  have hD := z_Dm hinj (z_cC G ad (z_up (z_up (z_up σ 8 5 (σ 8 2)) 8 6 ((z_up σ 8 5 (σ 8 2)) 8 3)) 8 7 ((z_up (z_up σ 8 5 (σ 8 2)) 8 6 ((z_up σ 8 5 (σ 8 2)) 8 3)) 8 4)) κ)
  have hPf : va_P (z_DD G) vwCl (z_wC G ad (z_k3 σ 5 (σ 8 2) (σ 8 3) (σ 8 4)) κ) H := by exact hP
  exact W.vret hx hb hr (fun t ht hW => ⟨rfl, by rw [ht]; exact hPf, hS.F ht⟩) hS.2.2 dX0_copyFrom_24

set_option maxHeartbeats 4000000 in
set_option maxRecDepth 100000 in
theorem c_X4_joyOn (l : Launch) (G : z_GT) (ad : Nat → Nat) (σ : Nat → Nat → Int32) (κ : Nat → Nat → Nat) (hw : z_wf κ) (t : Nat) (ht : t < 6) (d : Int32) : Met l yX4_joyOn wsX4_joyOn ({ frames := 2, cells := 0, slots := 0, locals := 45 } : Room) (z_Pr G [.ref (ad 0), .ref (ad (16 + t)), .int d] (z_wC G ad σ κ)) (z_Qo (some (.int (z_joy σ κ t d)))) 0 0 (fun _ => False) := by
  refine Met.ofW (cc := cX4_joyOn) (maxL := 5) (ret := (some .int)) (by decide) rfl ?_
  intro p e s m args below meth c s₁ B hml hw0
  obtain ⟨rfl, hX, hP⟩ := hw0
  have hK := hX.1
  have hx := B.exec
  have hb := B.bytes
  have hr := B.returns
  have hts := atoms_spec (ws := wsX4_joyOn) B.pre
  have hown : s.vm.findClass RX4 = some m.cls := findClass_of_methodNamed B.named
  have hlocks := B.notSynchronized
  have hl := lv_entry ([.ref (ad 0), .ref (ad (16 + t)), .int d]) (n := 5) (Nat.le_of_ble_eq_true rfl)
  rw [lg_entry_eq]
  generalize (lg_sl ([.ref (ad 0), .ref (ad (16 + t)), .int d]) ++ List.replicate (5 - (lg_sl ([.ref (ad 0), .ref (ad (16 + t)), .int d])).length) Slot.unset).toArray = ls at hl ⊢
  have hl : lv_has ls 5 [(0, .ref (ad 0)), (1, .ref (ad (16 + t))), (2, .int d)] := hl
  have hf_RX4_11 : (Cond.fieldLink RX4 11 "BlossomTours" "valleys" "[LBlossomTours$Valley;").before ([.ref (ad 0), .ref (ad (16 + t)), .int d] : List Value).toArray s = true := hts _ (by decide +kernel)
  have hf_RX4_59 : (Cond.fieldLink RX4 59 "BlossomTours" "valleyCount" "I").before ([.ref (ad 0), .ref (ad (16 + t)), .int d] : List Value).toArray s = true := hts _ (by decide +kernel)
  have hi_RX3 : ∀ w ∈ u_ws RX3 TX3 5, w ∈ wsX4_joyOn := by decide +kernel
  have hi_RX4 : ∀ w ∈ u_ws RX4 TX4 9, w ∈ wsX4_joyOn := by decide +kernel
  have hn := hw.1
  refine lv_aload_n hx hb dX4_joyOn_0 rfl (lv_at hl 1 rfl) ?_
  refine z_call (va_runVN (As := []) (rest := []) ⟨hx, hb, hml, hown, hts⟩ (c_X2_canGo l G ad σ κ t ht) ⟨va_cnB 0 hts gX4_joyOn_X2_canGo_n155 rfl rfl rfl (z_nmw hX.2 5 rfl) (hts (.initialized RX2) (by decide +kernel)) (by decide +kernel) ⟨Nat.le_of_ble_eq_true rfl, Nat.le_of_ble_eq_true rfl⟩, hts (.instanceMethod yX2_canGo) (by decide +kernel), hts (.selects RX2 yX2_canGo yX2_canGo) (by decide +kernel)⟩ (z_prV (ci := 2) (k := (16 + t)) hX hP rfl (z_gT ht)) rfl rfl hl.1 rfl (lv_room (Nat.le_of_ble_eq_true rfl)) dX4_joyOn_1 ⟨Nat.le_of_ble_eq_true rfl, Nat.le_of_ble_eq_true rfl⟩) (fun _ h9 => h9) ?_
  refine W.eq (g2 := F0 m 4 ls [.int (z_gc (κ 1 t) (σ 6 t))]) rfl ?_
  refine lv_if_ne (tgt := 9) hx hb dX4_joyOn_4 (by decide) (fun c4 => ?_) (fun c4 => ?_)
  · skip
    refine lv_iconst (v := 0) hx hb dX4_joyOn_9 (by decide) ?_
    refine lv_istore_n (lv' := [(3, .int 0), (0, .ref (ad 0)), (1, .ref (ad (16 + t))), (2, .int d)]) hx hb dX4_joyOn_10 rfl hl (by decide) rfl (fun ls hl => ?_)
    refine lv_iconst (v := nI 0) hx hb dX4_joyOn_11 (by decide) ?_
    refine lv_istore (lv' := [(4, .int (nI 0)), (3, .int 0), (0, .ref (ad 0)), (1, .ref (ad (16 + t))), (2, .int d)]) hx hb dX4_joyOn_12 hl (by decide) rfl (fun ls hl => ?_)
    have lp14 : ∀ (fu14 : Nat) (v : Nat), v ≤ κ 0 0 → κ 0 0 < v + fu14 → ∀ (ls : Array Slot), lv_has ls 5 [(0, .ref (ad 0)), (1, .ref (ad (16 + t))), (2, .int d), (3, .int (z_sm (z_jf σ κ t d) v)), (4, .int (nI v))] → W p l e (headSpec wsX4_joyOn ({ frames := 2, cells := 0, slots := 0, locals := 45 } : Room)).room s m ([.ref (ad 0), .ref (ad (16 + t)), .int d] : List Value).toArray below meth c s.heap [] 0 0 (MQ below (z_Qo (some (.int (z_joy σ κ t d)))) ([.ref (ad 0), .ref (ad (16 + t)), .int d] : List Value).toArray s 0 0 (fun _ => False)) (F0 m 14 ls []) := by
      intro fu14
      induction fu14 with
      | zero =>
        intro v h1 h2
        exfalso; omega
      | succ fu14 ih14 =>
        intro v h1 h2 ls hl
        refine lv_iload hx hb dX4_joyOn_14 (lv_at hl 4 rfl) ?_
        refine lv_aload_n hx hb dX4_joyOn_16 rfl (lv_at hl 0 rfl) ?_
        refine va_get (D := z_DD G) (ci := 4) (v := .int (nI (κ 0 0))) (C := RX4) (T := TX4) (N := 9) hx hb hts hi_RX4 hown hK hP 0 z_g0 rfl 6 (by decide) hf_RX4_59 (fun _ h9 => h9) rfl dX4_joyOn_17 ?_
        refine lv_icmp_ge (tgt := 70) hx hb dX4_joyOn_20 (by decide) (fun c20 => ?_) (fun c20 => ?_)
        · skip
          have hv := z_ge (by omega) (by omega) c20
          have hv : v = κ 0 0 := by omega
          rw [hv] at hl
          refine lv_iload_n hx hb dX4_joyOn_70 rfl (lv_at hl 3 rfl) ?_
          refine z_iret hx hb hr hlocks dX4_joyOn_71 (fun t ht hW => ⟨rfl, ht⟩) (fun _ h9 => nomatch h9) ?_
          unfold z_joy; rw [if_neg c4]
        · skip
          have hv := z_ng (by omega) (by omega) c20
          refine lv_aload_n hx hb dX4_joyOn_23 rfl (lv_at hl 1 rfl) ?_
          refine lv_iload hx hb dX4_joyOn_24 (lv_at hl 4 rfl) ?_
          refine z_call (va_runVN (As := [.int (nI v)]) (rest := []) ⟨hx, hb, hml, hown, hts⟩ (c_X2_visits l G ad σ κ t v ht (by omega) (hw.2.2.1 t ht) (hw.2.2.2 t ht)) ⟨va_cnB 1 hts gX4_joyOn_X2_visits_n134 rfl rfl rfl (z_nmw hX.2 9 rfl) (hts (.initialized RX2) (by decide +kernel)) (by decide +kernel) ⟨Nat.le_of_ble_eq_true rfl, Nat.le_of_ble_eq_true rfl⟩, hts (.instanceMethod yX2_visits) (by decide +kernel), hts (.selects RX2 yX2_visits yX2_visits) (by decide +kernel)⟩ (z_prV (ci := 2) (k := (16 + t)) hX hP rfl (z_gT ht)) rfl rfl hl.1 rfl (lv_room (Nat.le_of_ble_eq_true rfl)) dX4_joyOn_26 ⟨Nat.le_of_ble_eq_true rfl, Nat.le_of_ble_eq_true rfl⟩) (fun _ h9 => h9) ?_
          refine W.eq (g2 := F0 m 29 ls [.int (z_bi (z_vi (κ (2 + t)) v (κ 1 t)))]) rfl ?_
          refine lv_if_eq (tgt := 64) hx hb dX4_joyOn_29 (by decide) (fun c29 => ?_) (fun c29 => ?_)
          · skip
            refine lv_iinc (v := nI (v + 1)) (lv' := [(4, .int (nI (v + 1))), (0, .ref (ad 0)), (1, .ref (ad (16 + t))), (2, .int d), (3, .int (z_sm (z_jf σ κ t d) v))]) hx hb dX4_joyOn_64 hl (k := 4) rfl (z_inc _) (by decide) rfl (fun ls hl => ?_)
            refine lv_goto (tgt := 14) hx hb dX4_joyOn_67 (by decide) ?_
            -- back to 14
            rw [show (z_sm (z_jf σ κ t d) v : Int32) = z_sm (z_jf σ κ t d) (v + 1) from by first | (show _ = z_sm (z_jf σ κ t d) v + z_jf σ κ t d v; rw [z_jf, if_pos (z_bi_t c29)]; done) | (show _ = z_sm (z_jf σ κ t d) v + z_jf σ κ t d v; rw [z_jf, if_neg (by rw [z_bi_f c29]; decide), Int32.add_zero])] at hl
            exact ih14 (v + 1) (by omega) (by omega) ls (lv_sub hl [1, 2, 3, 4, 0] rfl)
          · skip
            refine lv_iload_n hx hb dX4_joyOn_32 rfl (lv_at hl 3 rfl) ?_
            refine lv_iconst (v := 0) hx hb dX4_joyOn_33 (by decide) ?_
            refine lv_aload_n hx hb dX4_joyOn_34 rfl (lv_at hl 0 rfl) ?_
            refine va_get (D := z_DD G) (ci := 4) (v := .ref (ad 1)) (C := RX4) (T := TX4) (N := 9) hx hb hts hi_RX4 hown hK hP 0 z_g0 rfl 0 (by decide) hf_RX4_11 (fun _ h9 => h9) rfl dX4_joyOn_35 ?_
            refine lv_iload hx hb dX4_joyOn_38 (lv_at hl 4 rfl) ?_
            refine z_aald (k := v) (g := fun j => ad (8 + j)) hx hb hK hP 1 1 z_g1 rfl (by omega) (by decide) dX4_joyOn_40 ?_
            refine lv_iload_n hx hb dX4_joyOn_41 rfl (lv_at hl 2 rfl) ?_
            refine z_call (va_runVN (As := [.int d]) (rest := [.int 0, .int (z_sm (z_jf σ κ t d) v)]) ⟨hx, hb, hml, hown, hts⟩ (c_X3_bloomOn l G ad σ κ v d (by omega)) ⟨va_cnB 1 hts gX4_joyOn_X3_bloomOn_n107 rfl rfl rfl (z_nmw hX.2 4 rfl) (hts (.initialized RX3) (by decide +kernel)) (by decide +kernel) ⟨Nat.le_of_ble_eq_true rfl, Nat.le_of_ble_eq_true rfl⟩, hts (.instanceMethod yX3_bloomOn) (by decide +kernel), hts (.selects RX3 yX3_bloomOn yX3_bloomOn) (by decide +kernel)⟩ (z_prV (ci := 3) (k := (8 + v)) hX hP rfl (z_gV (by omega))) rfl rfl hl.1 rfl (lv_room (Nat.le_of_ble_eq_true rfl)) dX4_joyOn_42 ⟨Nat.le_of_ble_eq_true rfl, Nat.le_of_ble_eq_true rfl⟩) (fun _ h9 => h9) ?_
            refine W.eq (g2 := F0 m 45 ls [.int (z_bl (σ 0 v) (σ 1 v) d), .int 0, .int (z_sm (z_jf σ κ t d) v)]) rfl ?_
            refine lv_aload_n hx hb dX4_joyOn_45 rfl (lv_at hl 0 rfl) ?_
            refine va_get (D := z_DD G) (ci := 4) (v := .ref (ad 1)) (C := RX4) (T := TX4) (N := 9) hx hb hts hi_RX4 hown hK hP 0 z_g0 rfl 0 (by decide) hf_RX4_11 (fun _ h9 => h9) rfl dX4_joyOn_46 ?_
            refine lv_iload hx hb dX4_joyOn_49 (lv_at hl 4 rfl) ?_
            refine z_aald (k := v) (g := fun j => ad (8 + j)) hx hb hK hP 1 1 z_g1 rfl (by omega) (by decide) dX4_joyOn_51 ?_
            refine va_getN (D := z_DD G) (ci := 3) (v := .int (σ 3 v)) (C := RX3) (T := TX3) (N := 5) hx hb hts hi_RX3 hown hK hP (8 + v) (z_gV (by omega)) rfl 3 (by decide) (z_nfw hX.2 7 rfl) (fun _ h9 => h9) rfl dX4_joyOn_52 ?_
            refine lv_bipush (v := 10) hx hb dX4_joyOn_55 (by decide) ?_
            refine lv_idiv hx hb dX4_joyOn_57 (by decide) ?_
            refine lv_isub hx hb dX4_joyOn_58 ?_
            refine va_mmax hx hb (hml.trans hl.1.symm) hown (hts (.methodLink RX4 252 Lib.Math.max.name) (by decide +kernel)) (hts (.static Lib.Math.max.name) (by decide +kernel)) (hts (.initialized "java/lang/Math") (by decide +kernel)) (hts (.code Lib.Math.max.name Lib.Math.max.code 2 (some .int)) (by decide +kernel)) (Nat.le_of_ble_eq_true rfl) (Nat.le_of_ble_eq_true rfl) (Nat.le_of_ble_eq_true rfl) (Nat.le_of_ble_eq_true rfl) dX4_joyOn_59 ?_
            refine lv_iadd hx hb dX4_joyOn_62 ?_
            refine lv_istore_n (lv' := [(3, .int ((z_sm (z_jf σ κ t d) v) + (if 0 < (z_bl (σ 0 v) (σ 1 v) d) - ((σ 3 v) / 10) then (z_bl (σ 0 v) (σ 1 v) d) - ((σ 3 v) / 10) else 0))), (0, .ref (ad 0)), (1, .ref (ad (16 + t))), (2, .int d), (4, .int (nI v))]) hx hb dX4_joyOn_63 rfl hl (by decide) rfl (fun ls hl => ?_)
            refine lv_iinc (v := nI (v + 1)) (lv' := [(4, .int (nI (v + 1))), (3, .int ((z_sm (z_jf σ κ t d) v) + (if 0 < (z_bl (σ 0 v) (σ 1 v) d) - ((σ 3 v) / 10) then (z_bl (σ 0 v) (σ 1 v) d) - ((σ 3 v) / 10) else 0))), (0, .ref (ad 0)), (1, .ref (ad (16 + t))), (2, .int d)]) hx hb dX4_joyOn_64 hl (k := 4) rfl (z_inc _) (by decide) rfl (fun ls hl => ?_)
            refine lv_goto (tgt := 14) hx hb dX4_joyOn_67 (by decide) ?_
            -- back to 14
            rw [show ((z_sm (z_jf σ κ t d) v) + (if 0 < (z_bl (σ 0 v) (σ 1 v) d) - ((σ 3 v) / 10) then (z_bl (σ 0 v) (σ 1 v) d) - ((σ 3 v) / 10) else 0) : Int32) = z_sm (z_jf σ κ t d) (v + 1) from by first | (show _ = z_sm (z_jf σ κ t d) v + z_jf σ κ t d v; rw [z_jf, if_pos (z_bi_t c29)]; done) | (show _ = z_sm (z_jf σ κ t d) v + z_jf σ κ t d v; rw [z_jf, if_neg (by rw [z_bi_f c29]; decide), Int32.add_zero])] at hl
            exact ih14 (v + 1) (by omega) (by omega) ls (lv_sub hl [2, 3, 4, 1, 0] rfl)
    rw [show (0 : Int32) = z_sm (z_jf σ κ t d) 0 from by rfl] at hl
    exact lp14 (κ 0 0 + 1) 0 (by omega) (by omega) ls (lv_sub hl [2, 3, 4, 1, 0] rfl)
  · skip
    refine lv_iconst (v := 0) hx hb dX4_joyOn_7 (by decide) ?_
    refine z_iret hx hb hr hlocks dX4_joyOn_8 (fun t ht hW => ⟨rfl, ht⟩) (fun _ h9 => nomatch h9) ?_
    unfold z_joy; rw [if_pos (by simpa using c4)]

set_option maxHeartbeats 4000000 in
set_option maxRecDepth 100000 in
theorem c_X4_stingsOn (l : Launch) (G : z_GT) (ad : Nat → Nat) (σ : Nat → Nat → Int32) (κ : Nat → Nat → Nat) (hw : z_wf κ) (t : Nat) (ht : t < 6) (d : Int32) : Met l yX4_stingsOn wsX4_stingsOn ({ frames := 2, cells := 0, slots := 0, locals := 45 } : Room) (z_Pr G [.ref (ad 0), .ref (ad (16 + t)), .int d] (z_wC G ad σ κ)) (z_Qo (some (.int (z_stg σ κ t d)))) 0 0 (fun _ => False) := by
  refine Met.ofW (cc := cX4_stingsOn) (maxL := 5) (ret := (some .int)) (by decide) rfl ?_
  intro p e s m args below meth c s₁ B hml hw0
  obtain ⟨rfl, hX, hP⟩ := hw0
  have hK := hX.1
  have hx := B.exec
  have hb := B.bytes
  have hr := B.returns
  have hts := atoms_spec (ws := wsX4_stingsOn) B.pre
  have hown : s.vm.findClass RX4 = some m.cls := findClass_of_methodNamed B.named
  have hlocks := B.notSynchronized
  have hl := lv_entry ([.ref (ad 0), .ref (ad (16 + t)), .int d]) (n := 5) (Nat.le_of_ble_eq_true rfl)
  rw [lg_entry_eq]
  generalize (lg_sl ([.ref (ad 0), .ref (ad (16 + t)), .int d]) ++ List.replicate (5 - (lg_sl ([.ref (ad 0), .ref (ad (16 + t)), .int d])).length) Slot.unset).toArray = ls at hl ⊢
  have hl : lv_has ls 5 [(0, .ref (ad 0)), (1, .ref (ad (16 + t))), (2, .int d)] := hl
  have hf_RX4_11 : (Cond.fieldLink RX4 11 "BlossomTours" "valleys" "[LBlossomTours$Valley;").before ([.ref (ad 0), .ref (ad (16 + t)), .int d] : List Value).toArray s = true := hts _ (by decide +kernel)
  have hf_RX4_59 : (Cond.fieldLink RX4 59 "BlossomTours" "valleyCount" "I").before ([.ref (ad 0), .ref (ad (16 + t)), .int d] : List Value).toArray s = true := hts _ (by decide +kernel)
  have hi_RX2 : ∀ w ∈ u_ws RX2 TX2 4, w ∈ wsX4_stingsOn := by decide +kernel
  have hi_RX3 : ∀ w ∈ u_ws RX3 TX3 5, w ∈ wsX4_stingsOn := by decide +kernel
  have hi_RX4 : ∀ w ∈ u_ws RX4 TX4 9, w ∈ wsX4_stingsOn := by decide +kernel
  have hn := hw.1
  refine lv_aload_n hx hb dX4_stingsOn_0 rfl (lv_at hl 1 rfl) ?_
  refine z_call (va_runVN (As := []) (rest := []) ⟨hx, hb, hml, hown, hts⟩ (c_X2_canGo l G ad σ κ t ht) ⟨va_cnB 0 hts gX4_stingsOn_X2_canGo_n155 rfl rfl rfl (z_nmw hX.2 5 rfl) (hts (.initialized RX2) (by decide +kernel)) (by decide +kernel) ⟨Nat.le_of_ble_eq_true rfl, Nat.le_of_ble_eq_true rfl⟩, hts (.instanceMethod yX2_canGo) (by decide +kernel), hts (.selects RX2 yX2_canGo yX2_canGo) (by decide +kernel)⟩ (z_prV (ci := 2) (k := (16 + t)) hX hP rfl (z_gT ht)) rfl rfl hl.1 rfl (lv_room (Nat.le_of_ble_eq_true rfl)) dX4_stingsOn_1 ⟨Nat.le_of_ble_eq_true rfl, Nat.le_of_ble_eq_true rfl⟩) (fun _ h9 => h9) ?_
  refine W.eq (g2 := F0 m 4 ls [.int (z_gc (κ 1 t) (σ 6 t))]) rfl ?_
  refine lv_if_ne (tgt := 9) hx hb dX4_stingsOn_4 (by decide) (fun c4 => ?_) (fun c4 => ?_)
  · skip
    refine lv_iconst (v := 0) hx hb dX4_stingsOn_9 (by decide) ?_
    refine lv_istore_n (lv' := [(3, .int 0), (0, .ref (ad 0)), (1, .ref (ad (16 + t))), (2, .int d)]) hx hb dX4_stingsOn_10 rfl hl (by decide) rfl (fun ls hl => ?_)
    refine lv_iconst (v := nI 0) hx hb dX4_stingsOn_11 (by decide) ?_
    refine lv_istore (lv' := [(4, .int (nI 0)), (3, .int 0), (0, .ref (ad 0)), (1, .ref (ad (16 + t))), (2, .int d)]) hx hb dX4_stingsOn_12 hl (by decide) rfl (fun ls hl => ?_)
    have lp14 : ∀ (fu14 : Nat) (v : Nat), v ≤ κ 0 0 → κ 0 0 < v + fu14 → ∀ (ls : Array Slot), lv_has ls 5 [(0, .ref (ad 0)), (1, .ref (ad (16 + t))), (2, .int d), (3, .int (z_sm (z_gf σ κ t d) v)), (4, .int (nI v))] → W p l e (headSpec wsX4_stingsOn ({ frames := 2, cells := 0, slots := 0, locals := 45 } : Room)).room s m ([.ref (ad 0), .ref (ad (16 + t)), .int d] : List Value).toArray below meth c s.heap [] 0 0 (MQ below (z_Qo (some (.int (z_stg σ κ t d)))) ([.ref (ad 0), .ref (ad (16 + t)), .int d] : List Value).toArray s 0 0 (fun _ => False)) (F0 m 14 ls []) := by
      intro fu14
      induction fu14 with
      | zero =>
        intro v h1 h2
        exfalso; omega
      | succ fu14 ih14 =>
        intro v h1 h2 ls hl
        refine lv_iload hx hb dX4_stingsOn_14 (lv_at hl 4 rfl) ?_
        refine lv_aload_n hx hb dX4_stingsOn_16 rfl (lv_at hl 0 rfl) ?_
        refine va_get (D := z_DD G) (ci := 4) (v := .int (nI (κ 0 0))) (C := RX4) (T := TX4) (N := 9) hx hb hts hi_RX4 hown hK hP 0 z_g0 rfl 6 (by decide) hf_RX4_59 (fun _ h9 => h9) rfl dX4_stingsOn_17 ?_
        refine lv_icmp_ge (tgt := 72) hx hb dX4_stingsOn_20 (by decide) (fun c20 => ?_) (fun c20 => ?_)
        · skip
          have hv := z_ge (by omega) (by omega) c20
          have hv : v = κ 0 0 := by omega
          rw [hv] at hl
          refine lv_iload_n hx hb dX4_stingsOn_72 rfl (lv_at hl 3 rfl) ?_
          refine z_iret hx hb hr hlocks dX4_stingsOn_73 (fun t ht hW => ⟨rfl, ht⟩) (fun _ h9 => nomatch h9) ?_
          unfold z_stg; rw [if_neg c4]
        · skip
          have hv := z_ng (by omega) (by omega) c20
          refine lv_aload_n hx hb dX4_stingsOn_23 rfl (lv_at hl 1 rfl) ?_
          refine lv_iload hx hb dX4_stingsOn_24 (lv_at hl 4 rfl) ?_
          refine z_call (va_runVN (As := [.int (nI v)]) (rest := []) ⟨hx, hb, hml, hown, hts⟩ (c_X2_visits l G ad σ κ t v ht (by omega) (hw.2.2.1 t ht) (hw.2.2.2 t ht)) ⟨va_cnB 1 hts gX4_stingsOn_X2_visits_n134 rfl rfl rfl (z_nmw hX.2 9 rfl) (hts (.initialized RX2) (by decide +kernel)) (by decide +kernel) ⟨Nat.le_of_ble_eq_true rfl, Nat.le_of_ble_eq_true rfl⟩, hts (.instanceMethod yX2_visits) (by decide +kernel), hts (.selects RX2 yX2_visits yX2_visits) (by decide +kernel)⟩ (z_prV (ci := 2) (k := (16 + t)) hX hP rfl (z_gT ht)) rfl rfl hl.1 rfl (lv_room (Nat.le_of_ble_eq_true rfl)) dX4_stingsOn_26 ⟨Nat.le_of_ble_eq_true rfl, Nat.le_of_ble_eq_true rfl⟩) (fun _ h9 => h9) ?_
          refine W.eq (g2 := F0 m 29 ls [.int (z_bi (z_vi (κ (2 + t)) v (κ 1 t)))]) rfl ?_
          refine lv_if_eq (tgt := 66) hx hb dX4_stingsOn_29 (by decide) (fun c29 => ?_) (fun c29 => ?_)
          · skip
            refine lv_iinc (v := nI (v + 1)) (lv' := [(4, .int (nI (v + 1))), (0, .ref (ad 0)), (1, .ref (ad (16 + t))), (2, .int d), (3, .int (z_sm (z_gf σ κ t d) v))]) hx hb dX4_stingsOn_66 hl (k := 4) rfl (z_inc _) (by decide) rfl (fun ls hl => ?_)
            refine lv_goto (tgt := 14) hx hb dX4_stingsOn_69 (by decide) ?_
            -- back to 14
            rw [show (z_sm (z_gf σ κ t d) v : Int32) = z_sm (z_gf σ κ t d) (v + 1) from by first | (show _ = z_sm (z_gf σ κ t d) v + z_gf σ κ t d v; rw [z_gf, if_pos (z_bi_t c29)]; done) | (show _ = z_sm (z_gf σ κ t d) v + z_gf σ κ t d v; rw [z_gf, if_neg (by rw [z_bi_f c29]; decide), Int32.add_zero])] at hl
            exact ih14 (v + 1) (by omega) (by omega) ls (lv_sub hl [1, 2, 3, 4, 0] rfl)
          · skip
            refine lv_iload_n hx hb dX4_stingsOn_32 rfl (lv_at hl 3 rfl) ?_
            refine lv_aload_n hx hb dX4_stingsOn_33 rfl (lv_at hl 1 rfl) ?_
            refine va_getN (D := z_DD G) (ci := 2) (v := .int (σ 5 t)) (C := RX2) (T := TX2) (N := 4) hx hb hts hi_RX2 hown hK hP (16 + t) (z_gT ht) rfl 2 (by decide) (z_nfw hX.2 11 rfl) (fun _ h9 => h9) rfl dX4_stingsOn_34 ?_
            refine lv_aload_n hx hb dX4_stingsOn_37 rfl (lv_at hl 0 rfl) ?_
            refine va_get (D := z_DD G) (ci := 4) (v := .ref (ad 1)) (C := RX4) (T := TX4) (N := 9) hx hb hts hi_RX4 hown hK hP 0 z_g0 rfl 0 (by decide) hf_RX4_11 (fun _ h9 => h9) rfl dX4_stingsOn_38 ?_
            refine lv_iload hx hb dX4_stingsOn_41 (lv_at hl 4 rfl) ?_
            refine z_aald (k := v) (g := fun j => ad (8 + j)) hx hb hK hP 1 1 z_g1 rfl (by omega) (by decide) dX4_stingsOn_43 ?_
            refine va_getN (D := z_DD G) (ci := 3) (v := .int (σ 2 v)) (C := RX3) (T := TX3) (N := 5) hx hb hts hi_RX3 hown hK hP (8 + v) (z_gV (by omega)) rfl 2 (by decide) (z_nfw hX.2 6 rfl) (fun _ h9 => h9) rfl dX4_stingsOn_44 ?_
            refine lv_imul hx hb dX4_stingsOn_47 ?_
            refine lv_aload_n hx hb dX4_stingsOn_48 rfl (lv_at hl 0 rfl) ?_
            refine va_get (D := z_DD G) (ci := 4) (v := .ref (ad 1)) (C := RX4) (T := TX4) (N := 9) hx hb hts hi_RX4 hown hK hP 0 z_g0 rfl 0 (by decide) hf_RX4_11 (fun _ h9 => h9) rfl dX4_stingsOn_49 ?_
            refine lv_iload hx hb dX4_stingsOn_52 (lv_at hl 4 rfl) ?_
            refine z_aald (k := v) (g := fun j => ad (8 + j)) hx hb hK hP 1 1 z_g1 rfl (by omega) (by decide) dX4_stingsOn_54 ?_
            refine lv_iload_n hx hb dX4_stingsOn_55 rfl (lv_at hl 2 rfl) ?_
            refine z_call (va_runVN (As := [.int d]) (rest := [.int ((σ 5 t) * (σ 2 v)), .int (z_sm (z_gf σ κ t d) v)]) ⟨hx, hb, hml, hown, hts⟩ (c_X3_bloomOn l G ad σ κ v d (by omega)) ⟨va_cnB 1 hts gX4_stingsOn_X3_bloomOn_n107 rfl rfl rfl (z_nmw hX.2 4 rfl) (hts (.initialized RX3) (by decide +kernel)) (by decide +kernel) ⟨Nat.le_of_ble_eq_true rfl, Nat.le_of_ble_eq_true rfl⟩, hts (.instanceMethod yX3_bloomOn) (by decide +kernel), hts (.selects RX3 yX3_bloomOn yX3_bloomOn) (by decide +kernel)⟩ (z_prV (ci := 3) (k := (8 + v)) hX hP rfl (z_gV (by omega))) rfl rfl hl.1 rfl (lv_room (Nat.le_of_ble_eq_true rfl)) dX4_stingsOn_56 ⟨Nat.le_of_ble_eq_true rfl, Nat.le_of_ble_eq_true rfl⟩) (fun _ h9 => h9) ?_
            refine W.eq (g2 := F0 m 59 ls [.int (z_bl (σ 0 v) (σ 1 v) d), .int ((σ 5 t) * (σ 2 v)), .int (z_sm (z_gf σ κ t d) v)]) rfl ?_
            refine lv_imul hx hb dX4_stingsOn_59 ?_
            refine lv_sipush (v := 5000) hx hb dX4_stingsOn_60 (by decide) ?_
            refine lv_idiv hx hb dX4_stingsOn_63 (by decide) ?_
            refine lv_iadd hx hb dX4_stingsOn_64 ?_
            refine lv_istore_n (lv' := [(3, .int ((z_sm (z_gf σ κ t d) v) + ((((σ 5 t) * (σ 2 v)) * (z_bl (σ 0 v) (σ 1 v) d)) / 5000))), (0, .ref (ad 0)), (1, .ref (ad (16 + t))), (2, .int d), (4, .int (nI v))]) hx hb dX4_stingsOn_65 rfl hl (by decide) rfl (fun ls hl => ?_)
            refine lv_iinc (v := nI (v + 1)) (lv' := [(4, .int (nI (v + 1))), (3, .int ((z_sm (z_gf σ κ t d) v) + ((((σ 5 t) * (σ 2 v)) * (z_bl (σ 0 v) (σ 1 v) d)) / 5000))), (0, .ref (ad 0)), (1, .ref (ad (16 + t))), (2, .int d)]) hx hb dX4_stingsOn_66 hl (k := 4) rfl (z_inc _) (by decide) rfl (fun ls hl => ?_)
            refine lv_goto (tgt := 14) hx hb dX4_stingsOn_69 (by decide) ?_
            -- back to 14
            rw [show ((z_sm (z_gf σ κ t d) v) + ((((σ 5 t) * (σ 2 v)) * (z_bl (σ 0 v) (σ 1 v) d)) / 5000) : Int32) = z_sm (z_gf σ κ t d) (v + 1) from by first | (show _ = z_sm (z_gf σ κ t d) v + z_gf σ κ t d v; rw [z_gf, if_pos (z_bi_t c29)]; done) | (show _ = z_sm (z_gf σ κ t d) v + z_gf σ κ t d v; rw [z_gf, if_neg (by rw [z_bi_f c29]; decide), Int32.add_zero])] at hl
            exact ih14 (v + 1) (by omega) (by omega) ls (lv_sub hl [2, 3, 4, 1, 0] rfl)
    rw [show (0 : Int32) = z_sm (z_gf σ κ t d) 0 from by rfl] at hl
    exact lp14 (κ 0 0 + 1) 0 (by omega) (by omega) ls (lv_sub hl [2, 3, 4, 1, 0] rfl)
  · skip
    refine lv_iconst (v := 0) hx hb dX4_stingsOn_7 (by decide) ?_
    refine z_iret hx hb hr hlocks dX4_stingsOn_8 (fun t ht hW => ⟨rfl, ht⟩) (fun _ h9 => nomatch h9) ?_
    unfold z_stg; rw [if_pos (by simpa using c4)]
