/-! Part 04a: the class's leaves. -/
set_option maxHeartbeats 4000000 in
set_option maxRecDepth 100000 in
theorem c_X4_isWithin (l : Launch) (G : z_GT) (n a b : Int32) : Met l yX4_isWithin wsX4_isWithin ({ frames := 0, cells := 0, slots := 0, locals := 0 } : Room) (z_Pr G [.int n, .int a, .int b] []) (z_Qo (some (.int (z_wi n a b)))) 0 0 (fun _ => False) := by
  refine Met.ofW (cc := cX4_isWithin) (maxL := 3) (ret := (some .boolean)) (by decide) rfl ?_
  intro p e s m args below meth c s₁ B hml hw0
  obtain ⟨rfl, hX, hP⟩ := hw0
  have hK := hX.1
  have hx := B.exec
  have hb := B.bytes
  have hr := B.returns
  have hts := atoms_spec (ws := wsX4_isWithin) B.pre
  have hown : s.vm.findClass RX4 = some m.cls := findClass_of_methodNamed B.named
  have hlocks := B.notSynchronized
  have hl := lv_entry ([.int n, .int a, .int b]) (n := 3) (Nat.le_of_ble_eq_true rfl)
  rw [lg_entry_eq]
  generalize (lg_sl ([.int n, .int a, .int b]) ++ List.replicate (3 - (lg_sl ([.int n, .int a, .int b])).length) Slot.unset).toArray = ls at hl ⊢
  have hl : lv_has ls 3 [(0, .int n), (1, .int a), (2, .int b)] := hl
  refine lv_iload_n hx hb dX4_isWithin_0 rfl (lv_at hl 0 rfl) ?_
  refine lv_iload_n hx hb dX4_isWithin_1 rfl (lv_at hl 1 rfl) ?_
  refine lv_icmp_lt (tgt := 14) hx hb dX4_isWithin_2 (by decide) (fun c2 => ?_) (fun c2 => ?_)
  · skip
    refine lv_iconst (v := 0) hx hb dX4_isWithin_14 (by decide) ?_
    refine z_zret hx hb hr hlocks dX4_isWithin_15 (fun t ht hW => ⟨rfl, ht⟩) (fun _ h9 => nomatch h9) ?_ ?_
    · first | exact Or.inl rfl | exact Or.inr rfl | (split <;> simp)
    · simp [z_wi, *]
  · skip
    refine lv_iload_n hx hb dX4_isWithin_5 rfl (lv_at hl 0 rfl) ?_
    refine lv_iload_n hx hb dX4_isWithin_6 rfl (lv_at hl 2 rfl) ?_
    refine lv_icmp_gt (tgt := 14) hx hb dX4_isWithin_7 (by decide) (fun c7 => ?_) (fun c7 => ?_)
    · skip
      refine lv_iconst (v := 0) hx hb dX4_isWithin_14 (by decide) ?_
      refine z_zret hx hb hr hlocks dX4_isWithin_15 (fun t ht hW => ⟨rfl, ht⟩) (fun _ h9 => nomatch h9) ?_ ?_
      · first | exact Or.inl rfl | exact Or.inr rfl | (split <;> simp)
      · simp [z_wi, *]
    · skip
      refine lv_iconst (v := 1) hx hb dX4_isWithin_10 (by decide) ?_
      refine lv_goto (tgt := 15) hx hb dX4_isWithin_11 (by decide) ?_
      refine z_zret hx hb hr hlocks dX4_isWithin_15 (fun t ht hW => ⟨rfl, ht⟩) (fun _ h9 => nomatch h9) ?_ ?_
      · first | exact Or.inl rfl | exact Or.inr rfl | (split <;> simp)
      · simp [z_wi, *]

set_option maxHeartbeats 4000000 in
set_option maxRecDepth 100000 in
theorem c_X1_isPlace (l : Launch) (G : z_GT) (n : Int32) : Met l yX1_isPlace wsX1_isPlace ({ frames := 1, cells := 0, slots := 0, locals := 22 } : Room) (z_Pr G [.int n] []) (z_Qo (some (.int (z_wi n 0 7)))) 0 0 (fun _ => False) := by
  refine Met.ofW (cc := cX1_isPlace) (maxL := 1) (ret := (some .boolean)) (by decide) rfl ?_
  intro p e s m args below meth c s₁ B hml hw0
  obtain ⟨rfl, hX, hP⟩ := hw0
  have hK := hX.1
  have hx := B.exec
  have hb := B.bytes
  have hr := B.returns
  have hts := atoms_spec (ws := wsX1_isPlace) B.pre
  have hown : s.vm.findClass RX1 = some m.cls := findClass_of_methodNamed B.named
  have hlocks := B.notSynchronized
  have hl := lv_entry ([.int n]) (n := 1) (Nat.le_of_ble_eq_true rfl)
  rw [lg_entry_eq]
  generalize (lg_sl ([.int n]) ++ List.replicate (1 - (lg_sl ([.int n])).length) Slot.unset).toArray = ls at hl ⊢
  have hl : lv_has ls 1 [(0, .int n)] := hl
  refine lv_iload_n hx hb dX1_isPlace_0 rfl (lv_at hl 0 rfl) ?_
  refine lv_iconst (v := 0) hx hb dX1_isPlace_1 (by decide) ?_
  refine lv_bipush (v := 7) hx hb dX1_isPlace_2 (by decide) ?_
  refine z_call (va_runSN (As := [.int n, .int 0, .int 7]) (rest := []) ⟨hx, hb, hml, hown, hts⟩ (c_X4_isWithin l G n 0 7) ⟨va_cnB 3 hts gX1_isPlace_X4_isWithin_n31 rfl rfl rfl (z_nmw hX.2 8 rfl) (hts (.initialized RX4) (by decide +kernel)) (by decide +kernel) ⟨Nat.le_of_ble_eq_true rfl, Nat.le_of_ble_eq_true rfl⟩, hts (.static yX4_isWithin) (by decide +kernel), trivial⟩ (z_prS hX z_P0) rfl rfl hl.1 rfl (lv_room (Nat.le_of_ble_eq_true rfl)) dX1_isPlace_4 ⟨Nat.le_of_ble_eq_true rfl, Nat.le_of_ble_eq_true rfl⟩) (fun _ h9 => h9) ?_
  refine W.eq (g2 := F0 m 7 ls [.int (z_wi n 0 7)]) rfl ?_
  refine z_zret hx hb hr hlocks dX1_isPlace_7 (fun t ht hW => ⟨rfl, ht⟩) (fun _ h9 => nomatch h9) ?_ ?_
  · exact z_wi01 _ _ _
  · rfl

set_option maxHeartbeats 4000000 in
set_option maxRecDepth 100000 in
theorem c_X4_mixed (l : Launch) (G : z_GT) (d x : Int64) : Met l yX4_mixed wsX4_mixed ({ frames := 0, cells := 0, slots := 0, locals := 0 } : Room) (z_Pr G [.long d, .long x] []) (z_Qo (some (.long (d * 31 + x)))) 0 0 (fun _ => False) := by
  refine Met.ofW (cc := cX4_mixed) (maxL := 4) (ret := (some .long)) (by decide) rfl ?_
  intro p e s m args below meth c s₁ B hml hw0
  obtain ⟨rfl, hX, hP⟩ := hw0
  have hK := hX.1
  have hx := B.exec
  have hb := B.bytes
  have hr := B.returns
  have hts := atoms_spec (ws := wsX4_mixed) B.pre
  have hown : s.vm.findClass RX4 = some m.cls := findClass_of_methodNamed B.named
  have hlocks := B.notSynchronized
  have hl := lv_entry ([.long d, .long x]) (n := 4) (Nat.le_of_ble_eq_true rfl)
  rw [lg_entry_eq]
  generalize (lg_sl ([.long d, .long x]) ++ List.replicate (4 - (lg_sl ([.long d, .long x])).length) Slot.unset).toArray = ls at hl ⊢
  have hl : lv_has ls 4 [(0, .long d), (2, .long x)] := hl
  refine lv_lload_n hx hb dX4_mixed_0 rfl (lv_at hl 0 rfl) ?_
  refine lv_ldc2 (v := 31) hx hb hown (hts (.constantLong RX4 234 (31)) (by decide +kernel)) dX4_mixed_1 ?_
  refine lv_lmul hx hb dX4_mixed_4 ?_
  refine lv_lload_n hx hb dX4_mixed_5 rfl (lv_at hl 1 rfl) ?_
  refine lv_ladd hx hb dX4_mixed_6 ?_
  refine z_lret hx hb hr hlocks dX4_mixed_7 (fun t ht hW => ⟨rfl, ht⟩) (fun _ h9 => nomatch h9) ?_
  rfl

set_option maxHeartbeats 4000000 in
set_option maxRecDepth 100000 in
theorem c_X3_bloomOn (l : Launch) (G : z_GT) (ad : Nat → Nat) (σ : Nat → Nat → Int32) (κ : Nat → Nat → Nat) (v : Nat) (d : Int32) (hv : v < 8) : Met l yX3_bloomOn wsX3_bloomOn ({ frames := 1, cells := 0, slots := 0, locals := 21 } : Room) (z_Pr G [.ref (ad (8 + v)), .int d] (z_wC G ad σ κ)) (z_Qo (some (.int (z_bl (σ 0 v) (σ 1 v) d)))) 0 0 (fun _ => False) := by
  refine Met.ofW (cc := cX3_bloomOn) (maxL := 5) (ret := (some .int)) (by decide) rfl ?_
  intro p e s m args below meth c s₁ B hml hw0
  obtain ⟨rfl, hX, hP⟩ := hw0
  have hK := hX.1
  have hx := B.exec
  have hb := B.bytes
  have hr := B.returns
  have hts := atoms_spec (ws := wsX3_bloomOn) B.pre
  have hown : s.vm.findClass RX3 = some m.cls := findClass_of_methodNamed B.named
  have hlocks := B.notSynchronized
  have hl := lv_entry ([.ref (ad (8 + v)), .int d]) (n := 5) (Nat.le_of_ble_eq_true rfl)
  rw [lg_entry_eq]
  generalize (lg_sl ([.ref (ad (8 + v)), .int d]) ++ List.replicate (5 - (lg_sl ([.ref (ad (8 + v)), .int d])).length) Slot.unset).toArray = ls at hl ⊢
  have hl : lv_has ls 5 [(0, .ref (ad (8 + v))), (1, .int d)] := hl
  have hf_RX3_13 : (Cond.fieldLink RX3 13 "BlossomTours$Valley" "length" "I").before ([.ref (ad (8 + v)), .int d] : List Value).toArray s = true := hts _ (by decide +kernel)
  have hf_RX3_7 : (Cond.fieldLink RX3 7 "BlossomTours$Valley" "from" "I").before ([.ref (ad (8 + v)), .int d] : List Value).toArray s = true := hts _ (by decide +kernel)
  have hi_RX3 : ∀ w ∈ u_ws RX3 TX3 5, w ∈ wsX3_bloomOn := by decide +kernel
  refine lv_aload_n hx hb dX3_bloomOn_0 rfl (lv_at hl 0 rfl) ?_
  refine va_get (D := z_DD G) (ci := 3) (v := .int (σ 0 v)) (C := RX3) (T := TX3) (N := 5) hx hb hts hi_RX3 hown hK hP (8 + v) (z_gV hv) rfl 0 (by decide) hf_RX3_7 (fun _ h9 => h9) rfl dX3_bloomOn_1 ?_
  refine lv_aload_n hx hb dX3_bloomOn_4 rfl (lv_at hl 0 rfl) ?_
  refine va_get (D := z_DD G) (ci := 3) (v := .int (σ 1 v)) (C := RX3) (T := TX3) (N := 5) hx hb hts hi_RX3 hown hK hP (8 + v) (z_gV hv) rfl 1 (by decide) hf_RX3_13 (fun _ h9 => h9) rfl dX3_bloomOn_5 ?_
  refine lv_iadd hx hb dX3_bloomOn_8 ?_
  refine lv_iconst (v := 1) hx hb dX3_bloomOn_9 (by decide) ?_
  refine lv_isub hx hb dX3_bloomOn_10 ?_
  refine lv_istore_n (lv' := [(2, .int (((σ 0 v) + (σ 1 v)) - 1)), (0, .ref (ad (8 + v))), (1, .int d)]) hx hb dX3_bloomOn_11 rfl hl (by decide) rfl (fun ls hl => ?_)
  refine lv_aload_n hx hb dX3_bloomOn_12 rfl (lv_at hl 1 rfl) ?_
  refine va_get (D := z_DD G) (ci := 3) (v := .int (σ 1 v)) (C := RX3) (T := TX3) (N := 5) hx hb hts hi_RX3 hown hK hP (8 + v) (z_gV hv) rfl 1 (by decide) hf_RX3_13 (fun _ h9 => h9) rfl dX3_bloomOn_13 ?_
  refine lv_iconst (v := 1) hx hb dX3_bloomOn_16 (by decide) ?_
  refine lv_iadd hx hb dX3_bloomOn_17 ?_
  refine lv_iconst (v := 2) hx hb dX3_bloomOn_18 (by decide) ?_
  refine lv_idiv hx hb dX3_bloomOn_19 (by decide) ?_
  refine lv_istore_n (lv' := [(3, .int (((σ 1 v) + 1) / 2)), (2, .int (((σ 0 v) + (σ 1 v)) - 1)), (0, .ref (ad (8 + v))), (1, .int d)]) hx hb dX3_bloomOn_20 rfl hl (by decide) rfl (fun ls hl => ?_)
  refine lv_iload_n hx hb dX3_bloomOn_21 rfl (lv_at hl 3 rfl) ?_
  refine lv_aload_n hx hb dX3_bloomOn_22 rfl (lv_at hl 2 rfl) ?_
  refine va_get (D := z_DD G) (ci := 3) (v := .int (σ 0 v)) (C := RX3) (T := TX3) (N := 5) hx hb hts hi_RX3 hown hK hP (8 + v) (z_gV hv) rfl 0 (by decide) hf_RX3_7 (fun _ h9 => h9) rfl dX3_bloomOn_23 ?_
  refine lv_icmp_lt (tgt := 38) hx hb dX3_bloomOn_26 (by decide) (fun c26 => ?_) (fun c26 => ?_)
  · skip
    refine lv_iconst (v := 0) hx hb dX3_bloomOn_38 (by decide) ?_
    refine z_iret hx hb hr hlocks dX3_bloomOn_39 (fun t ht hW => ⟨rfl, ht⟩) (fun _ h9 => nomatch h9) ?_
    simp [z_bl, *]
  · skip
    refine lv_iload_n hx hb dX3_bloomOn_29 rfl (lv_at hl 3 rfl) ?_
    refine lv_iload_n hx hb dX3_bloomOn_30 rfl (lv_at hl 1 rfl) ?_
    refine lv_icmp_gt (tgt := 38) hx hb dX3_bloomOn_31 (by decide) (fun c31 => ?_) (fun c31 => ?_)
    · skip
      refine lv_iconst (v := 0) hx hb dX3_bloomOn_38 (by decide) ?_
      refine z_iret hx hb hr hlocks dX3_bloomOn_39 (fun t ht hW => ⟨rfl, ht⟩) (fun _ h9 => nomatch h9) ?_
      simp [z_bl, *]
    · skip
      refine lv_iload_n hx hb dX3_bloomOn_34 rfl (lv_at hl 0 rfl) ?_
      refine lv_if_gt (tgt := 40) hx hb dX3_bloomOn_35 (by decide) (fun c35 => ?_) (fun c35 => ?_)
      · skip
        refine lv_iload_n hx hb dX3_bloomOn_40 rfl (lv_at hl 3 rfl) ?_
        refine lv_aload_n hx hb dX3_bloomOn_41 rfl (lv_at hl 2 rfl) ?_
        refine va_get (D := z_DD G) (ci := 3) (v := .int (σ 0 v)) (C := RX3) (T := TX3) (N := 5) hx hb hts hi_RX3 hown hK hP (8 + v) (z_gV hv) rfl 0 (by decide) hf_RX3_7 (fun _ h9 => h9) rfl dX3_bloomOn_42 ?_
        refine lv_isub hx hb dX3_bloomOn_45 ?_
        refine lv_iconst (v := 1) hx hb dX3_bloomOn_46 (by decide) ?_
        refine lv_iadd hx hb dX3_bloomOn_47 ?_
        refine lv_iload_n hx hb dX3_bloomOn_48 rfl (lv_at hl 1 rfl) ?_
        refine lv_iload_n hx hb dX3_bloomOn_49 rfl (lv_at hl 3 rfl) ?_
        refine lv_isub hx hb dX3_bloomOn_50 ?_
        refine lv_iconst (v := 1) hx hb dX3_bloomOn_51 (by decide) ?_
        refine lv_iadd hx hb dX3_bloomOn_52 ?_
        refine va_mmin hx hb (hml.trans hl.1.symm) hown (hts (.methodLink RX3 16 Lib.Math.min.name) (by decide +kernel)) (hts (.static Lib.Math.min.name) (by decide +kernel)) (hts (.initialized "java/lang/Math") (by decide +kernel)) (hts (.code Lib.Math.min.name Lib.Math.min.code 2 (some .int)) (by decide +kernel)) (Nat.le_of_ble_eq_true rfl) (Nat.le_of_ble_eq_true rfl) (Nat.le_of_ble_eq_true rfl) (Nat.le_of_ble_eq_true rfl) dX3_bloomOn_53 ?_
        refine lv_istore (lv' := [(4, .int (if ((((σ 0 v) + (σ 1 v)) - 1) - d) + 1 < (d - (σ 0 v)) + 1 then ((((σ 0 v) + (σ 1 v)) - 1) - d) + 1 else (d - (σ 0 v)) + 1)), (3, .int (((σ 1 v) + 1) / 2)), (2, .int (((σ 0 v) + (σ 1 v)) - 1)), (0, .ref (ad (8 + v))), (1, .int d)]) hx hb dX3_bloomOn_56 hl (by decide) rfl (fun ls hl => ?_)
        refine lv_bipush (v := 100) hx hb dX3_bloomOn_58 (by decide) ?_
        refine lv_iload hx hb dX3_bloomOn_60 (lv_at hl 0 rfl) ?_
        refine lv_imul hx hb dX3_bloomOn_62 ?_
        refine lv_iload_n hx hb dX3_bloomOn_63 rfl (lv_at hl 1 rfl) ?_
        refine lv_idiv hx hb dX3_bloomOn_64 (z_nz c35) ?_
        refine z_iret hx hb hr hlocks dX3_bloomOn_65 (fun t ht hW => ⟨rfl, ht⟩) (fun _ h9 => nomatch h9) ?_
        simp [z_bl, *]
      · skip
        refine lv_iconst (v := 0) hx hb dX3_bloomOn_38 (by decide) ?_
        refine z_iret hx hb hr hlocks dX3_bloomOn_39 (fun t ht hW => ⟨rfl, ht⟩) (fun _ h9 => nomatch h9) ?_
        simp [z_bl, *]

set_option maxHeartbeats 4000000 in
set_option maxRecDepth 100000 in
theorem c_X2_isFull (l : Launch) (G : z_GT) (ad : Nat → Nat) (σ : Nat → Nat → Int32) (κ : Nat → Nat → Nat) (t : Nat) (ht : t < 6) : Met l yX2_isFull wsX2_isFull ({ frames := 0, cells := 0, slots := 0, locals := 0 } : Room) (z_Pr G [.ref (ad (16 + t))] (z_wC G ad σ κ)) (z_Qo (some (.int (z_full (κ 1 t))))) 0 0 (fun _ => False) := by
  refine Met.ofW (cc := cX2_isFull) (maxL := 1) (ret := (some .boolean)) (by decide) rfl ?_
  intro p e s m args below meth c s₁ B hml hw0
  obtain ⟨rfl, hX, hP⟩ := hw0
  have hK := hX.1
  have hx := B.exec
  have hb := B.bytes
  have hr := B.returns
  have hts := atoms_spec (ws := wsX2_isFull) B.pre
  have hown : s.vm.findClass RX2 = some m.cls := findClass_of_methodNamed B.named
  have hlocks := B.notSynchronized
  have hl := lv_entry ([.ref (ad (16 + t))]) (n := 1) (Nat.le_of_ble_eq_true rfl)
  rw [lg_entry_eq]
  generalize (lg_sl ([.ref (ad (16 + t))]) ++ List.replicate (1 - (lg_sl ([.ref (ad (16 + t))])).length) Slot.unset).toArray = ls at hl ⊢
  have hl : lv_has ls 1 [(0, .ref (ad (16 + t)))] := hl
  have hf_RX2_15 : (Cond.fieldLink RX2 15 "BlossomTours$Tour" "stopCount" "I").before ([.ref (ad (16 + t))] : List Value).toArray s = true := hts _ (by decide +kernel)
  have hf_RX2_9 : (Cond.fieldLink RX2 9 "BlossomTours$Tour" "stops" "[I").before ([.ref (ad (16 + t))] : List Value).toArray s = true := hts _ (by decide +kernel)
  have hi_RX2 : ∀ w ∈ u_ws RX2 TX2 4, w ∈ wsX2_isFull := by decide +kernel
  refine lv_aload_n hx hb dX2_isFull_0 rfl (lv_at hl 0 rfl) ?_
  refine va_get (D := z_DD G) (ci := 2) (v := .int (nI (κ 1 t))) (C := RX2) (T := TX2) (N := 4) hx hb hts hi_RX2 hown hK hP (16 + t) (z_gT ht) rfl 1 (by decide) hf_RX2_15 (fun _ h9 => h9) rfl dX2_isFull_1 ?_
  refine lv_aload_n hx hb dX2_isFull_4 rfl (lv_at hl 0 rfl) ?_
  refine va_get (D := z_DD G) (ci := 2) (v := .ref (ad (22 + t))) (C := RX2) (T := TX2) (N := 4) hx hb hts hi_RX2 hown hK hP (16 + t) (z_gT ht) rfl 0 (by decide) hf_RX2_9 (fun _ h9 => h9) rfl dX2_isFull_5 ?_
  refine va_alen (v := 5) hx hb hK hP (22 + t) 0 (z_gS ht) rfl rfl dX2_isFull_8 ?_
  refine lv_icmp_lt (tgt := 16) hx hb dX2_isFull_9 (by decide) (fun c9 => ?_) (fun c9 => ?_)
  · skip
    refine lv_iconst (v := 0) hx hb dX2_isFull_16 (by decide) ?_
    refine z_zret hx hb hr hlocks dX2_isFull_17 (fun t ht hW => ⟨rfl, ht⟩) (fun _ h9 => nomatch h9) ?_ ?_
    · first | exact Or.inl rfl | exact Or.inr rfl | (split <;> simp)
    · simp [z_full, *]
  · skip
    refine lv_iconst (v := 1) hx hb dX2_isFull_12 (by decide) ?_
    refine lv_goto (tgt := 17) hx hb dX2_isFull_13 (by decide) ?_
    refine z_zret hx hb hr hlocks dX2_isFull_17 (fun t ht hW => ⟨rfl, ht⟩) (fun _ h9 => nomatch h9) ?_ ?_
    · first | exact Or.inl rfl | exact Or.inr rfl | (split <;> simp)
    · simp [z_full, *]

set_option maxHeartbeats 4000000 in
set_option maxRecDepth 100000 in
theorem c_X2_visits (l : Launch) (G : z_GT) (ad : Nat → Nat) (σ : Nat → Nat → Int32) (κ : Nat → Nat → Nat) (t v : Nat) (ht : t < 6) (hv : v < 8) (hk : κ 1 t ≤ 5) (hs : ∀ j, j < κ 1 t → κ (2 + t) j < 8) : Met l yX2_visits wsX2_visits ({ frames := 0, cells := 0, slots := 0, locals := 0 } : Room) (z_Pr G [.ref (ad (16 + t)), .int (nI v)] (z_wC G ad σ κ)) (z_Qo (some (.int (z_bi (z_vi (κ (2 + t)) v (κ 1 t)))))) 0 0 (fun _ => False) := by
  refine Met.ofW (cc := cX2_visits) (maxL := 3) (ret := (some .boolean)) (by decide) rfl ?_
  intro p e s m args below meth c s₁ B hml hw0
  obtain ⟨rfl, hX, hP⟩ := hw0
  have hK := hX.1
  have hx := B.exec
  have hb := B.bytes
  have hr := B.returns
  have hts := atoms_spec (ws := wsX2_visits) B.pre
  have hown : s.vm.findClass RX2 = some m.cls := findClass_of_methodNamed B.named
  have hlocks := B.notSynchronized
  have hl := lv_entry ([.ref (ad (16 + t)), .int (nI v)]) (n := 3) (Nat.le_of_ble_eq_true rfl)
  rw [lg_entry_eq]
  generalize (lg_sl ([.ref (ad (16 + t)), .int (nI v)]) ++ List.replicate (3 - (lg_sl ([.ref (ad (16 + t)), .int (nI v)])).length) Slot.unset).toArray = ls at hl ⊢
  have hl : lv_has ls 3 [(0, .ref (ad (16 + t))), (1, .int (nI v))] := hl
  have hf_RX2_15 : (Cond.fieldLink RX2 15 "BlossomTours$Tour" "stopCount" "I").before ([.ref (ad (16 + t)), .int (nI v)] : List Value).toArray s = true := hts _ (by decide +kernel)
  have hf_RX2_9 : (Cond.fieldLink RX2 9 "BlossomTours$Tour" "stops" "[I").before ([.ref (ad (16 + t)), .int (nI v)] : List Value).toArray s = true := hts _ (by decide +kernel)
  have hi_RX2 : ∀ w ∈ u_ws RX2 TX2 4, w ∈ wsX2_visits := by decide +kernel
  refine lv_iconst (v := nI 0) hx hb dX2_visits_0 (by decide) ?_
  refine lv_istore_n (lv' := [(2, .int (nI 0)), (0, .ref (ad (16 + t))), (1, .int (nI v))]) hx hb dX2_visits_1 rfl hl (by decide) rfl (fun ls hl => ?_)
  have lp2 : ∀ (fu2 : Nat) (i : Nat), i ≤ κ 1 t → κ 1 t < i + fu2 → z_vi (κ (2 + t)) v i = false → ∀ (ls : Array Slot), lv_has ls 3 [(0, .ref (ad (16 + t))), (1, .int (nI v)), (2, .int (nI i))] → W p l e (headSpec wsX2_visits ({ frames := 0, cells := 0, slots := 0, locals := 0 } : Room)).room s m ([.ref (ad (16 + t)), .int (nI v)] : List Value).toArray below meth c s.heap [] 0 0 (MQ below (z_Qo (some (.int (z_bi (z_vi (κ (2 + t)) v (κ 1 t)))))) ([.ref (ad (16 + t)), .int (nI v)] : List Value).toArray s 0 0 (fun _ => False)) (F0 m 2 ls []) := by
    intro fu2
    induction fu2 with
    | zero =>
      intro i h1 h2 h3
      exfalso; omega
    | succ fu2 ih2 =>
      intro i h1 h2 h3 ls hl
      refine lv_iload_n hx hb dX2_visits_2 rfl (lv_at hl 2 rfl) ?_
      refine lv_aload_n hx hb dX2_visits_3 rfl (lv_at hl 0 rfl) ?_
      refine va_get (D := z_DD G) (ci := 2) (v := .int (nI (κ 1 t))) (C := RX2) (T := TX2) (N := 4) hx hb hts hi_RX2 hown hK hP (16 + t) (z_gT ht) rfl 1 (by decide) hf_RX2_15 (fun _ h9 => h9) rfl dX2_visits_4 ?_
      refine lv_icmp_ge (tgt := 28) hx hb dX2_visits_7 (by decide) (fun c7 => ?_) (fun c7 => ?_)
      · skip
        have hi := z_ge (by omega) (by omega) c7
        have hi : i = κ 1 t := by omega
        subst hi
        refine lv_iconst (v := 0) hx hb dX2_visits_28 (by decide) ?_
        refine z_zret hx hb hr hlocks dX2_visits_29 (fun t ht hW => ⟨rfl, ht⟩) (fun _ h9 => nomatch h9) ?_ ?_
        · first | exact Or.inl rfl | exact Or.inr rfl | (split <;> simp)
        · rw [h3]; rfl
      · skip
        have hi := z_ng (by omega) (by omega) c7
        have hsi := hs i hi
        refine lv_aload_n hx hb dX2_visits_10 rfl (lv_at hl 0 rfl) ?_
        refine va_get (D := z_DD G) (ci := 2) (v := .ref (ad (22 + t))) (C := RX2) (T := TX2) (N := 4) hx hb hts hi_RX2 hown hK hP (16 + t) (z_gT ht) rfl 0 (by decide) hf_RX2_9 (fun _ h9 => h9) rfl dX2_visits_11 ?_
        refine lv_iload_n hx hb dX2_visits_14 rfl (lv_at hl 2 rfl) ?_
        refine z_iald (k := i) (f := fun z9 => nI (κ (2 + t) z9)) hx hb hK hP (22 + t) 0 (z_gS ht) rfl (by omega) (by decide) dX2_visits_15 ?_
        refine lv_iload_n hx hb dX2_visits_16 rfl (lv_at hl 1 rfl) ?_
        refine lv_icmp_ne (tgt := 22) hx hb dX2_visits_17 (by decide) (fun c17 => ?_) (fun c17 => ?_)
        · skip
          refine lv_iinc (v := nI (i + 1)) (lv' := [(2, .int (nI (i + 1))), (0, .ref (ad (16 + t))), (1, .int (nI v))]) hx hb dX2_visits_22 hl (k := 2) rfl (z_inc _) (by decide) rfl (fun ls hl => ?_)
          refine lv_goto (tgt := 2) hx hb dX2_visits_25 (by decide) ?_
          -- back to 2
          exact ih2 (i + 1) (by omega) (by omega) (z_vi_f h3 (fun e => c17 (by rw [e]))) ls (lv_sub hl [1, 2, 0] rfl)
        · skip
          have hiv : κ (2 + t) i = v := (nI_eq (by omega) (by omega)).mp c17
          refine lv_iconst (v := 1) hx hb dX2_visits_20 (by decide) ?_
          refine z_zret hx hb hr hlocks dX2_visits_21 (fun t ht hW => ⟨rfl, ht⟩) (fun _ h9 => nomatch h9) ?_ ?_
          · first | exact Or.inl rfl | exact Or.inr rfl | (split <;> simp)
          · rw [z_vi_t hi hiv]; rfl
  exact lp2 (κ 1 t + 1) 0 (by omega) (by omega) rfl ls (lv_sub hl [1, 2, 0] rfl)

set_option maxHeartbeats 4000000 in
set_option maxRecDepth 100000 in
theorem c_X2_canGo (l : Launch) (G : z_GT) (ad : Nat → Nat) (σ : Nat → Nat → Int32) (κ : Nat → Nat → Nat) (t : Nat) (ht : t < 6) : Met l yX2_canGo wsX2_canGo ({ frames := 1, cells := 0, slots := 0, locals := 22 } : Room) (z_Pr G [.ref (ad (16 + t))] (z_wC G ad σ κ)) (z_Qo (some (.int (z_gc (κ 1 t) (σ 6 t))))) 0 0 (fun _ => False) := by
  refine Met.ofW (cc := cX2_canGo) (maxL := 1) (ret := (some .boolean)) (by decide) rfl ?_
  intro p e s m args below meth c s₁ B hml hw0
  obtain ⟨rfl, hX, hP⟩ := hw0
  have hK := hX.1
  have hx := B.exec
  have hb := B.bytes
  have hr := B.returns
  have hts := atoms_spec (ws := wsX2_canGo) B.pre
  have hown : s.vm.findClass RX2 = some m.cls := findClass_of_methodNamed B.named
  have hlocks := B.notSynchronized
  have hl := lv_entry ([.ref (ad (16 + t))]) (n := 1) (Nat.le_of_ble_eq_true rfl)
  rw [lg_entry_eq]
  generalize (lg_sl ([.ref (ad (16 + t))]) ++ List.replicate (1 - (lg_sl ([.ref (ad (16 + t))])).length) Slot.unset).toArray = ls at hl ⊢
  have hl : lv_has ls 1 [(0, .ref (ad (16 + t)))] := hl
  have hf_RX2_15 : (Cond.fieldLink RX2 15 "BlossomTours$Tour" "stopCount" "I").before ([.ref (ad (16 + t))] : List Value).toArray s = true := hts _ (by decide +kernel)
  have hf_RX2_29 : (Cond.fieldLink RX2 29 "BlossomTours$Tour" "minutes" "I").before ([.ref (ad (16 + t))] : List Value).toArray s = true := hts _ (by decide +kernel)
  have hi_RX2 : ∀ w ∈ u_ws RX2 TX2 4, w ∈ wsX2_canGo := by decide +kernel
  refine lv_aload_n hx hb dX2_canGo_0 rfl (lv_at hl 0 rfl) ?_
  refine va_get (D := z_DD G) (ci := 2) (v := .int (nI (κ 1 t))) (C := RX2) (T := TX2) (N := 4) hx hb hts hi_RX2 hown hK hP (16 + t) (z_gT ht) rfl 1 (by decide) hf_RX2_15 (fun _ h9 => h9) rfl dX2_canGo_1 ?_
  refine lv_if_le (tgt := 25) hx hb dX2_canGo_4 (by decide) (fun c4 => ?_) (fun c4 => ?_)
  · skip
    refine lv_iconst (v := 0) hx hb dX2_canGo_25 (by decide) ?_
    refine z_zret hx hb hr hlocks dX2_canGo_26 (fun t ht hW => ⟨rfl, ht⟩) (fun _ h9 => nomatch h9) ?_ ?_
    · first | exact Or.inl rfl | exact Or.inr rfl | (split <;> simp)
    · simp [z_gc, *]
  · skip
    refine lv_aload_n hx hb dX2_canGo_7 rfl (lv_at hl 0 rfl) ?_
    refine va_get (D := z_DD G) (ci := 2) (v := .int (σ 6 t)) (C := RX2) (T := TX2) (N := 4) hx hb hts hi_RX2 hown hK hP (16 + t) (z_gT ht) rfl 3 (by decide) hf_RX2_29 (fun _ h9 => h9) rfl dX2_canGo_8 ?_
    refine lv_iconst (v := 0) hx hb dX2_canGo_11 (by decide) ?_
    refine lv_sipush (v := 480) hx hb dX2_canGo_12 (by decide) ?_
    refine z_call (va_runSN (As := [.int (σ 6 t), .int 0, .int 480]) (rest := []) ⟨hx, hb, hml, hown, hts⟩ (c_X4_isWithin l G (σ 6 t) 0 480) ⟨va_cnB 3 hts gX2_canGo_X4_isWithin_n32 rfl rfl rfl (z_nmw hX.2 6 rfl) (hts (.initialized RX4) (by decide +kernel)) (by decide +kernel) ⟨Nat.le_of_ble_eq_true rfl, Nat.le_of_ble_eq_true rfl⟩, hts (.static yX4_isWithin) (by decide +kernel), trivial⟩ (z_prS hX z_P0) rfl rfl hl.1 rfl (lv_room (Nat.le_of_ble_eq_true rfl)) dX2_canGo_15 ⟨Nat.le_of_ble_eq_true rfl, Nat.le_of_ble_eq_true rfl⟩) (fun _ h9 => h9) ?_
    refine W.eq (g2 := F0 m 18 ls [.int (z_wi (σ 6 t) 0 480)]) rfl ?_
    refine lv_if_eq (tgt := 25) hx hb dX2_canGo_18 (by decide) (fun c18 => ?_) (fun c18 => ?_)
    · skip
      refine lv_iconst (v := 0) hx hb dX2_canGo_25 (by decide) ?_
      refine z_zret hx hb hr hlocks dX2_canGo_26 (fun t ht hW => ⟨rfl, ht⟩) (fun _ h9 => nomatch h9) ?_ ?_
      · first | exact Or.inl rfl | exact Or.inr rfl | (split <;> simp)
      · simp [z_gc, *]
    · skip
      refine lv_iconst (v := 1) hx hb dX2_canGo_21 (by decide) ?_
      refine lv_goto (tgt := 26) hx hb dX2_canGo_22 (by decide) ?_
      refine z_zret hx hb hr hlocks dX2_canGo_26 (fun t ht hW => ⟨rfl, ht⟩) (fun _ h9 => nomatch h9) ?_ ?_
      · first | exact Or.inl rfl | exact Or.inr rfl | (split <;> simp)
      · simp [z_gc, *]

set_option maxHeartbeats 4000000 in
set_option maxRecDepth 100000 in
theorem c_X1_minutesBetween (l : Launch) (G : z_GT) (ad : Nat → Nat) (σ : Nat → Nat → Int32) (κ : Nat → Nat → Nat) (a b : Nat) (ha : a < 8) (hb8 : b < 8) : Met l yX1_minutesBetween wsX1_minutesBetween ({ frames := 2, cells := 0, slots := 0, locals := 42 } : Room) (z_Pr G [.ref (ad 4), .int (nI a), .int (nI b)] (z_wC G ad σ κ)) (z_Qo (some (.int (z_mb (σ (10 + a) b))))) 0 0 (fun _ => False) := by
  refine Met.ofW (cc := cX1_minutesBetween) (maxL := 3) (ret := (some .int)) (by decide) rfl ?_
  intro p e s m args below meth c s₁ B hml hw0
  obtain ⟨rfl, hX, hP⟩ := hw0
  have hK := hX.1
  have hx := B.exec
  have hb := B.bytes
  have hr := B.returns
  have hts := atoms_spec (ws := wsX1_minutesBetween) B.pre
  have hown : s.vm.findClass RX1 = some m.cls := findClass_of_methodNamed B.named
  have hlocks := B.notSynchronized
  have hl := lv_entry ([.ref (ad 4), .int (nI a), .int (nI b)]) (n := 3) (Nat.le_of_ble_eq_true rfl)
  rw [lg_entry_eq]
  generalize (lg_sl ([.ref (ad 4), .int (nI a), .int (nI b)]) ++ List.replicate (3 - (lg_sl ([.ref (ad 4), .int (nI a), .int (nI b)])).length) Slot.unset).toArray = ls at hl ⊢
  have hl : lv_has ls 3 [(0, .ref (ad 4)), (1, .int (nI a)), (2, .int (nI b))] := hl
  have hf_RX1_11 : (Cond.fieldLink RX1 11 "BlossomTours$Roads" "ways" "[[I").before ([.ref (ad 4), .int (nI a), .int (nI b)] : List Value).toArray s = true := hts _ (by decide +kernel)
  have hi_RX1 : ∀ w ∈ u_ws RX1 TX1 2, w ∈ wsX1_minutesBetween := by decide +kernel
  refine lv_iload_n hx hb dX1_minutesBetween_0 rfl (lv_at hl 1 rfl) ?_
  refine z_call (va_runS (As := [.int (nI a)]) (rest := []) ⟨hx, hb, hml, hown, hts⟩ (c_X1_isPlace l G (nI a)) (va_cwS 1 hts gX1_minutesBetween_X1_isPlace rfl rfl rfl (by decide +kernel) ⟨Nat.le_of_ble_eq_true rfl, Nat.le_of_ble_eq_true rfl⟩) (z_prS hX z_P0) rfl rfl hl.1 rfl (lv_room (Nat.le_of_ble_eq_true rfl)) dX1_minutesBetween_1 ⟨Nat.le_of_ble_eq_true rfl, Nat.le_of_ble_eq_true rfl⟩) (fun _ h9 => h9) ?_
  refine W.eq (g2 := F0 m 4 ls [.int (z_wi (nI a) 0 7)]) rfl ?_
  refine lv_if_eq (tgt := 27) hx hb dX1_minutesBetween_4 (by decide) (fun c4 => ?_) (fun c4 => ?_)
  · skip
    exact absurd (c4.symm.trans (z_pl ha)) (by decide)
  · skip
    refine lv_iload_n hx hb dX1_minutesBetween_7 rfl (lv_at hl 2 rfl) ?_
    refine z_call (va_runS (As := [.int (nI b)]) (rest := []) ⟨hx, hb, hml, hown, hts⟩ (c_X1_isPlace l G (nI b)) (va_cwS 1 hts gX1_minutesBetween_X1_isPlace rfl rfl rfl (by decide +kernel) ⟨Nat.le_of_ble_eq_true rfl, Nat.le_of_ble_eq_true rfl⟩) (z_prS hX z_P0) rfl rfl hl.1 rfl (lv_room (Nat.le_of_ble_eq_true rfl)) dX1_minutesBetween_8 ⟨Nat.le_of_ble_eq_true rfl, Nat.le_of_ble_eq_true rfl⟩) (fun _ h9 => h9) ?_
    refine W.eq (g2 := F0 m 11 ls [.int (z_wi (nI b) 0 7)]) rfl ?_
    refine lv_if_eq (tgt := 27) hx hb dX1_minutesBetween_11 (by decide) (fun c11 => ?_) (fun c11 => ?_)
    · skip
      exact absurd (c11.symm.trans (z_pl hb8)) (by decide)
    · skip
      refine lv_aload_n hx hb dX1_minutesBetween_14 rfl (lv_at hl 0 rfl) ?_
      refine va_get (D := z_DD G) (ci := 1) (v := .ref (ad 5)) (C := RX1) (T := TX1) (N := 2) hx hb hts hi_RX1 hown hK hP 4 z_g4 rfl 0 (by decide) hf_RX1_11 (fun _ h9 => h9) rfl dX1_minutesBetween_15 ?_
      refine lv_iload_n hx hb dX1_minutesBetween_18 rfl (lv_at hl 1 rfl) ?_
      refine z_aalA (k := a) (g := fun j => ad (28 + j)) hx hb hK hP 5 3 z_g5 rfl ha (by decide) dX1_minutesBetween_19 ?_
      refine lv_iload_n hx hb dX1_minutesBetween_20 rfl (lv_at hl 2 rfl) ?_
      refine z_iald (k := b) (f := fun z9 => σ (10 + a) z9) hx hb hK hP (28 + a) 0 (z_gR ha) rfl hb8 (by decide) dX1_minutesBetween_21 ?_
      refine lv_ldc (v := 1000000) hx hb hown (hts (.constant RX1 16 (1000000)) (by decide +kernel)) dX1_minutesBetween_22 ?_
      refine lv_icmp_lt (tgt := 29) hx hb dX1_minutesBetween_24 (by decide) (fun c24 => ?_) (fun c24 => ?_)
      · skip
        refine lv_aload_n hx hb dX1_minutesBetween_29 rfl (lv_at hl 0 rfl) ?_
        refine va_get (D := z_DD G) (ci := 1) (v := .ref (ad 5)) (C := RX1) (T := TX1) (N := 2) hx hb hts hi_RX1 hown hK hP 4 z_g4 rfl 0 (by decide) hf_RX1_11 (fun _ h9 => h9) rfl dX1_minutesBetween_30 ?_
        refine lv_iload_n hx hb dX1_minutesBetween_33 rfl (lv_at hl 1 rfl) ?_
        refine z_aalA (k := a) (g := fun j => ad (28 + j)) hx hb hK hP 5 3 z_g5 rfl ha (by decide) dX1_minutesBetween_34 ?_
        refine lv_iload_n hx hb dX1_minutesBetween_35 rfl (lv_at hl 2 rfl) ?_
        refine z_iald (k := b) (f := fun z9 => σ (10 + a) z9) hx hb hK hP (28 + a) 0 (z_gR ha) rfl hb8 (by decide) dX1_minutesBetween_36 ?_
        refine z_iret hx hb hr hlocks dX1_minutesBetween_37 (fun t ht hW => ⟨rfl, ht⟩) (fun _ h9 => nomatch h9) ?_
        simp [z_mb, *]
      · skip
        refine lv_iconst (v := (-1)) hx hb dX1_minutesBetween_27 (by decide) ?_
        refine z_iret hx hb hr hlocks dX1_minutesBetween_28 (fun t ht hW => ⟨rfl, ht⟩) (fun _ h9 => nomatch h9) ?_
        simp [z_mb, *]
