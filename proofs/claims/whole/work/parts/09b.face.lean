/-! Part 09b: the face, where it throws. -/
set_option maxHeartbeats 4000000 in
set_option maxRecDepth 100000 in
theorem x_X4_checkValley (l : Launch) (hst : l.stackTraces = false) (G : z_GT) (ad : Nat → Nat) (σ : Nat → Nat → Int32) (κ : Nat → Nat → Nat) (v : Int32) (h : v < 0 ∨ ¬ v < nI (κ 0 0)) : vx_Met l yX4_checkValley wsX4_checkValley ({ frames := 6, cells := 1, slots := 6, locals := 82 } : Room) (z_Pt G [.ref (ad 0), .int v] (z_wC G ad σ κ) (z_A 36 ad)) z_No (z_Xq G "java/lang/IndexOutOfBoundsException" (z_wC G ad σ κ) (z_A 36 ad)) 1 6 (z_A 36 ad) := by
  refine vx_ofW (cc := cX4_checkValley) (maxL := 2) (ret := none) (by decide) rfl ?_
  intro p e s m args below meth c s₁ B hml hout hw0
  obtain ⟨rfl, hX, hP, hT⟩ := hw0
  have hK := hX.1
  have hx := B.exec
  have hb := B.bytes
  have hr := B.returns
  have hts := atoms_spec (ws := wsX4_checkValley) B.pre
  have hown : s.vm.findClass RX4 = some m.cls := findClass_of_methodNamed B.named
  have hlocks := B.notSynchronized
  have hl := lv_entry ([.ref (ad 0), .int v]) (n := 2) (Nat.le_of_ble_eq_true rfl)
  rw [lg_entry_eq]
  generalize (lg_sl ([.ref (ad 0), .int v]) ++ List.replicate (2 - (lg_sl ([.ref (ad 0), .int v])).length) Slot.unset).toArray = ls at hl ⊢
  have hl : lv_has ls 2 [(0, .ref (ad 0)), (1, .int v)] := hl
  have ha_101 : ∀ w ∈ (vx_atS RX4 101 "java/lang/IndexOutOfBoundsException" z_up2).filter goodWord, w ∈ wsX4_checkValley := by decide +kernel
  have hf_RX4_59 : (Cond.fieldLink RX4 59 "BlossomTours" "valleyCount" "I").before ([.ref (ad 0), .int v] : List Value).toArray s = true := hts _ (by decide +kernel)
  have hi_RX4 : ∀ w ∈ u_ws RX4 TX4 9, w ∈ wsX4_checkValley := by decide +kernel
  have hS : va_S (z_A 36 ad) s.heap s.heap [] := va_S.rf
  refine lv_iload_n hx hb dX4_checkValley_0 rfl (lv_at hl 1 rfl) ?_
  refine lv_if_lt (tgt := 12) hx hb dX4_checkValley_1 (by decide) (fun c1 => ?_) (fun c1 => ?_)
  · skip
    exact z_throw (cls := "java/lang/IndexOutOfBoundsException") (text := "no such valley") (ik := 97) (is := 236) (ic := 101) hx hb hst hown (by decide +kernel) (hts (.classLink RX4 97 "java/lang/IndexOutOfBoundsException") (by decide +kernel)) (hts (.initialized "java/lang/IndexOutOfBoundsException") (by decide +kernel)) (List.mem_of_getElem? (i := 1) rfl) (fun w h9 => hts w (ha_101 w h9)) (by decide +kernel) (by decide +kernel) (by decide +kernel) hT hS hP (hl.1.trans hml.symm) dX4_checkValley_12 dX4_checkValley_15 dX4_checkValley_16 dX4_checkValley_18 dX4_checkValley_21 hout (Nat.le_of_ble_eq_true rfl) (Nat.le_of_ble_eq_true rfl) (Nat.le_of_ble_eq_true rfl) (Nat.le_of_ble_eq_true rfl) hlocks
  · skip
    refine lv_iload_n hx hb dX4_checkValley_4 rfl (lv_at hl 1 rfl) ?_
    refine lv_aload_n hx hb dX4_checkValley_5 rfl (lv_at hl 0 rfl) ?_
    refine va_get (D := z_DD G) (ci := 4) (v := .int (nI (κ 0 0))) (C := RX4) (T := TX4) (N := 9) hx hb hts hi_RX4 hown hK hP 0 z_g0 rfl 6 (by decide) hf_RX4_59 (fun _ h9 => h9) rfl dX4_checkValley_6 ?_
    refine lv_icmp_lt (tgt := 22) hx hb dX4_checkValley_9 (by decide) (fun c9 => ?_) (fun c9 => ?_)
    · skip
      exact absurd (h.resolve_left c1) (fun q => q c9)
    · skip
      exact z_throw (cls := "java/lang/IndexOutOfBoundsException") (text := "no such valley") (ik := 97) (is := 236) (ic := 101) hx hb hst hown (by decide +kernel) (hts (.classLink RX4 97 "java/lang/IndexOutOfBoundsException") (by decide +kernel)) (hts (.initialized "java/lang/IndexOutOfBoundsException") (by decide +kernel)) (List.mem_of_getElem? (i := 1) rfl) (fun w h9 => hts w (ha_101 w h9)) (by decide +kernel) (by decide +kernel) (by decide +kernel) hT hS hP (hl.1.trans hml.symm) dX4_checkValley_12 dX4_checkValley_15 dX4_checkValley_16 dX4_checkValley_18 dX4_checkValley_21 hout (Nat.le_of_ble_eq_true rfl) (Nat.le_of_ble_eq_true rfl) (Nat.le_of_ble_eq_true rfl) (Nat.le_of_ble_eq_true rfl) hlocks

set_option maxHeartbeats 4000000 in
set_option maxRecDepth 100000 in
theorem x_X4_checkTour (l : Launch) (hst : l.stackTraces = false) (G : z_GT) (ad : Nat → Nat) (σ : Nat → Nat → Int32) (κ : Nat → Nat → Nat) (v : Int32) (h : v < 0 ∨ ¬ v < nI (κ 0 1)) : vx_Met l yX4_checkTour wsX4_checkTour ({ frames := 6, cells := 1, slots := 6, locals := 82 } : Room) (z_Pt G [.ref (ad 0), .int v] (z_wC G ad σ κ) (z_A 36 ad)) z_No (z_Xq G "java/lang/IndexOutOfBoundsException" (z_wC G ad σ κ) (z_A 36 ad)) 1 6 (z_A 36 ad) := by
  refine vx_ofW (cc := cX4_checkTour) (maxL := 2) (ret := none) (by decide) rfl ?_
  intro p e s m args below meth c s₁ B hml hout hw0
  obtain ⟨rfl, hX, hP, hT⟩ := hw0
  have hK := hX.1
  have hx := B.exec
  have hb := B.bytes
  have hr := B.returns
  have hts := atoms_spec (ws := wsX4_checkTour) B.pre
  have hown : s.vm.findClass RX4 = some m.cls := findClass_of_methodNamed B.named
  have hlocks := B.notSynchronized
  have hl := lv_entry ([.ref (ad 0), .int v]) (n := 2) (Nat.le_of_ble_eq_true rfl)
  rw [lg_entry_eq]
  generalize (lg_sl ([.ref (ad 0), .int v]) ++ List.replicate (2 - (lg_sl ([.ref (ad 0), .int v])).length) Slot.unset).toArray = ls at hl ⊢
  have hl : lv_has ls 2 [(0, .ref (ad 0)), (1, .int v)] := hl
  have ha_101 : ∀ w ∈ (vx_atS RX4 101 "java/lang/IndexOutOfBoundsException" z_up2).filter goodWord, w ∈ wsX4_checkTour := by decide +kernel
  have hf_RX4_117 : (Cond.fieldLink RX4 117 "BlossomTours" "tourCount" "I").before ([.ref (ad 0), .int v] : List Value).toArray s = true := hts _ (by decide +kernel)
  have hi_RX4 : ∀ w ∈ u_ws RX4 TX4 9, w ∈ wsX4_checkTour := by decide +kernel
  have hS : va_S (z_A 36 ad) s.heap s.heap [] := va_S.rf
  refine lv_iload_n hx hb dX4_checkTour_0 rfl (lv_at hl 1 rfl) ?_
  refine lv_if_lt (tgt := 12) hx hb dX4_checkTour_1 (by decide) (fun c1 => ?_) (fun c1 => ?_)
  · skip
    exact z_throw (cls := "java/lang/IndexOutOfBoundsException") (text := "no such tour") (ik := 97) (is := 238) (ic := 101) hx hb hst hown (by decide +kernel) (hts (.classLink RX4 97 "java/lang/IndexOutOfBoundsException") (by decide +kernel)) (hts (.initialized "java/lang/IndexOutOfBoundsException") (by decide +kernel)) (List.mem_of_getElem? (i := 3) rfl) (fun w h9 => hts w (ha_101 w h9)) (by decide +kernel) (by decide +kernel) (by decide +kernel) hT hS hP (hl.1.trans hml.symm) dX4_checkTour_12 dX4_checkTour_15 dX4_checkTour_16 dX4_checkTour_18 dX4_checkTour_21 hout (Nat.le_of_ble_eq_true rfl) (Nat.le_of_ble_eq_true rfl) (Nat.le_of_ble_eq_true rfl) (Nat.le_of_ble_eq_true rfl) hlocks
  · skip
    refine lv_iload_n hx hb dX4_checkTour_4 rfl (lv_at hl 1 rfl) ?_
    refine lv_aload_n hx hb dX4_checkTour_5 rfl (lv_at hl 0 rfl) ?_
    refine va_get (D := z_DD G) (ci := 4) (v := .int (nI (κ 0 1))) (C := RX4) (T := TX4) (N := 9) hx hb hts hi_RX4 hown hK hP 0 z_g0 rfl 7 (by decide) hf_RX4_117 (fun _ h9 => h9) rfl dX4_checkTour_6 ?_
    refine lv_icmp_lt (tgt := 22) hx hb dX4_checkTour_9 (by decide) (fun c9 => ?_) (fun c9 => ?_)
    · skip
      exact absurd (h.resolve_left c1) (fun q => q c9)
    · skip
      exact z_throw (cls := "java/lang/IndexOutOfBoundsException") (text := "no such tour") (ik := 97) (is := 238) (ic := 101) hx hb hst hown (by decide +kernel) (hts (.classLink RX4 97 "java/lang/IndexOutOfBoundsException") (by decide +kernel)) (hts (.initialized "java/lang/IndexOutOfBoundsException") (by decide +kernel)) (List.mem_of_getElem? (i := 3) rfl) (fun w h9 => hts w (ha_101 w h9)) (by decide +kernel) (by decide +kernel) (by decide +kernel) hT hS hP (hl.1.trans hml.symm) dX4_checkTour_12 dX4_checkTour_15 dX4_checkTour_16 dX4_checkTour_18 dX4_checkTour_21 hout (Nat.le_of_ble_eq_true rfl) (Nat.le_of_ble_eq_true rfl) (Nat.le_of_ble_eq_true rfl) (Nat.le_of_ble_eq_true rfl) hlocks

set_option maxHeartbeats 4000000 in
set_option maxRecDepth 100000 in
theorem x_X4_checkDay (l : Launch) (hst : l.stackTraces = false) (G : z_GT) (ws : va_W) (A : Nat → Prop) (d : Int32) (h : d < 0) : vx_Met l yX4_checkDay wsX4_checkDay ({ frames := 6, cells := 1, slots := 6, locals := 82 } : Room) (z_Pt G [.int d] ws A) z_No (z_Xq G "java/lang/IllegalArgumentException" ws A) 1 6 A := by
  refine vx_ofW (cc := cX4_checkDay) (maxL := 1) (ret := none) (by decide) rfl ?_
  intro p e s m args below meth c s₁ B hml hout hw0
  obtain ⟨rfl, hX, hP, hT⟩ := hw0
  have hK := hX.1
  have hx := B.exec
  have hb := B.bytes
  have hr := B.returns
  have hts := atoms_spec (ws := wsX4_checkDay) B.pre
  have hown : s.vm.findClass RX4 = some m.cls := findClass_of_methodNamed B.named
  have hlocks := B.notSynchronized
  have hl := lv_entry ([.int d]) (n := 1) (Nat.le_of_ble_eq_true rfl)
  rw [lg_entry_eq]
  generalize (lg_sl ([.int d]) ++ List.replicate (1 - (lg_sl ([.int d])).length) Slot.unset).toArray = ls at hl ⊢
  have hl : lv_has ls 1 [(0, .int d)] := hl
  have ha_52 : ∀ w ∈ (vx_atS RX4 52 "java/lang/IllegalArgumentException" z_up2).filter goodWord, w ∈ wsX4_checkDay := by decide +kernel
  have hS : va_S A s.heap s.heap [] := va_S.rf
  refine lv_iload_n hx hb dX4_checkDay_0 rfl (lv_at hl 0 rfl) ?_
  refine lv_if_ge (tgt := 14) hx hb dX4_checkDay_1 (by decide) (fun c1 => ?_) (fun c1 => ?_)
  · skip
    exact absurd h (Int32.not_lt.mpr c1)
  · skip
    exact z_throw (cls := "java/lang/IllegalArgumentException") (text := "day is less than 0") (ik := 48) (is := 240) (ic := 52) hx hb hst hown (by decide +kernel) (hts (.classLink RX4 48 "java/lang/IllegalArgumentException") (by decide +kernel)) (hts (.initialized "java/lang/IllegalArgumentException") (by decide +kernel)) (List.mem_of_getElem? (i := 13) rfl) (fun w h9 => hts w (ha_52 w h9)) (by decide +kernel) (by decide +kernel) (by decide +kernel) hT hS hP (hl.1.trans hml.symm) dX4_checkDay_4 dX4_checkDay_7 dX4_checkDay_8 dX4_checkDay_10 dX4_checkDay_13 hout (Nat.le_of_ble_eq_true rfl) (Nat.le_of_ble_eq_true rfl) (Nat.le_of_ble_eq_true rfl) (Nat.le_of_ble_eq_true rfl) hlocks

set_option maxHeartbeats 4000000 in
set_option maxRecDepth 100000 in
theorem x_X4_checkSpan (l : Launch) (hst : l.stackTraces = false) (G : z_GT) (ws : va_W) (A : Nat → Prop) (d : Int32) (h : z_wi d 1 60 = 0) : vx_Met l yX4_checkSpan wsX4_checkSpan ({ frames := 6, cells := 1, slots := 6, locals := 82 } : Room) (z_Pt G [.int d] ws A) z_No (z_Xq G "java/lang/IllegalArgumentException" ws A) 1 6 A := by
  refine vx_ofW (cc := cX4_checkSpan) (maxL := 1) (ret := none) (by decide) rfl ?_
  intro p e s m args below meth c s₁ B hml hout hw0
  obtain ⟨rfl, hX, hP, hT⟩ := hw0
  have hK := hX.1
  have hx := B.exec
  have hb := B.bytes
  have hr := B.returns
  have hts := atoms_spec (ws := wsX4_checkSpan) B.pre
  have hown : s.vm.findClass RX4 = some m.cls := findClass_of_methodNamed B.named
  have hlocks := B.notSynchronized
  have hl := lv_entry ([.int d]) (n := 1) (Nat.le_of_ble_eq_true rfl)
  rw [lg_entry_eq]
  generalize (lg_sl ([.int d]) ++ List.replicate (1 - (lg_sl ([.int d])).length) Slot.unset).toArray = ls at hl ⊢
  have hl : lv_has ls 1 [(0, .int d)] := hl
  have ha_52 : ∀ w ∈ (vx_atS RX4 52 "java/lang/IllegalArgumentException" z_up2).filter goodWord, w ∈ wsX4_checkSpan := by decide +kernel
  have hS : va_S A s.heap s.heap [] := va_S.rf
  refine lv_iload_n hx hb dX4_checkSpan_0 rfl (lv_at hl 0 rfl) ?_
  refine lv_iconst (v := 1) hx hb dX4_checkSpan_1 (by decide) ?_
  refine lv_bipush (v := 60) hx hb dX4_checkSpan_2 (by decide) ?_
  refine z_call (va_runS (As := [.int d, .int 1, .int 60]) (rest := []) ⟨hx, hb, hml, hown, hts⟩ (c_X4_isWithin l G d 1 60) (va_cwS 3 hts gX4_checkSpan_X4_isWithin rfl rfl rfl (by decide +kernel) ⟨Nat.le_of_ble_eq_true rfl, Nat.le_of_ble_eq_true rfl⟩) (z_prS hX z_P0) rfl rfl hl.1 rfl (lv_room (Nat.le_of_ble_eq_true rfl)) dX4_checkSpan_4 ⟨Nat.le_of_ble_eq_true rfl, Nat.le_of_ble_eq_true rfl⟩) (fun _ h9 => h9) ?_
  refine W.eq (g2 := F0 m 7 ls [.int (z_wi d 1 60)]) rfl ?_
  refine lv_if_ne (tgt := 20) hx hb dX4_checkSpan_7 (by decide) (fun c7 => ?_) (fun c7 => ?_)
  · skip
    exact absurd h c7
  · skip
    exact z_throw (cls := "java/lang/IllegalArgumentException") (text := "days is not 1 to 60") (ik := 48) (is := 242) (ic := 52) hx hb hst hown (by decide +kernel) (hts (.classLink RX4 48 "java/lang/IllegalArgumentException") (by decide +kernel)) (hts (.initialized "java/lang/IllegalArgumentException") (by decide +kernel)) (List.mem_of_getElem? (i := 19) rfl) (fun w h9 => hts w (ha_52 w h9)) (by decide +kernel) (by decide +kernel) (by decide +kernel) hT hS hP (hl.1.trans hml.symm) dX4_checkSpan_10 dX4_checkSpan_13 dX4_checkSpan_14 dX4_checkSpan_16 dX4_checkSpan_19 hout (Nat.le_of_ble_eq_true rfl) (Nat.le_of_ble_eq_true rfl) (Nat.le_of_ble_eq_true rfl) (Nat.le_of_ble_eq_true rfl) hlocks

set_option maxHeartbeats 4000000 in
set_option maxRecDepth 100000 in
theorem x_X4_valley_A (l : Launch) (hst : l.stackTraces = false) (G : z_GT) (ad : Nat → Nat) (σ : Nat → Nat → Int32) (κ : Nat → Nat → Nat) (x n y : Int32) (h : z_wi x 0 90 = 0 ∨ z_wi n 1 30 = 0 ∨ z_wi y 0 50 = 0) : vx_Met l yX4_valley wsX4_valley ({ frames := 6, cells := 1, slots := 6, locals := 82 } : Room) (z_Pt G [.ref (ad 0), .int x, .int n, .int y] (z_wC G ad σ κ) (z_A 36 ad)) z_No (z_Xq G "java/lang/IllegalArgumentException" (z_wC G ad σ κ) (z_A 36 ad)) 1 6 (z_A 36 ad) := by
  refine vx_ofW (cc := cX4_valley) (maxL := 5) (ret := (some .int)) (by decide) rfl ?_
  intro p e s m args below meth c s₁ B hml hout hw0
  obtain ⟨rfl, hX, hP, hT⟩ := hw0
  have hK := hX.1
  have hx := B.exec
  have hb := B.bytes
  have hr := B.returns
  have hts := atoms_spec (ws := wsX4_valley) B.pre
  have hown : s.vm.findClass RX4 = some m.cls := findClass_of_methodNamed B.named
  have hlocks := B.notSynchronized
  have hl := lv_entry ([.ref (ad 0), .int x, .int n, .int y]) (n := 5) (Nat.le_of_ble_eq_true rfl)
  rw [lg_entry_eq]
  generalize (lg_sl ([.ref (ad 0), .int x, .int n, .int y]) ++ List.replicate (5 - (lg_sl ([.ref (ad 0), .int x, .int n, .int y])).length) Slot.unset).toArray = ls at hl ⊢
  have hl : lv_has ls 5 [(0, .ref (ad 0)), (1, .int x), (2, .int n), (3, .int y)] := hl
  have ha_52 : ∀ w ∈ (vx_atS RX4 52 "java/lang/IllegalArgumentException" z_up2).filter goodWord, w ∈ wsX4_valley := by decide +kernel
  have hS : va_S (z_A 36 ad) s.heap s.heap [] := va_S.rf
  refine lv_iload_n hx hb dX4_valley_0 rfl (lv_at hl 1 rfl) ?_
  refine lv_iconst (v := 0) hx hb dX4_valley_1 (by decide) ?_
  refine lv_bipush (v := 90) hx hb dX4_valley_2 (by decide) ?_
  refine z_call (va_runS (As := [.int x, .int 0, .int 90]) (rest := []) ⟨hx, hb, hml, hown, hts⟩ (c_X4_isWithin l G x 0 90) (va_cwS 3 hts gX4_valley_X4_isWithin rfl rfl rfl (by decide +kernel) ⟨Nat.le_of_ble_eq_true rfl, Nat.le_of_ble_eq_true rfl⟩) (z_prS hX z_P0) rfl rfl hl.1 rfl (lv_room (Nat.le_of_ble_eq_true rfl)) dX4_valley_4 ⟨Nat.le_of_ble_eq_true rfl, Nat.le_of_ble_eq_true rfl⟩) (fun _ h9 => h9) ?_
  refine W.eq (g2 := F0 m 7 ls [.int (z_wi x 0 90)]) rfl ?_
  refine lv_if_ne (tgt := 20) hx hb dX4_valley_7 (by decide) (fun c7 => ?_) (fun c7 => ?_)
  · skip
    refine lv_iload_n hx hb dX4_valley_20 rfl (lv_at hl 2 rfl) ?_
    refine lv_iconst (v := 1) hx hb dX4_valley_21 (by decide) ?_
    refine lv_bipush (v := 30) hx hb dX4_valley_22 (by decide) ?_
    refine z_call (va_runS (As := [.int n, .int 1, .int 30]) (rest := []) ⟨hx, hb, hml, hown, hts⟩ (c_X4_isWithin l G n 1 30) (va_cwS 3 hts gX4_valley_X4_isWithin rfl rfl rfl (by decide +kernel) ⟨Nat.le_of_ble_eq_true rfl, Nat.le_of_ble_eq_true rfl⟩) (z_prS hX z_P0) rfl rfl hl.1 rfl (lv_room (Nat.le_of_ble_eq_true rfl)) dX4_valley_24 ⟨Nat.le_of_ble_eq_true rfl, Nat.le_of_ble_eq_true rfl⟩) (fun _ h9 => h9) ?_
    refine W.eq (g2 := F0 m 27 ls [.int (z_wi n 1 30)]) rfl ?_
    refine lv_if_ne (tgt := 40) hx hb dX4_valley_27 (by decide) (fun c27 => ?_) (fun c27 => ?_)
    · skip
      refine lv_iload_n hx hb dX4_valley_40 rfl (lv_at hl 3 rfl) ?_
      refine lv_iconst (v := 0) hx hb dX4_valley_41 (by decide) ?_
      refine lv_bipush (v := 50) hx hb dX4_valley_42 (by decide) ?_
      refine z_call (va_runS (As := [.int y, .int 0, .int 50]) (rest := []) ⟨hx, hb, hml, hown, hts⟩ (c_X4_isWithin l G y 0 50) (va_cwS 3 hts gX4_valley_X4_isWithin rfl rfl rfl (by decide +kernel) ⟨Nat.le_of_ble_eq_true rfl, Nat.le_of_ble_eq_true rfl⟩) (z_prS hX z_P0) rfl rfl hl.1 rfl (lv_room (Nat.le_of_ble_eq_true rfl)) dX4_valley_44 ⟨Nat.le_of_ble_eq_true rfl, Nat.le_of_ble_eq_true rfl⟩) (fun _ h9 => h9) ?_
      refine W.eq (g2 := F0 m 47 ls [.int (z_wi y 0 50)]) rfl ?_
      refine lv_if_ne (tgt := 60) hx hb dX4_valley_47 (by decide) (fun c47 => ?_) (fun c47 => ?_)
      · skip
        exact absurd (h.resolve_left c7) (fun q => q.elim c27 c47)
      · skip
        exact z_throw (cls := "java/lang/IllegalArgumentException") (text := "bees is not 0 to 50") (ik := 48) (is := 57) (ic := 52) hx hb hst hown (by decide +kernel) (hts (.classLink RX4 48 "java/lang/IllegalArgumentException") (by decide +kernel)) (hts (.initialized "java/lang/IllegalArgumentException") (by decide +kernel)) (List.mem_of_getElem? (i := 6) rfl) (fun w h9 => hts w (ha_52 w h9)) (by decide +kernel) (by decide +kernel) (by decide +kernel) hT hS hP (hl.1.trans hml.symm) dX4_valley_50 dX4_valley_53 dX4_valley_54 dX4_valley_56 dX4_valley_59 hout (Nat.le_of_ble_eq_true rfl) (Nat.le_of_ble_eq_true rfl) (Nat.le_of_ble_eq_true rfl) (Nat.le_of_ble_eq_true rfl) hlocks
    · skip
      exact z_throw (cls := "java/lang/IllegalArgumentException") (text := "length is not 1 to 30") (ik := 48) (is := 55) (ic := 52) hx hb hst hown (by decide +kernel) (hts (.classLink RX4 48 "java/lang/IllegalArgumentException") (by decide +kernel)) (hts (.initialized "java/lang/IllegalArgumentException") (by decide +kernel)) (List.mem_of_getElem? (i := 5) rfl) (fun w h9 => hts w (ha_52 w h9)) (by decide +kernel) (by decide +kernel) (by decide +kernel) hT hS hP (hl.1.trans hml.symm) dX4_valley_30 dX4_valley_33 dX4_valley_34 dX4_valley_36 dX4_valley_39 hout (Nat.le_of_ble_eq_true rfl) (Nat.le_of_ble_eq_true rfl) (Nat.le_of_ble_eq_true rfl) (Nat.le_of_ble_eq_true rfl) hlocks
  · skip
    exact z_throw (cls := "java/lang/IllegalArgumentException") (text := "from is not 0 to 90") (ik := 48) (is := 50) (ic := 52) hx hb hst hown (by decide +kernel) (hts (.classLink RX4 48 "java/lang/IllegalArgumentException") (by decide +kernel)) (hts (.initialized "java/lang/IllegalArgumentException") (by decide +kernel)) (List.mem_of_getElem? (i := 4) rfl) (fun w h9 => hts w (ha_52 w h9)) (by decide +kernel) (by decide +kernel) (by decide +kernel) hT hS hP (hl.1.trans hml.symm) dX4_valley_10 dX4_valley_13 dX4_valley_14 dX4_valley_16 dX4_valley_19 hout (Nat.le_of_ble_eq_true rfl) (Nat.le_of_ble_eq_true rfl) (Nat.le_of_ble_eq_true rfl) (Nat.le_of_ble_eq_true rfl) hlocks

set_option maxHeartbeats 4000000 in
set_option maxRecDepth 100000 in
theorem x_X4_valley_S (l : Launch) (hst : l.stackTraces = false) (G : z_GT) (ad : Nat → Nat) (σ : Nat → Nat → Int32) (κ : Nat → Nat → Nat) (x n y : Int32) (g1 : ¬ z_wi x 0 90 = 0) (g2 : ¬ z_wi n 1 30 = 0) (g3 : ¬ z_wi y 0 50 = 0) (g4 : ¬ κ 0 0 < 8) (g5 : κ 0 0 ≤ 8) : vx_Met l yX4_valley wsX4_valley ({ frames := 6, cells := 1, slots := 6, locals := 82 } : Room) (z_Pt G [.ref (ad 0), .int x, .int n, .int y] (z_wC G ad σ κ) (z_A 36 ad)) z_No (z_Xq G "java/lang/IllegalStateException" (z_wC G ad σ κ) (z_A 36 ad)) 1 6 (z_A 36 ad) := by
  refine vx_ofW (cc := cX4_valley) (maxL := 5) (ret := (some .int)) (by decide) rfl ?_
  intro p e s m args below meth c s₁ B hml hout hw0
  obtain ⟨rfl, hX, hP, hT⟩ := hw0
  have hK := hX.1
  have hx := B.exec
  have hb := B.bytes
  have hr := B.returns
  have hts := atoms_spec (ws := wsX4_valley) B.pre
  have hown : s.vm.findClass RX4 = some m.cls := findClass_of_methodNamed B.named
  have hlocks := B.notSynchronized
  have hl := lv_entry ([.ref (ad 0), .int x, .int n, .int y]) (n := 5) (Nat.le_of_ble_eq_true rfl)
  rw [lg_entry_eq]
  generalize (lg_sl ([.ref (ad 0), .int x, .int n, .int y]) ++ List.replicate (5 - (lg_sl ([.ref (ad 0), .int x, .int n, .int y])).length) Slot.unset).toArray = ls at hl ⊢
  have hl : lv_has ls 5 [(0, .ref (ad 0)), (1, .int x), (2, .int n), (3, .int y)] := hl
  have ha_67 : ∀ w ∈ (vx_atS RX4 67 "java/lang/IllegalStateException" z_up2).filter goodWord, w ∈ wsX4_valley := by decide +kernel
  have hf_RX4_11 : (Cond.fieldLink RX4 11 "BlossomTours" "valleys" "[LBlossomTours$Valley;").before ([.ref (ad 0), .int x, .int n, .int y] : List Value).toArray s = true := hts _ (by decide +kernel)
  have hf_RX4_59 : (Cond.fieldLink RX4 59 "BlossomTours" "valleyCount" "I").before ([.ref (ad 0), .int x, .int n, .int y] : List Value).toArray s = true := hts _ (by decide +kernel)
  have hi_RX4 : ∀ w ∈ u_ws RX4 TX4 9, w ∈ wsX4_valley := by decide +kernel
  have hS : va_S (z_A 36 ad) s.heap s.heap [] := va_S.rf
  refine lv_iload_n hx hb dX4_valley_0 rfl (lv_at hl 1 rfl) ?_
  refine lv_iconst (v := 0) hx hb dX4_valley_1 (by decide) ?_
  refine lv_bipush (v := 90) hx hb dX4_valley_2 (by decide) ?_
  refine z_call (va_runS (As := [.int x, .int 0, .int 90]) (rest := []) ⟨hx, hb, hml, hown, hts⟩ (c_X4_isWithin l G x 0 90) (va_cwS 3 hts gX4_valley_X4_isWithin rfl rfl rfl (by decide +kernel) ⟨Nat.le_of_ble_eq_true rfl, Nat.le_of_ble_eq_true rfl⟩) (z_prS hX z_P0) rfl rfl hl.1 rfl (lv_room (Nat.le_of_ble_eq_true rfl)) dX4_valley_4 ⟨Nat.le_of_ble_eq_true rfl, Nat.le_of_ble_eq_true rfl⟩) (fun _ h9 => h9) ?_
  refine W.eq (g2 := F0 m 7 ls [.int (z_wi x 0 90)]) rfl ?_
  refine lv_if_ne (tgt := 20) hx hb dX4_valley_7 (by decide) (fun c7 => ?_) (fun c7 => ?_)
  · skip
    refine lv_iload_n hx hb dX4_valley_20 rfl (lv_at hl 2 rfl) ?_
    refine lv_iconst (v := 1) hx hb dX4_valley_21 (by decide) ?_
    refine lv_bipush (v := 30) hx hb dX4_valley_22 (by decide) ?_
    refine z_call (va_runS (As := [.int n, .int 1, .int 30]) (rest := []) ⟨hx, hb, hml, hown, hts⟩ (c_X4_isWithin l G n 1 30) (va_cwS 3 hts gX4_valley_X4_isWithin rfl rfl rfl (by decide +kernel) ⟨Nat.le_of_ble_eq_true rfl, Nat.le_of_ble_eq_true rfl⟩) (z_prS hX z_P0) rfl rfl hl.1 rfl (lv_room (Nat.le_of_ble_eq_true rfl)) dX4_valley_24 ⟨Nat.le_of_ble_eq_true rfl, Nat.le_of_ble_eq_true rfl⟩) (fun _ h9 => h9) ?_
    refine W.eq (g2 := F0 m 27 ls [.int (z_wi n 1 30)]) rfl ?_
    refine lv_if_ne (tgt := 40) hx hb dX4_valley_27 (by decide) (fun c27 => ?_) (fun c27 => ?_)
    · skip
      refine lv_iload_n hx hb dX4_valley_40 rfl (lv_at hl 3 rfl) ?_
      refine lv_iconst (v := 0) hx hb dX4_valley_41 (by decide) ?_
      refine lv_bipush (v := 50) hx hb dX4_valley_42 (by decide) ?_
      refine z_call (va_runS (As := [.int y, .int 0, .int 50]) (rest := []) ⟨hx, hb, hml, hown, hts⟩ (c_X4_isWithin l G y 0 50) (va_cwS 3 hts gX4_valley_X4_isWithin rfl rfl rfl (by decide +kernel) ⟨Nat.le_of_ble_eq_true rfl, Nat.le_of_ble_eq_true rfl⟩) (z_prS hX z_P0) rfl rfl hl.1 rfl (lv_room (Nat.le_of_ble_eq_true rfl)) dX4_valley_44 ⟨Nat.le_of_ble_eq_true rfl, Nat.le_of_ble_eq_true rfl⟩) (fun _ h9 => h9) ?_
      refine W.eq (g2 := F0 m 47 ls [.int (z_wi y 0 50)]) rfl ?_
      refine lv_if_ne (tgt := 60) hx hb dX4_valley_47 (by decide) (fun c47 => ?_) (fun c47 => ?_)
      · skip
        refine lv_aload_n hx hb dX4_valley_60 rfl (lv_at hl 0 rfl) ?_
        refine va_get (D := z_DD G) (ci := 4) (v := .int (nI (κ 0 0))) (C := RX4) (T := TX4) (N := 9) hx hb hts hi_RX4 hown hK hP 0 z_g0 rfl 6 (by decide) hf_RX4_59 (fun _ h9 => h9) rfl dX4_valley_61 ?_
        refine lv_aload_n hx hb dX4_valley_64 rfl (lv_at hl 0 rfl) ?_
        refine va_get (D := z_DD G) (ci := 4) (v := .ref (ad 1)) (C := RX4) (T := TX4) (N := 9) hx hb hts hi_RX4 hown hK hP 0 z_g0 rfl 0 (by decide) hf_RX4_11 (fun _ h9 => h9) rfl dX4_valley_65 ?_
        refine va_alen (v := nI 8) hx hb hK hP 1 1 z_g1 rfl rfl dX4_valley_68 ?_
        refine lv_icmp_lt (tgt := 82) hx hb dX4_valley_69 (by decide) (fun c69 => ?_) (fun c69 => ?_)
        · skip
          exact absurd c69 (nI_nlt (by omega) (by omega))
        · skip
          exact z_throw (cls := "java/lang/IllegalStateException") (text := "there are 8 valleys") (ik := 63) (is := 65) (ic := 67) hx hb hst hown (by decide +kernel) (hts (.classLink RX4 63 "java/lang/IllegalStateException") (by decide +kernel)) (hts (.initialized "java/lang/IllegalStateException") (by decide +kernel)) (List.mem_of_getElem? (i := 7) rfl) (fun w h9 => hts w (ha_67 w h9)) (by decide +kernel) (by decide +kernel) (by decide +kernel) hT hS hP (hl.1.trans hml.symm) dX4_valley_72 dX4_valley_75 dX4_valley_76 dX4_valley_78 dX4_valley_81 hout (Nat.le_of_ble_eq_true rfl) (Nat.le_of_ble_eq_true rfl) (Nat.le_of_ble_eq_true rfl) (Nat.le_of_ble_eq_true rfl) hlocks
      · skip
        exact absurd c47 g3
    · skip
      exact absurd c27 g2
  · skip
    exact absurd c7 g1

set_option maxHeartbeats 4000000 in
set_option maxRecDepth 100000 in
theorem x_X4_road_1 (l : Launch) (hst : l.stackTraces = false) (G : z_GT) (ad : Nat → Nat) (σ : Nat → Nat → Int32) (κ : Nat → Nat → Nat) (v w mi : Int32) (h : v < 0 ∨ ¬ v < nI (κ 0 0)) : vx_Met l yX4_road wsX4_road ({ frames := 7, cells := 1, slots := 6, locals := 103 } : Room) (z_Pt G [.ref (ad 0), .int v, .int w, .int mi] (z_wC G ad σ κ) (z_A 36 ad)) z_No (z_Xq G "java/lang/IndexOutOfBoundsException" (z_wC G ad σ κ) (z_A 36 ad)) 1 6 (z_A 36 ad) := by
  refine vx_ofW (cc := cX4_road) (maxL := 4) (ret := (some .int)) (by decide) rfl ?_
  intro p e s m args below meth c s₁ B hml hout hw0
  obtain ⟨rfl, hX, hP, hT⟩ := hw0
  have hK := hX.1
  have hx := B.exec
  have hb := B.bytes
  have hr := B.returns
  have hts := atoms_spec (ws := wsX4_road) B.pre
  have hown : s.vm.findClass RX4 = some m.cls := findClass_of_methodNamed B.named
  have hlocks := B.notSynchronized
  have hl := lv_entry ([.ref (ad 0), .int v, .int w, .int mi]) (n := 4) (Nat.le_of_ble_eq_true rfl)
  rw [lg_entry_eq]
  generalize (lg_sl ([.ref (ad 0), .int v, .int w, .int mi]) ++ List.replicate (4 - (lg_sl ([.ref (ad 0), .int v, .int w, .int mi])).length) Slot.unset).toArray = ls at hl ⊢
  have hl : lv_has ls 4 [(0, .ref (ad 0)), (1, .int v), (2, .int w), (3, .int mi)] := hl
  have hS : va_S (z_A 36 ad) s.heap s.heap [] := va_S.rf
  refine lv_aload_n hx hb dX4_road_0 rfl (lv_at hl 0 rfl) ?_
  refine lv_iload_n hx hb dX4_road_1 rfl (lv_at hl 1 rfl) ?_
  refine z_callx (vx_runV (As := [.int v]) (rest := []) ⟨hx, hb, hml, hown, hts⟩ (x_X4_checkValley l hst G ad σ κ v h) (cwV 1 hts gX4_road_X4_checkValley rfl rfl rfl (by decide +kernel) ⟨Nat.le_of_ble_eq_true rfl, Nat.le_of_ble_eq_true rfl⟩) (z_ptV (ci := 4) (k := 0) hX hP (hT.kept hS.2.1) rfl z_g0) rfl rfl hl.1 rfl (lv_room (Nat.le_of_ble_eq_true rfl)) dX4_road_2 ⟨Nat.le_of_ble_eq_true rfl, Nat.le_of_ble_eq_true rfl⟩) hS (fun _ _ h9 => h9) (fun _ h9 => h9) (fun ce q H locs hP hz9 hk9 hS hce hcv hcl => ?_)
  exact z_outx hout hlocks hP hS hce hcv hcl (by decide) (by decide)

set_option maxHeartbeats 4000000 in
set_option maxRecDepth 100000 in
theorem x_X4_road_2 (l : Launch) (hst : l.stackTraces = false) (G : z_GT) (ad : Nat → Nat) (σ : Nat → Nat → Int32) (κ : Nat → Nat → Nat) (hw : z_wf κ) (a : Nat) (ha : a < κ 0 0) (w mi : Int32) (h : w < 0 ∨ ¬ w < nI (κ 0 0)) : vx_Met l yX4_road wsX4_road ({ frames := 7, cells := 1, slots := 6, locals := 103 } : Room) (z_Pt G [.ref (ad 0), .int (nI a), .int w, .int mi] (z_wC G ad σ κ) (z_A 36 ad)) z_No (z_Xq G "java/lang/IndexOutOfBoundsException" (z_wC G ad σ κ) (z_A 36 ad)) 1 6 (z_A 36 ad) := by
  refine vx_ofW (cc := cX4_road) (maxL := 4) (ret := (some .int)) (by decide) rfl ?_
  intro p e s m args below meth c s₁ B hml hout hw0
  obtain ⟨rfl, hX, hP, hT⟩ := hw0
  have hK := hX.1
  have hx := B.exec
  have hb := B.bytes
  have hr := B.returns
  have hts := atoms_spec (ws := wsX4_road) B.pre
  have hown : s.vm.findClass RX4 = some m.cls := findClass_of_methodNamed B.named
  have hlocks := B.notSynchronized
  have hl := lv_entry ([.ref (ad 0), .int (nI a), .int w, .int mi]) (n := 4) (Nat.le_of_ble_eq_true rfl)
  rw [lg_entry_eq]
  generalize (lg_sl ([.ref (ad 0), .int (nI a), .int w, .int mi]) ++ List.replicate (4 - (lg_sl ([.ref (ad 0), .int (nI a), .int w, .int mi])).length) Slot.unset).toArray = ls at hl ⊢
  have hl : lv_has ls 4 [(0, .ref (ad 0)), (1, .int (nI a)), (2, .int w), (3, .int mi)] := hl
  have hS : va_S (z_A 36 ad) s.heap s.heap [] := va_S.rf
  refine lv_aload_n hx hb dX4_road_0 rfl (lv_at hl 0 rfl) ?_
  refine lv_iload_n hx hb dX4_road_1 rfl (lv_at hl 1 rfl) ?_
  refine z_call (va_runV (As := [.int (nI a)]) (rest := []) ⟨hx, hb, hml, hown, hts⟩ (c_X4_checkValley l G ad σ κ a ha hw.1) (cwV 1 hts gX4_road_X4_checkValley rfl rfl rfl (by decide +kernel) ⟨Nat.le_of_ble_eq_true rfl, Nat.le_of_ble_eq_true rfl⟩) (z_prV (ci := 4) (k := 0) hX hP rfl z_g0) rfl rfl hl.1 rfl (lv_room (Nat.le_of_ble_eq_true rfl)) dX4_road_2 ⟨Nat.le_of_ble_eq_true rfl, Nat.le_of_ble_eq_true rfl⟩) (fun _ h9 => h9) ?_
  refine lv_aload_n hx hb dX4_road_5 rfl (lv_at hl 0 rfl) ?_
  refine lv_iload_n hx hb dX4_road_6 rfl (lv_at hl 2 rfl) ?_
  refine z_callx (vx_runV (As := [.int w]) (rest := []) ⟨hx, hb, hml, hown, hts⟩ (x_X4_checkValley l hst G ad σ κ w h) (cwV 1 hts gX4_road_X4_checkValley rfl rfl rfl (by decide +kernel) ⟨Nat.le_of_ble_eq_true rfl, Nat.le_of_ble_eq_true rfl⟩) (z_ptV (ci := 4) (k := 0) hX hP (hT.kept hS.2.1) rfl z_g0) rfl rfl hl.1 rfl (lv_room (Nat.le_of_ble_eq_true rfl)) dX4_road_7 ⟨Nat.le_of_ble_eq_true rfl, Nat.le_of_ble_eq_true rfl⟩) hS (fun _ _ h9 => h9) (fun _ h9 => h9) (fun ce q H locs hP hz9 hk9 hS hce hcv hcl => ?_)
  exact z_outx hout hlocks hP hS hce hcv hcl (by decide) (by decide)

set_option maxHeartbeats 4000000 in
set_option maxRecDepth 100000 in
theorem x_X4_road_3 (l : Launch) (hst : l.stackTraces = false) (G : z_GT) (ad : Nat → Nat) (σ : Nat → Nat → Int32) (κ : Nat → Nat → Nat) (hw : z_wf κ) (a b : Nat) (ha : a < κ 0 0) (hb8 : b < κ 0 0) (mi : Int32) (h : a = b ∨ z_wi mi 1 240 = 0) : vx_Met l yX4_road wsX4_road ({ frames := 7, cells := 1, slots := 6, locals := 103 } : Room) (z_Pt G [.ref (ad 0), .int (nI a), .int (nI b), .int mi] (z_wC G ad σ κ) (z_A 36 ad)) z_No (z_Xq G "java/lang/IllegalArgumentException" (z_wC G ad σ κ) (z_A 36 ad)) 1 6 (z_A 36 ad) := by
  refine vx_ofW (cc := cX4_road) (maxL := 4) (ret := (some .int)) (by decide) rfl ?_
  intro p e s m args below meth c s₁ B hml hout hw0
  obtain ⟨rfl, hX, hP, hT⟩ := hw0
  have hK := hX.1
  have hx := B.exec
  have hb := B.bytes
  have hr := B.returns
  have hts := atoms_spec (ws := wsX4_road) B.pre
  have hown : s.vm.findClass RX4 = some m.cls := findClass_of_methodNamed B.named
  have hlocks := B.notSynchronized
  have hl := lv_entry ([.ref (ad 0), .int (nI a), .int (nI b), .int mi]) (n := 4) (Nat.le_of_ble_eq_true rfl)
  rw [lg_entry_eq]
  generalize (lg_sl ([.ref (ad 0), .int (nI a), .int (nI b), .int mi]) ++ List.replicate (4 - (lg_sl ([.ref (ad 0), .int (nI a), .int (nI b), .int mi])).length) Slot.unset).toArray = ls at hl ⊢
  have hl : lv_has ls 4 [(0, .ref (ad 0)), (1, .int (nI a)), (2, .int (nI b)), (3, .int mi)] := hl
  have ha_52 : ∀ w ∈ (vx_atS RX4 52 "java/lang/IllegalArgumentException" z_up2).filter goodWord, w ∈ wsX4_road := by decide +kernel
  have hS : va_S (z_A 36 ad) s.heap s.heap [] := va_S.rf
  refine lv_aload_n hx hb dX4_road_0 rfl (lv_at hl 0 rfl) ?_
  refine lv_iload_n hx hb dX4_road_1 rfl (lv_at hl 1 rfl) ?_
  refine z_call (va_runV (As := [.int (nI a)]) (rest := []) ⟨hx, hb, hml, hown, hts⟩ (c_X4_checkValley l G ad σ κ a ha hw.1) (cwV 1 hts gX4_road_X4_checkValley rfl rfl rfl (by decide +kernel) ⟨Nat.le_of_ble_eq_true rfl, Nat.le_of_ble_eq_true rfl⟩) (z_prV (ci := 4) (k := 0) hX hP rfl z_g0) rfl rfl hl.1 rfl (lv_room (Nat.le_of_ble_eq_true rfl)) dX4_road_2 ⟨Nat.le_of_ble_eq_true rfl, Nat.le_of_ble_eq_true rfl⟩) (fun _ h9 => h9) ?_
  refine lv_aload_n hx hb dX4_road_5 rfl (lv_at hl 0 rfl) ?_
  refine lv_iload_n hx hb dX4_road_6 rfl (lv_at hl 2 rfl) ?_
  refine z_call (va_runV (As := [.int (nI b)]) (rest := []) ⟨hx, hb, hml, hown, hts⟩ (c_X4_checkValley l G ad σ κ b hb8 hw.1) (cwV 1 hts gX4_road_X4_checkValley rfl rfl rfl (by decide +kernel) ⟨Nat.le_of_ble_eq_true rfl, Nat.le_of_ble_eq_true rfl⟩) (z_prV (ci := 4) (k := 0) hX hP rfl z_g0) rfl rfl hl.1 rfl (lv_room (Nat.le_of_ble_eq_true rfl)) dX4_road_7 ⟨Nat.le_of_ble_eq_true rfl, Nat.le_of_ble_eq_true rfl⟩) (fun _ h9 => h9) ?_
  refine lv_iload_n hx hb dX4_road_10 rfl (lv_at hl 1 rfl) ?_
  refine lv_iload_n hx hb dX4_road_11 rfl (lv_at hl 2 rfl) ?_
  refine lv_icmp_ne (tgt := 25) hx hb dX4_road_12 (by decide) (fun c12 => ?_) (fun c12 => ?_)
  · skip
    refine lv_iload_n hx hb dX4_road_25 rfl (lv_at hl 3 rfl) ?_
    refine lv_iconst (v := 1) hx hb dX4_road_26 (by decide) ?_
    refine lv_sipush (v := 240) hx hb dX4_road_27 (by decide) ?_
    refine z_call (va_runS (As := [.int mi, .int 1, .int 240]) (rest := []) ⟨hx, hb, hml, hown, hts⟩ (c_X4_isWithin l G mi 1 240) (va_cwS 3 hts gX4_road_X4_isWithin rfl rfl rfl (by decide +kernel) ⟨Nat.le_of_ble_eq_true rfl, Nat.le_of_ble_eq_true rfl⟩) (z_prS hX z_P0) rfl rfl hl.1 rfl (lv_room (Nat.le_of_ble_eq_true rfl)) dX4_road_30 ⟨Nat.le_of_ble_eq_true rfl, Nat.le_of_ble_eq_true rfl⟩) (fun _ h9 => h9) ?_
    refine W.eq (g2 := F0 m 33 ls [.int (z_wi mi 1 240)]) rfl ?_
    refine lv_if_ne (tgt := 46) hx hb dX4_road_33 (by decide) (fun c33 => ?_) (fun c33 => ?_)
    · skip
      exact absurd (h.resolve_left (fun q => c12 (by rw [q]))) c33
    · skip
      exact z_throw (cls := "java/lang/IllegalArgumentException") (text := "minutes is not 1 to 240") (ik := 48) (is := 83) (ic := 52) hx hb hst hown (by decide +kernel) (hts (.classLink RX4 48 "java/lang/IllegalArgumentException") (by decide +kernel)) (hts (.initialized "java/lang/IllegalArgumentException") (by decide +kernel)) (List.mem_of_getElem? (i := 9) rfl) (fun w h9 => hts w (ha_52 w h9)) (by decide +kernel) (by decide +kernel) (by decide +kernel) hT hS hP (hl.1.trans hml.symm) dX4_road_36 dX4_road_39 dX4_road_40 dX4_road_42 dX4_road_45 hout (Nat.le_of_ble_eq_true rfl) (Nat.le_of_ble_eq_true rfl) (Nat.le_of_ble_eq_true rfl) (Nat.le_of_ble_eq_true rfl) hlocks
  · skip
    exact z_throw (cls := "java/lang/IllegalArgumentException") (text := "both valleys are the same") (ik := 48) (is := 81) (ic := 52) hx hb hst hown (by decide +kernel) (hts (.classLink RX4 48 "java/lang/IllegalArgumentException") (by decide +kernel)) (hts (.initialized "java/lang/IllegalArgumentException") (by decide +kernel)) (List.mem_of_getElem? (i := 8) rfl) (fun w h9 => hts w (ha_52 w h9)) (by decide +kernel) (by decide +kernel) (by decide +kernel) hT hS hP (hl.1.trans hml.symm) dX4_road_15 dX4_road_18 dX4_road_19 dX4_road_21 dX4_road_24 hout (Nat.le_of_ble_eq_true rfl) (Nat.le_of_ble_eq_true rfl) (Nat.le_of_ble_eq_true rfl) (Nat.le_of_ble_eq_true rfl) hlocks

set_option maxHeartbeats 4000000 in
set_option maxRecDepth 100000 in
theorem x_X4_road_4 (l : Launch) (hst : l.stackTraces = false) (G : z_GT) (ad : Nat → Nat) (σ : Nat → Nat → Int32) (κ : Nat → Nat → Nat) (hw : z_wf κ) (a b : Nat) (ha : a < κ 0 0) (hb8 : b < κ 0 0) (mi : Int32) (g1 : ¬ a = b) (g2 : ¬ z_wi mi 1 240 = 0) (g3 : ¬ σ 8 0 < 20) : vx_Met l yX4_road wsX4_road ({ frames := 7, cells := 1, slots := 6, locals := 103 } : Room) (z_Pt G [.ref (ad 0), .int (nI a), .int (nI b), .int mi] (z_wC G ad σ κ) (z_A 36 ad)) z_No (z_Xq G "java/lang/IllegalStateException" (z_wC G ad σ κ) (z_A 36 ad)) 1 6 (z_A 36 ad) := by
  refine vx_ofW (cc := cX4_road) (maxL := 4) (ret := (some .int)) (by decide) rfl ?_
  intro p e s m args below meth c s₁ B hml hout hw0
  obtain ⟨rfl, hX, hP, hT⟩ := hw0
  have hK := hX.1
  have hx := B.exec
  have hb := B.bytes
  have hr := B.returns
  have hts := atoms_spec (ws := wsX4_road) B.pre
  have hown : s.vm.findClass RX4 = some m.cls := findClass_of_methodNamed B.named
  have hlocks := B.notSynchronized
  have hl := lv_entry ([.ref (ad 0), .int (nI a), .int (nI b), .int mi]) (n := 4) (Nat.le_of_ble_eq_true rfl)
  rw [lg_entry_eq]
  generalize (lg_sl ([.ref (ad 0), .int (nI a), .int (nI b), .int mi]) ++ List.replicate (4 - (lg_sl ([.ref (ad 0), .int (nI a), .int (nI b), .int mi])).length) Slot.unset).toArray = ls at hl ⊢
  have hl : lv_has ls 4 [(0, .ref (ad 0)), (1, .int (nI a)), (2, .int (nI b)), (3, .int mi)] := hl
  have ha_67 : ∀ w ∈ (vx_atS RX4 67 "java/lang/IllegalStateException" z_up2).filter goodWord, w ∈ wsX4_road := by decide +kernel
  have hf_RX4_28 : (Cond.fieldLink RX4 28 "BlossomTours" "roads" "LBlossomTours$Roads;").before ([.ref (ad 0), .int (nI a), .int (nI b), .int mi] : List Value).toArray s = true := hts _ (by decide +kernel)
  have hi_RX1 : ∀ w ∈ u_ws RX1 TX1 2, w ∈ wsX4_road := by decide +kernel
  have hi_RX4 : ∀ w ∈ u_ws RX4 TX4 9, w ∈ wsX4_road := by decide +kernel
  have hn := hw.1
  have hS : va_S (z_A 36 ad) s.heap s.heap [] := va_S.rf
  refine lv_aload_n hx hb dX4_road_0 rfl (lv_at hl 0 rfl) ?_
  refine lv_iload_n hx hb dX4_road_1 rfl (lv_at hl 1 rfl) ?_
  refine z_call (va_runV (As := [.int (nI a)]) (rest := []) ⟨hx, hb, hml, hown, hts⟩ (c_X4_checkValley l G ad σ κ a ha hw.1) (cwV 1 hts gX4_road_X4_checkValley rfl rfl rfl (by decide +kernel) ⟨Nat.le_of_ble_eq_true rfl, Nat.le_of_ble_eq_true rfl⟩) (z_prV (ci := 4) (k := 0) hX hP rfl z_g0) rfl rfl hl.1 rfl (lv_room (Nat.le_of_ble_eq_true rfl)) dX4_road_2 ⟨Nat.le_of_ble_eq_true rfl, Nat.le_of_ble_eq_true rfl⟩) (fun _ h9 => h9) ?_
  refine lv_aload_n hx hb dX4_road_5 rfl (lv_at hl 0 rfl) ?_
  refine lv_iload_n hx hb dX4_road_6 rfl (lv_at hl 2 rfl) ?_
  refine z_call (va_runV (As := [.int (nI b)]) (rest := []) ⟨hx, hb, hml, hown, hts⟩ (c_X4_checkValley l G ad σ κ b hb8 hw.1) (cwV 1 hts gX4_road_X4_checkValley rfl rfl rfl (by decide +kernel) ⟨Nat.le_of_ble_eq_true rfl, Nat.le_of_ble_eq_true rfl⟩) (z_prV (ci := 4) (k := 0) hX hP rfl z_g0) rfl rfl hl.1 rfl (lv_room (Nat.le_of_ble_eq_true rfl)) dX4_road_7 ⟨Nat.le_of_ble_eq_true rfl, Nat.le_of_ble_eq_true rfl⟩) (fun _ h9 => h9) ?_
  refine lv_iload_n hx hb dX4_road_10 rfl (lv_at hl 1 rfl) ?_
  refine lv_iload_n hx hb dX4_road_11 rfl (lv_at hl 2 rfl) ?_
  refine lv_icmp_ne (tgt := 25) hx hb dX4_road_12 (by decide) (fun c12 => ?_) (fun c12 => ?_)
  · skip
    refine lv_iload_n hx hb dX4_road_25 rfl (lv_at hl 3 rfl) ?_
    refine lv_iconst (v := 1) hx hb dX4_road_26 (by decide) ?_
    refine lv_sipush (v := 240) hx hb dX4_road_27 (by decide) ?_
    refine z_call (va_runS (As := [.int mi, .int 1, .int 240]) (rest := []) ⟨hx, hb, hml, hown, hts⟩ (c_X4_isWithin l G mi 1 240) (va_cwS 3 hts gX4_road_X4_isWithin rfl rfl rfl (by decide +kernel) ⟨Nat.le_of_ble_eq_true rfl, Nat.le_of_ble_eq_true rfl⟩) (z_prS hX z_P0) rfl rfl hl.1 rfl (lv_room (Nat.le_of_ble_eq_true rfl)) dX4_road_30 ⟨Nat.le_of_ble_eq_true rfl, Nat.le_of_ble_eq_true rfl⟩) (fun _ h9 => h9) ?_
    refine W.eq (g2 := F0 m 33 ls [.int (z_wi mi 1 240)]) rfl ?_
    refine lv_if_ne (tgt := 46) hx hb dX4_road_33 (by decide) (fun c33 => ?_) (fun c33 => ?_)
    · skip
      refine lv_aload_n hx hb dX4_road_46 rfl (lv_at hl 0 rfl) ?_
      refine va_get (D := z_DD G) (ci := 4) (v := .ref (ad 4)) (C := RX4) (T := TX4) (N := 9) hx hb hts hi_RX4 hown hK hP 0 z_g0 rfl 3 (by decide) hf_RX4_28 (fun _ h9 => h9) rfl dX4_road_47 ?_
      refine va_getN (D := z_DD G) (ci := 1) (v := .int (σ 8 0)) (C := RX1) (T := TX1) (N := 2) hx hb hts hi_RX1 hown hK hP 4 z_g4 rfl 1 (by decide) (z_nfw hX.2 0 rfl) (fun _ h9 => h9) rfl dX4_road_50 ?_
      refine lv_bipush (v := 20) hx hb dX4_road_53 (by decide) ?_
      refine lv_icmp_lt (tgt := 68) hx hb dX4_road_55 (by decide) (fun c55 => ?_) (fun c55 => ?_)
      · skip
        exact absurd c55 g3
      · skip
        exact z_throw (cls := "java/lang/IllegalStateException") (text := "there are 20 roads") (ik := 63) (is := 88) (ic := 67) hx hb hst hown (by decide +kernel) (hts (.classLink RX4 63 "java/lang/IllegalStateException") (by decide +kernel)) (hts (.initialized "java/lang/IllegalStateException") (by decide +kernel)) (List.mem_of_getElem? (i := 10) rfl) (fun w h9 => hts w (ha_67 w h9)) (by decide +kernel) (by decide +kernel) (by decide +kernel) hT hS hP (hl.1.trans hml.symm) dX4_road_58 dX4_road_61 dX4_road_62 dX4_road_64 dX4_road_67 hout (Nat.le_of_ble_eq_true rfl) (Nat.le_of_ble_eq_true rfl) (Nat.le_of_ble_eq_true rfl) (Nat.le_of_ble_eq_true rfl) hlocks
    · skip
      exact absurd c33 g2
  · skip
    exact absurd ((nI_eq (by omega) (by omega)).mp c12) g1

set_option maxHeartbeats 4000000 in
set_option maxRecDepth 100000 in
theorem x_X4_setHeat_1 (l : Launch) (hst : l.stackTraces = false) (G : z_GT) (ad : Nat → Nat) (σ : Nat → Nat → Int32) (κ : Nat → Nat → Nat) (d h : Int32) (g : d < 0 ∨ ¬ d < nI 10) : vx_Met l yX4_setHeat wsX4_setHeat ({ frames := 6, cells := 1, slots := 6, locals := 82 } : Room) (z_Pt G [.ref (ad 0), .int d, .int h] (z_wC G ad σ κ) (z_A 36 ad)) z_No (z_Xq G "java/lang/IndexOutOfBoundsException" (z_wC G ad σ κ) (z_A 36 ad)) 1 6 (z_A 36 ad) := by
  refine vx_ofW (cc := cX4_setHeat) (maxL := 4) (ret := (some .int)) (by decide) rfl ?_
  intro p e s m args below meth c s₁ B hml hout hw0
  obtain ⟨rfl, hX, hP, hT⟩ := hw0
  have hK := hX.1
  have hx := B.exec
  have hb := B.bytes
  have hr := B.returns
  have hts := atoms_spec (ws := wsX4_setHeat) B.pre
  have hown : s.vm.findClass RX4 = some m.cls := findClass_of_methodNamed B.named
  have hlocks := B.notSynchronized
  have hl := lv_entry ([.ref (ad 0), .int d, .int h]) (n := 4) (Nat.le_of_ble_eq_true rfl)
  rw [lg_entry_eq]
  generalize (lg_sl ([.ref (ad 0), .int d, .int h]) ++ List.replicate (4 - (lg_sl ([.ref (ad 0), .int d, .int h])).length) Slot.unset).toArray = ls at hl ⊢
  have hl : lv_has ls 4 [(0, .ref (ad 0)), (1, .int d), (2, .int h)] := hl
  have ha_101 : ∀ w ∈ (vx_atS RX4 101 "java/lang/IndexOutOfBoundsException" z_up2).filter goodWord, w ∈ wsX4_setHeat := by decide +kernel
  have hf_RX4_21 : (Cond.fieldLink RX4 21 "BlossomTours" "heats" "[I").before ([.ref (ad 0), .int d, .int h] : List Value).toArray s = true := hts _ (by decide +kernel)
  have hi_RX4 : ∀ w ∈ u_ws RX4 TX4 9, w ∈ wsX4_setHeat := by decide +kernel
  have hS : va_S (z_A 36 ad) s.heap s.heap [] := va_S.rf
  refine lv_iload_n hx hb dX4_setHeat_0 rfl (lv_at hl 1 rfl) ?_
  refine lv_if_lt (tgt := 13) hx hb dX4_setHeat_1 (by decide) (fun c1 => ?_) (fun c1 => ?_)
  · skip
    exact z_throw (cls := "java/lang/IndexOutOfBoundsException") (text := "day is not 0 to 9") (ik := 97) (is := 99) (ic := 101) hx hb hst hown (by decide +kernel) (hts (.classLink RX4 97 "java/lang/IndexOutOfBoundsException") (by decide +kernel)) (hts (.initialized "java/lang/IndexOutOfBoundsException") (by decide +kernel)) (List.mem_of_getElem? (i := 11) rfl) (fun w h9 => hts w (ha_101 w h9)) (by decide +kernel) (by decide +kernel) (by decide +kernel) hT hS hP (hl.1.trans hml.symm) dX4_setHeat_13 dX4_setHeat_16 dX4_setHeat_17 dX4_setHeat_19 dX4_setHeat_22 hout (Nat.le_of_ble_eq_true rfl) (Nat.le_of_ble_eq_true rfl) (Nat.le_of_ble_eq_true rfl) (Nat.le_of_ble_eq_true rfl) hlocks
  · skip
    refine lv_iload_n hx hb dX4_setHeat_4 rfl (lv_at hl 1 rfl) ?_
    refine lv_aload_n hx hb dX4_setHeat_5 rfl (lv_at hl 0 rfl) ?_
    refine va_get (D := z_DD G) (ci := 4) (v := .ref (ad 3)) (C := RX4) (T := TX4) (N := 9) hx hb hts hi_RX4 hown hK hP 0 z_g0 rfl 2 (by decide) hf_RX4_21 (fun _ h9 => h9) rfl dX4_setHeat_6 ?_
    refine va_alen (v := nI 10) hx hb hK hP 3 0 z_g3 rfl rfl dX4_setHeat_9 ?_
    refine lv_icmp_lt (tgt := 23) hx hb dX4_setHeat_10 (by decide) (fun c10 => ?_) (fun c10 => ?_)
    · skip
      exact absurd (g.resolve_left c1) (fun q => q c10)
    · skip
      exact z_throw (cls := "java/lang/IndexOutOfBoundsException") (text := "day is not 0 to 9") (ik := 97) (is := 99) (ic := 101) hx hb hst hown (by decide +kernel) (hts (.classLink RX4 97 "java/lang/IndexOutOfBoundsException") (by decide +kernel)) (hts (.initialized "java/lang/IndexOutOfBoundsException") (by decide +kernel)) (List.mem_of_getElem? (i := 11) rfl) (fun w h9 => hts w (ha_101 w h9)) (by decide +kernel) (by decide +kernel) (by decide +kernel) hT hS hP (hl.1.trans hml.symm) dX4_setHeat_13 dX4_setHeat_16 dX4_setHeat_17 dX4_setHeat_19 dX4_setHeat_22 hout (Nat.le_of_ble_eq_true rfl) (Nat.le_of_ble_eq_true rfl) (Nat.le_of_ble_eq_true rfl) (Nat.le_of_ble_eq_true rfl) hlocks

set_option maxHeartbeats 4000000 in
set_option maxRecDepth 100000 in
theorem x_X4_setHeat_2 (l : Launch) (hst : l.stackTraces = false) (G : z_GT) (ad : Nat → Nat) (σ : Nat → Nat → Int32) (κ : Nat → Nat → Nat) (d : Nat) (hd : d < 10) (h : Int32) (g : z_wi h 0 40 = 0) : vx_Met l yX4_setHeat wsX4_setHeat ({ frames := 6, cells := 1, slots := 6, locals := 82 } : Room) (z_Pt G [.ref (ad 0), .int (nI d), .int h] (z_wC G ad σ κ) (z_A 36 ad)) z_No (z_Xq G "java/lang/IllegalArgumentException" (z_wC G ad σ κ) (z_A 36 ad)) 1 6 (z_A 36 ad) := by
  refine vx_ofW (cc := cX4_setHeat) (maxL := 4) (ret := (some .int)) (by decide) rfl ?_
  intro p e s m args below meth c s₁ B hml hout hw0
  obtain ⟨rfl, hX, hP, hT⟩ := hw0
  have hK := hX.1
  have hx := B.exec
  have hb := B.bytes
  have hr := B.returns
  have hts := atoms_spec (ws := wsX4_setHeat) B.pre
  have hown : s.vm.findClass RX4 = some m.cls := findClass_of_methodNamed B.named
  have hlocks := B.notSynchronized
  have hl := lv_entry ([.ref (ad 0), .int (nI d), .int h]) (n := 4) (Nat.le_of_ble_eq_true rfl)
  rw [lg_entry_eq]
  generalize (lg_sl ([.ref (ad 0), .int (nI d), .int h]) ++ List.replicate (4 - (lg_sl ([.ref (ad 0), .int (nI d), .int h])).length) Slot.unset).toArray = ls at hl ⊢
  have hl : lv_has ls 4 [(0, .ref (ad 0)), (1, .int (nI d)), (2, .int h)] := hl
  have ha_52 : ∀ w ∈ (vx_atS RX4 52 "java/lang/IllegalArgumentException" z_up2).filter goodWord, w ∈ wsX4_setHeat := by decide +kernel
  have hf_RX4_21 : (Cond.fieldLink RX4 21 "BlossomTours" "heats" "[I").before ([.ref (ad 0), .int (nI d), .int h] : List Value).toArray s = true := hts _ (by decide +kernel)
  have hi_RX4 : ∀ w ∈ u_ws RX4 TX4 9, w ∈ wsX4_setHeat := by decide +kernel
  have hS : va_S (z_A 36 ad) s.heap s.heap [] := va_S.rf
  refine lv_iload_n hx hb dX4_setHeat_0 rfl (lv_at hl 1 rfl) ?_
  refine lv_if_lt (tgt := 13) hx hb dX4_setHeat_1 (by decide) (fun c1 => ?_) (fun c1 => ?_)
  · skip
    exact absurd c1 (z_lt0 (by omega))
  · skip
    refine lv_iload_n hx hb dX4_setHeat_4 rfl (lv_at hl 1 rfl) ?_
    refine lv_aload_n hx hb dX4_setHeat_5 rfl (lv_at hl 0 rfl) ?_
    refine va_get (D := z_DD G) (ci := 4) (v := .ref (ad 3)) (C := RX4) (T := TX4) (N := 9) hx hb hts hi_RX4 hown hK hP 0 z_g0 rfl 2 (by decide) hf_RX4_21 (fun _ h9 => h9) rfl dX4_setHeat_6 ?_
    refine va_alen (v := nI 10) hx hb hK hP 3 0 z_g3 rfl rfl dX4_setHeat_9 ?_
    refine lv_icmp_lt (tgt := 23) hx hb dX4_setHeat_10 (by decide) (fun c10 => ?_) (fun c10 => ?_)
    · skip
      refine lv_iload_n hx hb dX4_setHeat_23 rfl (lv_at hl 2 rfl) ?_
      refine lv_iconst (v := 0) hx hb dX4_setHeat_24 (by decide) ?_
      refine lv_bipush (v := 40) hx hb dX4_setHeat_25 (by decide) ?_
      refine z_call (va_runS (As := [.int h, .int 0, .int 40]) (rest := []) ⟨hx, hb, hml, hown, hts⟩ (c_X4_isWithin l G h 0 40) (va_cwS 3 hts gX4_setHeat_X4_isWithin rfl rfl rfl (by decide +kernel) ⟨Nat.le_of_ble_eq_true rfl, Nat.le_of_ble_eq_true rfl⟩) (z_prS hX z_P0) rfl rfl hl.1 rfl (lv_room (Nat.le_of_ble_eq_true rfl)) dX4_setHeat_27 ⟨Nat.le_of_ble_eq_true rfl, Nat.le_of_ble_eq_true rfl⟩) (fun _ h9 => h9) ?_
      refine W.eq (g2 := F0 m 30 ls [.int (z_wi h 0 40)]) rfl ?_
      refine lv_if_ne (tgt := 43) hx hb dX4_setHeat_30 (by decide) (fun c30 => ?_) (fun c30 => ?_)
      · skip
        exact absurd g c30
      · skip
        exact z_throw (cls := "java/lang/IllegalArgumentException") (text := "heat is not 0 to 40") (ik := 48) (is := 102) (ic := 52) hx hb hst hown (by decide +kernel) (hts (.classLink RX4 48 "java/lang/IllegalArgumentException") (by decide +kernel)) (hts (.initialized "java/lang/IllegalArgumentException") (by decide +kernel)) (List.mem_of_getElem? (i := 12) rfl) (fun w h9 => hts w (ha_52 w h9)) (by decide +kernel) (by decide +kernel) (by decide +kernel) hT hS hP (hl.1.trans hml.symm) dX4_setHeat_33 dX4_setHeat_36 dX4_setHeat_37 dX4_setHeat_39 dX4_setHeat_42 hout (Nat.le_of_ble_eq_true rfl) (Nat.le_of_ble_eq_true rfl) (Nat.le_of_ble_eq_true rfl) (Nat.le_of_ble_eq_true rfl) hlocks
    · skip
      exact absurd (z_ltn hd (by decide)) c10

set_option maxHeartbeats 4000000 in
set_option maxRecDepth 100000 in
theorem x_X4_bloom_1 (l : Launch) (hst : l.stackTraces = false) (G : z_GT) (ad : Nat → Nat) (σ : Nat → Nat → Int32) (κ : Nat → Nat → Nat) (v d : Int32) (h : v < 0 ∨ ¬ v < nI (κ 0 0)) : vx_Met l yX4_bloom wsX4_bloom ({ frames := 7, cells := 1, slots := 6, locals := 103 } : Room) (z_Pt G [.ref (ad 0), .int v, .int d] (z_wC G ad σ κ) (z_A 36 ad)) z_No (z_Xq G "java/lang/IndexOutOfBoundsException" (z_wC G ad σ κ) (z_A 36 ad)) 1 6 (z_A 36 ad) := by
  refine vx_ofW (cc := cX4_bloom) (maxL := 3) (ret := (some .int)) (by decide) rfl ?_
  intro p e s m args below meth c s₁ B hml hout hw0
  obtain ⟨rfl, hX, hP, hT⟩ := hw0
  have hK := hX.1
  have hx := B.exec
  have hb := B.bytes
  have hr := B.returns
  have hts := atoms_spec (ws := wsX4_bloom) B.pre
  have hown : s.vm.findClass RX4 = some m.cls := findClass_of_methodNamed B.named
  have hlocks := B.notSynchronized
  have hl := lv_entry ([.ref (ad 0), .int v, .int d]) (n := 3) (Nat.le_of_ble_eq_true rfl)
  rw [lg_entry_eq]
  generalize (lg_sl ([.ref (ad 0), .int v, .int d]) ++ List.replicate (3 - (lg_sl ([.ref (ad 0), .int v, .int d])).length) Slot.unset).toArray = ls at hl ⊢
  have hl : lv_has ls 3 [(0, .ref (ad 0)), (1, .int v), (2, .int d)] := hl
  have hS : va_S (z_A 36 ad) s.heap s.heap [] := va_S.rf
  refine lv_aload_n hx hb dX4_bloom_0 rfl (lv_at hl 0 rfl) ?_
  refine lv_iload_n hx hb dX4_bloom_1 rfl (lv_at hl 1 rfl) ?_
  refine z_callx (vx_runV (As := [.int v]) (rest := []) ⟨hx, hb, hml, hown, hts⟩ (x_X4_checkValley l hst G ad σ κ v h) (cwV 1 hts gX4_bloom_X4_checkValley rfl rfl rfl (by decide +kernel) ⟨Nat.le_of_ble_eq_true rfl, Nat.le_of_ble_eq_true rfl⟩) (z_ptV (ci := 4) (k := 0) hX hP (hT.kept hS.2.1) rfl z_g0) rfl rfl hl.1 rfl (lv_room (Nat.le_of_ble_eq_true rfl)) dX4_bloom_2 ⟨Nat.le_of_ble_eq_true rfl, Nat.le_of_ble_eq_true rfl⟩) hS (fun _ _ h9 => h9) (fun _ h9 => h9) (fun ce q H locs hP hz9 hk9 hS hce hcv hcl => ?_)
  exact z_outx hout hlocks hP hS hce hcv hcl (by decide) (by decide)

set_option maxHeartbeats 4000000 in
set_option maxRecDepth 100000 in
theorem x_X4_bloom_2 (l : Launch) (hst : l.stackTraces = false) (G : z_GT) (ad : Nat → Nat) (σ : Nat → Nat → Int32) (κ : Nat → Nat → Nat) (hw : z_wf κ) (v : Nat) (hv : v < κ 0 0) (d : Int32) (h : d < 0) : vx_Met l yX4_bloom wsX4_bloom ({ frames := 7, cells := 1, slots := 6, locals := 103 } : Room) (z_Pt G [.ref (ad 0), .int (nI v), .int d] (z_wC G ad σ κ) (z_A 36 ad)) z_No (z_Xq G "java/lang/IllegalArgumentException" (z_wC G ad σ κ) (z_A 36 ad)) 1 6 (z_A 36 ad) := by
  refine vx_ofW (cc := cX4_bloom) (maxL := 3) (ret := (some .int)) (by decide) rfl ?_
  intro p e s m args below meth c s₁ B hml hout hw0
  obtain ⟨rfl, hX, hP, hT⟩ := hw0
  have hK := hX.1
  have hx := B.exec
  have hb := B.bytes
  have hr := B.returns
  have hts := atoms_spec (ws := wsX4_bloom) B.pre
  have hown : s.vm.findClass RX4 = some m.cls := findClass_of_methodNamed B.named
  have hlocks := B.notSynchronized
  have hl := lv_entry ([.ref (ad 0), .int (nI v), .int d]) (n := 3) (Nat.le_of_ble_eq_true rfl)
  rw [lg_entry_eq]
  generalize (lg_sl ([.ref (ad 0), .int (nI v), .int d]) ++ List.replicate (3 - (lg_sl ([.ref (ad 0), .int (nI v), .int d])).length) Slot.unset).toArray = ls at hl ⊢
  have hl : lv_has ls 3 [(0, .ref (ad 0)), (1, .int (nI v)), (2, .int d)] := hl
  have hS : va_S (z_A 36 ad) s.heap s.heap [] := va_S.rf
  refine lv_aload_n hx hb dX4_bloom_0 rfl (lv_at hl 0 rfl) ?_
  refine lv_iload_n hx hb dX4_bloom_1 rfl (lv_at hl 1 rfl) ?_
  refine z_call (va_runV (As := [.int (nI v)]) (rest := []) ⟨hx, hb, hml, hown, hts⟩ (c_X4_checkValley l G ad σ κ v hv hw.1) (cwV 1 hts gX4_bloom_X4_checkValley rfl rfl rfl (by decide +kernel) ⟨Nat.le_of_ble_eq_true rfl, Nat.le_of_ble_eq_true rfl⟩) (z_prV (ci := 4) (k := 0) hX hP rfl z_g0) rfl rfl hl.1 rfl (lv_room (Nat.le_of_ble_eq_true rfl)) dX4_bloom_2 ⟨Nat.le_of_ble_eq_true rfl, Nat.le_of_ble_eq_true rfl⟩) (fun _ h9 => h9) ?_
  refine lv_iload_n hx hb dX4_bloom_5 rfl (lv_at hl 2 rfl) ?_
  refine z_callx (vx_runS (As := [.int d]) (rest := []) ⟨hx, hb, hml, hown, hts⟩ (x_X4_checkDay l hst G (z_wC G ad σ κ) (z_A 36 ad) d h) (va_cwS 1 hts gX4_bloom_X4_checkDay rfl rfl rfl (by decide +kernel) ⟨Nat.le_of_ble_eq_true rfl, Nat.le_of_ble_eq_true rfl⟩) (z_ptS hX hP (hT.kept hS.2.1)) rfl rfl hl.1 rfl (lv_room (Nat.le_of_ble_eq_true rfl)) dX4_bloom_6 ⟨Nat.le_of_ble_eq_true rfl, Nat.le_of_ble_eq_true rfl⟩) hS (fun _ _ h9 => h9) (fun _ h9 => h9) (fun ce q H locs hP hz9 hk9 hS hce hcv hcl => ?_)
  exact z_outx hout hlocks hP hS hce hcv hcl (by decide) (by decide)

set_option maxHeartbeats 4000000 in
set_option maxRecDepth 100000 in
theorem x_X4_way_1 (l : Launch) (hst : l.stackTraces = false) (G : z_GT) (ad : Nat → Nat) (σ : Nat → Nat → Int32) (κ : Nat → Nat → Nat) (v w : Int32) (h : v < 0 ∨ ¬ v < nI (κ 0 0)) : vx_Met l yX4_way wsX4_way ({ frames := 7, cells := 1, slots := 6, locals := 103 } : Room) (z_Pt G [.ref (ad 0), .int v, .int w] (z_wC G ad σ κ) (z_A 36 ad)) z_No (z_Xq G "java/lang/IndexOutOfBoundsException" (z_wC G ad σ κ) (z_A 36 ad)) 1 6 (z_A 36 ad) := by
  refine vx_ofW (cc := cX4_way) (maxL := 3) (ret := (some .int)) (by decide) rfl ?_
  intro p e s m args below meth c s₁ B hml hout hw0
  obtain ⟨rfl, hX, hP, hT⟩ := hw0
  have hK := hX.1
  have hx := B.exec
  have hb := B.bytes
  have hr := B.returns
  have hts := atoms_spec (ws := wsX4_way) B.pre
  have hown : s.vm.findClass RX4 = some m.cls := findClass_of_methodNamed B.named
  have hlocks := B.notSynchronized
  have hl := lv_entry ([.ref (ad 0), .int v, .int w]) (n := 3) (Nat.le_of_ble_eq_true rfl)
  rw [lg_entry_eq]
  generalize (lg_sl ([.ref (ad 0), .int v, .int w]) ++ List.replicate (3 - (lg_sl ([.ref (ad 0), .int v, .int w])).length) Slot.unset).toArray = ls at hl ⊢
  have hl : lv_has ls 3 [(0, .ref (ad 0)), (1, .int v), (2, .int w)] := hl
  have hS : va_S (z_A 36 ad) s.heap s.heap [] := va_S.rf
  refine lv_aload_n hx hb dX4_way_0 rfl (lv_at hl 0 rfl) ?_
  refine lv_iload_n hx hb dX4_way_1 rfl (lv_at hl 1 rfl) ?_
  refine z_callx (vx_runV (As := [.int v]) (rest := []) ⟨hx, hb, hml, hown, hts⟩ (x_X4_checkValley l hst G ad σ κ v h) (cwV 1 hts gX4_way_X4_checkValley rfl rfl rfl (by decide +kernel) ⟨Nat.le_of_ble_eq_true rfl, Nat.le_of_ble_eq_true rfl⟩) (z_ptV (ci := 4) (k := 0) hX hP (hT.kept hS.2.1) rfl z_g0) rfl rfl hl.1 rfl (lv_room (Nat.le_of_ble_eq_true rfl)) dX4_way_2 ⟨Nat.le_of_ble_eq_true rfl, Nat.le_of_ble_eq_true rfl⟩) hS (fun _ _ h9 => h9) (fun _ h9 => h9) (fun ce q H locs hP hz9 hk9 hS hce hcv hcl => ?_)
  exact z_outx hout hlocks hP hS hce hcv hcl (by decide) (by decide)

set_option maxHeartbeats 4000000 in
set_option maxRecDepth 100000 in
theorem x_X4_way_2 (l : Launch) (hst : l.stackTraces = false) (G : z_GT) (ad : Nat → Nat) (σ : Nat → Nat → Int32) (κ : Nat → Nat → Nat) (hw : z_wf κ) (a : Nat) (ha : a < κ 0 0) (w : Int32) (h : w < 0 ∨ ¬ w < nI (κ 0 0)) : vx_Met l yX4_way wsX4_way ({ frames := 7, cells := 1, slots := 6, locals := 103 } : Room) (z_Pt G [.ref (ad 0), .int (nI a), .int w] (z_wC G ad σ κ) (z_A 36 ad)) z_No (z_Xq G "java/lang/IndexOutOfBoundsException" (z_wC G ad σ κ) (z_A 36 ad)) 1 6 (z_A 36 ad) := by
  refine vx_ofW (cc := cX4_way) (maxL := 3) (ret := (some .int)) (by decide) rfl ?_
  intro p e s m args below meth c s₁ B hml hout hw0
  obtain ⟨rfl, hX, hP, hT⟩ := hw0
  have hK := hX.1
  have hx := B.exec
  have hb := B.bytes
  have hr := B.returns
  have hts := atoms_spec (ws := wsX4_way) B.pre
  have hown : s.vm.findClass RX4 = some m.cls := findClass_of_methodNamed B.named
  have hlocks := B.notSynchronized
  have hl := lv_entry ([.ref (ad 0), .int (nI a), .int w]) (n := 3) (Nat.le_of_ble_eq_true rfl)
  rw [lg_entry_eq]
  generalize (lg_sl ([.ref (ad 0), .int (nI a), .int w]) ++ List.replicate (3 - (lg_sl ([.ref (ad 0), .int (nI a), .int w])).length) Slot.unset).toArray = ls at hl ⊢
  have hl : lv_has ls 3 [(0, .ref (ad 0)), (1, .int (nI a)), (2, .int w)] := hl
  have hS : va_S (z_A 36 ad) s.heap s.heap [] := va_S.rf
  refine lv_aload_n hx hb dX4_way_0 rfl (lv_at hl 0 rfl) ?_
  refine lv_iload_n hx hb dX4_way_1 rfl (lv_at hl 1 rfl) ?_
  refine z_call (va_runV (As := [.int (nI a)]) (rest := []) ⟨hx, hb, hml, hown, hts⟩ (c_X4_checkValley l G ad σ κ a ha hw.1) (cwV 1 hts gX4_way_X4_checkValley rfl rfl rfl (by decide +kernel) ⟨Nat.le_of_ble_eq_true rfl, Nat.le_of_ble_eq_true rfl⟩) (z_prV (ci := 4) (k := 0) hX hP rfl z_g0) rfl rfl hl.1 rfl (lv_room (Nat.le_of_ble_eq_true rfl)) dX4_way_2 ⟨Nat.le_of_ble_eq_true rfl, Nat.le_of_ble_eq_true rfl⟩) (fun _ h9 => h9) ?_
  refine lv_aload_n hx hb dX4_way_5 rfl (lv_at hl 0 rfl) ?_
  refine lv_iload_n hx hb dX4_way_6 rfl (lv_at hl 2 rfl) ?_
  refine z_callx (vx_runV (As := [.int w]) (rest := []) ⟨hx, hb, hml, hown, hts⟩ (x_X4_checkValley l hst G ad σ κ w h) (cwV 1 hts gX4_way_X4_checkValley rfl rfl rfl (by decide +kernel) ⟨Nat.le_of_ble_eq_true rfl, Nat.le_of_ble_eq_true rfl⟩) (z_ptV (ci := 4) (k := 0) hX hP (hT.kept hS.2.1) rfl z_g0) rfl rfl hl.1 rfl (lv_room (Nat.le_of_ble_eq_true rfl)) dX4_way_7 ⟨Nat.le_of_ble_eq_true rfl, Nat.le_of_ble_eq_true rfl⟩) hS (fun _ _ h9 => h9) (fun _ h9 => h9) (fun ce q H locs hP hz9 hk9 hS hce hcv hcl => ?_)
  exact z_outx hout hlocks hP hS hce hcv hcl (by decide) (by decide)

set_option maxHeartbeats 4000000 in
set_option maxRecDepth 100000 in
theorem x_X4_tour_A (l : Launch) (hst : l.stackTraces = false) (G : z_GT) (ad : Nat → Nat) (σ : Nat → Nat → Int32) (κ : Nat → Nat → Nat) (x : Int32) (h : z_wi x 1 60 = 0) : vx_Met l yX4_tour wsX4_tour ({ frames := 6, cells := 1, slots := 6, locals := 82 } : Room) (z_Pt G [.ref (ad 0), .int x] (z_wC G ad σ κ) (z_A 36 ad)) z_No (z_Xq G "java/lang/IllegalArgumentException" (z_wC G ad σ κ) (z_A 36 ad)) 1 6 (z_A 36 ad) := by
  refine vx_ofW (cc := cX4_tour) (maxL := 2) (ret := (some .int)) (by decide) rfl ?_
  intro p e s m args below meth c s₁ B hml hout hw0
  obtain ⟨rfl, hX, hP, hT⟩ := hw0
  have hK := hX.1
  have hx := B.exec
  have hb := B.bytes
  have hr := B.returns
  have hts := atoms_spec (ws := wsX4_tour) B.pre
  have hown : s.vm.findClass RX4 = some m.cls := findClass_of_methodNamed B.named
  have hlocks := B.notSynchronized
  have hl := lv_entry ([.ref (ad 0), .int x]) (n := 2) (Nat.le_of_ble_eq_true rfl)
  rw [lg_entry_eq]
  generalize (lg_sl ([.ref (ad 0), .int x]) ++ List.replicate (2 - (lg_sl ([.ref (ad 0), .int x])).length) Slot.unset).toArray = ls at hl ⊢
  have hl : lv_has ls 2 [(0, .ref (ad 0)), (1, .int x)] := hl
  have ha_52 : ∀ w ∈ (vx_atS RX4 52 "java/lang/IllegalArgumentException" z_up2).filter goodWord, w ∈ wsX4_tour := by decide +kernel
  have hS : va_S (z_A 36 ad) s.heap s.heap [] := va_S.rf
  refine lv_iload_n hx hb dX4_tour_0 rfl (lv_at hl 1 rfl) ?_
  refine lv_iconst (v := 1) hx hb dX4_tour_1 (by decide) ?_
  refine lv_bipush (v := 60) hx hb dX4_tour_2 (by decide) ?_
  refine z_call (va_runS (As := [.int x, .int 1, .int 60]) (rest := []) ⟨hx, hb, hml, hown, hts⟩ (c_X4_isWithin l G x 1 60) (va_cwS 3 hts gX4_tour_X4_isWithin rfl rfl rfl (by decide +kernel) ⟨Nat.le_of_ble_eq_true rfl, Nat.le_of_ble_eq_true rfl⟩) (z_prS hX z_P0) rfl rfl hl.1 rfl (lv_room (Nat.le_of_ble_eq_true rfl)) dX4_tour_4 ⟨Nat.le_of_ble_eq_true rfl, Nat.le_of_ble_eq_true rfl⟩) (fun _ h9 => h9) ?_
  refine W.eq (g2 := F0 m 7 ls [.int (z_wi x 1 60)]) rfl ?_
  refine lv_if_ne (tgt := 20) hx hb dX4_tour_7 (by decide) (fun c7 => ?_) (fun c7 => ?_)
  · skip
    exact absurd h c7
  · skip
    exact z_throw (cls := "java/lang/IllegalArgumentException") (text := "tourists is not 1 to 60") (ik := 48) (is := 115) (ic := 52) hx hb hst hown (by decide +kernel) (hts (.classLink RX4 48 "java/lang/IllegalArgumentException") (by decide +kernel)) (hts (.initialized "java/lang/IllegalArgumentException") (by decide +kernel)) (List.mem_of_getElem? (i := 14) rfl) (fun w h9 => hts w (ha_52 w h9)) (by decide +kernel) (by decide +kernel) (by decide +kernel) hT hS hP (hl.1.trans hml.symm) dX4_tour_10 dX4_tour_13 dX4_tour_14 dX4_tour_16 dX4_tour_19 hout (Nat.le_of_ble_eq_true rfl) (Nat.le_of_ble_eq_true rfl) (Nat.le_of_ble_eq_true rfl) (Nat.le_of_ble_eq_true rfl) hlocks

set_option maxHeartbeats 4000000 in
set_option maxRecDepth 100000 in
theorem x_X4_tour_S (l : Launch) (hst : l.stackTraces = false) (G : z_GT) (ad : Nat → Nat) (σ : Nat → Nat → Int32) (κ : Nat → Nat → Nat) (x : Int32) (g1 : ¬ z_wi x 1 60 = 0) (g2 : ¬ κ 0 1 < 6) (g3 : κ 0 1 ≤ 6) : vx_Met l yX4_tour wsX4_tour ({ frames := 6, cells := 1, slots := 6, locals := 82 } : Room) (z_Pt G [.ref (ad 0), .int x] (z_wC G ad σ κ) (z_A 36 ad)) z_No (z_Xq G "java/lang/IllegalStateException" (z_wC G ad σ κ) (z_A 36 ad)) 1 6 (z_A 36 ad) := by
  refine vx_ofW (cc := cX4_tour) (maxL := 2) (ret := (some .int)) (by decide) rfl ?_
  intro p e s m args below meth c s₁ B hml hout hw0
  obtain ⟨rfl, hX, hP, hT⟩ := hw0
  have hK := hX.1
  have hx := B.exec
  have hb := B.bytes
  have hr := B.returns
  have hts := atoms_spec (ws := wsX4_tour) B.pre
  have hown : s.vm.findClass RX4 = some m.cls := findClass_of_methodNamed B.named
  have hlocks := B.notSynchronized
  have hl := lv_entry ([.ref (ad 0), .int x]) (n := 2) (Nat.le_of_ble_eq_true rfl)
  rw [lg_entry_eq]
  generalize (lg_sl ([.ref (ad 0), .int x]) ++ List.replicate (2 - (lg_sl ([.ref (ad 0), .int x])).length) Slot.unset).toArray = ls at hl ⊢
  have hl : lv_has ls 2 [(0, .ref (ad 0)), (1, .int x)] := hl
  have ha_67 : ∀ w ∈ (vx_atS RX4 67 "java/lang/IllegalStateException" z_up2).filter goodWord, w ∈ wsX4_tour := by decide +kernel
  have hf_RX4_117 : (Cond.fieldLink RX4 117 "BlossomTours" "tourCount" "I").before ([.ref (ad 0), .int x] : List Value).toArray s = true := hts _ (by decide +kernel)
  have hf_RX4_17 : (Cond.fieldLink RX4 17 "BlossomTours" "tours" "[LBlossomTours$Tour;").before ([.ref (ad 0), .int x] : List Value).toArray s = true := hts _ (by decide +kernel)
  have hi_RX4 : ∀ w ∈ u_ws RX4 TX4 9, w ∈ wsX4_tour := by decide +kernel
  have hS : va_S (z_A 36 ad) s.heap s.heap [] := va_S.rf
  refine lv_iload_n hx hb dX4_tour_0 rfl (lv_at hl 1 rfl) ?_
  refine lv_iconst (v := 1) hx hb dX4_tour_1 (by decide) ?_
  refine lv_bipush (v := 60) hx hb dX4_tour_2 (by decide) ?_
  refine z_call (va_runS (As := [.int x, .int 1, .int 60]) (rest := []) ⟨hx, hb, hml, hown, hts⟩ (c_X4_isWithin l G x 1 60) (va_cwS 3 hts gX4_tour_X4_isWithin rfl rfl rfl (by decide +kernel) ⟨Nat.le_of_ble_eq_true rfl, Nat.le_of_ble_eq_true rfl⟩) (z_prS hX z_P0) rfl rfl hl.1 rfl (lv_room (Nat.le_of_ble_eq_true rfl)) dX4_tour_4 ⟨Nat.le_of_ble_eq_true rfl, Nat.le_of_ble_eq_true rfl⟩) (fun _ h9 => h9) ?_
  refine W.eq (g2 := F0 m 7 ls [.int (z_wi x 1 60)]) rfl ?_
  refine lv_if_ne (tgt := 20) hx hb dX4_tour_7 (by decide) (fun c7 => ?_) (fun c7 => ?_)
  · skip
    refine lv_aload_n hx hb dX4_tour_20 rfl (lv_at hl 0 rfl) ?_
    refine va_get (D := z_DD G) (ci := 4) (v := .int (nI (κ 0 1))) (C := RX4) (T := TX4) (N := 9) hx hb hts hi_RX4 hown hK hP 0 z_g0 rfl 7 (by decide) hf_RX4_117 (fun _ h9 => h9) rfl dX4_tour_21 ?_
    refine lv_aload_n hx hb dX4_tour_24 rfl (lv_at hl 0 rfl) ?_
    refine va_get (D := z_DD G) (ci := 4) (v := .ref (ad 2)) (C := RX4) (T := TX4) (N := 9) hx hb hts hi_RX4 hown hK hP 0 z_g0 rfl 1 (by decide) hf_RX4_17 (fun _ h9 => h9) rfl dX4_tour_25 ?_
    refine va_alen (v := nI 6) hx hb hK hP 2 2 z_g2 rfl rfl dX4_tour_28 ?_
    refine lv_icmp_lt (tgt := 42) hx hb dX4_tour_29 (by decide) (fun c29 => ?_) (fun c29 => ?_)
    · skip
      exact absurd c29 (nI_nlt (by omega) (by omega))
    · skip
      exact z_throw (cls := "java/lang/IllegalStateException") (text := "there are 6 tours") (ik := 63) (is := 120) (ic := 67) hx hb hst hown (by decide +kernel) (hts (.classLink RX4 63 "java/lang/IllegalStateException") (by decide +kernel)) (hts (.initialized "java/lang/IllegalStateException") (by decide +kernel)) (List.mem_of_getElem? (i := 15) rfl) (fun w h9 => hts w (ha_67 w h9)) (by decide +kernel) (by decide +kernel) (by decide +kernel) hT hS hP (hl.1.trans hml.symm) dX4_tour_32 dX4_tour_35 dX4_tour_36 dX4_tour_38 dX4_tour_41 hout (Nat.le_of_ble_eq_true rfl) (Nat.le_of_ble_eq_true rfl) (Nat.le_of_ble_eq_true rfl) (Nat.le_of_ble_eq_true rfl) hlocks
  · skip
    exact absurd c7 g1

set_option maxHeartbeats 4000000 in
set_option maxRecDepth 100000 in
theorem x_X4_add_1 (l : Launch) (hst : l.stackTraces = false) (G : z_GT) (ad : Nat → Nat) (σ : Nat → Nat → Int32) (κ : Nat → Nat → Nat) (v w : Int32) (h : v < 0 ∨ ¬ v < nI (κ 0 1)) : vx_Met l yX4_add wsX4_add ({ frames := 7, cells := 1, slots := 6, locals := 103 } : Room) (z_Pt G [.ref (ad 0), .int v, .int w] (z_wC G ad σ κ) (z_A 36 ad)) z_No (z_Xq G "java/lang/IndexOutOfBoundsException" (z_wC G ad σ κ) (z_A 36 ad)) 1 6 (z_A 36 ad) := by
  refine vx_ofW (cc := cX4_add) (maxL := 4) (ret := (some .int)) (by decide) rfl ?_
  intro p e s m args below meth c s₁ B hml hout hw0
  obtain ⟨rfl, hX, hP, hT⟩ := hw0
  have hK := hX.1
  have hx := B.exec
  have hb := B.bytes
  have hr := B.returns
  have hts := atoms_spec (ws := wsX4_add) B.pre
  have hown : s.vm.findClass RX4 = some m.cls := findClass_of_methodNamed B.named
  have hlocks := B.notSynchronized
  have hl := lv_entry ([.ref (ad 0), .int v, .int w]) (n := 4) (Nat.le_of_ble_eq_true rfl)
  rw [lg_entry_eq]
  generalize (lg_sl ([.ref (ad 0), .int v, .int w]) ++ List.replicate (4 - (lg_sl ([.ref (ad 0), .int v, .int w])).length) Slot.unset).toArray = ls at hl ⊢
  have hl : lv_has ls 4 [(0, .ref (ad 0)), (1, .int v), (2, .int w)] := hl
  have hS : va_S (z_A 36 ad) s.heap s.heap [] := va_S.rf
  refine lv_aload_n hx hb dX4_add_0 rfl (lv_at hl 0 rfl) ?_
  refine lv_iload_n hx hb dX4_add_1 rfl (lv_at hl 1 rfl) ?_
  refine z_callx (vx_runV (As := [.int v]) (rest := []) ⟨hx, hb, hml, hown, hts⟩ (x_X4_checkTour l hst G ad σ κ v h) (cwV 1 hts gX4_add_X4_checkTour rfl rfl rfl (by decide +kernel) ⟨Nat.le_of_ble_eq_true rfl, Nat.le_of_ble_eq_true rfl⟩) (z_ptV (ci := 4) (k := 0) hX hP (hT.kept hS.2.1) rfl z_g0) rfl rfl hl.1 rfl (lv_room (Nat.le_of_ble_eq_true rfl)) dX4_add_2 ⟨Nat.le_of_ble_eq_true rfl, Nat.le_of_ble_eq_true rfl⟩) hS (fun _ _ h9 => h9) (fun _ h9 => h9) (fun ce q H locs hP hz9 hk9 hS hce hcv hcl => ?_)
  exact z_outx hout hlocks hP hS hce hcv hcl (by decide) (by decide)

set_option maxHeartbeats 4000000 in
set_option maxRecDepth 100000 in
theorem x_X4_add_2 (l : Launch) (hst : l.stackTraces = false) (G : z_GT) (ad : Nat → Nat) (σ : Nat → Nat → Int32) (κ : Nat → Nat → Nat) (hw : z_wf κ) (t : Nat) (ht : t < κ 0 1) (w : Int32) (h : w < 0 ∨ ¬ w < nI (κ 0 0)) : vx_Met l yX4_add wsX4_add ({ frames := 7, cells := 1, slots := 6, locals := 103 } : Room) (z_Pt G [.ref (ad 0), .int (nI t), .int w] (z_wC G ad σ κ) (z_A 36 ad)) z_No (z_Xq G "java/lang/IndexOutOfBoundsException" (z_wC G ad σ κ) (z_A 36 ad)) 1 6 (z_A 36 ad) := by
  refine vx_ofW (cc := cX4_add) (maxL := 4) (ret := (some .int)) (by decide) rfl ?_
  intro p e s m args below meth c s₁ B hml hout hw0
  obtain ⟨rfl, hX, hP, hT⟩ := hw0
  have hK := hX.1
  have hx := B.exec
  have hb := B.bytes
  have hr := B.returns
  have hts := atoms_spec (ws := wsX4_add) B.pre
  have hown : s.vm.findClass RX4 = some m.cls := findClass_of_methodNamed B.named
  have hlocks := B.notSynchronized
  have hl := lv_entry ([.ref (ad 0), .int (nI t), .int w]) (n := 4) (Nat.le_of_ble_eq_true rfl)
  rw [lg_entry_eq]
  generalize (lg_sl ([.ref (ad 0), .int (nI t), .int w]) ++ List.replicate (4 - (lg_sl ([.ref (ad 0), .int (nI t), .int w])).length) Slot.unset).toArray = ls at hl ⊢
  have hl : lv_has ls 4 [(0, .ref (ad 0)), (1, .int (nI t)), (2, .int w)] := hl
  have hS : va_S (z_A 36 ad) s.heap s.heap [] := va_S.rf
  refine lv_aload_n hx hb dX4_add_0 rfl (lv_at hl 0 rfl) ?_
  refine lv_iload_n hx hb dX4_add_1 rfl (lv_at hl 1 rfl) ?_
  refine z_call (va_runV (As := [.int (nI t)]) (rest := []) ⟨hx, hb, hml, hown, hts⟩ (c_X4_checkTour l G ad σ κ t ht (Nat.le_trans hw.2.1 (by decide))) (cwV 1 hts gX4_add_X4_checkTour rfl rfl rfl (by decide +kernel) ⟨Nat.le_of_ble_eq_true rfl, Nat.le_of_ble_eq_true rfl⟩) (z_prV (ci := 4) (k := 0) hX hP rfl z_g0) rfl rfl hl.1 rfl (lv_room (Nat.le_of_ble_eq_true rfl)) dX4_add_2 ⟨Nat.le_of_ble_eq_true rfl, Nat.le_of_ble_eq_true rfl⟩) (fun _ h9 => h9) ?_
  refine lv_aload_n hx hb dX4_add_5 rfl (lv_at hl 0 rfl) ?_
  refine lv_iload_n hx hb dX4_add_6 rfl (lv_at hl 2 rfl) ?_
  refine z_callx (vx_runV (As := [.int w]) (rest := []) ⟨hx, hb, hml, hown, hts⟩ (x_X4_checkValley l hst G ad σ κ w h) (cwV 1 hts gX4_add_X4_checkValley rfl rfl rfl (by decide +kernel) ⟨Nat.le_of_ble_eq_true rfl, Nat.le_of_ble_eq_true rfl⟩) (z_ptV (ci := 4) (k := 0) hX hP (hT.kept hS.2.1) rfl z_g0) rfl rfl hl.1 rfl (lv_room (Nat.le_of_ble_eq_true rfl)) dX4_add_7 ⟨Nat.le_of_ble_eq_true rfl, Nat.le_of_ble_eq_true rfl⟩) hS (fun _ _ h9 => h9) (fun _ h9 => h9) (fun ce q H locs hP hz9 hk9 hS hce hcv hcl => ?_)
  exact z_outx hout hlocks hP hS hce hcv hcl (by decide) (by decide)

set_option maxHeartbeats 4000000 in
set_option maxRecDepth 100000 in
theorem x_X4_add_3 (l : Launch) (hst : l.stackTraces = false) (G : z_GT) (ad : Nat → Nat) (σ : Nat → Nat → Int32) (κ : Nat → Nat → Nat) (hw : z_wf κ) (t : Nat) (ht : t < κ 0 1) (v : Nat) (hv : v < κ 0 0) (g1 : ¬ κ 1 t < 5) : vx_Met l yX4_add wsX4_add ({ frames := 7, cells := 1, slots := 6, locals := 103 } : Room) (z_Pt G [.ref (ad 0), .int (nI t), .int (nI v)] (z_wC G ad σ κ) (z_A 36 ad)) z_No (z_Xq G "java/lang/IllegalStateException" (z_wC G ad σ κ) (z_A 36 ad)) 1 6 (z_A 36 ad) := by
  refine vx_ofW (cc := cX4_add) (maxL := 4) (ret := (some .int)) (by decide) rfl ?_
  intro p e s m args below meth c s₁ B hml hout hw0
  obtain ⟨rfl, hX, hP, hT⟩ := hw0
  have hK := hX.1
  have hx := B.exec
  have hb := B.bytes
  have hr := B.returns
  have hts := atoms_spec (ws := wsX4_add) B.pre
  have hown : s.vm.findClass RX4 = some m.cls := findClass_of_methodNamed B.named
  have hlocks := B.notSynchronized
  have hl := lv_entry ([.ref (ad 0), .int (nI t), .int (nI v)]) (n := 4) (Nat.le_of_ble_eq_true rfl)
  rw [lg_entry_eq]
  generalize (lg_sl ([.ref (ad 0), .int (nI t), .int (nI v)]) ++ List.replicate (4 - (lg_sl ([.ref (ad 0), .int (nI t), .int (nI v)])).length) Slot.unset).toArray = ls at hl ⊢
  have hl : lv_has ls 4 [(0, .ref (ad 0)), (1, .int (nI t)), (2, .int (nI v))] := hl
  have ha_67 : ∀ w ∈ (vx_atS RX4 67 "java/lang/IllegalStateException" z_up2).filter goodWord, w ∈ wsX4_add := by decide +kernel
  have hf_RX4_17 : (Cond.fieldLink RX4 17 "BlossomTours" "tours" "[LBlossomTours$Tour;").before ([.ref (ad 0), .int (nI t), .int (nI v)] : List Value).toArray s = true := hts _ (by decide +kernel)
  have hi_RX4 : ∀ w ∈ u_ws RX4 TX4 9, w ∈ wsX4_add := by decide +kernel
  have hk := hw.2.2.1 t (Nat.lt_of_lt_of_le ht hw.2.1)
  have hS : va_S (z_A 36 ad) s.heap s.heap [] := va_S.rf
  refine lv_aload_n hx hb dX4_add_0 rfl (lv_at hl 0 rfl) ?_
  refine lv_iload_n hx hb dX4_add_1 rfl (lv_at hl 1 rfl) ?_
  refine z_call (va_runV (As := [.int (nI t)]) (rest := []) ⟨hx, hb, hml, hown, hts⟩ (c_X4_checkTour l G ad σ κ t ht (Nat.le_trans hw.2.1 (by decide))) (cwV 1 hts gX4_add_X4_checkTour rfl rfl rfl (by decide +kernel) ⟨Nat.le_of_ble_eq_true rfl, Nat.le_of_ble_eq_true rfl⟩) (z_prV (ci := 4) (k := 0) hX hP rfl z_g0) rfl rfl hl.1 rfl (lv_room (Nat.le_of_ble_eq_true rfl)) dX4_add_2 ⟨Nat.le_of_ble_eq_true rfl, Nat.le_of_ble_eq_true rfl⟩) (fun _ h9 => h9) ?_
  refine lv_aload_n hx hb dX4_add_5 rfl (lv_at hl 0 rfl) ?_
  refine lv_iload_n hx hb dX4_add_6 rfl (lv_at hl 2 rfl) ?_
  refine z_call (va_runV (As := [.int (nI v)]) (rest := []) ⟨hx, hb, hml, hown, hts⟩ (c_X4_checkValley l G ad σ κ v hv hw.1) (cwV 1 hts gX4_add_X4_checkValley rfl rfl rfl (by decide +kernel) ⟨Nat.le_of_ble_eq_true rfl, Nat.le_of_ble_eq_true rfl⟩) (z_prV (ci := 4) (k := 0) hX hP rfl z_g0) rfl rfl hl.1 rfl (lv_room (Nat.le_of_ble_eq_true rfl)) dX4_add_7 ⟨Nat.le_of_ble_eq_true rfl, Nat.le_of_ble_eq_true rfl⟩) (fun _ h9 => h9) ?_
  refine lv_aload_n hx hb dX4_add_10 rfl (lv_at hl 0 rfl) ?_
  refine va_get (D := z_DD G) (ci := 4) (v := .ref (ad 2)) (C := RX4) (T := TX4) (N := 9) hx hb hts hi_RX4 hown hK hP 0 z_g0 rfl 1 (by decide) hf_RX4_17 (fun _ h9 => h9) rfl dX4_add_11 ?_
  refine lv_iload_n hx hb dX4_add_14 rfl (lv_at hl 1 rfl) ?_
  refine z_aald (k := t) (g := fun j => ad (16 + j)) hx hb hK hP 2 2 z_g2 rfl (Nat.lt_of_lt_of_le ht hw.2.1) (by decide) dX4_add_15 ?_
  refine lv_astore_n (lv' := [(3, .ref (ad (16 + t))), (0, .ref (ad 0)), (1, .int (nI t)), (2, .int (nI v))]) hx hb dX4_add_16 rfl hl (by decide) rfl (fun ls hl => ?_)
  refine lv_aload_n hx hb dX4_add_17 rfl (lv_at hl 0 rfl) ?_
  refine z_call (va_runVN (As := []) (rest := []) ⟨hx, hb, hml, hown, hts⟩ (c_X2_isFull l G ad σ κ t (Nat.lt_of_lt_of_le ht hw.2.1)) ⟨va_cnB 0 hts gX4_add_X2_isFull_n128 rfl rfl rfl (z_nmw hX.2 13 rfl) (hts (.initialized RX2) (by decide +kernel)) (by decide +kernel) ⟨Nat.le_of_ble_eq_true rfl, Nat.le_of_ble_eq_true rfl⟩, hts (.instanceMethod yX2_isFull) (by decide +kernel), hts (.selects RX2 yX2_isFull yX2_isFull) (by decide +kernel)⟩ (z_prV (ci := 2) (k := (16 + t)) hX hP rfl (z_gT (Nat.lt_of_lt_of_le ht hw.2.1))) rfl rfl hl.1 rfl (lv_room (Nat.le_of_ble_eq_true rfl)) dX4_add_18 ⟨Nat.le_of_ble_eq_true rfl, Nat.le_of_ble_eq_true rfl⟩) (fun _ h9 => h9) ?_
  refine W.eq (g2 := F0 m 21 ls [.int (z_full (κ 1 t))]) rfl ?_
  refine lv_if_eq (tgt := 34) hx hb dX4_add_21 (by decide) (fun c21 => ?_) (fun c21 => ?_)
  · skip
    exact absurd (c21.symm.trans (z_fullN g1 (by omega))) (by decide)
  · skip
    exact z_throw (cls := "java/lang/IllegalStateException") (text := "the tour has 5 valleys") (ik := 63) (is := 132) (ic := 67) hx hb hst hown (by decide +kernel) (hts (.classLink RX4 63 "java/lang/IllegalStateException") (by decide +kernel)) (hts (.initialized "java/lang/IllegalStateException") (by decide +kernel)) (List.mem_of_getElem? (i := 16) rfl) (fun w h9 => hts w (ha_67 w h9)) (by decide +kernel) (by decide +kernel) (by decide +kernel) hT hS hP (hl.1.trans hml.symm) dX4_add_24 dX4_add_27 dX4_add_28 dX4_add_30 dX4_add_33 hout (Nat.le_of_ble_eq_true rfl) (Nat.le_of_ble_eq_true rfl) (Nat.le_of_ble_eq_true rfl) (Nat.le_of_ble_eq_true rfl) hlocks

set_option maxHeartbeats 4000000 in
set_option maxRecDepth 100000 in
theorem x_X4_add_4 (l : Launch) (hst : l.stackTraces = false) (G : z_GT) (ad : Nat → Nat) (σ : Nat → Nat → Int32) (κ : Nat → Nat → Nat) (hw : z_wf κ) (t : Nat) (ht : t < κ 0 1) (v : Nat) (hv : v < κ 0 0) (g1 : κ 1 t < 5) (g2 : z_vi (κ (2 + t)) v (κ 1 t) = true) : vx_Met l yX4_add wsX4_add ({ frames := 7, cells := 1, slots := 6, locals := 103 } : Room) (z_Pt G [.ref (ad 0), .int (nI t), .int (nI v)] (z_wC G ad σ κ) (z_A 36 ad)) z_No (z_Xq G "java/lang/IllegalStateException" (z_wC G ad σ κ) (z_A 36 ad)) 1 6 (z_A 36 ad) := by
  refine vx_ofW (cc := cX4_add) (maxL := 4) (ret := (some .int)) (by decide) rfl ?_
  intro p e s m args below meth c s₁ B hml hout hw0
  obtain ⟨rfl, hX, hP, hT⟩ := hw0
  have hK := hX.1
  have hx := B.exec
  have hb := B.bytes
  have hr := B.returns
  have hts := atoms_spec (ws := wsX4_add) B.pre
  have hown : s.vm.findClass RX4 = some m.cls := findClass_of_methodNamed B.named
  have hlocks := B.notSynchronized
  have hl := lv_entry ([.ref (ad 0), .int (nI t), .int (nI v)]) (n := 4) (Nat.le_of_ble_eq_true rfl)
  rw [lg_entry_eq]
  generalize (lg_sl ([.ref (ad 0), .int (nI t), .int (nI v)]) ++ List.replicate (4 - (lg_sl ([.ref (ad 0), .int (nI t), .int (nI v)])).length) Slot.unset).toArray = ls at hl ⊢
  have hl : lv_has ls 4 [(0, .ref (ad 0)), (1, .int (nI t)), (2, .int (nI v))] := hl
  have ha_67 : ∀ w ∈ (vx_atS RX4 67 "java/lang/IllegalStateException" z_up2).filter goodWord, w ∈ wsX4_add := by decide +kernel
  have hf_RX4_17 : (Cond.fieldLink RX4 17 "BlossomTours" "tours" "[LBlossomTours$Tour;").before ([.ref (ad 0), .int (nI t), .int (nI v)] : List Value).toArray s = true := hts _ (by decide +kernel)
  have hi_RX4 : ∀ w ∈ u_ws RX4 TX4 9, w ∈ wsX4_add := by decide +kernel
  have hS : va_S (z_A 36 ad) s.heap s.heap [] := va_S.rf
  refine lv_aload_n hx hb dX4_add_0 rfl (lv_at hl 0 rfl) ?_
  refine lv_iload_n hx hb dX4_add_1 rfl (lv_at hl 1 rfl) ?_
  refine z_call (va_runV (As := [.int (nI t)]) (rest := []) ⟨hx, hb, hml, hown, hts⟩ (c_X4_checkTour l G ad σ κ t ht (Nat.le_trans hw.2.1 (by decide))) (cwV 1 hts gX4_add_X4_checkTour rfl rfl rfl (by decide +kernel) ⟨Nat.le_of_ble_eq_true rfl, Nat.le_of_ble_eq_true rfl⟩) (z_prV (ci := 4) (k := 0) hX hP rfl z_g0) rfl rfl hl.1 rfl (lv_room (Nat.le_of_ble_eq_true rfl)) dX4_add_2 ⟨Nat.le_of_ble_eq_true rfl, Nat.le_of_ble_eq_true rfl⟩) (fun _ h9 => h9) ?_
  refine lv_aload_n hx hb dX4_add_5 rfl (lv_at hl 0 rfl) ?_
  refine lv_iload_n hx hb dX4_add_6 rfl (lv_at hl 2 rfl) ?_
  refine z_call (va_runV (As := [.int (nI v)]) (rest := []) ⟨hx, hb, hml, hown, hts⟩ (c_X4_checkValley l G ad σ κ v hv hw.1) (cwV 1 hts gX4_add_X4_checkValley rfl rfl rfl (by decide +kernel) ⟨Nat.le_of_ble_eq_true rfl, Nat.le_of_ble_eq_true rfl⟩) (z_prV (ci := 4) (k := 0) hX hP rfl z_g0) rfl rfl hl.1 rfl (lv_room (Nat.le_of_ble_eq_true rfl)) dX4_add_7 ⟨Nat.le_of_ble_eq_true rfl, Nat.le_of_ble_eq_true rfl⟩) (fun _ h9 => h9) ?_
  refine lv_aload_n hx hb dX4_add_10 rfl (lv_at hl 0 rfl) ?_
  refine va_get (D := z_DD G) (ci := 4) (v := .ref (ad 2)) (C := RX4) (T := TX4) (N := 9) hx hb hts hi_RX4 hown hK hP 0 z_g0 rfl 1 (by decide) hf_RX4_17 (fun _ h9 => h9) rfl dX4_add_11 ?_
  refine lv_iload_n hx hb dX4_add_14 rfl (lv_at hl 1 rfl) ?_
  refine z_aald (k := t) (g := fun j => ad (16 + j)) hx hb hK hP 2 2 z_g2 rfl (Nat.lt_of_lt_of_le ht hw.2.1) (by decide) dX4_add_15 ?_
  refine lv_astore_n (lv' := [(3, .ref (ad (16 + t))), (0, .ref (ad 0)), (1, .int (nI t)), (2, .int (nI v))]) hx hb dX4_add_16 rfl hl (by decide) rfl (fun ls hl => ?_)
  refine lv_aload_n hx hb dX4_add_17 rfl (lv_at hl 0 rfl) ?_
  refine z_call (va_runVN (As := []) (rest := []) ⟨hx, hb, hml, hown, hts⟩ (c_X2_isFull l G ad σ κ t (Nat.lt_of_lt_of_le ht hw.2.1)) ⟨va_cnB 0 hts gX4_add_X2_isFull_n128 rfl rfl rfl (z_nmw hX.2 13 rfl) (hts (.initialized RX2) (by decide +kernel)) (by decide +kernel) ⟨Nat.le_of_ble_eq_true rfl, Nat.le_of_ble_eq_true rfl⟩, hts (.instanceMethod yX2_isFull) (by decide +kernel), hts (.selects RX2 yX2_isFull yX2_isFull) (by decide +kernel)⟩ (z_prV (ci := 2) (k := (16 + t)) hX hP rfl (z_gT (Nat.lt_of_lt_of_le ht hw.2.1))) rfl rfl hl.1 rfl (lv_room (Nat.le_of_ble_eq_true rfl)) dX4_add_18 ⟨Nat.le_of_ble_eq_true rfl, Nat.le_of_ble_eq_true rfl⟩) (fun _ h9 => h9) ?_
  refine W.eq (g2 := F0 m 21 ls [.int (z_full (κ 1 t))]) rfl ?_
  refine lv_if_eq (tgt := 34) hx hb dX4_add_21 (by decide) (fun c21 => ?_) (fun c21 => ?_)
  · skip
    refine lv_aload_n hx hb dX4_add_34 rfl (lv_at hl 0 rfl) ?_
    refine lv_iload_n hx hb dX4_add_35 rfl (lv_at hl 3 rfl) ?_
    refine z_call (va_runVN (As := [.int (nI v)]) (rest := []) ⟨hx, hb, hml, hown, hts⟩ (c_X2_visits l G ad σ κ t v (Nat.lt_of_lt_of_le ht hw.2.1) (Nat.lt_of_lt_of_le hv hw.1) (hw.2.2.1 t (Nat.lt_of_lt_of_le ht hw.2.1)) (hw.2.2.2 t (Nat.lt_of_lt_of_le ht hw.2.1))) ⟨va_cnB 1 hts gX4_add_X2_visits_n134 rfl rfl rfl (z_nmw hX.2 9 rfl) (hts (.initialized RX2) (by decide +kernel)) (by decide +kernel) ⟨Nat.le_of_ble_eq_true rfl, Nat.le_of_ble_eq_true rfl⟩, hts (.instanceMethod yX2_visits) (by decide +kernel), hts (.selects RX2 yX2_visits yX2_visits) (by decide +kernel)⟩ (z_prV (ci := 2) (k := (16 + t)) hX hP rfl (z_gT (Nat.lt_of_lt_of_le ht hw.2.1))) rfl rfl hl.1 rfl (lv_room (Nat.le_of_ble_eq_true rfl)) dX4_add_36 ⟨Nat.le_of_ble_eq_true rfl, Nat.le_of_ble_eq_true rfl⟩) (fun _ h9 => h9) ?_
    refine W.eq (g2 := F0 m 39 ls [.int (z_bi (z_vi (κ (2 + t)) v (κ 1 t)))]) rfl ?_
    refine lv_if_eq (tgt := 52) hx hb dX4_add_39 (by decide) (fun c39 => ?_) (fun c39 => ?_)
    · skip
      exact absurd (z_bi_f c39) (by rw [g2]; decide)
    · skip
      exact z_throw (cls := "java/lang/IllegalStateException") (text := "the tour has this valley") (ik := 63) (is := 138) (ic := 67) hx hb hst hown (by decide +kernel) (hts (.classLink RX4 63 "java/lang/IllegalStateException") (by decide +kernel)) (hts (.initialized "java/lang/IllegalStateException") (by decide +kernel)) (List.mem_of_getElem? (i := 17) rfl) (fun w h9 => hts w (ha_67 w h9)) (by decide +kernel) (by decide +kernel) (by decide +kernel) hT hS hP (hl.1.trans hml.symm) dX4_add_42 dX4_add_45 dX4_add_46 dX4_add_48 dX4_add_51 hout (Nat.le_of_ble_eq_true rfl) (Nat.le_of_ble_eq_true rfl) (Nat.le_of_ble_eq_true rfl) (Nat.le_of_ble_eq_true rfl) hlocks
  · skip
    exact absurd (z_full0 g1) c21

set_option maxHeartbeats 4000000 in
set_option maxRecDepth 100000 in
theorem x_X4_cut_1 (l : Launch) (hst : l.stackTraces = false) (G : z_GT) (ad : Nat → Nat) (σ : Nat → Nat → Int32) (κ : Nat → Nat → Nat) (v : Int32) (h : v < 0 ∨ ¬ v < nI (κ 0 1)) : vx_Met l yX4_cut wsX4_cut ({ frames := 7, cells := 1, slots := 6, locals := 103 } : Room) (z_Pt G [.ref (ad 0), .int v] (z_wC G ad σ κ) (z_A 36 ad)) z_No (z_Xq G "java/lang/IndexOutOfBoundsException" (z_wC G ad σ κ) (z_A 36 ad)) 1 6 (z_A 36 ad) := by
  refine vx_ofW (cc := cX4_cut) (maxL := 4) (ret := (some .int)) (by decide) rfl ?_
  intro p e s m args below meth c s₁ B hml hout hw0
  obtain ⟨rfl, hX, hP, hT⟩ := hw0
  have hK := hX.1
  have hx := B.exec
  have hb := B.bytes
  have hr := B.returns
  have hts := atoms_spec (ws := wsX4_cut) B.pre
  have hown : s.vm.findClass RX4 = some m.cls := findClass_of_methodNamed B.named
  have hlocks := B.notSynchronized
  have hl := lv_entry ([.ref (ad 0), .int v]) (n := 4) (Nat.le_of_ble_eq_true rfl)
  rw [lg_entry_eq]
  generalize (lg_sl ([.ref (ad 0), .int v]) ++ List.replicate (4 - (lg_sl ([.ref (ad 0), .int v])).length) Slot.unset).toArray = ls at hl ⊢
  have hl : lv_has ls 4 [(0, .ref (ad 0)), (1, .int v)] := hl
  have hS : va_S (z_A 36 ad) s.heap s.heap [] := va_S.rf
  refine lv_aload_n hx hb dX4_cut_0 rfl (lv_at hl 0 rfl) ?_
  refine lv_iload_n hx hb dX4_cut_1 rfl (lv_at hl 1 rfl) ?_
  refine z_callx (vx_runV (As := [.int v]) (rest := []) ⟨hx, hb, hml, hown, hts⟩ (x_X4_checkTour l hst G ad σ κ v h) (cwV 1 hts gX4_cut_X4_checkTour rfl rfl rfl (by decide +kernel) ⟨Nat.le_of_ble_eq_true rfl, Nat.le_of_ble_eq_true rfl⟩) (z_ptV (ci := 4) (k := 0) hX hP (hT.kept hS.2.1) rfl z_g0) rfl rfl hl.1 rfl (lv_room (Nat.le_of_ble_eq_true rfl)) dX4_cut_2 ⟨Nat.le_of_ble_eq_true rfl, Nat.le_of_ble_eq_true rfl⟩) hS (fun _ _ h9 => h9) (fun _ h9 => h9) (fun ce q H locs hP hz9 hk9 hS hce hcv hcl => ?_)
  exact z_outx hout hlocks hP hS hce hcv hcl (by decide) (by decide)

set_option maxHeartbeats 4000000 in
set_option maxRecDepth 100000 in
theorem x_X4_cut_2 (l : Launch) (hst : l.stackTraces = false) (G : z_GT) (ad : Nat → Nat) (σ : Nat → Nat → Int32) (κ : Nat → Nat → Nat) (hw : z_wf κ) (t : Nat) (ht : t < κ 0 1) (g1 : ¬ 0 < κ 1 t) : vx_Met l yX4_cut wsX4_cut ({ frames := 7, cells := 1, slots := 6, locals := 103 } : Room) (z_Pt G [.ref (ad 0), .int (nI t)] (z_wC G ad σ κ) (z_A 36 ad)) z_No (z_Xq G "java/lang/IllegalStateException" (z_wC G ad σ κ) (z_A 36 ad)) 1 6 (z_A 36 ad) := by
  refine vx_ofW (cc := cX4_cut) (maxL := 4) (ret := (some .int)) (by decide) rfl ?_
  intro p e s m args below meth c s₁ B hml hout hw0
  obtain ⟨rfl, hX, hP, hT⟩ := hw0
  have hK := hX.1
  have hx := B.exec
  have hb := B.bytes
  have hr := B.returns
  have hts := atoms_spec (ws := wsX4_cut) B.pre
  have hown : s.vm.findClass RX4 = some m.cls := findClass_of_methodNamed B.named
  have hlocks := B.notSynchronized
  have hl := lv_entry ([.ref (ad 0), .int (nI t)]) (n := 4) (Nat.le_of_ble_eq_true rfl)
  rw [lg_entry_eq]
  generalize (lg_sl ([.ref (ad 0), .int (nI t)]) ++ List.replicate (4 - (lg_sl ([.ref (ad 0), .int (nI t)])).length) Slot.unset).toArray = ls at hl ⊢
  have hl : lv_has ls 4 [(0, .ref (ad 0)), (1, .int (nI t))] := hl
  have ha_67 : ∀ w ∈ (vx_atS RX4 67 "java/lang/IllegalStateException" z_up2).filter goodWord, w ∈ wsX4_cut := by decide +kernel
  have hf_RX4_17 : (Cond.fieldLink RX4 17 "BlossomTours" "tours" "[LBlossomTours$Tour;").before ([.ref (ad 0), .int (nI t)] : List Value).toArray s = true := hts _ (by decide +kernel)
  have hi_RX2 : ∀ w ∈ u_ws RX2 TX2 4, w ∈ wsX4_cut := by decide +kernel
  have hi_RX4 : ∀ w ∈ u_ws RX4 TX4 9, w ∈ wsX4_cut := by decide +kernel
  have hS : va_S (z_A 36 ad) s.heap s.heap [] := va_S.rf
  refine lv_aload_n hx hb dX4_cut_0 rfl (lv_at hl 0 rfl) ?_
  refine lv_iload_n hx hb dX4_cut_1 rfl (lv_at hl 1 rfl) ?_
  refine z_call (va_runV (As := [.int (nI t)]) (rest := []) ⟨hx, hb, hml, hown, hts⟩ (c_X4_checkTour l G ad σ κ t ht (Nat.le_trans hw.2.1 (by decide))) (cwV 1 hts gX4_cut_X4_checkTour rfl rfl rfl (by decide +kernel) ⟨Nat.le_of_ble_eq_true rfl, Nat.le_of_ble_eq_true rfl⟩) (z_prV (ci := 4) (k := 0) hX hP rfl z_g0) rfl rfl hl.1 rfl (lv_room (Nat.le_of_ble_eq_true rfl)) dX4_cut_2 ⟨Nat.le_of_ble_eq_true rfl, Nat.le_of_ble_eq_true rfl⟩) (fun _ h9 => h9) ?_
  refine lv_aload_n hx hb dX4_cut_5 rfl (lv_at hl 0 rfl) ?_
  refine va_get (D := z_DD G) (ci := 4) (v := .ref (ad 2)) (C := RX4) (T := TX4) (N := 9) hx hb hts hi_RX4 hown hK hP 0 z_g0 rfl 1 (by decide) hf_RX4_17 (fun _ h9 => h9) rfl dX4_cut_6 ?_
  refine lv_iload_n hx hb dX4_cut_9 rfl (lv_at hl 1 rfl) ?_
  refine z_aald (k := t) (g := fun j => ad (16 + j)) hx hb hK hP 2 2 z_g2 rfl (Nat.lt_of_lt_of_le ht hw.2.1) (by decide) dX4_cut_10 ?_
  refine lv_astore_n (lv' := [(2, .ref (ad (16 + t))), (0, .ref (ad 0)), (1, .int (nI t))]) hx hb dX4_cut_11 rfl hl (by decide) rfl (fun ls hl => ?_)
  refine lv_aload_n hx hb dX4_cut_12 rfl (lv_at hl 0 rfl) ?_
  refine va_getN (D := z_DD G) (ci := 2) (v := .int (nI (κ 1 t))) (C := RX2) (T := TX2) (N := 4) hx hb hts hi_RX2 hown hK hP (16 + t) (z_gT (Nat.lt_of_lt_of_le ht hw.2.1)) rfl 1 (by decide) (z_nfw hX.2 10 rfl) (fun _ h9 => h9) rfl dX4_cut_13 ?_
  refine lv_if_gt (tgt := 29) hx hb dX4_cut_16 (by decide) (fun c16 => ?_) (fun c16 => ?_)
  · skip
    exact absurd c16 (by rw [show κ 1 t = 0 by omega]; decide)
  · skip
    exact z_throw (cls := "java/lang/IllegalStateException") (text := "the tour has no valley") (ik := 63) (is := 146) (ic := 67) hx hb hst hown (by decide +kernel) (hts (.classLink RX4 63 "java/lang/IllegalStateException") (by decide +kernel)) (hts (.initialized "java/lang/IllegalStateException") (by decide +kernel)) (List.mem_of_getElem? (i := 18) rfl) (fun w h9 => hts w (ha_67 w h9)) (by decide +kernel) (by decide +kernel) (by decide +kernel) hT hS hP (hl.1.trans hml.symm) dX4_cut_19 dX4_cut_22 dX4_cut_23 dX4_cut_25 dX4_cut_28 hout (Nat.le_of_ble_eq_true rfl) (Nat.le_of_ble_eq_true rfl) (Nat.le_of_ble_eq_true rfl) (Nat.le_of_ble_eq_true rfl) hlocks

set_option maxHeartbeats 4000000 in
set_option maxRecDepth 100000 in
theorem x_X4_told_1 (l : Launch) (hst : l.stackTraces = false) (G : z_GT) (ad : Nat → Nat) (σ : Nat → Nat → Int32) (κ : Nat → Nat → Nat) (v w : Int32) (h : v < 0 ∨ ¬ v < nI (κ 0 1)) : vx_Met l yX4_told wsX4_told ({ frames := 7, cells := 1, slots := 6, locals := 103 } : Room) (z_Pt G [.ref (ad 0), .int v, .int w] (z_wC G ad σ κ) (z_A 36 ad)) z_No (z_Xq G "java/lang/IndexOutOfBoundsException" (z_wC G ad σ κ) (z_A 36 ad)) 1 6 (z_A 36 ad) := by
  refine vx_ofW (cc := cX4_told) (maxL := 4) (ret := (some .int)) (by decide) rfl ?_
  intro p e s m args below meth c s₁ B hml hout hw0
  obtain ⟨rfl, hX, hP, hT⟩ := hw0
  have hK := hX.1
  have hx := B.exec
  have hb := B.bytes
  have hr := B.returns
  have hts := atoms_spec (ws := wsX4_told) B.pre
  have hown : s.vm.findClass RX4 = some m.cls := findClass_of_methodNamed B.named
  have hlocks := B.notSynchronized
  have hl := lv_entry ([.ref (ad 0), .int v, .int w]) (n := 4) (Nat.le_of_ble_eq_true rfl)
  rw [lg_entry_eq]
  generalize (lg_sl ([.ref (ad 0), .int v, .int w]) ++ List.replicate (4 - (lg_sl ([.ref (ad 0), .int v, .int w])).length) Slot.unset).toArray = ls at hl ⊢
  have hl : lv_has ls 4 [(0, .ref (ad 0)), (1, .int v), (2, .int w)] := hl
  have hS : va_S (z_A 36 ad) s.heap s.heap [] := va_S.rf
  refine lv_aload_n hx hb dX4_told_0 rfl (lv_at hl 0 rfl) ?_
  refine lv_iload_n hx hb dX4_told_1 rfl (lv_at hl 1 rfl) ?_
  refine z_callx (vx_runV (As := [.int v]) (rest := []) ⟨hx, hb, hml, hown, hts⟩ (x_X4_checkTour l hst G ad σ κ v h) (cwV 1 hts gX4_told_X4_checkTour rfl rfl rfl (by decide +kernel) ⟨Nat.le_of_ble_eq_true rfl, Nat.le_of_ble_eq_true rfl⟩) (z_ptV (ci := 4) (k := 0) hX hP (hT.kept hS.2.1) rfl z_g0) rfl rfl hl.1 rfl (lv_room (Nat.le_of_ble_eq_true rfl)) dX4_told_2 ⟨Nat.le_of_ble_eq_true rfl, Nat.le_of_ble_eq_true rfl⟩) hS (fun _ _ h9 => h9) (fun _ h9 => h9) (fun ce q H locs hP hz9 hk9 hS hce hcv hcl => ?_)
  exact z_outx hout hlocks hP hS hce hcv hcl (by decide) (by decide)

set_option maxHeartbeats 4000000 in
set_option maxRecDepth 100000 in
theorem x_X4_told_2 (l : Launch) (hst : l.stackTraces = false) (G : z_GT) (ad : Nat → Nat) (σ : Nat → Nat → Int32) (κ : Nat → Nat → Nat) (hw : z_wf κ) (t : Nat) (ht : t < κ 0 1) (w : Int32) (h : w.toInt < 0 ∨ 5 < w.toInt) : vx_Met l yX4_told wsX4_told ({ frames := 7, cells := 1, slots := 6, locals := 103 } : Room) (z_Pt G [.ref (ad 0), .int (nI t), .int w] (z_wC G ad σ κ) (z_A 36 ad)) z_No (z_Xq G "java/lang/IndexOutOfBoundsException" (z_wC G ad σ κ) (z_A 36 ad)) 1 6 (z_A 36 ad) := by
  refine vx_ofW (cc := cX4_told) (maxL := 4) (ret := (some .int)) (by decide) rfl ?_
  intro p e s m args below meth c s₁ B hml hout hw0
  obtain ⟨rfl, hX, hP, hT⟩ := hw0
  have hK := hX.1
  have hx := B.exec
  have hb := B.bytes
  have hr := B.returns
  have hts := atoms_spec (ws := wsX4_told) B.pre
  have hown : s.vm.findClass RX4 = some m.cls := findClass_of_methodNamed B.named
  have hlocks := B.notSynchronized
  have hl := lv_entry ([.ref (ad 0), .int (nI t), .int w]) (n := 4) (Nat.le_of_ble_eq_true rfl)
  rw [lg_entry_eq]
  generalize (lg_sl ([.ref (ad 0), .int (nI t), .int w]) ++ List.replicate (4 - (lg_sl ([.ref (ad 0), .int (nI t), .int w])).length) Slot.unset).toArray = ls at hl ⊢
  have hl : lv_has ls 4 [(0, .ref (ad 0)), (1, .int (nI t)), (2, .int w)] := hl
  have ha_101 : ∀ w ∈ (vx_atS RX4 101 "java/lang/IndexOutOfBoundsException" z_up2).filter goodWord, w ∈ wsX4_told := by decide +kernel
  have hf_RX4_17 : (Cond.fieldLink RX4 17 "BlossomTours" "tours" "[LBlossomTours$Tour;").before ([.ref (ad 0), .int (nI t), .int w] : List Value).toArray s = true := hts _ (by decide +kernel)
  have hi_RX4 : ∀ w ∈ u_ws RX4 TX4 9, w ∈ wsX4_told := by decide +kernel
  have hS : va_S (z_A 36 ad) s.heap s.heap [] := va_S.rf
  refine lv_aload_n hx hb dX4_told_0 rfl (lv_at hl 0 rfl) ?_
  refine lv_iload_n hx hb dX4_told_1 rfl (lv_at hl 1 rfl) ?_
  refine z_call (va_runV (As := [.int (nI t)]) (rest := []) ⟨hx, hb, hml, hown, hts⟩ (c_X4_checkTour l G ad σ κ t ht (Nat.le_trans hw.2.1 (by decide))) (cwV 1 hts gX4_told_X4_checkTour rfl rfl rfl (by decide +kernel) ⟨Nat.le_of_ble_eq_true rfl, Nat.le_of_ble_eq_true rfl⟩) (z_prV (ci := 4) (k := 0) hX hP rfl z_g0) rfl rfl hl.1 rfl (lv_room (Nat.le_of_ble_eq_true rfl)) dX4_told_2 ⟨Nat.le_of_ble_eq_true rfl, Nat.le_of_ble_eq_true rfl⟩) (fun _ h9 => h9) ?_
  refine lv_aload_n hx hb dX4_told_5 rfl (lv_at hl 0 rfl) ?_
  refine va_get (D := z_DD G) (ci := 4) (v := .ref (ad 2)) (C := RX4) (T := TX4) (N := 9) hx hb hts hi_RX4 hown hK hP 0 z_g0 rfl 1 (by decide) hf_RX4_17 (fun _ h9 => h9) rfl dX4_told_6 ?_
  refine lv_iload_n hx hb dX4_told_9 rfl (lv_at hl 1 rfl) ?_
  refine z_aald (k := t) (g := fun j => ad (16 + j)) hx hb hK hP 2 2 z_g2 rfl (Nat.lt_of_lt_of_le ht hw.2.1) (by decide) dX4_told_10 ?_
  refine lv_astore_n (lv' := [(3, .ref (ad (16 + t))), (0, .ref (ad 0)), (1, .int (nI t)), (2, .int w)]) hx hb dX4_told_11 rfl hl (by decide) rfl (fun ls hl => ?_)
  refine lv_iload_n hx hb dX4_told_12 rfl (lv_at hl 3 rfl) ?_
  refine lv_tableOut (tgt := 100) hx hb dX4_told_13 (h) (by decide) ?_
  exact z_throw (cls := "java/lang/IndexOutOfBoundsException") (text := "what is not 0 to 5") (ik := 97) (is := 168) (ic := 101) hx hb hst hown (by decide +kernel) (hts (.classLink RX4 97 "java/lang/IndexOutOfBoundsException") (by decide +kernel)) (hts (.initialized "java/lang/IndexOutOfBoundsException") (by decide +kernel)) (List.mem_of_getElem? (i := 2) rfl) (fun w h9 => hts w (ha_101 w h9)) (by decide +kernel) (by decide +kernel) (by decide +kernel) hT hS hP (hl.1.trans hml.symm) dX4_told_100 dX4_told_103 dX4_told_104 dX4_told_106 dX4_told_109 hout (Nat.le_of_ble_eq_true rfl) (Nat.le_of_ble_eq_true rfl) (Nat.le_of_ble_eq_true rfl) (Nat.le_of_ble_eq_true rfl) hlocks

set_option maxHeartbeats 4000000 in
set_option maxRecDepth 100000 in
theorem x_X4_about_1 (l : Launch) (hst : l.stackTraces = false) (G : z_GT) (ad : Nat → Nat) (σ : Nat → Nat → Int32) (κ : Nat → Nat → Nat) (v w : Int32) (h : v < 0 ∨ ¬ v < nI (κ 0 0)) : vx_Met l yX4_about wsX4_about ({ frames := 7, cells := 1, slots := 6, locals := 103 } : Room) (z_Pt G [.ref (ad 0), .int v, .int w] (z_wC G ad σ κ) (z_A 36 ad)) z_No (z_Xq G "java/lang/IndexOutOfBoundsException" (z_wC G ad σ κ) (z_A 36 ad)) 1 6 (z_A 36 ad) := by
  refine vx_ofW (cc := cX4_about) (maxL := 4) (ret := (some .int)) (by decide) rfl ?_
  intro p e s m args below meth c s₁ B hml hout hw0
  obtain ⟨rfl, hX, hP, hT⟩ := hw0
  have hK := hX.1
  have hx := B.exec
  have hb := B.bytes
  have hr := B.returns
  have hts := atoms_spec (ws := wsX4_about) B.pre
  have hown : s.vm.findClass RX4 = some m.cls := findClass_of_methodNamed B.named
  have hlocks := B.notSynchronized
  have hl := lv_entry ([.ref (ad 0), .int v, .int w]) (n := 4) (Nat.le_of_ble_eq_true rfl)
  rw [lg_entry_eq]
  generalize (lg_sl ([.ref (ad 0), .int v, .int w]) ++ List.replicate (4 - (lg_sl ([.ref (ad 0), .int v, .int w])).length) Slot.unset).toArray = ls at hl ⊢
  have hl : lv_has ls 4 [(0, .ref (ad 0)), (1, .int v), (2, .int w)] := hl
  have hS : va_S (z_A 36 ad) s.heap s.heap [] := va_S.rf
  refine lv_aload_n hx hb dX4_about_0 rfl (lv_at hl 0 rfl) ?_
  refine lv_iload_n hx hb dX4_about_1 rfl (lv_at hl 1 rfl) ?_
  refine z_callx (vx_runV (As := [.int v]) (rest := []) ⟨hx, hb, hml, hown, hts⟩ (x_X4_checkValley l hst G ad σ κ v h) (cwV 1 hts gX4_about_X4_checkValley rfl rfl rfl (by decide +kernel) ⟨Nat.le_of_ble_eq_true rfl, Nat.le_of_ble_eq_true rfl⟩) (z_ptV (ci := 4) (k := 0) hX hP (hT.kept hS.2.1) rfl z_g0) rfl rfl hl.1 rfl (lv_room (Nat.le_of_ble_eq_true rfl)) dX4_about_2 ⟨Nat.le_of_ble_eq_true rfl, Nat.le_of_ble_eq_true rfl⟩) hS (fun _ _ h9 => h9) (fun _ h9 => h9) (fun ce q H locs hP hz9 hk9 hS hce hcv hcl => ?_)
  exact z_outx hout hlocks hP hS hce hcv hcl (by decide) (by decide)

set_option maxHeartbeats 4000000 in
set_option maxRecDepth 100000 in
theorem x_X4_about_2 (l : Launch) (hst : l.stackTraces = false) (G : z_GT) (ad : Nat → Nat) (σ : Nat → Nat → Int32) (κ : Nat → Nat → Nat) (hw : z_wf κ) (v : Nat) (hv : v < κ 0 0) (w : Int32) (h : w.toInt < 0 ∨ 5 < w.toInt) : vx_Met l yX4_about wsX4_about ({ frames := 7, cells := 1, slots := 6, locals := 103 } : Room) (z_Pt G [.ref (ad 0), .int (nI v), .int w] (z_wC G ad σ κ) (z_A 36 ad)) z_No (z_Xq G "java/lang/IndexOutOfBoundsException" (z_wC G ad σ κ) (z_A 36 ad)) 1 6 (z_A 36 ad) := by
  refine vx_ofW (cc := cX4_about) (maxL := 4) (ret := (some .int)) (by decide) rfl ?_
  intro p e s m args below meth c s₁ B hml hout hw0
  obtain ⟨rfl, hX, hP, hT⟩ := hw0
  have hK := hX.1
  have hx := B.exec
  have hb := B.bytes
  have hr := B.returns
  have hts := atoms_spec (ws := wsX4_about) B.pre
  have hown : s.vm.findClass RX4 = some m.cls := findClass_of_methodNamed B.named
  have hlocks := B.notSynchronized
  have hl := lv_entry ([.ref (ad 0), .int (nI v), .int w]) (n := 4) (Nat.le_of_ble_eq_true rfl)
  rw [lg_entry_eq]
  generalize (lg_sl ([.ref (ad 0), .int (nI v), .int w]) ++ List.replicate (4 - (lg_sl ([.ref (ad 0), .int (nI v), .int w])).length) Slot.unset).toArray = ls at hl ⊢
  have hl : lv_has ls 4 [(0, .ref (ad 0)), (1, .int (nI v)), (2, .int w)] := hl
  have ha_101 : ∀ w ∈ (vx_atS RX4 101 "java/lang/IndexOutOfBoundsException" z_up2).filter goodWord, w ∈ wsX4_about := by decide +kernel
  have hf_RX4_11 : (Cond.fieldLink RX4 11 "BlossomTours" "valleys" "[LBlossomTours$Valley;").before ([.ref (ad 0), .int (nI v), .int w] : List Value).toArray s = true := hts _ (by decide +kernel)
  have hi_RX4 : ∀ w ∈ u_ws RX4 TX4 9, w ∈ wsX4_about := by decide +kernel
  have hS : va_S (z_A 36 ad) s.heap s.heap [] := va_S.rf
  refine lv_aload_n hx hb dX4_about_0 rfl (lv_at hl 0 rfl) ?_
  refine lv_iload_n hx hb dX4_about_1 rfl (lv_at hl 1 rfl) ?_
  refine z_call (va_runV (As := [.int (nI v)]) (rest := []) ⟨hx, hb, hml, hown, hts⟩ (c_X4_checkValley l G ad σ κ v hv hw.1) (cwV 1 hts gX4_about_X4_checkValley rfl rfl rfl (by decide +kernel) ⟨Nat.le_of_ble_eq_true rfl, Nat.le_of_ble_eq_true rfl⟩) (z_prV (ci := 4) (k := 0) hX hP rfl z_g0) rfl rfl hl.1 rfl (lv_room (Nat.le_of_ble_eq_true rfl)) dX4_about_2 ⟨Nat.le_of_ble_eq_true rfl, Nat.le_of_ble_eq_true rfl⟩) (fun _ h9 => h9) ?_
  refine lv_aload_n hx hb dX4_about_5 rfl (lv_at hl 0 rfl) ?_
  refine va_get (D := z_DD G) (ci := 4) (v := .ref (ad 1)) (C := RX4) (T := TX4) (N := 9) hx hb hts hi_RX4 hown hK hP 0 z_g0 rfl 0 (by decide) hf_RX4_11 (fun _ h9 => h9) rfl dX4_about_6 ?_
  refine lv_iload_n hx hb dX4_about_9 rfl (lv_at hl 1 rfl) ?_
  refine z_aald (k := v) (g := fun j => ad (8 + j)) hx hb hK hP 1 1 z_g1 rfl (Nat.lt_of_lt_of_le hv hw.1) (by decide) dX4_about_10 ?_
  refine lv_astore_n (lv' := [(3, .ref (ad (8 + v))), (0, .ref (ad 0)), (1, .int (nI v)), (2, .int w)]) hx hb dX4_about_11 rfl hl (by decide) rfl (fun ls hl => ?_)
  refine lv_iload_n hx hb dX4_about_12 rfl (lv_at hl 3 rfl) ?_
  refine lv_tableOut (tgt := 86) hx hb dX4_about_13 (h) (by decide) ?_
  exact z_throw (cls := "java/lang/IndexOutOfBoundsException") (text := "what is not 0 to 5") (ik := 97) (is := 168) (ic := 101) hx hb hst hown (by decide +kernel) (hts (.classLink RX4 97 "java/lang/IndexOutOfBoundsException") (by decide +kernel)) (hts (.initialized "java/lang/IndexOutOfBoundsException") (by decide +kernel)) (List.mem_of_getElem? (i := 2) rfl) (fun w h9 => hts w (ha_101 w h9)) (by decide +kernel) (by decide +kernel) (by decide +kernel) hT hS hP (hl.1.trans hml.symm) dX4_about_86 dX4_about_89 dX4_about_90 dX4_about_92 dX4_about_95 hout (Nat.le_of_ble_eq_true rfl) (Nat.le_of_ble_eq_true rfl) (Nat.le_of_ble_eq_true rfl) (Nat.le_of_ble_eq_true rfl) hlocks

set_option maxHeartbeats 4000000 in
set_option maxRecDepth 100000 in
theorem x_X4_count_1 (l : Launch) (hst : l.stackTraces = false) (G : z_GT) (ad : Nat → Nat) (σ : Nat → Nat → Int32) (κ : Nat → Nat → Nat) (w : Int32) (h : w.toInt < 0 ∨ 8 < w.toInt) : vx_Met l yX4_count wsX4_count ({ frames := 6, cells := 1, slots := 6, locals := 82 } : Room) (z_Pt G [.ref (ad 0), .int w] (z_wC G ad σ κ) (z_A 36 ad)) z_No (z_Xq G "java/lang/IndexOutOfBoundsException" (z_wC G ad σ κ) (z_A 36 ad)) 1 6 (z_A 36 ad) := by
  refine vx_ofW (cc := cX4_count) (maxL := 2) (ret := (some .int)) (by decide) rfl ?_
  intro p e s m args below meth c s₁ B hml hout hw0
  obtain ⟨rfl, hX, hP, hT⟩ := hw0
  have hK := hX.1
  have hx := B.exec
  have hb := B.bytes
  have hr := B.returns
  have hts := atoms_spec (ws := wsX4_count) B.pre
  have hown : s.vm.findClass RX4 = some m.cls := findClass_of_methodNamed B.named
  have hlocks := B.notSynchronized
  have hl := lv_entry ([.ref (ad 0), .int w]) (n := 2) (Nat.le_of_ble_eq_true rfl)
  rw [lg_entry_eq]
  generalize (lg_sl ([.ref (ad 0), .int w]) ++ List.replicate (2 - (lg_sl ([.ref (ad 0), .int w])).length) Slot.unset).toArray = ls at hl ⊢
  have hl : lv_has ls 2 [(0, .ref (ad 0)), (1, .int w)] := hl
  have ha_101 : ∀ w ∈ (vx_atS RX4 101 "java/lang/IndexOutOfBoundsException" z_up2).filter goodWord, w ∈ wsX4_count := by decide +kernel
  have hS : va_S (z_A 36 ad) s.heap s.heap [] := va_S.rf
  refine lv_iload_n hx hb dX4_count_0 rfl (lv_at hl 1 rfl) ?_
  refine lv_tableOut (tgt := 113) hx hb dX4_count_1 (h) (by decide) ?_
  exact z_throw (cls := "java/lang/IndexOutOfBoundsException") (text := "what is not 0 to 8") (ik := 97) (is := 191) (ic := 101) hx hb hst hown (by decide +kernel) (hts (.classLink RX4 97 "java/lang/IndexOutOfBoundsException") (by decide +kernel)) (hts (.initialized "java/lang/IndexOutOfBoundsException") (by decide +kernel)) (List.mem_of_getElem? (i := 0) rfl) (fun w h9 => hts w (ha_101 w h9)) (by decide +kernel) (by decide +kernel) (by decide +kernel) hT hS hP (hl.1.trans hml.symm) dX4_count_113 dX4_count_116 dX4_count_117 dX4_count_119 dX4_count_122 hout (Nat.le_of_ble_eq_true rfl) (Nat.le_of_ble_eq_true rfl) (Nat.le_of_ble_eq_true rfl) (Nat.le_of_ble_eq_true rfl) hlocks

set_option maxHeartbeats 4000000 in
set_option maxRecDepth 100000 in
theorem x_X4_pass_1 (l : Launch) (hst : l.stackTraces = false) (G : z_GT) (ad : Nat → Nat) (σ : Nat → Nat → Int32) (κ : Nat → Nat → Nat) (n : Int32) (h : z_wi n 1 60 = 0) : vx_Met l yX4_pass wsX4_pass ({ frames := 7, cells := 1, slots := 6, locals := 102 } : Room) (z_Pt G [.ref (ad 0), .int n] (z_wC G ad σ κ) (z_A 36 ad)) z_No (z_Xq G "java/lang/IllegalArgumentException" (z_wC G ad σ κ) (z_A 36 ad)) 1 6 (z_A 36 ad) := by
  refine vx_ofW (cc := cX4_pass) (maxL := 3) (ret := (some .int)) (by decide) rfl ?_
  intro p e s m args below meth c s₁ B hml hout hw0
  obtain ⟨rfl, hX, hP, hT⟩ := hw0
  have hK := hX.1
  have hx := B.exec
  have hb := B.bytes
  have hr := B.returns
  have hts := atoms_spec (ws := wsX4_pass) B.pre
  have hown : s.vm.findClass RX4 = some m.cls := findClass_of_methodNamed B.named
  have hlocks := B.notSynchronized
  have hl := lv_entry ([.ref (ad 0), .int n]) (n := 3) (Nat.le_of_ble_eq_true rfl)
  rw [lg_entry_eq]
  generalize (lg_sl ([.ref (ad 0), .int n]) ++ List.replicate (3 - (lg_sl ([.ref (ad 0), .int n])).length) Slot.unset).toArray = ls at hl ⊢
  have hl : lv_has ls 3 [(0, .ref (ad 0)), (1, .int n)] := hl
  have hS : va_S (z_A 36 ad) s.heap s.heap [] := va_S.rf
  refine lv_iload_n hx hb dX4_pass_0 rfl (lv_at hl 1 rfl) ?_
  refine z_callx (vx_runS (As := [.int n]) (rest := []) ⟨hx, hb, hml, hown, hts⟩ (x_X4_checkSpan l hst G (z_wC G ad σ κ) (z_A 36 ad) n h) (va_cwS 1 hts gX4_pass_X4_checkSpan rfl rfl rfl (by decide +kernel) ⟨Nat.le_of_ble_eq_true rfl, Nat.le_of_ble_eq_true rfl⟩) (z_ptS hX hP (hT.kept hS.2.1)) rfl rfl hl.1 rfl (lv_room (Nat.le_of_ble_eq_true rfl)) dX4_pass_1 ⟨Nat.le_of_ble_eq_true rfl, Nat.le_of_ble_eq_true rfl⟩) hS (fun _ _ h9 => h9) (fun _ h9 => h9) (fun ce q H locs hP hz9 hk9 hS hce hcv hcl => ?_)
  exact z_outx hout hlocks hP hS hce hcv hcl (by decide) (by decide)

set_option maxHeartbeats 4000000 in
set_option maxRecDepth 100000 in
theorem x_X4_joy_1 (l : Launch) (hst : l.stackTraces = false) (G : z_GT) (ad : Nat → Nat) (σ : Nat → Nat → Int32) (κ : Nat → Nat → Nat) (v d : Int32) (h : v < 0 ∨ ¬ v < nI (κ 0 1)) : vx_Met l yX4_joy wsX4_joy ({ frames := 7, cells := 1, slots := 6, locals := 103 } : Room) (z_Pt G [.ref (ad 0), .int v, .int d] (z_wC G ad σ κ) (z_A 36 ad)) z_No (z_Xq G "java/lang/IndexOutOfBoundsException" (z_wC G ad σ κ) (z_A 36 ad)) 1 6 (z_A 36 ad) := by
  refine vx_ofW (cc := cX4_joy) (maxL := 3) (ret := (some .int)) (by decide) rfl ?_
  intro p e s m args below meth c s₁ B hml hout hw0
  obtain ⟨rfl, hX, hP, hT⟩ := hw0
  have hK := hX.1
  have hx := B.exec
  have hb := B.bytes
  have hr := B.returns
  have hts := atoms_spec (ws := wsX4_joy) B.pre
  have hown : s.vm.findClass RX4 = some m.cls := findClass_of_methodNamed B.named
  have hlocks := B.notSynchronized
  have hl := lv_entry ([.ref (ad 0), .int v, .int d]) (n := 3) (Nat.le_of_ble_eq_true rfl)
  rw [lg_entry_eq]
  generalize (lg_sl ([.ref (ad 0), .int v, .int d]) ++ List.replicate (3 - (lg_sl ([.ref (ad 0), .int v, .int d])).length) Slot.unset).toArray = ls at hl ⊢
  have hl : lv_has ls 3 [(0, .ref (ad 0)), (1, .int v), (2, .int d)] := hl
  have hS : va_S (z_A 36 ad) s.heap s.heap [] := va_S.rf
  refine lv_aload_n hx hb dX4_joy_0 rfl (lv_at hl 0 rfl) ?_
  refine lv_iload_n hx hb dX4_joy_1 rfl (lv_at hl 1 rfl) ?_
  refine z_callx (vx_runV (As := [.int v]) (rest := []) ⟨hx, hb, hml, hown, hts⟩ (x_X4_checkTour l hst G ad σ κ v h) (cwV 1 hts gX4_joy_X4_checkTour rfl rfl rfl (by decide +kernel) ⟨Nat.le_of_ble_eq_true rfl, Nat.le_of_ble_eq_true rfl⟩) (z_ptV (ci := 4) (k := 0) hX hP (hT.kept hS.2.1) rfl z_g0) rfl rfl hl.1 rfl (lv_room (Nat.le_of_ble_eq_true rfl)) dX4_joy_2 ⟨Nat.le_of_ble_eq_true rfl, Nat.le_of_ble_eq_true rfl⟩) hS (fun _ _ h9 => h9) (fun _ h9 => h9) (fun ce q H locs hP hz9 hk9 hS hce hcv hcl => ?_)
  exact z_outx hout hlocks hP hS hce hcv hcl (by decide) (by decide)

set_option maxHeartbeats 4000000 in
set_option maxRecDepth 100000 in
theorem x_X4_joy_2 (l : Launch) (hst : l.stackTraces = false) (G : z_GT) (ad : Nat → Nat) (σ : Nat → Nat → Int32) (κ : Nat → Nat → Nat) (hw : z_wf κ) (t : Nat) (ht : t < κ 0 1) (d : Int32) (h : d < 0) : vx_Met l yX4_joy wsX4_joy ({ frames := 7, cells := 1, slots := 6, locals := 103 } : Room) (z_Pt G [.ref (ad 0), .int (nI t), .int d] (z_wC G ad σ κ) (z_A 36 ad)) z_No (z_Xq G "java/lang/IllegalArgumentException" (z_wC G ad σ κ) (z_A 36 ad)) 1 6 (z_A 36 ad) := by
  refine vx_ofW (cc := cX4_joy) (maxL := 3) (ret := (some .int)) (by decide) rfl ?_
  intro p e s m args below meth c s₁ B hml hout hw0
  obtain ⟨rfl, hX, hP, hT⟩ := hw0
  have hK := hX.1
  have hx := B.exec
  have hb := B.bytes
  have hr := B.returns
  have hts := atoms_spec (ws := wsX4_joy) B.pre
  have hown : s.vm.findClass RX4 = some m.cls := findClass_of_methodNamed B.named
  have hlocks := B.notSynchronized
  have hl := lv_entry ([.ref (ad 0), .int (nI t), .int d]) (n := 3) (Nat.le_of_ble_eq_true rfl)
  rw [lg_entry_eq]
  generalize (lg_sl ([.ref (ad 0), .int (nI t), .int d]) ++ List.replicate (3 - (lg_sl ([.ref (ad 0), .int (nI t), .int d])).length) Slot.unset).toArray = ls at hl ⊢
  have hl : lv_has ls 3 [(0, .ref (ad 0)), (1, .int (nI t)), (2, .int d)] := hl
  have hS : va_S (z_A 36 ad) s.heap s.heap [] := va_S.rf
  refine lv_aload_n hx hb dX4_joy_0 rfl (lv_at hl 0 rfl) ?_
  refine lv_iload_n hx hb dX4_joy_1 rfl (lv_at hl 1 rfl) ?_
  refine z_call (va_runV (As := [.int (nI t)]) (rest := []) ⟨hx, hb, hml, hown, hts⟩ (c_X4_checkTour l G ad σ κ t ht (Nat.le_trans hw.2.1 (by decide))) (cwV 1 hts gX4_joy_X4_checkTour rfl rfl rfl (by decide +kernel) ⟨Nat.le_of_ble_eq_true rfl, Nat.le_of_ble_eq_true rfl⟩) (z_prV (ci := 4) (k := 0) hX hP rfl z_g0) rfl rfl hl.1 rfl (lv_room (Nat.le_of_ble_eq_true rfl)) dX4_joy_2 ⟨Nat.le_of_ble_eq_true rfl, Nat.le_of_ble_eq_true rfl⟩) (fun _ h9 => h9) ?_
  refine lv_iload_n hx hb dX4_joy_5 rfl (lv_at hl 2 rfl) ?_
  refine z_callx (vx_runS (As := [.int d]) (rest := []) ⟨hx, hb, hml, hown, hts⟩ (x_X4_checkDay l hst G (z_wC G ad σ κ) (z_A 36 ad) d h) (va_cwS 1 hts gX4_joy_X4_checkDay rfl rfl rfl (by decide +kernel) ⟨Nat.le_of_ble_eq_true rfl, Nat.le_of_ble_eq_true rfl⟩) (z_ptS hX hP (hT.kept hS.2.1)) rfl rfl hl.1 rfl (lv_room (Nat.le_of_ble_eq_true rfl)) dX4_joy_6 ⟨Nat.le_of_ble_eq_true rfl, Nat.le_of_ble_eq_true rfl⟩) hS (fun _ _ h9 => h9) (fun _ h9 => h9) (fun ce q H locs hP hz9 hk9 hS hce hcv hcl => ?_)
  exact z_outx hout hlocks hP hS hce hcv hcl (by decide) (by decide)

set_option maxHeartbeats 4000000 in
set_option maxRecDepth 100000 in
theorem x_X4_best_1 (l : Launch) (hst : l.stackTraces = false) (G : z_GT) (ad : Nat → Nat) (σ : Nat → Nat → Int32) (κ : Nat → Nat → Nat) (v : Int32) (h : v < 0 ∨ ¬ v < nI (κ 0 1)) : vx_Met l yX4_best wsX4_best ({ frames := 7, cells := 1, slots := 6, locals := 103 } : Room) (z_Pt G [.ref (ad 0), .int v] (z_wC G ad σ κ) (z_A 36 ad)) z_No (z_Xq G "java/lang/IndexOutOfBoundsException" (z_wC G ad σ κ) (z_A 36 ad)) 1 6 (z_A 36 ad) := by
  refine vx_ofW (cc := cX4_best) (maxL := 6) (ret := (some .int)) (by decide) rfl ?_
  intro p e s m args below meth c s₁ B hml hout hw0
  obtain ⟨rfl, hX, hP, hT⟩ := hw0
  have hK := hX.1
  have hx := B.exec
  have hb := B.bytes
  have hr := B.returns
  have hts := atoms_spec (ws := wsX4_best) B.pre
  have hown : s.vm.findClass RX4 = some m.cls := findClass_of_methodNamed B.named
  have hlocks := B.notSynchronized
  have hl := lv_entry ([.ref (ad 0), .int v]) (n := 6) (Nat.le_of_ble_eq_true rfl)
  rw [lg_entry_eq]
  generalize (lg_sl ([.ref (ad 0), .int v]) ++ List.replicate (6 - (lg_sl ([.ref (ad 0), .int v])).length) Slot.unset).toArray = ls at hl ⊢
  have hl : lv_has ls 6 [(0, .ref (ad 0)), (1, .int v)] := hl
  have hS : va_S (z_A 36 ad) s.heap s.heap [] := va_S.rf
  refine lv_aload_n hx hb dX4_best_0 rfl (lv_at hl 0 rfl) ?_
  refine lv_iload_n hx hb dX4_best_1 rfl (lv_at hl 1 rfl) ?_
  refine z_callx (vx_runV (As := [.int v]) (rest := []) ⟨hx, hb, hml, hown, hts⟩ (x_X4_checkTour l hst G ad σ κ v h) (cwV 1 hts gX4_best_X4_checkTour rfl rfl rfl (by decide +kernel) ⟨Nat.le_of_ble_eq_true rfl, Nat.le_of_ble_eq_true rfl⟩) (z_ptV (ci := 4) (k := 0) hX hP (hT.kept hS.2.1) rfl z_g0) rfl rfl hl.1 rfl (lv_room (Nat.le_of_ble_eq_true rfl)) dX4_best_2 ⟨Nat.le_of_ble_eq_true rfl, Nat.le_of_ble_eq_true rfl⟩) hS (fun _ _ h9 => h9) (fun _ h9 => h9) (fun ce q H locs hP hz9 hk9 hS hce hcv hcl => ?_)
  exact z_outx hout hlocks hP hS hce hcv hcl (by decide) (by decide)

set_option maxHeartbeats 4000000 in
set_option maxRecDepth 100000 in
theorem x_X4_advise_1 (l : Launch) (hst : l.stackTraces = false) (G : z_GT) (ad : Nat → Nat) (σ : Nat → Nat → Int32) (κ : Nat → Nat → Nat) (v : Int32) (h : v < 0 ∨ ¬ v < nI (κ 0 1)) : vx_Met l yX4_advise wsX4_advise ({ frames := 7, cells := 1, slots := 6, locals := 103 } : Room) (z_Pt G [.ref (ad 0), .int v] (z_wC G ad σ κ) (z_A 36 ad)) z_No (z_Xq G "java/lang/IndexOutOfBoundsException" (z_wC G ad σ κ) (z_A 36 ad)) 1 6 (z_A 36 ad) := by
  refine vx_ofW (cc := cX4_advise) (maxL := 7) (ret := (some .int)) (by decide) rfl ?_
  intro p e s m args below meth c s₁ B hml hout hw0
  obtain ⟨rfl, hX, hP, hT⟩ := hw0
  have hK := hX.1
  have hx := B.exec
  have hb := B.bytes
  have hr := B.returns
  have hts := atoms_spec (ws := wsX4_advise) B.pre
  have hown : s.vm.findClass RX4 = some m.cls := findClass_of_methodNamed B.named
  have hlocks := B.notSynchronized
  have hl := lv_entry ([.ref (ad 0), .int v]) (n := 7) (Nat.le_of_ble_eq_true rfl)
  rw [lg_entry_eq]
  generalize (lg_sl ([.ref (ad 0), .int v]) ++ List.replicate (7 - (lg_sl ([.ref (ad 0), .int v])).length) Slot.unset).toArray = ls at hl ⊢
  have hl : lv_has ls 7 [(0, .ref (ad 0)), (1, .int v)] := hl
  have hS : va_S (z_A 36 ad) s.heap s.heap [] := va_S.rf
  refine lv_aload_n hx hb dX4_advise_0 rfl (lv_at hl 0 rfl) ?_
  refine lv_iload_n hx hb dX4_advise_1 rfl (lv_at hl 1 rfl) ?_
  refine z_callx (vx_runV (As := [.int v]) (rest := []) ⟨hx, hb, hml, hown, hts⟩ (x_X4_checkTour l hst G ad σ κ v h) (cwV 1 hts gX4_advise_X4_checkTour rfl rfl rfl (by decide +kernel) ⟨Nat.le_of_ble_eq_true rfl, Nat.le_of_ble_eq_true rfl⟩) (z_ptV (ci := 4) (k := 0) hX hP (hT.kept hS.2.1) rfl z_g0) rfl rfl hl.1 rfl (lv_room (Nat.le_of_ble_eq_true rfl)) dX4_advise_2 ⟨Nat.le_of_ble_eq_true rfl, Nat.le_of_ble_eq_true rfl⟩) hS (fun _ _ h9 => h9) (fun _ h9 => h9) (fun ce q H locs hP hz9 hk9 hS hce hcv hcl => ?_)
  exact z_outx hout hlocks hP hS hce hcv hcl (by decide) (by decide)

set_option maxHeartbeats 4000000 in
set_option maxRecDepth 100000 in
theorem x_X4_foresee_1 (l : Launch) (hst : l.stackTraces = false) (G : z_GT) (ad : Nat → Nat) (σ : Nat → Nat → Int32) (κ : Nat → Nat → Nat) (n w : Int32) (h : z_wi n 1 60 = 0) : vx_Met l yX4_foresee wsX4_foresee ({ frames := 7, cells := 1, slots := 6, locals := 118 } : Room) (z_Pt G [.ref (ad 0), .int n, .int w] (z_wC G ad σ κ) (z_A 36 ad)) z_No (z_Xq G "java/lang/IllegalArgumentException" (z_wC G ad σ κ) (z_A 36 ad)) 1 6 (z_A 36 ad) := by
  refine vx_ofW (cc := cX4_foresee) (maxL := 3) (ret := (some .int)) (by decide) rfl ?_
  intro p e s m args below meth c s₁ B hml hout hw0
  obtain ⟨rfl, hX, hP, hT⟩ := hw0
  have hK := hX.1
  have hx := B.exec
  have hb := B.bytes
  have hr := B.returns
  have hts := atoms_spec (ws := wsX4_foresee) B.pre
  have hown : s.vm.findClass RX4 = some m.cls := findClass_of_methodNamed B.named
  have hlocks := B.notSynchronized
  have hl := lv_entry ([.ref (ad 0), .int n, .int w]) (n := 3) (Nat.le_of_ble_eq_true rfl)
  rw [lg_entry_eq]
  generalize (lg_sl ([.ref (ad 0), .int n, .int w]) ++ List.replicate (3 - (lg_sl ([.ref (ad 0), .int n, .int w])).length) Slot.unset).toArray = ls at hl ⊢
  have hl : lv_has ls 3 [(0, .ref (ad 0)), (1, .int n), (2, .int w)] := hl
  have hS : va_S (z_A 36 ad) s.heap s.heap [] := va_S.rf
  refine lv_iload_n hx hb dX4_foresee_0 rfl (lv_at hl 1 rfl) ?_
  refine z_callx (vx_runS (As := [.int n]) (rest := []) ⟨hx, hb, hml, hown, hts⟩ (x_X4_checkSpan l hst G (z_wC G ad σ κ) (z_A 36 ad) n h) (va_cwS 1 hts gX4_foresee_X4_checkSpan rfl rfl rfl (by decide +kernel) ⟨Nat.le_of_ble_eq_true rfl, Nat.le_of_ble_eq_true rfl⟩) (z_ptS hX hP (hT.kept hS.2.1)) rfl rfl hl.1 rfl (lv_room (Nat.le_of_ble_eq_true rfl)) dX4_foresee_1 ⟨Nat.le_of_ble_eq_true rfl, Nat.le_of_ble_eq_true rfl⟩) hS (fun _ _ h9 => h9) (fun _ h9 => h9) (fun ce q H locs hP hz9 hk9 hS hce hcv hcl => ?_)
  exact z_outx hout hlocks hP hS hce hcv hcl (by decide) (by decide)

set_option maxHeartbeats 4000000 in
set_option maxRecDepth 100000 in
theorem x_X4_foresee_2 (l : Launch) (hst : l.stackTraces = false) (G : z_GT) (ad : Nat → Nat) (σ : Nat → Nat → Int32) (κ : Nat → Nat → Nat) (hinj : ∀ i j, i < 36 → j < 36 → ad i = ad j → i = j) (hw : z_wf κ) (T n : Nat) (hT9 : σ 8 1 = nI T) (hT2 : T + n < 2 ^ 31) (g : ¬ z_wi (nI n) 1 60 = 0) (w : Int32) (h : w.toInt < 5 ∨ 8 < w.toInt) : vx_Met l yX4_foresee wsX4_foresee ({ frames := 7, cells := 1, slots := 6, locals := 118 } : Room) (z_Pt G [.ref (ad 0), .int (nI n), .int w] (z_wC G ad σ κ) (z_A 36 ad)) z_No (z_Xq G "java/lang/IndexOutOfBoundsException" (z_wC G ad (z_fd σ κ T n) κ) (z_A 36 ad)) 1 6 (z_A 36 ad) := by
  refine vx_ofW (cc := cX4_foresee) (maxL := 3) (ret := (some .int)) (by decide) rfl ?_
  intro p e s m args below meth c s₁ B hml hout hw0
  obtain ⟨rfl, hX, hP, hT⟩ := hw0
  have hK := hX.1
  have hx := B.exec
  have hb := B.bytes
  have hr := B.returns
  have hts := atoms_spec (ws := wsX4_foresee) B.pre
  have hown : s.vm.findClass RX4 = some m.cls := findClass_of_methodNamed B.named
  have hlocks := B.notSynchronized
  have hl := lv_entry ([.ref (ad 0), .int (nI n), .int w]) (n := 3) (Nat.le_of_ble_eq_true rfl)
  rw [lg_entry_eq]
  generalize (lg_sl ([.ref (ad 0), .int (nI n), .int w]) ++ List.replicate (3 - (lg_sl ([.ref (ad 0), .int (nI n), .int w])).length) Slot.unset).toArray = ls at hl ⊢
  have hl : lv_has ls 3 [(0, .ref (ad 0)), (1, .int (nI n)), (2, .int w)] := hl
  have ha_101 : ∀ w ∈ (vx_atS RX4 101 "java/lang/IndexOutOfBoundsException" z_up2).filter goodWord, w ∈ wsX4_foresee := by decide +kernel
  have hf_RX4_35 : (Cond.fieldLink RX4 35 "BlossomTours" "books" "LBlossomTours$Books;").before ([.ref (ad 0), .int (nI n), .int w] : List Value).toArray s = true := hts _ (by decide +kernel)
  have hf_RX4_39 : (Cond.fieldLink RX4 39 "BlossomTours" "draft" "LBlossomTours$Books;").before ([.ref (ad 0), .int (nI n), .int w] : List Value).toArray s = true := hts _ (by decide +kernel)
  have hi_RX4 : ∀ w ∈ u_ws RX4 TX4 9, w ∈ wsX4_foresee := by decide +kernel
  have hS : va_S (z_A 36 ad) s.heap s.heap [] := va_S.rf
  refine lv_iload_n hx hb dX4_foresee_0 rfl (lv_at hl 1 rfl) ?_
  refine z_call (va_runS (As := [.int (nI n)]) (rest := []) ⟨hx, hb, hml, hown, hts⟩ (c_X4_checkSpan l G (nI n) g) (va_cwS 1 hts gX4_foresee_X4_checkSpan rfl rfl rfl (by decide +kernel) ⟨Nat.le_of_ble_eq_true rfl, Nat.le_of_ble_eq_true rfl⟩) (z_prS hX z_P0) rfl rfl hl.1 rfl (lv_room (Nat.le_of_ble_eq_true rfl)) dX4_foresee_1 ⟨Nat.le_of_ble_eq_true rfl, Nat.le_of_ble_eq_true rfl⟩) (fun _ h9 => h9) ?_
  refine lv_aload_n hx hb dX4_foresee_4 rfl (lv_at hl 0 rfl) ?_
  refine va_get (D := z_DD G) (ci := 4) (v := .ref (ad 7)) (C := RX4) (T := TX4) (N := 9) hx hb hts hi_RX4 hown hK hP 0 z_g0 rfl 5 (by decide) hf_RX4_39 (fun _ h9 => h9) rfl dX4_foresee_5 ?_
  refine lv_aload_n hx hb dX4_foresee_8 rfl (lv_at hl 0 rfl) ?_
  refine va_get (D := z_DD G) (ci := 4) (v := .ref (ad 6)) (C := RX4) (T := TX4) (N := 9) hx hb hts hi_RX4 hown hK hP 0 z_g0 rfl 4 (by decide) hf_RX4_35 (fun _ h9 => h9) rfl dX4_foresee_9 ?_
  refine z_callm (va_runVN (As := [.ref (ad 6)]) (rest := []) ⟨hx, hb, hml, hown, hts⟩ (c_X0_copyFrom l G ad σ κ hinj) ⟨va_cnB 1 hts gX4_foresee_X0_copyFrom_n203 rfl rfl rfl (z_nmw hX.2 16 rfl) (hts (.initialized RX0) (by decide +kernel)) (by decide +kernel) ⟨Nat.le_of_ble_eq_true rfl, Nat.le_of_ble_eq_true rfl⟩, hts (.instanceMethod yX0_copyFrom) (by decide +kernel), hts (.selects RX0 yX0_copyFrom yX0_copyFrom) (by decide +kernel)⟩ (z_prV (ci := 0) (k := 7) hX hP rfl z_g7) rfl rfl hl.1 rfl (lv_room (Nat.le_of_ble_eq_true rfl)) dX4_foresee_12 ⟨Nat.le_of_ble_eq_true rfl, Nat.le_of_ble_eq_true rfl⟩) hS (fun _ _ h9 => h9) (fun _ h9 => h9) (fun H locs hP hz9 hk9 hS => ?_)
  have hD := z_Dm hinj (z_cC G ad (z_k3 σ 5 (σ 8 2) (σ 8 3) (σ 8 4)) κ)
  refine lv_aload_n hx hb dX4_foresee_15 rfl (lv_at hl 0 rfl) ?_
  refine lv_aload_n hx hb dX4_foresee_16 rfl (lv_at hl 0 rfl) ?_
  refine va_get (D := z_DD G) (ci := 4) (v := .ref (ad 7)) (C := RX4) (T := TX4) (N := 9) hx hb hts hi_RX4 hown hK hP 0 z_g0 rfl 5 (by decide) hf_RX4_39 (fun _ h9 => h9) rfl dX4_foresee_17 ?_
  refine lv_iload_n hx hb dX4_foresee_20 rfl (lv_at hl 1 rfl) ?_
  refine z_callm (va_runV (As := [.ref (ad 7), .int (nI n)]) (rest := []) ⟨hx, hb, hml, hown, hts⟩ (c_X4_enterDays_d l G ad (z_k3 σ 5 (σ 8 2) (σ 8 3) (σ 8 4)) κ hinj hw T n hT9 hT2) (cwV 2 hts gX4_foresee_X4_enterDays rfl rfl rfl (by decide +kernel) ⟨Nat.le_of_ble_eq_true rfl, Nat.le_of_ble_eq_true rfl⟩) (z_prV (ci := 4) (k := 0) hX hP rfl z_g0) rfl rfl hl.1 rfl (lv_room (Nat.le_of_ble_eq_true rfl)) dX4_foresee_21 ⟨Nat.le_of_ble_eq_true rfl, Nat.le_of_ble_eq_true rfl⟩) hS (fun _ _ h9 => h9) (fun _ h9 => h9) (fun H locs hP hz9 hk9 hS => ?_)
  have hD := z_Dm hinj (z_cC G ad (z_k3 (z_k3 σ 5 (σ 8 2) (σ 8 3) (σ 8 4)) 5 ((z_k3 σ 5 (σ 8 2) (σ 8 3) (σ 8 4)) 8 5 + z_dd (z_fc (z_k3 σ 5 (σ 8 2) (σ 8 3) (σ 8 4)) κ) T (κ 0 1) n) ((z_k3 σ 5 (σ 8 2) (σ 8 3) (σ 8 4)) 8 6 + z_dd (z_fj (z_k3 σ 5 (σ 8 2) (σ 8 3) (σ 8 4)) κ) T (κ 0 1) n) ((z_k3 σ 5 (σ 8 2) (σ 8 3) (σ 8 4)) 8 7 + z_dd (z_fs (z_k3 σ 5 (σ 8 2) (σ 8 3) (σ 8 4)) κ) T (κ 0 1) n)) κ)
  have hP : va_P (z_DD G) vwCl (z_wC G ad (z_fd σ κ T n) κ) H := by rw [← z_fd_of σ κ T n rfl]; exact hP
  refine lv_iload_n hx hb dX4_foresee_24 rfl (lv_at hl 2 rfl) ?_
  refine lv_tableOut (tgt := 91) hx hb dX4_foresee_25 (h) (by decide) ?_
  exact z_throw (cls := "java/lang/IndexOutOfBoundsException") (text := "what is not 5 to 8") (ik := 97) (is := 207) (ic := 101) hx hb hst hown (by decide +kernel) (hts (.classLink RX4 97 "java/lang/IndexOutOfBoundsException") (by decide +kernel)) (hts (.initialized "java/lang/IndexOutOfBoundsException") (by decide +kernel)) (List.mem_of_getElem? (i := 20) rfl) (fun w h9 => hts w (ha_101 w h9)) (by decide +kernel) (by decide +kernel) (by decide +kernel) hT hS hP (hl.1.trans hml.symm) dX4_foresee_91 dX4_foresee_94 dX4_foresee_95 dX4_foresee_97 dX4_foresee_100 hout (Nat.le_of_ble_eq_true rfl) (Nat.le_of_ble_eq_true rfl) (Nat.le_of_ble_eq_true rfl) (Nat.le_of_ble_eq_true rfl) hlocks
