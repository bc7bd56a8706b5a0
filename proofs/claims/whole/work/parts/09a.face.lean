/-! Part 09a: the face, where it answers. -/
set_option maxHeartbeats 4000000 in
set_option maxRecDepth 100000 in
theorem c_X4_checkValley (l : Launch) (G : z_GT) (ad : Nat → Nat) (σ : Nat → Nat → Int32) (κ : Nat → Nat → Nat) (a : Nat) (h : a < κ 0 0) (h2 : κ 0 0 ≤ 8) : Met l yX4_checkValley wsX4_checkValley ({ frames := 0, cells := 0, slots := 0, locals := 0 } : Room) (z_Pr G [.ref (ad 0), .int (nI a)] (z_wC G ad σ κ)) (z_Qo none) 0 0 (fun _ => False) := by
  refine Met.ofW (cc := cX4_checkValley) (maxL := 2) (ret := none) (by decide) rfl ?_
  intro p e s m args below meth c s₁ B hml hw0
  obtain ⟨rfl, hX, hP⟩ := hw0
  have hK := hX.1
  have hx := B.exec
  have hb := B.bytes
  have hr := B.returns
  have hts := atoms_spec (ws := wsX4_checkValley) B.pre
  have hown : s.vm.findClass RX4 = some m.cls := findClass_of_methodNamed B.named
  have hlocks := B.notSynchronized
  have hl := lv_entry ([.ref (ad 0), .int (nI a)]) (n := 2) (Nat.le_of_ble_eq_true rfl)
  rw [lg_entry_eq]
  generalize (lg_sl ([.ref (ad 0), .int (nI a)]) ++ List.replicate (2 - (lg_sl ([.ref (ad 0), .int (nI a)])).length) Slot.unset).toArray = ls at hl ⊢
  have hl : lv_has ls 2 [(0, .ref (ad 0)), (1, .int (nI a))] := hl
  have hf_RX4_59 : (Cond.fieldLink RX4 59 "BlossomTours" "valleyCount" "I").before ([.ref (ad 0), .int (nI a)] : List Value).toArray s = true := hts _ (by decide +kernel)
  have hi_RX4 : ∀ w ∈ u_ws RX4 TX4 9, w ∈ wsX4_checkValley := by decide +kernel
  refine lv_iload_n hx hb dX4_checkValley_0 rfl (lv_at hl 1 rfl) ?_
  refine lv_if_lt (tgt := 12) hx hb dX4_checkValley_1 (by decide) (fun c1 => ?_) (fun c1 => ?_)
  · skip
    exact absurd c1 (z_lt0 (by omega))
  · skip
    refine lv_iload_n hx hb dX4_checkValley_4 rfl (lv_at hl 1 rfl) ?_
    refine lv_aload_n hx hb dX4_checkValley_5 rfl (lv_at hl 0 rfl) ?_
    refine va_get (D := z_DD G) (ci := 4) (v := .int (nI (κ 0 0))) (C := RX4) (T := TX4) (N := 9) hx hb hts hi_RX4 hown hK hP 0 z_g0 rfl 6 (by decide) hf_RX4_59 (fun _ h9 => h9) rfl dX4_checkValley_6 ?_
    refine lv_icmp_lt (tgt := 22) hx hb dX4_checkValley_9 (by decide) (fun c9 => ?_) (fun c9 => ?_)
    · skip
      exact W.vret hx hb hr (fun t ht hW => ⟨rfl, ht⟩) (fun _ h9 => nomatch h9) dX4_checkValley_22
    · skip
      exact absurd (z_ltn h (by omega)) c9

set_option maxHeartbeats 4000000 in
set_option maxRecDepth 100000 in
theorem c_X4_checkTour (l : Launch) (G : z_GT) (ad : Nat → Nat) (σ : Nat → Nat → Int32) (κ : Nat → Nat → Nat) (a : Nat) (h : a < κ 0 1) (h2 : κ 0 1 ≤ 8) : Met l yX4_checkTour wsX4_checkTour ({ frames := 0, cells := 0, slots := 0, locals := 0 } : Room) (z_Pr G [.ref (ad 0), .int (nI a)] (z_wC G ad σ κ)) (z_Qo none) 0 0 (fun _ => False) := by
  refine Met.ofW (cc := cX4_checkTour) (maxL := 2) (ret := none) (by decide) rfl ?_
  intro p e s m args below meth c s₁ B hml hw0
  obtain ⟨rfl, hX, hP⟩ := hw0
  have hK := hX.1
  have hx := B.exec
  have hb := B.bytes
  have hr := B.returns
  have hts := atoms_spec (ws := wsX4_checkTour) B.pre
  have hown : s.vm.findClass RX4 = some m.cls := findClass_of_methodNamed B.named
  have hlocks := B.notSynchronized
  have hl := lv_entry ([.ref (ad 0), .int (nI a)]) (n := 2) (Nat.le_of_ble_eq_true rfl)
  rw [lg_entry_eq]
  generalize (lg_sl ([.ref (ad 0), .int (nI a)]) ++ List.replicate (2 - (lg_sl ([.ref (ad 0), .int (nI a)])).length) Slot.unset).toArray = ls at hl ⊢
  have hl : lv_has ls 2 [(0, .ref (ad 0)), (1, .int (nI a))] := hl
  have hf_RX4_117 : (Cond.fieldLink RX4 117 "BlossomTours" "tourCount" "I").before ([.ref (ad 0), .int (nI a)] : List Value).toArray s = true := hts _ (by decide +kernel)
  have hi_RX4 : ∀ w ∈ u_ws RX4 TX4 9, w ∈ wsX4_checkTour := by decide +kernel
  refine lv_iload_n hx hb dX4_checkTour_0 rfl (lv_at hl 1 rfl) ?_
  refine lv_if_lt (tgt := 12) hx hb dX4_checkTour_1 (by decide) (fun c1 => ?_) (fun c1 => ?_)
  · skip
    exact absurd c1 (z_lt0 (by omega))
  · skip
    refine lv_iload_n hx hb dX4_checkTour_4 rfl (lv_at hl 1 rfl) ?_
    refine lv_aload_n hx hb dX4_checkTour_5 rfl (lv_at hl 0 rfl) ?_
    refine va_get (D := z_DD G) (ci := 4) (v := .int (nI (κ 0 1))) (C := RX4) (T := TX4) (N := 9) hx hb hts hi_RX4 hown hK hP 0 z_g0 rfl 7 (by decide) hf_RX4_117 (fun _ h9 => h9) rfl dX4_checkTour_6 ?_
    refine lv_icmp_lt (tgt := 22) hx hb dX4_checkTour_9 (by decide) (fun c9 => ?_) (fun c9 => ?_)
    · skip
      exact W.vret hx hb hr (fun t ht hW => ⟨rfl, ht⟩) (fun _ h9 => nomatch h9) dX4_checkTour_22
    · skip
      exact absurd (z_ltn h (by omega)) c9

set_option maxHeartbeats 4000000 in
set_option maxRecDepth 100000 in
theorem c_X4_checkDay (l : Launch) (G : z_GT) (d : Int32) (h : ¬ d < 0) : Met l yX4_checkDay wsX4_checkDay ({ frames := 0, cells := 0, slots := 0, locals := 0 } : Room) (z_Pr G [.int d] []) (z_Qo none) 0 0 (fun _ => False) := by
  refine Met.ofW (cc := cX4_checkDay) (maxL := 1) (ret := none) (by decide) rfl ?_
  intro p e s m args below meth c s₁ B hml hw0
  obtain ⟨rfl, hX, hP⟩ := hw0
  have hK := hX.1
  have hx := B.exec
  have hb := B.bytes
  have hr := B.returns
  have hts := atoms_spec (ws := wsX4_checkDay) B.pre
  have hown : s.vm.findClass RX4 = some m.cls := findClass_of_methodNamed B.named
  have hlocks := B.notSynchronized
  have hl := lv_entry ([.int d]) (n := 1) (Nat.le_of_ble_eq_true rfl)
  rw [lg_entry_eq]
  generalize (lg_sl ([.int d]) ++ List.replicate (1 - (lg_sl ([.int d])).length) Slot.unset).toArray = ls at hl ⊢
  have hl : lv_has ls 1 [(0, .int d)] := hl
  refine lv_iload_n hx hb dX4_checkDay_0 rfl (lv_at hl 0 rfl) ?_
  refine lv_if_ge (tgt := 14) hx hb dX4_checkDay_1 (by decide) (fun c1 => ?_) (fun c1 => ?_)
  · skip
    exact W.vret hx hb hr (fun t ht hW => ⟨rfl, ht⟩) (fun _ h9 => nomatch h9) dX4_checkDay_14
  · skip
    exact absurd (show (0 : Int32) ≤ d from Int32.not_lt.mp h) c1

set_option maxHeartbeats 4000000 in
set_option maxRecDepth 100000 in
theorem c_X4_checkSpan (l : Launch) (G : z_GT) (d : Int32) (h : ¬ z_wi d 1 60 = 0) : Met l yX4_checkSpan wsX4_checkSpan ({ frames := 1, cells := 0, slots := 0, locals := 22 } : Room) (z_Pr G [.int d] []) (z_Qo none) 0 0 (fun _ => False) := by
  refine Met.ofW (cc := cX4_checkSpan) (maxL := 1) (ret := none) (by decide) rfl ?_
  intro p e s m args below meth c s₁ B hml hw0
  obtain ⟨rfl, hX, hP⟩ := hw0
  have hK := hX.1
  have hx := B.exec
  have hb := B.bytes
  have hr := B.returns
  have hts := atoms_spec (ws := wsX4_checkSpan) B.pre
  have hown : s.vm.findClass RX4 = some m.cls := findClass_of_methodNamed B.named
  have hlocks := B.notSynchronized
  have hl := lv_entry ([.int d]) (n := 1) (Nat.le_of_ble_eq_true rfl)
  rw [lg_entry_eq]
  generalize (lg_sl ([.int d]) ++ List.replicate (1 - (lg_sl ([.int d])).length) Slot.unset).toArray = ls at hl ⊢
  have hl : lv_has ls 1 [(0, .int d)] := hl
  refine lv_iload_n hx hb dX4_checkSpan_0 rfl (lv_at hl 0 rfl) ?_
  refine lv_iconst (v := 1) hx hb dX4_checkSpan_1 (by decide) ?_
  refine lv_bipush (v := 60) hx hb dX4_checkSpan_2 (by decide) ?_
  refine z_call (va_runS (As := [.int d, .int 1, .int 60]) (rest := []) ⟨hx, hb, hml, hown, hts⟩ (c_X4_isWithin l G d 1 60) (va_cwS 3 hts gX4_checkSpan_X4_isWithin rfl rfl rfl (by decide +kernel) ⟨Nat.le_of_ble_eq_true rfl, Nat.le_of_ble_eq_true rfl⟩) (z_prS hX z_P0) rfl rfl hl.1 rfl (lv_room (Nat.le_of_ble_eq_true rfl)) dX4_checkSpan_4 ⟨Nat.le_of_ble_eq_true rfl, Nat.le_of_ble_eq_true rfl⟩) (fun _ h9 => h9) ?_
  refine W.eq (g2 := F0 m 7 ls [.int (z_wi d 1 60)]) rfl ?_
  refine lv_if_ne (tgt := 20) hx hb dX4_checkSpan_7 (by decide) (fun c7 => ?_) (fun c7 => ?_)
  · skip
    exact W.vret hx hb hr (fun t ht hW => ⟨rfl, ht⟩) (fun _ h9 => nomatch h9) dX4_checkSpan_20
  · skip
    exact absurd c7 h

set_option maxHeartbeats 4000000 in
set_option maxRecDepth 100000 in
theorem c_X4_valley (l : Launch) (G : z_GT) (ad : Nat → Nat) (σ : Nat → Nat → Int32) (κ : Nat → Nat → Nat) (hinj : ∀ i j, i < 36 → j < 36 → ad i = ad j → i = j) (hw : z_wf κ) (x n y : Int32) (g1 : ¬ z_wi x 0 90 = 0) (g2 : ¬ z_wi n 1 30 = 0) (g3 : ¬ z_wi y 0 50 = 0) (g4 : κ 0 0 < 8) : Met l yX4_valley wsX4_valley ({ frames := 1, cells := 0, slots := 0, locals := 22 } : Room) (z_Pr G [.ref (ad 0), .int x, .int n, .int y] (z_wC G ad σ κ)) (z_Qm G (some (.int (nI (κ 0 0)))) (z_wC G ad (z_vl σ (κ 0 0) x n y) (z_up κ 0 0 (κ 0 0 + 1))) (z_A 36 ad)) 0 0 (z_A 36 ad) := by
  refine Met.ofW (cc := cX4_valley) (maxL := 5) (ret := (some .int)) (by decide) rfl ?_
  intro p e s m args below meth c s₁ B hml hw0
  obtain ⟨rfl, hX, hP⟩ := hw0
  have hK := hX.1
  have hx := B.exec
  have hb := B.bytes
  have hr := B.returns
  have hts := atoms_spec (ws := wsX4_valley) B.pre
  have hown : s.vm.findClass RX4 = some m.cls := findClass_of_methodNamed B.named
  have hlocks := B.notSynchronized
  have hl := lv_entry ([.ref (ad 0), .int x, .int n, .int y]) (n := 5) (Nat.le_of_ble_eq_true rfl)
  rw [lg_entry_eq]
  generalize (lg_sl ([.ref (ad 0), .int x, .int n, .int y]) ++ List.replicate (5 - (lg_sl ([.ref (ad 0), .int x, .int n, .int y])).length) Slot.unset).toArray = ls at hl ⊢
  have hl : lv_has ls 5 [(0, .ref (ad 0)), (1, .int x), (2, .int n), (3, .int y)] := hl
  have hf_RX4_11 : (Cond.fieldLink RX4 11 "BlossomTours" "valleys" "[LBlossomTours$Valley;").before ([.ref (ad 0), .int x, .int n, .int y] : List Value).toArray s = true := hts _ (by decide +kernel)
  have hf_RX4_59 : (Cond.fieldLink RX4 59 "BlossomTours" "valleyCount" "I").before ([.ref (ad 0), .int x, .int n, .int y] : List Value).toArray s = true := hts _ (by decide +kernel)
  have hi_RX3 : ∀ w ∈ u_ws RX3 TX3 5, w ∈ wsX4_valley := by decide +kernel
  have hi_RX4 : ∀ w ∈ u_ws RX4 TX4 9, w ∈ wsX4_valley := by decide +kernel
  have hS : va_S (z_A 36 ad) s.heap s.heap [] := va_S.rf
  have hD := z_Dm hinj (z_cC G ad σ κ)
  refine lv_iload_n hx hb dX4_valley_0 rfl (lv_at hl 1 rfl) ?_
  refine lv_iconst (v := 0) hx hb dX4_valley_1 (by decide) ?_
  refine lv_bipush (v := 90) hx hb dX4_valley_2 (by decide) ?_
  refine z_call (va_runS (As := [.int x, .int 0, .int 90]) (rest := []) ⟨hx, hb, hml, hown, hts⟩ (c_X4_isWithin l G x 0 90) (va_cwS 3 hts gX4_valley_X4_isWithin rfl rfl rfl (by decide +kernel) ⟨Nat.le_of_ble_eq_true rfl, Nat.le_of_ble_eq_true rfl⟩) (z_prS hX z_P0) rfl rfl hl.1 rfl (lv_room (Nat.le_of_ble_eq_true rfl)) dX4_valley_4 ⟨Nat.le_of_ble_eq_true rfl, Nat.le_of_ble_eq_true rfl⟩) (fun _ h9 => h9) ?_
  refine W.eq (g2 := F0 m 7 ls [.int (z_wi x 0 90)]) rfl ?_
  refine lv_if_ne (tgt := 20) hx hb dX4_valley_7 (by decide) (fun c7 => ?_) (fun c7 => ?_)
  · skip
    refine lv_iload_n hx hb dX4_valley_20 rfl (lv_at hl 2 rfl) ?_
    refine lv_iconst (v := 1) hx hb dX4_valley_21 (by decide) ?_
    refine lv_bipush (v := 30) hx hb dX4_valley_22 (by decide) ?_
    refine z_call (va_runS (As := [.int n, .int 1, .int 30]) (rest := []) ⟨hx, hb, hml, hown, hts⟩ (c_X4_isWithin l G n 1 30) (va_cwS 3 hts gX4_valley_X4_isWithin rfl rfl rfl (by decide +kernel) ⟨Nat.le_of_ble_eq_true rfl, Nat.le_of_ble_eq_true rfl⟩) (z_prS hX z_P0) rfl rfl hl.1 rfl (lv_room (Nat.le_of_ble_eq_true rfl)) dX4_valley_24 ⟨Nat.le_of_ble_eq_true rfl, Nat.le_of_ble_eq_true rfl⟩) (fun _ h9 => h9) ?_
    refine W.eq (g2 := F0 m 27 ls [.int (z_wi n 1 30)]) rfl ?_
    refine lv_if_ne (tgt := 40) hx hb dX4_valley_27 (by decide) (fun c27 => ?_) (fun c27 => ?_)
    · skip
      refine lv_iload_n hx hb dX4_valley_40 rfl (lv_at hl 3 rfl) ?_
      refine lv_iconst (v := 0) hx hb dX4_valley_41 (by decide) ?_
      refine lv_bipush (v := 50) hx hb dX4_valley_42 (by decide) ?_
      refine z_call (va_runS (As := [.int y, .int 0, .int 50]) (rest := []) ⟨hx, hb, hml, hown, hts⟩ (c_X4_isWithin l G y 0 50) (va_cwS 3 hts gX4_valley_X4_isWithin rfl rfl rfl (by decide +kernel) ⟨Nat.le_of_ble_eq_true rfl, Nat.le_of_ble_eq_true rfl⟩) (z_prS hX z_P0) rfl rfl hl.1 rfl (lv_room (Nat.le_of_ble_eq_true rfl)) dX4_valley_44 ⟨Nat.le_of_ble_eq_true rfl, Nat.le_of_ble_eq_true rfl⟩) (fun _ h9 => h9) ?_
      refine W.eq (g2 := F0 m 47 ls [.int (z_wi y 0 50)]) rfl ?_
      refine lv_if_ne (tgt := 60) hx hb dX4_valley_47 (by decide) (fun c47 => ?_) (fun c47 => ?_)
      · skip
        refine lv_aload_n hx hb dX4_valley_60 rfl (lv_at hl 0 rfl) ?_
        refine va_get (D := z_DD G) (ci := 4) (v := .int (nI (κ 0 0))) (C := RX4) (T := TX4) (N := 9) hx hb hts hi_RX4 hown hK hP 0 z_g0 rfl 6 (by decide) hf_RX4_59 (fun _ h9 => h9) rfl dX4_valley_61 ?_
        refine lv_aload_n hx hb dX4_valley_64 rfl (lv_at hl 0 rfl) ?_
        refine va_get (D := z_DD G) (ci := 4) (v := .ref (ad 1)) (C := RX4) (T := TX4) (N := 9) hx hb hts hi_RX4 hown hK hP 0 z_g0 rfl 0 (by decide) hf_RX4_11 (fun _ h9 => h9) rfl dX4_valley_65 ?_
        refine va_alen (v := nI 8) hx hb hK hP 1 1 z_g1 rfl rfl dX4_valley_68 ?_
        refine lv_icmp_lt (tgt := 82) hx hb dX4_valley_69 (by decide) (fun c69 => ?_) (fun c69 => ?_)
        · skip
          refine lv_aload_n hx hb dX4_valley_82 rfl (lv_at hl 0 rfl) ?_
          refine va_get (D := z_DD G) (ci := 4) (v := .ref (ad 1)) (C := RX4) (T := TX4) (N := 9) hx hb hts hi_RX4 hown hK hP 0 z_g0 rfl 0 (by decide) hf_RX4_11 (fun _ h9 => h9) rfl dX4_valley_83 ?_
          refine lv_aload_n hx hb dX4_valley_86 rfl (lv_at hl 0 rfl) ?_
          refine va_get (D := z_DD G) (ci := 4) (v := .int (nI (κ 0 0))) (C := RX4) (T := TX4) (N := 9) hx hb hts hi_RX4 hown hK hP 0 z_g0 rfl 6 (by decide) hf_RX4_59 (fun _ h9 => h9) rfl dX4_valley_87 ?_
          refine z_aald (k := (κ 0 0)) (g := fun j => ad (8 + j)) hx hb hK hP 1 1 z_g1 rfl g4 (by decide) dX4_valley_90 ?_
          refine lv_astore (lv' := [(4, .ref (ad (8 + (κ 0 0)))), (0, .ref (ad 0)), (1, .int x), (2, .int n), (3, .int y)]) hx hb dX4_valley_91 hl (by decide) rfl (fun ls hl => ?_)
          refine lv_aload hx hb dX4_valley_93 (lv_at hl 0 rfl) ?_
          refine lv_iload_n hx hb dX4_valley_95 rfl (lv_at hl 2 rfl) ?_
          refine va_putN (D := z_DD G) (ci := 3) (v := .int x) (ty := .int) (C := RX3) (T := TX3) (N := 5) hx hb hts hi_RX3 tyX3 tyX3_ok nmX3 hown hK hP hD hS (8 + (κ 0 0)) (z_gV g4) rfl 0 (by decide) (z_nfw hX.2 4 rfl) (fun _ h9 => h9) rfl (by decide +kernel) rfl rfl (Nat.le_of_ble_eq_true rfl) dX4_valley_96 (fun H locs hP hD hS => ?_)
          have hP : va_P (z_DD G) vwCl (z_wC G ad (z_up σ 0 (κ 0 0) x) κ) H := Eq.mp (congrArg (fun w => va_P (z_DD G) vwCl w H) (z_sV0 g4)) hP
          have hD := z_Dm hinj (z_cC G ad (z_up σ 0 (κ 0 0) x) κ)
          refine lv_aload hx hb dX4_valley_99 (lv_at hl 0 rfl) ?_
          refine lv_iload_n hx hb dX4_valley_101 rfl (lv_at hl 3 rfl) ?_
          refine va_putN (D := z_DD G) (ci := 3) (v := .int n) (ty := .int) (C := RX3) (T := TX3) (N := 5) hx hb hts hi_RX3 tyX3 tyX3_ok nmX3 hown hK hP hD hS (8 + (κ 0 0)) (z_gV g4) rfl 1 (by decide) (z_nfw hX.2 5 rfl) (fun _ h9 => h9) rfl (by decide +kernel) rfl rfl (Nat.le_of_ble_eq_true rfl) dX4_valley_102 (fun H locs hP hD hS => ?_)
          have hP : va_P (z_DD G) vwCl (z_wC G ad (z_up (z_up σ 0 (κ 0 0) x) 1 (κ 0 0) n) κ) H := Eq.mp (congrArg (fun w => va_P (z_DD G) vwCl w H) (z_sV1 g4)) hP
          have hD := z_Dm hinj (z_cC G ad (z_up (z_up σ 0 (κ 0 0) x) 1 (κ 0 0) n) κ)
          refine lv_aload hx hb dX4_valley_105 (lv_at hl 0 rfl) ?_
          refine lv_iload_n hx hb dX4_valley_107 rfl (lv_at hl 4 rfl) ?_
          refine va_putN (D := z_DD G) (ci := 3) (v := .int y) (ty := .int) (C := RX3) (T := TX3) (N := 5) hx hb hts hi_RX3 tyX3 tyX3_ok nmX3 hown hK hP hD hS (8 + (κ 0 0)) (z_gV g4) rfl 2 (by decide) (z_nfw hX.2 6 rfl) (fun _ h9 => h9) rfl (by decide +kernel) rfl rfl (Nat.le_of_ble_eq_true rfl) dX4_valley_108 (fun H locs hP hD hS => ?_)
          have hP : va_P (z_DD G) vwCl (z_wC G ad (z_up (z_up (z_up σ 0 (κ 0 0) x) 1 (κ 0 0) n) 2 (κ 0 0) y) κ) H := Eq.mp (congrArg (fun w => va_P (z_DD G) vwCl w H) (z_sV2 g4)) hP
          have hD := z_Dm hinj (z_cC G ad (z_up (z_up (z_up σ 0 (κ 0 0) x) 1 (κ 0 0) n) 2 (κ 0 0) y) κ)
          refine lv_aload_n hx hb dX4_valley_111 rfl (lv_at hl 1 rfl) ?_
          refine lv_dup hx hb dX4_valley_112 rfl ?_
          refine va_get (D := z_DD G) (ci := 4) (v := .int (nI (κ 0 0))) (C := RX4) (T := TX4) (N := 9) hx hb hts hi_RX4 hown hK hP 0 z_g0 rfl 6 (by decide) hf_RX4_59 (fun _ h9 => h9) rfl dX4_valley_113 ?_
          refine lv_iconst (v := 1) hx hb dX4_valley_116 (by decide) ?_
          refine lv_iadd hx hb dX4_valley_117 ?_
          refine z_top (show (.int ((nI (κ 0 0)) + 1) : Value) = .int (nI (κ 0 0 + 1)) from by rw [nI_1]) ?_
          refine va_put (D := z_DD G) (ci := 4) (v := .int (nI (κ 0 0 + 1))) (ty := .int) (C := RX4) (T := TX4) (N := 9) hx hb hts hi_RX4 tyX4 tyX4_ok nmX4 hown hK hP hD hS 0 z_g0 rfl 6 (by decide) hf_RX4_59 (fun _ h9 => h9) rfl (by decide +kernel) rfl rfl (Nat.le_of_ble_eq_true rfl) dX4_valley_118 (fun H locs hP hD hS => ?_)
          have hP : va_P (z_DD G) vwCl (z_wC G ad (z_up (z_up (z_up σ 0 (κ 0 0) x) 1 (κ 0 0) n) 2 (κ 0 0) y) (z_up κ 0 0 (κ 0 0 + 1))) H := Eq.mp (congrArg (fun w => va_P (z_DD G) vwCl w H) z_sM6) hP
          have hD := z_Dm hinj (z_cC G ad (z_up (z_up (z_up σ 0 (κ 0 0) x) 1 (κ 0 0) n) 2 (κ 0 0) y) (z_up κ 0 0 (κ 0 0 + 1)))
          refine lv_aload_n hx hb dX4_valley_121 rfl (lv_at hl 1 rfl) ?_
          refine va_get (D := z_DD G) (ci := 4) (v := .int (nI ((z_up κ 0 0 (κ 0 0 + 1)) 0 0))) (C := RX4) (T := TX4) (N := 9) hx hb hts hi_RX4 hown hK hP 0 z_g0 rfl 6 (by decide) hf_RX4_59 (fun _ h9 => h9) rfl dX4_valley_122 ?_
          refine lv_iconst (v := 1) hx hb dX4_valley_125 (by decide) ?_
          refine lv_isub hx hb dX4_valley_126 ?_
          refine z_top (show (.int ((nI ((z_up κ 0 0 (κ 0 0 + 1)) 0 0)) - 1) : Value) = .int (nI (κ 0 0)) from by (show Value.int (nI (κ 0 0 + 1) - 1) = _; rw [nI_pred])) ?_
          have hPf : va_P (z_DD G) vwCl (z_wC G ad (z_vl σ (κ 0 0) x n y) (z_up κ 0 0 (κ 0 0 + 1))) H := by exact hP
          refine z_iret hx hb hr hlocks dX4_valley_127 (fun t ht hW => ⟨rfl, by rw [ht]; exact hPf, hS.F ht⟩) hS.2.2 ?_
          rfl
        · skip
          exact absurd (z_ltn g4 (by decide)) c69
      · skip
        exact absurd c47 g3
    · skip
      exact absurd c27 g2
  · skip
    exact absurd c7 g1

set_option maxHeartbeats 4000000 in
set_option maxRecDepth 100000 in
theorem c_X4_road (l : Launch) (G : z_GT) (ad : Nat → Nat) (σ : Nat → Nat → Int32) (κ : Nat → Nat → Nat) (hinj : ∀ i j, i < 36 → j < 36 → ad i = ad j → i = j) (hw : z_wf κ) (a b : Nat) (ha : a < κ 0 0) (hb8 : b < κ 0 0) (mi : Int32) (g1 : ¬ a = b) (g2 : ¬ z_wi mi 1 240 = 0) (g3 : σ 8 0 < 20) : Met l yX4_road wsX4_road ({ frames := 5, cells := 0, slots := 0, locals := 109 } : Room) (z_Pr G [.ref (ad 0), .int (nI a), .int (nI b), .int mi] (z_wC G ad σ κ)) (z_Qm G (some (.int (z_rkn (z_ly σ a b mi) κ 8 0))) (z_wC G ad (z_rkn (z_ly σ a b mi) κ) κ) (z_A 36 ad)) 0 0 (z_A 36 ad) := by
  refine Met.ofW (cc := cX4_road) (maxL := 4) (ret := (some .int)) (by decide) rfl ?_
  intro p e s m args below meth c s₁ B hml hw0
  obtain ⟨rfl, hX, hP⟩ := hw0
  have hK := hX.1
  have hx := B.exec
  have hb := B.bytes
  have hr := B.returns
  have hts := atoms_spec (ws := wsX4_road) B.pre
  have hown : s.vm.findClass RX4 = some m.cls := findClass_of_methodNamed B.named
  have hlocks := B.notSynchronized
  have hl := lv_entry ([.ref (ad 0), .int (nI a), .int (nI b), .int mi]) (n := 4) (Nat.le_of_ble_eq_true rfl)
  rw [lg_entry_eq]
  generalize (lg_sl ([.ref (ad 0), .int (nI a), .int (nI b), .int mi]) ++ List.replicate (4 - (lg_sl ([.ref (ad 0), .int (nI a), .int (nI b), .int mi])).length) Slot.unset).toArray = ls at hl ⊢
  have hl : lv_has ls 4 [(0, .ref (ad 0)), (1, .int (nI a)), (2, .int (nI b)), (3, .int mi)] := hl
  have hf_RX4_28 : (Cond.fieldLink RX4 28 "BlossomTours" "roads" "LBlossomTours$Roads;").before ([.ref (ad 0), .int (nI a), .int (nI b), .int mi] : List Value).toArray s = true := hts _ (by decide +kernel)
  have hi_RX1 : ∀ w ∈ u_ws RX1 TX1 2, w ∈ wsX4_road := by decide +kernel
  have hi_RX4 : ∀ w ∈ u_ws RX4 TX4 9, w ∈ wsX4_road := by decide +kernel
  have hn := hw.1
  have hS : va_S (z_A 36 ad) s.heap s.heap [] := va_S.rf
  have hD := z_Dm hinj (z_cC G ad σ κ)
  refine lv_aload_n hx hb dX4_road_0 rfl (lv_at hl 0 rfl) ?_
  refine lv_iload_n hx hb dX4_road_1 rfl (lv_at hl 1 rfl) ?_
  refine z_call (va_runV (As := [.int (nI a)]) (rest := []) ⟨hx, hb, hml, hown, hts⟩ (c_X4_checkValley l G ad σ κ a ha hw.1) (cwV 1 hts gX4_road_X4_checkValley rfl rfl rfl (by decide +kernel) ⟨Nat.le_of_ble_eq_true rfl, Nat.le_of_ble_eq_true rfl⟩) (z_prV (ci := 4) (k := 0) hX hP rfl z_g0) rfl rfl hl.1 rfl (lv_room (Nat.le_of_ble_eq_true rfl)) dX4_road_2 ⟨Nat.le_of_ble_eq_true rfl, Nat.le_of_ble_eq_true rfl⟩) (fun _ h9 => h9) ?_
  refine lv_aload_n hx hb dX4_road_5 rfl (lv_at hl 0 rfl) ?_
  refine lv_iload_n hx hb dX4_road_6 rfl (lv_at hl 2 rfl) ?_
  refine z_call (va_runV (As := [.int (nI b)]) (rest := []) ⟨hx, hb, hml, hown, hts⟩ (c_X4_checkValley l G ad σ κ b hb8 hw.1) (cwV 1 hts gX4_road_X4_checkValley rfl rfl rfl (by decide +kernel) ⟨Nat.le_of_ble_eq_true rfl, Nat.le_of_ble_eq_true rfl⟩) (z_prV (ci := 4) (k := 0) hX hP rfl z_g0) rfl rfl hl.1 rfl (lv_room (Nat.le_of_ble_eq_true rfl)) dX4_road_7 ⟨Nat.le_of_ble_eq_true rfl, Nat.le_of_ble_eq_true rfl⟩) (fun _ h9 => h9) ?_
  refine lv_iload_n hx hb dX4_road_10 rfl (lv_at hl 1 rfl) ?_
  refine lv_iload_n hx hb dX4_road_11 rfl (lv_at hl 2 rfl) ?_
  refine lv_icmp_ne (tgt := 25) hx hb dX4_road_12 (by decide) (fun c12 => ?_) (fun c12 => ?_)
  · skip
    refine lv_iload_n hx hb dX4_road_25 rfl (lv_at hl 3 rfl) ?_
    refine lv_iconst (v := 1) hx hb dX4_road_26 (by decide) ?_
    refine lv_sipush (v := 240) hx hb dX4_road_27 (by decide) ?_
    refine z_call (va_runS (As := [.int mi, .int 1, .int 240]) (rest := []) ⟨hx, hb, hml, hown, hts⟩ (c_X4_isWithin l G mi 1 240) (va_cwS 3 hts gX4_road_X4_isWithin rfl rfl rfl (by decide +kernel) ⟨Nat.le_of_ble_eq_true rfl, Nat.le_of_ble_eq_true rfl⟩) (z_prS hX z_P0) rfl rfl hl.1 rfl (lv_room (Nat.le_of_ble_eq_true rfl)) dX4_road_30 ⟨Nat.le_of_ble_eq_true rfl, Nat.le_of_ble_eq_true rfl⟩) (fun _ h9 => h9) ?_
    refine W.eq (g2 := F0 m 33 ls [.int (z_wi mi 1 240)]) rfl ?_
    refine lv_if_ne (tgt := 46) hx hb dX4_road_33 (by decide) (fun c33 => ?_) (fun c33 => ?_)
    · skip
      refine lv_aload_n hx hb dX4_road_46 rfl (lv_at hl 0 rfl) ?_
      refine va_get (D := z_DD G) (ci := 4) (v := .ref (ad 4)) (C := RX4) (T := TX4) (N := 9) hx hb hts hi_RX4 hown hK hP 0 z_g0 rfl 3 (by decide) hf_RX4_28 (fun _ h9 => h9) rfl dX4_road_47 ?_
      refine va_getN (D := z_DD G) (ci := 1) (v := .int (σ 8 0)) (C := RX1) (T := TX1) (N := 2) hx hb hts hi_RX1 hown hK hP 4 z_g4 rfl 1 (by decide) (z_nfw hX.2 0 rfl) (fun _ h9 => h9) rfl dX4_road_50 ?_
      refine lv_bipush (v := 20) hx hb dX4_road_53 (by decide) ?_
      refine lv_icmp_lt (tgt := 68) hx hb dX4_road_55 (by decide) (fun c55 => ?_) (fun c55 => ?_)
      · skip
        refine lv_aload_n hx hb dX4_road_68 rfl (lv_at hl 0 rfl) ?_
        refine va_get (D := z_DD G) (ci := 4) (v := .ref (ad 4)) (C := RX4) (T := TX4) (N := 9) hx hb hts hi_RX4 hown hK hP 0 z_g0 rfl 3 (by decide) hf_RX4_28 (fun _ h9 => h9) rfl dX4_road_69 ?_
        refine lv_iload_n hx hb dX4_road_72 rfl (lv_at hl 1 rfl) ?_
        refine lv_iload_n hx hb dX4_road_73 rfl (lv_at hl 2 rfl) ?_
        refine lv_iload_n hx hb dX4_road_74 rfl (lv_at hl 3 rfl) ?_
        refine z_callm (va_runVN (As := [.int (nI a), .int (nI b), .int mi]) (rest := []) ⟨hx, hb, hml, hown, hts⟩ (c_X1_lay l G ad σ κ hinj a b mi (Nat.lt_of_lt_of_le ha hw.1) (Nat.lt_of_lt_of_le hb8 hw.1)) ⟨va_cnB 3 hts gX4_road_X1_lay_n90 rfl rfl rfl (z_nmw hX.2 10 rfl) (hts (.initialized RX1) (by decide +kernel)) (by decide +kernel) ⟨Nat.le_of_ble_eq_true rfl, Nat.le_of_ble_eq_true rfl⟩, hts (.instanceMethod yX1_lay) (by decide +kernel), hts (.selects RX1 yX1_lay yX1_lay) (by decide +kernel)⟩ (z_prV (ci := 1) (k := 4) hX hP rfl z_g4) rfl rfl hl.1 rfl (lv_room (Nat.le_of_ble_eq_true rfl)) dX4_road_75 ⟨Nat.le_of_ble_eq_true rfl, Nat.le_of_ble_eq_true rfl⟩) hS (fun _ _ h9 => h9) (fun _ h9 => h9) (fun H locs hP hz9 hk9 hS => ?_)
        have hD := z_Dm hinj (z_cC G ad (z_ly σ a b mi) κ)
        refine lv_aload_n hx hb dX4_road_78 rfl (lv_at hl 0 rfl) ?_
        refine z_callm (va_runV (As := []) (rest := []) ⟨hx, hb, hml, hown, hts⟩ (c_X4_reckonCrowds l G ad (z_ly σ a b mi) κ hinj hw) (cwV 0 hts gX4_road_X4_reckonCrowds rfl rfl rfl (by decide +kernel) ⟨Nat.le_of_ble_eq_true rfl, Nat.le_of_ble_eq_true rfl⟩) (z_prV (ci := 4) (k := 0) hX hP rfl z_g0) rfl rfl hl.1 rfl (lv_room (Nat.le_of_ble_eq_true rfl)) dX4_road_79 ⟨Nat.le_of_ble_eq_true rfl, Nat.le_of_ble_eq_true rfl⟩) hS (fun _ _ h9 => h9) (fun _ h9 => h9) (fun H locs hP hz9 hk9 hS => ?_)
        have hD := z_Dm hinj (z_cC G ad (z_rkn (z_ly σ a b mi) κ) κ)
        refine lv_aload_n hx hb dX4_road_82 rfl (lv_at hl 0 rfl) ?_
        refine va_get (D := z_DD G) (ci := 4) (v := .ref (ad 4)) (C := RX4) (T := TX4) (N := 9) hx hb hts hi_RX4 hown hK hP 0 z_g0 rfl 3 (by decide) hf_RX4_28 (fun _ h9 => h9) rfl dX4_road_83 ?_
        refine va_getN (D := z_DD G) (ci := 1) (v := .int ((z_rkn (z_ly σ a b mi) κ) 8 0)) (C := RX1) (T := TX1) (N := 2) hx hb hts hi_RX1 hown hK hP 4 z_g4 rfl 1 (by decide) (z_nfw hX.2 0 rfl) (fun _ h9 => h9) rfl dX4_road_86 ?_
        have hPf : va_P (z_DD G) vwCl (z_wC G ad (z_rkn (z_ly σ a b mi) κ) κ) H := by exact hP
        refine z_iret hx hb hr hlocks dX4_road_89 (fun t ht hW => ⟨rfl, by rw [ht]; exact hPf, hS.F ht⟩) hS.2.2 ?_
        rfl
      · skip
        exact absurd g3 c55
    · skip
      exact absurd c33 g2
  · skip
    exact absurd ((nI_eq (by omega) (by omega)).mp c12) g1

set_option maxHeartbeats 4000000 in
set_option maxRecDepth 100000 in
theorem c_X4_setHeat (l : Launch) (G : z_GT) (ad : Nat → Nat) (σ : Nat → Nat → Int32) (κ : Nat → Nat → Nat) (hinj : ∀ i j, i < 36 → j < 36 → ad i = ad j → i = j) (d : Nat) (hd : d < 10) (h : Int32) (g : ¬ z_wi h 0 40 = 0) : Met l yX4_setHeat wsX4_setHeat ({ frames := 1, cells := 0, slots := 0, locals := 22 } : Room) (z_Pr G [.ref (ad 0), .int (nI d), .int h] (z_wC G ad σ κ)) (z_Qm G (some (.int (σ 7 d))) (z_wC G ad (z_up σ 7 d h) κ) (z_A 36 ad)) 0 0 (z_A 36 ad) := by
  refine Met.ofW (cc := cX4_setHeat) (maxL := 4) (ret := (some .int)) (by decide) rfl ?_
  intro p e s m args below meth c s₁ B hml hw0
  obtain ⟨rfl, hX, hP⟩ := hw0
  have hK := hX.1
  have hx := B.exec
  have hb := B.bytes
  have hr := B.returns
  have hts := atoms_spec (ws := wsX4_setHeat) B.pre
  have hown : s.vm.findClass RX4 = some m.cls := findClass_of_methodNamed B.named
  have hlocks := B.notSynchronized
  have hl := lv_entry ([.ref (ad 0), .int (nI d), .int h]) (n := 4) (Nat.le_of_ble_eq_true rfl)
  rw [lg_entry_eq]
  generalize (lg_sl ([.ref (ad 0), .int (nI d), .int h]) ++ List.replicate (4 - (lg_sl ([.ref (ad 0), .int (nI d), .int h])).length) Slot.unset).toArray = ls at hl ⊢
  have hl : lv_has ls 4 [(0, .ref (ad 0)), (1, .int (nI d)), (2, .int h)] := hl
  have hf_RX4_21 : (Cond.fieldLink RX4 21 "BlossomTours" "heats" "[I").before ([.ref (ad 0), .int (nI d), .int h] : List Value).toArray s = true := hts _ (by decide +kernel)
  have hi_RX4 : ∀ w ∈ u_ws RX4 TX4 9, w ∈ wsX4_setHeat := by decide +kernel
  have hS : va_S (z_A 36 ad) s.heap s.heap [] := va_S.rf
  have hD := z_Dm hinj (z_cC G ad σ κ)
  refine lv_iload_n hx hb dX4_setHeat_0 rfl (lv_at hl 1 rfl) ?_
  refine lv_if_lt (tgt := 13) hx hb dX4_setHeat_1 (by decide) (fun c1 => ?_) (fun c1 => ?_)
  · skip
    exact absurd c1 (z_lt0 (by omega))
  · skip
    refine lv_iload_n hx hb dX4_setHeat_4 rfl (lv_at hl 1 rfl) ?_
    refine lv_aload_n hx hb dX4_setHeat_5 rfl (lv_at hl 0 rfl) ?_
    refine va_get (D := z_DD G) (ci := 4) (v := .ref (ad 3)) (C := RX4) (T := TX4) (N := 9) hx hb hts hi_RX4 hown hK hP 0 z_g0 rfl 2 (by decide) hf_RX4_21 (fun _ h9 => h9) rfl dX4_setHeat_6 ?_
    refine va_alen (v := nI 10) hx hb hK hP 3 0 z_g3 rfl rfl dX4_setHeat_9 ?_
    refine lv_icmp_lt (tgt := 23) hx hb dX4_setHeat_10 (by decide) (fun c10 => ?_) (fun c10 => ?_)
    · skip
      refine lv_iload_n hx hb dX4_setHeat_23 rfl (lv_at hl 2 rfl) ?_
      refine lv_iconst (v := 0) hx hb dX4_setHeat_24 (by decide) ?_
      refine lv_bipush (v := 40) hx hb dX4_setHeat_25 (by decide) ?_
      refine z_call (va_runS (As := [.int h, .int 0, .int 40]) (rest := []) ⟨hx, hb, hml, hown, hts⟩ (c_X4_isWithin l G h 0 40) (va_cwS 3 hts gX4_setHeat_X4_isWithin rfl rfl rfl (by decide +kernel) ⟨Nat.le_of_ble_eq_true rfl, Nat.le_of_ble_eq_true rfl⟩) (z_prS hX z_P0) rfl rfl hl.1 rfl (lv_room (Nat.le_of_ble_eq_true rfl)) dX4_setHeat_27 ⟨Nat.le_of_ble_eq_true rfl, Nat.le_of_ble_eq_true rfl⟩) (fun _ h9 => h9) ?_
      refine W.eq (g2 := F0 m 30 ls [.int (z_wi h 0 40)]) rfl ?_
      refine lv_if_ne (tgt := 43) hx hb dX4_setHeat_30 (by decide) (fun c30 => ?_) (fun c30 => ?_)
      · skip
        refine lv_aload_n hx hb dX4_setHeat_43 rfl (lv_at hl 0 rfl) ?_
        refine va_get (D := z_DD G) (ci := 4) (v := .ref (ad 3)) (C := RX4) (T := TX4) (N := 9) hx hb hts hi_RX4 hown hK hP 0 z_g0 rfl 2 (by decide) hf_RX4_21 (fun _ h9 => h9) rfl dX4_setHeat_44 ?_
        refine lv_iload_n hx hb dX4_setHeat_47 rfl (lv_at hl 1 rfl) ?_
        refine z_iald (k := d) (f := fun z9 => σ 7 z9) hx hb hK hP 3 0 z_g3 rfl hd (by decide) dX4_setHeat_48 ?_
        refine lv_istore_n (lv' := [(3, .int (σ 7 d)), (0, .ref (ad 0)), (1, .int (nI d)), (2, .int h)]) hx hb dX4_setHeat_49 rfl hl (by decide) rfl (fun ls hl => ?_)
        refine lv_aload_n hx hb dX4_setHeat_50 rfl (lv_at hl 1 rfl) ?_
        refine va_get (D := z_DD G) (ci := 4) (v := .ref (ad 3)) (C := RX4) (T := TX4) (N := 9) hx hb hts hi_RX4 hown hK hP 0 z_g0 rfl 2 (by decide) hf_RX4_21 (fun _ h9 => h9) rfl dX4_setHeat_51 ?_
        refine lv_iload_n hx hb dX4_setHeat_54 rfl (lv_at hl 2 rfl) ?_
        refine lv_iload_n hx hb dX4_setHeat_55 rfl (lv_at hl 3 rfl) ?_
        refine va_iast (f := fun z9 => σ 7 z9) hx hb hK hP hD hS 3 0 z_g3 rfl (vp_in_nI hd (by omega)) dX4_setHeat_56 (fun H locs hP hD hS => ?_)
        have hP : va_P (z_DD G) vwCl (z_wC G ad (z_up σ 7 d h) κ) H := Eq.mp (congrArg (fun w => va_P (z_DD G) vwCl w H) (z_sHn (by omega))) hP
        have hD := z_Dm hinj (z_cC G ad (z_up σ 7 d h) κ)
        refine lv_iload_n hx hb dX4_setHeat_57 rfl (lv_at hl 0 rfl) ?_
        have hPf : va_P (z_DD G) vwCl (z_wC G ad (z_up σ 7 d h) κ) H := by exact hP
        refine z_iret hx hb hr hlocks dX4_setHeat_58 (fun t ht hW => ⟨rfl, by rw [ht]; exact hPf, hS.F ht⟩) hS.2.2 ?_
        rfl
      · skip
        exact absurd c30 g
    · skip
      exact absurd (z_ltn hd (by decide)) c10

set_option maxHeartbeats 4000000 in
set_option maxRecDepth 100000 in
theorem c_X4_bloom (l : Launch) (G : z_GT) (ad : Nat → Nat) (σ : Nat → Nat → Int32) (κ : Nat → Nat → Nat) (hw : z_wf κ) (v : Nat) (hv : v < κ 0 0) (d : Int32) (h : ¬ d < 0) : Met l yX4_bloom wsX4_bloom ({ frames := 2, cells := 0, slots := 0, locals := 45 } : Room) (z_Pr G [.ref (ad 0), .int (nI v), .int d] (z_wC G ad σ κ)) (z_Qo (some (.int (z_bl (σ 0 v) (σ 1 v) d)))) 0 0 (fun _ => False) := by
  refine Met.ofW (cc := cX4_bloom) (maxL := 3) (ret := (some .int)) (by decide) rfl ?_
  intro p e s m args below meth c s₁ B hml hw0
  obtain ⟨rfl, hX, hP⟩ := hw0
  have hK := hX.1
  have hx := B.exec
  have hb := B.bytes
  have hr := B.returns
  have hts := atoms_spec (ws := wsX4_bloom) B.pre
  have hown : s.vm.findClass RX4 = some m.cls := findClass_of_methodNamed B.named
  have hlocks := B.notSynchronized
  have hl := lv_entry ([.ref (ad 0), .int (nI v), .int d]) (n := 3) (Nat.le_of_ble_eq_true rfl)
  rw [lg_entry_eq]
  generalize (lg_sl ([.ref (ad 0), .int (nI v), .int d]) ++ List.replicate (3 - (lg_sl ([.ref (ad 0), .int (nI v), .int d])).length) Slot.unset).toArray = ls at hl ⊢
  have hl : lv_has ls 3 [(0, .ref (ad 0)), (1, .int (nI v)), (2, .int d)] := hl
  have hf_RX4_11 : (Cond.fieldLink RX4 11 "BlossomTours" "valleys" "[LBlossomTours$Valley;").before ([.ref (ad 0), .int (nI v), .int d] : List Value).toArray s = true := hts _ (by decide +kernel)
  have hi_RX4 : ∀ w ∈ u_ws RX4 TX4 9, w ∈ wsX4_bloom := by decide +kernel
  refine lv_aload_n hx hb dX4_bloom_0 rfl (lv_at hl 0 rfl) ?_
  refine lv_iload_n hx hb dX4_bloom_1 rfl (lv_at hl 1 rfl) ?_
  refine z_call (va_runV (As := [.int (nI v)]) (rest := []) ⟨hx, hb, hml, hown, hts⟩ (c_X4_checkValley l G ad σ κ v hv hw.1) (cwV 1 hts gX4_bloom_X4_checkValley rfl rfl rfl (by decide +kernel) ⟨Nat.le_of_ble_eq_true rfl, Nat.le_of_ble_eq_true rfl⟩) (z_prV (ci := 4) (k := 0) hX hP rfl z_g0) rfl rfl hl.1 rfl (lv_room (Nat.le_of_ble_eq_true rfl)) dX4_bloom_2 ⟨Nat.le_of_ble_eq_true rfl, Nat.le_of_ble_eq_true rfl⟩) (fun _ h9 => h9) ?_
  refine lv_iload_n hx hb dX4_bloom_5 rfl (lv_at hl 2 rfl) ?_
  refine z_call (va_runS (As := [.int d]) (rest := []) ⟨hx, hb, hml, hown, hts⟩ (c_X4_checkDay l G d h) (va_cwS 1 hts gX4_bloom_X4_checkDay rfl rfl rfl (by decide +kernel) ⟨Nat.le_of_ble_eq_true rfl, Nat.le_of_ble_eq_true rfl⟩) (z_prS hX z_P0) rfl rfl hl.1 rfl (lv_room (Nat.le_of_ble_eq_true rfl)) dX4_bloom_6 ⟨Nat.le_of_ble_eq_true rfl, Nat.le_of_ble_eq_true rfl⟩) (fun _ h9 => h9) ?_
  refine lv_aload_n hx hb dX4_bloom_9 rfl (lv_at hl 0 rfl) ?_
  refine va_get (D := z_DD G) (ci := 4) (v := .ref (ad 1)) (C := RX4) (T := TX4) (N := 9) hx hb hts hi_RX4 hown hK hP 0 z_g0 rfl 0 (by decide) hf_RX4_11 (fun _ h9 => h9) rfl dX4_bloom_10 ?_
  refine lv_iload_n hx hb dX4_bloom_13 rfl (lv_at hl 1 rfl) ?_
  refine z_aald (k := v) (g := fun j => ad (8 + j)) hx hb hK hP 1 1 z_g1 rfl (Nat.lt_of_lt_of_le hv hw.1) (by decide) dX4_bloom_14 ?_
  refine lv_iload_n hx hb dX4_bloom_15 rfl (lv_at hl 2 rfl) ?_
  refine z_call (va_runVN (As := [.int d]) (rest := []) ⟨hx, hb, hml, hown, hts⟩ (c_X3_bloomOn l G ad σ κ v d (Nat.lt_of_lt_of_le hv hw.1)) ⟨va_cnB 1 hts gX4_bloom_X3_bloomOn_n107 rfl rfl rfl (z_nmw hX.2 4 rfl) (hts (.initialized RX3) (by decide +kernel)) (by decide +kernel) ⟨Nat.le_of_ble_eq_true rfl, Nat.le_of_ble_eq_true rfl⟩, hts (.instanceMethod yX3_bloomOn) (by decide +kernel), hts (.selects RX3 yX3_bloomOn yX3_bloomOn) (by decide +kernel)⟩ (z_prV (ci := 3) (k := (8 + v)) hX hP rfl (z_gV (Nat.lt_of_lt_of_le hv hw.1))) rfl rfl hl.1 rfl (lv_room (Nat.le_of_ble_eq_true rfl)) dX4_bloom_16 ⟨Nat.le_of_ble_eq_true rfl, Nat.le_of_ble_eq_true rfl⟩) (fun _ h9 => h9) ?_
  refine W.eq (g2 := F0 m 19 ls [.int (z_bl (σ 0 v) (σ 1 v) d)]) rfl ?_
  refine z_iret hx hb hr hlocks dX4_bloom_19 (fun t ht hW => ⟨rfl, ht⟩) (fun _ h9 => nomatch h9) ?_
  rfl

set_option maxHeartbeats 4000000 in
set_option maxRecDepth 100000 in
theorem c_X4_way (l : Launch) (G : z_GT) (ad : Nat → Nat) (σ : Nat → Nat → Int32) (κ : Nat → Nat → Nat) (hw : z_wf κ) (a b : Nat) (ha : a < κ 0 0) (hb8 : b < κ 0 0) : Met l yX4_way wsX4_way ({ frames := 3, cells := 0, slots := 0, locals := 64 } : Room) (z_Pr G [.ref (ad 0), .int (nI a), .int (nI b)] (z_wC G ad σ κ)) (z_Qo (some (.int (z_mb (σ (10 + a) b))))) 0 0 (fun _ => False) := by
  refine Met.ofW (cc := cX4_way) (maxL := 3) (ret := (some .int)) (by decide) rfl ?_
  intro p e s m args below meth c s₁ B hml hw0
  obtain ⟨rfl, hX, hP⟩ := hw0
  have hK := hX.1
  have hx := B.exec
  have hb := B.bytes
  have hr := B.returns
  have hts := atoms_spec (ws := wsX4_way) B.pre
  have hown : s.vm.findClass RX4 = some m.cls := findClass_of_methodNamed B.named
  have hlocks := B.notSynchronized
  have hl := lv_entry ([.ref (ad 0), .int (nI a), .int (nI b)]) (n := 3) (Nat.le_of_ble_eq_true rfl)
  rw [lg_entry_eq]
  generalize (lg_sl ([.ref (ad 0), .int (nI a), .int (nI b)]) ++ List.replicate (3 - (lg_sl ([.ref (ad 0), .int (nI a), .int (nI b)])).length) Slot.unset).toArray = ls at hl ⊢
  have hl : lv_has ls 3 [(0, .ref (ad 0)), (1, .int (nI a)), (2, .int (nI b))] := hl
  have hf_RX4_28 : (Cond.fieldLink RX4 28 "BlossomTours" "roads" "LBlossomTours$Roads;").before ([.ref (ad 0), .int (nI a), .int (nI b)] : List Value).toArray s = true := hts _ (by decide +kernel)
  have hi_RX4 : ∀ w ∈ u_ws RX4 TX4 9, w ∈ wsX4_way := by decide +kernel
  refine lv_aload_n hx hb dX4_way_0 rfl (lv_at hl 0 rfl) ?_
  refine lv_iload_n hx hb dX4_way_1 rfl (lv_at hl 1 rfl) ?_
  refine z_call (va_runV (As := [.int (nI a)]) (rest := []) ⟨hx, hb, hml, hown, hts⟩ (c_X4_checkValley l G ad σ κ a ha hw.1) (cwV 1 hts gX4_way_X4_checkValley rfl rfl rfl (by decide +kernel) ⟨Nat.le_of_ble_eq_true rfl, Nat.le_of_ble_eq_true rfl⟩) (z_prV (ci := 4) (k := 0) hX hP rfl z_g0) rfl rfl hl.1 rfl (lv_room (Nat.le_of_ble_eq_true rfl)) dX4_way_2 ⟨Nat.le_of_ble_eq_true rfl, Nat.le_of_ble_eq_true rfl⟩) (fun _ h9 => h9) ?_
  refine lv_aload_n hx hb dX4_way_5 rfl (lv_at hl 0 rfl) ?_
  refine lv_iload_n hx hb dX4_way_6 rfl (lv_at hl 2 rfl) ?_
  refine z_call (va_runV (As := [.int (nI b)]) (rest := []) ⟨hx, hb, hml, hown, hts⟩ (c_X4_checkValley l G ad σ κ b hb8 hw.1) (cwV 1 hts gX4_way_X4_checkValley rfl rfl rfl (by decide +kernel) ⟨Nat.le_of_ble_eq_true rfl, Nat.le_of_ble_eq_true rfl⟩) (z_prV (ci := 4) (k := 0) hX hP rfl z_g0) rfl rfl hl.1 rfl (lv_room (Nat.le_of_ble_eq_true rfl)) dX4_way_7 ⟨Nat.le_of_ble_eq_true rfl, Nat.le_of_ble_eq_true rfl⟩) (fun _ h9 => h9) ?_
  refine lv_aload_n hx hb dX4_way_10 rfl (lv_at hl 0 rfl) ?_
  refine va_get (D := z_DD G) (ci := 4) (v := .ref (ad 4)) (C := RX4) (T := TX4) (N := 9) hx hb hts hi_RX4 hown hK hP 0 z_g0 rfl 3 (by decide) hf_RX4_28 (fun _ h9 => h9) rfl dX4_way_11 ?_
  refine lv_iload_n hx hb dX4_way_14 rfl (lv_at hl 1 rfl) ?_
  refine lv_iload_n hx hb dX4_way_15 rfl (lv_at hl 2 rfl) ?_
  refine z_call (va_runVN (As := [.int (nI a), .int (nI b)]) (rest := []) ⟨hx, hb, hml, hown, hts⟩ (c_X1_minutesBetween l G ad σ κ a b (Nat.lt_of_lt_of_le ha hw.1) (Nat.lt_of_lt_of_le hb8 hw.1)) ⟨va_cnB 2 hts gX4_way_X1_minutesBetween_n111 rfl rfl rfl (z_nmw hX.2 7 rfl) (hts (.initialized RX1) (by decide +kernel)) (by decide +kernel) ⟨Nat.le_of_ble_eq_true rfl, Nat.le_of_ble_eq_true rfl⟩, hts (.instanceMethod yX1_minutesBetween) (by decide +kernel), hts (.selects RX1 yX1_minutesBetween yX1_minutesBetween) (by decide +kernel)⟩ (z_prV (ci := 1) (k := 4) hX hP rfl z_g4) rfl rfl hl.1 rfl (lv_room (Nat.le_of_ble_eq_true rfl)) dX4_way_16 ⟨Nat.le_of_ble_eq_true rfl, Nat.le_of_ble_eq_true rfl⟩) (fun _ h9 => h9) ?_
  refine W.eq (g2 := F0 m 19 ls [.int (z_mb (σ (10 + a) b))]) rfl ?_
  refine z_iret hx hb hr hlocks dX4_way_19 (fun t ht hW => ⟨rfl, ht⟩) (fun _ h9 => nomatch h9) ?_
  rfl

set_option maxHeartbeats 4000000 in
set_option maxRecDepth 100000 in
theorem c_X4_tour (l : Launch) (G : z_GT) (ad : Nat → Nat) (σ : Nat → Nat → Int32) (κ : Nat → Nat → Nat) (hinj : ∀ i j, i < 36 → j < 36 → ad i = ad j → i = j) (hw : z_wf κ) (x : Int32) (g1 : ¬ z_wi x 1 60 = 0) (g2 : κ 0 1 < 6) : Met l yX4_tour wsX4_tour ({ frames := 1, cells := 0, slots := 0, locals := 22 } : Room) (z_Pr G [.ref (ad 0), .int x] (z_wC G ad σ κ)) (z_Qm G (some (.int (nI (κ 0 1)))) (z_wC G ad (z_up σ 5 (κ 0 1) x) (z_up κ 0 1 (κ 0 1 + 1))) (z_A 36 ad)) 0 0 (z_A 36 ad) := by
  refine Met.ofW (cc := cX4_tour) (maxL := 2) (ret := (some .int)) (by decide) rfl ?_
  intro p e s m args below meth c s₁ B hml hw0
  obtain ⟨rfl, hX, hP⟩ := hw0
  have hK := hX.1
  have hx := B.exec
  have hb := B.bytes
  have hr := B.returns
  have hts := atoms_spec (ws := wsX4_tour) B.pre
  have hown : s.vm.findClass RX4 = some m.cls := findClass_of_methodNamed B.named
  have hlocks := B.notSynchronized
  have hl := lv_entry ([.ref (ad 0), .int x]) (n := 2) (Nat.le_of_ble_eq_true rfl)
  rw [lg_entry_eq]
  generalize (lg_sl ([.ref (ad 0), .int x]) ++ List.replicate (2 - (lg_sl ([.ref (ad 0), .int x])).length) Slot.unset).toArray = ls at hl ⊢
  have hl : lv_has ls 2 [(0, .ref (ad 0)), (1, .int x)] := hl
  have hf_RX4_117 : (Cond.fieldLink RX4 117 "BlossomTours" "tourCount" "I").before ([.ref (ad 0), .int x] : List Value).toArray s = true := hts _ (by decide +kernel)
  have hf_RX4_17 : (Cond.fieldLink RX4 17 "BlossomTours" "tours" "[LBlossomTours$Tour;").before ([.ref (ad 0), .int x] : List Value).toArray s = true := hts _ (by decide +kernel)
  have hi_RX2 : ∀ w ∈ u_ws RX2 TX2 4, w ∈ wsX4_tour := by decide +kernel
  have hi_RX4 : ∀ w ∈ u_ws RX4 TX4 9, w ∈ wsX4_tour := by decide +kernel
  have hS : va_S (z_A 36 ad) s.heap s.heap [] := va_S.rf
  have hD := z_Dm hinj (z_cC G ad σ κ)
  refine lv_iload_n hx hb dX4_tour_0 rfl (lv_at hl 1 rfl) ?_
  refine lv_iconst (v := 1) hx hb dX4_tour_1 (by decide) ?_
  refine lv_bipush (v := 60) hx hb dX4_tour_2 (by decide) ?_
  refine z_call (va_runS (As := [.int x, .int 1, .int 60]) (rest := []) ⟨hx, hb, hml, hown, hts⟩ (c_X4_isWithin l G x 1 60) (va_cwS 3 hts gX4_tour_X4_isWithin rfl rfl rfl (by decide +kernel) ⟨Nat.le_of_ble_eq_true rfl, Nat.le_of_ble_eq_true rfl⟩) (z_prS hX z_P0) rfl rfl hl.1 rfl (lv_room (Nat.le_of_ble_eq_true rfl)) dX4_tour_4 ⟨Nat.le_of_ble_eq_true rfl, Nat.le_of_ble_eq_true rfl⟩) (fun _ h9 => h9) ?_
  refine W.eq (g2 := F0 m 7 ls [.int (z_wi x 1 60)]) rfl ?_
  refine lv_if_ne (tgt := 20) hx hb dX4_tour_7 (by decide) (fun c7 => ?_) (fun c7 => ?_)
  · skip
    refine lv_aload_n hx hb dX4_tour_20 rfl (lv_at hl 0 rfl) ?_
    refine va_get (D := z_DD G) (ci := 4) (v := .int (nI (κ 0 1))) (C := RX4) (T := TX4) (N := 9) hx hb hts hi_RX4 hown hK hP 0 z_g0 rfl 7 (by decide) hf_RX4_117 (fun _ h9 => h9) rfl dX4_tour_21 ?_
    refine lv_aload_n hx hb dX4_tour_24 rfl (lv_at hl 0 rfl) ?_
    refine va_get (D := z_DD G) (ci := 4) (v := .ref (ad 2)) (C := RX4) (T := TX4) (N := 9) hx hb hts hi_RX4 hown hK hP 0 z_g0 rfl 1 (by decide) hf_RX4_17 (fun _ h9 => h9) rfl dX4_tour_25 ?_
    refine va_alen (v := nI 6) hx hb hK hP 2 2 z_g2 rfl rfl dX4_tour_28 ?_
    refine lv_icmp_lt (tgt := 42) hx hb dX4_tour_29 (by decide) (fun c29 => ?_) (fun c29 => ?_)
    · skip
      refine lv_aload_n hx hb dX4_tour_42 rfl (lv_at hl 0 rfl) ?_
      refine va_get (D := z_DD G) (ci := 4) (v := .ref (ad 2)) (C := RX4) (T := TX4) (N := 9) hx hb hts hi_RX4 hown hK hP 0 z_g0 rfl 1 (by decide) hf_RX4_17 (fun _ h9 => h9) rfl dX4_tour_43 ?_
      refine lv_aload_n hx hb dX4_tour_46 rfl (lv_at hl 0 rfl) ?_
      refine va_get (D := z_DD G) (ci := 4) (v := .int (nI (κ 0 1))) (C := RX4) (T := TX4) (N := 9) hx hb hts hi_RX4 hown hK hP 0 z_g0 rfl 7 (by decide) hf_RX4_117 (fun _ h9 => h9) rfl dX4_tour_47 ?_
      refine z_aald (k := (κ 0 1)) (g := fun j => ad (16 + j)) hx hb hK hP 2 2 z_g2 rfl g2 (by decide) dX4_tour_50 ?_
      refine lv_iload_n hx hb dX4_tour_51 rfl (lv_at hl 1 rfl) ?_
      refine va_putN (D := z_DD G) (ci := 2) (v := .int x) (ty := .int) (C := RX2) (T := TX2) (N := 4) hx hb hts hi_RX2 tyX2 tyX2_ok nmX2 hown hK hP hD hS (16 + (κ 0 1)) (z_gT g2) rfl 2 (by decide) (z_nfw hX.2 11 rfl) (fun _ h9 => h9) rfl (by decide +kernel) rfl rfl (Nat.le_of_ble_eq_true rfl) dX4_tour_52 (fun H locs hP hD hS => ?_)
      have hP : va_P (z_DD G) vwCl (z_wC G ad (z_up σ 5 (κ 0 1) x) κ) H := Eq.mp (congrArg (fun w => va_P (z_DD G) vwCl w H) (z_sT2 g2)) hP
      have hD := z_Dm hinj (z_cC G ad (z_up σ 5 (κ 0 1) x) κ)
      refine lv_aload_n hx hb dX4_tour_55 rfl (lv_at hl 0 rfl) ?_
      refine lv_dup hx hb dX4_tour_56 rfl ?_
      refine va_get (D := z_DD G) (ci := 4) (v := .int (nI (κ 0 1))) (C := RX4) (T := TX4) (N := 9) hx hb hts hi_RX4 hown hK hP 0 z_g0 rfl 7 (by decide) hf_RX4_117 (fun _ h9 => h9) rfl dX4_tour_57 ?_
      refine lv_iconst (v := 1) hx hb dX4_tour_60 (by decide) ?_
      refine lv_iadd hx hb dX4_tour_61 ?_
      refine z_top (show (.int ((nI (κ 0 1)) + 1) : Value) = .int (nI (κ 0 1 + 1)) from by rw [nI_1]) ?_
      refine va_put (D := z_DD G) (ci := 4) (v := .int (nI (κ 0 1 + 1))) (ty := .int) (C := RX4) (T := TX4) (N := 9) hx hb hts hi_RX4 tyX4 tyX4_ok nmX4 hown hK hP hD hS 0 z_g0 rfl 7 (by decide) hf_RX4_117 (fun _ h9 => h9) rfl (by decide +kernel) rfl rfl (Nat.le_of_ble_eq_true rfl) dX4_tour_62 (fun H locs hP hD hS => ?_)
      have hP : va_P (z_DD G) vwCl (z_wC G ad (z_up σ 5 (κ 0 1) x) (z_up κ 0 1 (κ 0 1 + 1))) H := Eq.mp (congrArg (fun w => va_P (z_DD G) vwCl w H) z_sM7) hP
      have hD := z_Dm hinj (z_cC G ad (z_up σ 5 (κ 0 1) x) (z_up κ 0 1 (κ 0 1 + 1)))
      refine lv_aload_n hx hb dX4_tour_65 rfl (lv_at hl 0 rfl) ?_
      refine va_get (D := z_DD G) (ci := 4) (v := .int (nI ((z_up κ 0 1 (κ 0 1 + 1)) 0 1))) (C := RX4) (T := TX4) (N := 9) hx hb hts hi_RX4 hown hK hP 0 z_g0 rfl 7 (by decide) hf_RX4_117 (fun _ h9 => h9) rfl dX4_tour_66 ?_
      refine lv_iconst (v := 1) hx hb dX4_tour_69 (by decide) ?_
      refine lv_isub hx hb dX4_tour_70 ?_
      refine z_top (show (.int ((nI ((z_up κ 0 1 (κ 0 1 + 1)) 0 1)) - 1) : Value) = .int (nI (κ 0 1)) from by (show Value.int (nI (κ 0 1 + 1) - 1) = _; rw [nI_pred])) ?_
      have hPf : va_P (z_DD G) vwCl (z_wC G ad (z_up σ 5 (κ 0 1) x) (z_up κ 0 1 (κ 0 1 + 1))) H := by exact hP
      refine z_iret hx hb hr hlocks dX4_tour_71 (fun t ht hW => ⟨rfl, by rw [ht]; exact hPf, hS.F ht⟩) hS.2.2 ?_
      rfl
    · skip
      exact absurd (z_ltn g2 (by decide)) c29
  · skip
    exact absurd c7 g1

set_option maxHeartbeats 4000000 in
set_option maxRecDepth 100000 in
theorem c_X4_add (l : Launch) (G : z_GT) (ad : Nat → Nat) (σ : Nat → Nat → Int32) (κ : Nat → Nat → Nat) (hinj : ∀ i j, i < 36 → j < 36 → ad i = ad j → i = j) (hw : z_wf κ) (t : Nat) (ht : t < κ 0 1) (v : Nat) (hv : v < κ 0 0) (g1 : κ 1 t < 5) (g2 : z_vi (κ (2 + t)) v (κ 1 t) = false) : Met l yX4_add wsX4_add ({ frames := 5, cells := 0, slots := 0, locals := 109 } : Room) (z_Pr G [.ref (ad 0), .int (nI t), .int (nI v)] (z_wC G ad σ κ)) (z_Qm G (some (.int (nI (κ 1 t + 1)))) (z_wC G ad (z_rkn σ (z_ap κ t v)) (z_ap κ t v)) (z_A 36 ad)) 0 0 (z_A 36 ad) := by
  refine Met.ofW (cc := cX4_add) (maxL := 4) (ret := (some .int)) (by decide) rfl ?_
  intro p e s m args below meth c s₁ B hml hw0
  obtain ⟨rfl, hX, hP⟩ := hw0
  have hK := hX.1
  have hx := B.exec
  have hb := B.bytes
  have hr := B.returns
  have hts := atoms_spec (ws := wsX4_add) B.pre
  have hown : s.vm.findClass RX4 = some m.cls := findClass_of_methodNamed B.named
  have hlocks := B.notSynchronized
  have hl := lv_entry ([.ref (ad 0), .int (nI t), .int (nI v)]) (n := 4) (Nat.le_of_ble_eq_true rfl)
  rw [lg_entry_eq]
  generalize (lg_sl ([.ref (ad 0), .int (nI t), .int (nI v)]) ++ List.replicate (4 - (lg_sl ([.ref (ad 0), .int (nI t), .int (nI v)])).length) Slot.unset).toArray = ls at hl ⊢
  have hl : lv_has ls 4 [(0, .ref (ad 0)), (1, .int (nI t)), (2, .int (nI v))] := hl
  have hf_RX4_17 : (Cond.fieldLink RX4 17 "BlossomTours" "tours" "[LBlossomTours$Tour;").before ([.ref (ad 0), .int (nI t), .int (nI v)] : List Value).toArray s = true := hts _ (by decide +kernel)
  have hi_RX2 : ∀ w ∈ u_ws RX2 TX2 4, w ∈ wsX4_add := by decide +kernel
  have hi_RX4 : ∀ w ∈ u_ws RX4 TX4 9, w ∈ wsX4_add := by decide +kernel
  have hw1 : z_wf (z_ap κ t v) := z_ap_wf hw (Nat.lt_of_lt_of_le ht hw.2.1) (Nat.lt_of_lt_of_le hv hw.1) g1
  have hS : va_S (z_A 36 ad) s.heap s.heap [] := va_S.rf
  have hD := z_Dm hinj (z_cC G ad σ κ)
  refine lv_aload_n hx hb dX4_add_0 rfl (lv_at hl 0 rfl) ?_
  refine lv_iload_n hx hb dX4_add_1 rfl (lv_at hl 1 rfl) ?_
  refine z_call (va_runV (As := [.int (nI t)]) (rest := []) ⟨hx, hb, hml, hown, hts⟩ (c_X4_checkTour l G ad σ κ t ht (Nat.le_trans hw.2.1 (by decide))) (cwV 1 hts gX4_add_X4_checkTour rfl rfl rfl (by decide +kernel) ⟨Nat.le_of_ble_eq_true rfl, Nat.le_of_ble_eq_true rfl⟩) (z_prV (ci := 4) (k := 0) hX hP rfl z_g0) rfl rfl hl.1 rfl (lv_room (Nat.le_of_ble_eq_true rfl)) dX4_add_2 ⟨Nat.le_of_ble_eq_true rfl, Nat.le_of_ble_eq_true rfl⟩) (fun _ h9 => h9) ?_
  refine lv_aload_n hx hb dX4_add_5 rfl (lv_at hl 0 rfl) ?_
  refine lv_iload_n hx hb dX4_add_6 rfl (lv_at hl 2 rfl) ?_
  refine z_call (va_runV (As := [.int (nI v)]) (rest := []) ⟨hx, hb, hml, hown, hts⟩ (c_X4_checkValley l G ad σ κ v hv hw.1) (cwV 1 hts gX4_add_X4_checkValley rfl rfl rfl (by decide +kernel) ⟨Nat.le_of_ble_eq_true rfl, Nat.le_of_ble_eq_true rfl⟩) (z_prV (ci := 4) (k := 0) hX hP rfl z_g0) rfl rfl hl.1 rfl (lv_room (Nat.le_of_ble_eq_true rfl)) dX4_add_7 ⟨Nat.le_of_ble_eq_true rfl, Nat.le_of_ble_eq_true rfl⟩) (fun _ h9 => h9) ?_
  refine lv_aload_n hx hb dX4_add_10 rfl (lv_at hl 0 rfl) ?_
  refine va_get (D := z_DD G) (ci := 4) (v := .ref (ad 2)) (C := RX4) (T := TX4) (N := 9) hx hb hts hi_RX4 hown hK hP 0 z_g0 rfl 1 (by decide) hf_RX4_17 (fun _ h9 => h9) rfl dX4_add_11 ?_
  refine lv_iload_n hx hb dX4_add_14 rfl (lv_at hl 1 rfl) ?_
  refine z_aald (k := t) (g := fun j => ad (16 + j)) hx hb hK hP 2 2 z_g2 rfl (Nat.lt_of_lt_of_le ht hw.2.1) (by decide) dX4_add_15 ?_
  refine lv_astore_n (lv' := [(3, .ref (ad (16 + t))), (0, .ref (ad 0)), (1, .int (nI t)), (2, .int (nI v))]) hx hb dX4_add_16 rfl hl (by decide) rfl (fun ls hl => ?_)
  refine lv_aload_n hx hb dX4_add_17 rfl (lv_at hl 0 rfl) ?_
  refine z_call (va_runVN (As := []) (rest := []) ⟨hx, hb, hml, hown, hts⟩ (c_X2_isFull l G ad σ κ t (Nat.lt_of_lt_of_le ht hw.2.1)) ⟨va_cnB 0 hts gX4_add_X2_isFull_n128 rfl rfl rfl (z_nmw hX.2 13 rfl) (hts (.initialized RX2) (by decide +kernel)) (by decide +kernel) ⟨Nat.le_of_ble_eq_true rfl, Nat.le_of_ble_eq_true rfl⟩, hts (.instanceMethod yX2_isFull) (by decide +kernel), hts (.selects RX2 yX2_isFull yX2_isFull) (by decide +kernel)⟩ (z_prV (ci := 2) (k := (16 + t)) hX hP rfl (z_gT (Nat.lt_of_lt_of_le ht hw.2.1))) rfl rfl hl.1 rfl (lv_room (Nat.le_of_ble_eq_true rfl)) dX4_add_18 ⟨Nat.le_of_ble_eq_true rfl, Nat.le_of_ble_eq_true rfl⟩) (fun _ h9 => h9) ?_
  refine W.eq (g2 := F0 m 21 ls [.int (z_full (κ 1 t))]) rfl ?_
  refine lv_if_eq (tgt := 34) hx hb dX4_add_21 (by decide) (fun c21 => ?_) (fun c21 => ?_)
  · skip
    refine lv_aload_n hx hb dX4_add_34 rfl (lv_at hl 0 rfl) ?_
    refine lv_iload_n hx hb dX4_add_35 rfl (lv_at hl 3 rfl) ?_
    refine z_call (va_runVN (As := [.int (nI v)]) (rest := []) ⟨hx, hb, hml, hown, hts⟩ (c_X2_visits l G ad σ κ t v (Nat.lt_of_lt_of_le ht hw.2.1) (Nat.lt_of_lt_of_le hv hw.1) (hw.2.2.1 t (Nat.lt_of_lt_of_le ht hw.2.1)) (hw.2.2.2 t (Nat.lt_of_lt_of_le ht hw.2.1))) ⟨va_cnB 1 hts gX4_add_X2_visits_n134 rfl rfl rfl (z_nmw hX.2 9 rfl) (hts (.initialized RX2) (by decide +kernel)) (by decide +kernel) ⟨Nat.le_of_ble_eq_true rfl, Nat.le_of_ble_eq_true rfl⟩, hts (.instanceMethod yX2_visits) (by decide +kernel), hts (.selects RX2 yX2_visits yX2_visits) (by decide +kernel)⟩ (z_prV (ci := 2) (k := (16 + t)) hX hP rfl (z_gT (Nat.lt_of_lt_of_le ht hw.2.1))) rfl rfl hl.1 rfl (lv_room (Nat.le_of_ble_eq_true rfl)) dX4_add_36 ⟨Nat.le_of_ble_eq_true rfl, Nat.le_of_ble_eq_true rfl⟩) (fun _ h9 => h9) ?_
    refine W.eq (g2 := F0 m 39 ls [.int (z_bi (z_vi (κ (2 + t)) v (κ 1 t)))]) rfl ?_
    refine lv_if_eq (tgt := 52) hx hb dX4_add_39 (by decide) (fun c39 => ?_) (fun c39 => ?_)
    · skip
      refine lv_aload_n hx hb dX4_add_52 rfl (lv_at hl 0 rfl) ?_
      refine lv_iload_n hx hb dX4_add_53 rfl (lv_at hl 3 rfl) ?_
      refine z_callm (va_runVN (As := [.int (nI v)]) (rest := []) ⟨hx, hb, hml, hown, hts⟩ (c_X2_append l G ad σ κ hinj t v (Nat.lt_of_lt_of_le ht hw.2.1) (Nat.lt_of_lt_of_le hv hw.1) g1) ⟨va_cnB 1 hts gX4_add_X2_append_n140 rfl rfl rfl (z_nmw hX.2 14 rfl) (hts (.initialized RX2) (by decide +kernel)) (by decide +kernel) ⟨Nat.le_of_ble_eq_true rfl, Nat.le_of_ble_eq_true rfl⟩, hts (.instanceMethod yX2_append) (by decide +kernel), hts (.selects RX2 yX2_append yX2_append) (by decide +kernel)⟩ (z_prV (ci := 2) (k := (16 + t)) hX hP rfl (z_gT (Nat.lt_of_lt_of_le ht hw.2.1))) rfl rfl hl.1 rfl (lv_room (Nat.le_of_ble_eq_true rfl)) dX4_add_54 ⟨Nat.le_of_ble_eq_true rfl, Nat.le_of_ble_eq_true rfl⟩) hS (fun _ _ h9 => h9) (fun _ h9 => h9) (fun H locs hP hz9 hk9 hS => ?_)
      have hD := z_Dm hinj (z_cC G ad σ (z_ap κ t v))
      refine lv_aload_n hx hb dX4_add_57 rfl (lv_at hl 1 rfl) ?_
      refine z_callm (va_runV (As := []) (rest := []) ⟨hx, hb, hml, hown, hts⟩ (c_X4_reckonCrowds l G ad σ (z_ap κ t v) hinj hw1) (cwV 0 hts gX4_add_X4_reckonCrowds rfl rfl rfl (by decide +kernel) ⟨Nat.le_of_ble_eq_true rfl, Nat.le_of_ble_eq_true rfl⟩) (z_prV (ci := 4) (k := 0) hX hP rfl z_g0) rfl rfl hl.1 rfl (lv_room (Nat.le_of_ble_eq_true rfl)) dX4_add_58 ⟨Nat.le_of_ble_eq_true rfl, Nat.le_of_ble_eq_true rfl⟩) hS (fun _ _ h9 => h9) (fun _ h9 => h9) (fun H locs hP hz9 hk9 hS => ?_)
      have hD := z_Dm hinj (z_cC G ad (z_rkn σ (z_ap κ t v)) (z_ap κ t v))
      refine lv_aload_n hx hb dX4_add_61 rfl (lv_at hl 0 rfl) ?_
      refine va_getN (D := z_DD G) (ci := 2) (v := .int (nI ((z_ap κ t v) 1 t))) (C := RX2) (T := TX2) (N := 4) hx hb hts hi_RX2 hown hK hP (16 + t) (z_gT (Nat.lt_of_lt_of_le ht hw.2.1)) rfl 1 (by decide) (z_nfw hX.2 10 rfl) (fun _ h9 => h9) rfl dX4_add_62 ?_
      have hPf : va_P (z_DD G) vwCl (z_wC G ad (z_rkn σ (z_ap κ t v)) (z_ap κ t v)) H := by exact hP
      refine z_iret hx hb hr hlocks dX4_add_65 (fun t ht hW => ⟨rfl, by rw [ht]; exact hPf, hS.F ht⟩) hS.2.2 ?_
      rw [show z_ap κ t v 1 t = κ 1 t + 1 from z_up_s _ _ _ _]
    · skip
      exact absurd (z_bi_t c39) (by rw [g2]; decide)
  · skip
    exact absurd (z_full0 g1) c21

set_option maxHeartbeats 4000000 in
set_option maxRecDepth 100000 in
theorem c_X4_cut (l : Launch) (G : z_GT) (ad : Nat → Nat) (σ : Nat → Nat → Int32) (κ : Nat → Nat → Nat) (hinj : ∀ i j, i < 36 → j < 36 → ad i = ad j → i = j) (hw : z_wf κ) (t : Nat) (ht : t < κ 0 1) (g1 : 0 < κ 1 t) : Met l yX4_cut wsX4_cut ({ frames := 5, cells := 0, slots := 0, locals := 109 } : Room) (z_Pr G [.ref (ad 0), .int (nI t)] (z_wC G ad σ κ)) (z_Qm G (some (.int (nI (κ (2 + t) (κ 1 t - 1))))) (z_wC G ad (z_rkn σ (z_tk κ t)) (z_tk κ t)) (z_A 36 ad)) 0 0 (z_A 36 ad) := by
  refine Met.ofW (cc := cX4_cut) (maxL := 4) (ret := (some .int)) (by decide) rfl ?_
  intro p e s m args below meth c s₁ B hml hw0
  obtain ⟨rfl, hX, hP⟩ := hw0
  have hK := hX.1
  have hx := B.exec
  have hb := B.bytes
  have hr := B.returns
  have hts := atoms_spec (ws := wsX4_cut) B.pre
  have hown : s.vm.findClass RX4 = some m.cls := findClass_of_methodNamed B.named
  have hlocks := B.notSynchronized
  have hl := lv_entry ([.ref (ad 0), .int (nI t)]) (n := 4) (Nat.le_of_ble_eq_true rfl)
  rw [lg_entry_eq]
  generalize (lg_sl ([.ref (ad 0), .int (nI t)]) ++ List.replicate (4 - (lg_sl ([.ref (ad 0), .int (nI t)])).length) Slot.unset).toArray = ls at hl ⊢
  have hl : lv_has ls 4 [(0, .ref (ad 0)), (1, .int (nI t))] := hl
  have hf_RX4_17 : (Cond.fieldLink RX4 17 "BlossomTours" "tours" "[LBlossomTours$Tour;").before ([.ref (ad 0), .int (nI t)] : List Value).toArray s = true := hts _ (by decide +kernel)
  have hi_RX2 : ∀ w ∈ u_ws RX2 TX2 4, w ∈ wsX4_cut := by decide +kernel
  have hi_RX4 : ∀ w ∈ u_ws RX4 TX4 9, w ∈ wsX4_cut := by decide +kernel
  have hw1 : z_wf (z_tk κ t) := z_tk_wf hw
  have hk := hw.2.2.1 t (Nat.lt_of_lt_of_le ht hw.2.1)
  have hS : va_S (z_A 36 ad) s.heap s.heap [] := va_S.rf
  have hD := z_Dm hinj (z_cC G ad σ κ)
  refine lv_aload_n hx hb dX4_cut_0 rfl (lv_at hl 0 rfl) ?_
  refine lv_iload_n hx hb dX4_cut_1 rfl (lv_at hl 1 rfl) ?_
  refine z_call (va_runV (As := [.int (nI t)]) (rest := []) ⟨hx, hb, hml, hown, hts⟩ (c_X4_checkTour l G ad σ κ t ht (Nat.le_trans hw.2.1 (by decide))) (cwV 1 hts gX4_cut_X4_checkTour rfl rfl rfl (by decide +kernel) ⟨Nat.le_of_ble_eq_true rfl, Nat.le_of_ble_eq_true rfl⟩) (z_prV (ci := 4) (k := 0) hX hP rfl z_g0) rfl rfl hl.1 rfl (lv_room (Nat.le_of_ble_eq_true rfl)) dX4_cut_2 ⟨Nat.le_of_ble_eq_true rfl, Nat.le_of_ble_eq_true rfl⟩) (fun _ h9 => h9) ?_
  refine lv_aload_n hx hb dX4_cut_5 rfl (lv_at hl 0 rfl) ?_
  refine va_get (D := z_DD G) (ci := 4) (v := .ref (ad 2)) (C := RX4) (T := TX4) (N := 9) hx hb hts hi_RX4 hown hK hP 0 z_g0 rfl 1 (by decide) hf_RX4_17 (fun _ h9 => h9) rfl dX4_cut_6 ?_
  refine lv_iload_n hx hb dX4_cut_9 rfl (lv_at hl 1 rfl) ?_
  refine z_aald (k := t) (g := fun j => ad (16 + j)) hx hb hK hP 2 2 z_g2 rfl (Nat.lt_of_lt_of_le ht hw.2.1) (by decide) dX4_cut_10 ?_
  refine lv_astore_n (lv' := [(2, .ref (ad (16 + t))), (0, .ref (ad 0)), (1, .int (nI t))]) hx hb dX4_cut_11 rfl hl (by decide) rfl (fun ls hl => ?_)
  refine lv_aload_n hx hb dX4_cut_12 rfl (lv_at hl 0 rfl) ?_
  refine va_getN (D := z_DD G) (ci := 2) (v := .int (nI (κ 1 t))) (C := RX2) (T := TX2) (N := 4) hx hb hts hi_RX2 hown hK hP (16 + t) (z_gT (Nat.lt_of_lt_of_le ht hw.2.1)) rfl 1 (by decide) (z_nfw hX.2 10 rfl) (fun _ h9 => h9) rfl dX4_cut_13 ?_
  refine lv_if_gt (tgt := 29) hx hb dX4_cut_16 (by decide) (fun c16 => ?_) (fun c16 => ?_)
  · skip
    refine lv_aload_n hx hb dX4_cut_29 rfl (lv_at hl 0 rfl) ?_
    refine z_callm (va_runVN (As := []) (rest := []) ⟨hx, hb, hml, hown, hts⟩ (c_X2_takeLast l G ad σ κ hinj t (Nat.lt_of_lt_of_le ht hw.2.1) g1 (hw.2.2.1 t (Nat.lt_of_lt_of_le ht hw.2.1))) ⟨va_cnB 0 hts gX4_cut_X2_takeLast_n148 rfl rfl rfl (z_nmw hX.2 15 rfl) (hts (.initialized RX2) (by decide +kernel)) (by decide +kernel) ⟨Nat.le_of_ble_eq_true rfl, Nat.le_of_ble_eq_true rfl⟩, hts (.instanceMethod yX2_takeLast) (by decide +kernel), hts (.selects RX2 yX2_takeLast yX2_takeLast) (by decide +kernel)⟩ (z_prV (ci := 2) (k := (16 + t)) hX hP rfl (z_gT (Nat.lt_of_lt_of_le ht hw.2.1))) rfl rfl hl.1 rfl (lv_room (Nat.le_of_ble_eq_true rfl)) dX4_cut_30 ⟨Nat.le_of_ble_eq_true rfl, Nat.le_of_ble_eq_true rfl⟩) hS (fun _ _ h9 => h9) (fun _ h9 => h9) (fun H locs hP hz9 hk9 hS => ?_)
    have hD := z_Dm hinj (z_cC G ad σ (z_tk κ t))
    refine W.eq (g2 := F0 m 33 ls [.int (nI (κ (2 + t) (κ 1 t - 1)))]) rfl ?_
    refine lv_istore_n (lv' := [(3, .int (nI (κ (2 + t) (κ 1 t - 1)))), (2, .ref (ad (16 + t))), (0, .ref (ad 0)), (1, .int (nI t))]) hx hb dX4_cut_33 rfl hl (by decide) rfl (fun ls hl => ?_)
    refine lv_aload_n hx hb dX4_cut_34 rfl (lv_at hl 2 rfl) ?_
    refine z_callm (va_runV (As := []) (rest := []) ⟨hx, hb, hml, hown, hts⟩ (c_X4_reckonCrowds l G ad σ (z_tk κ t) hinj hw1) (cwV 0 hts gX4_cut_X4_reckonCrowds rfl rfl rfl (by decide +kernel) ⟨Nat.le_of_ble_eq_true rfl, Nat.le_of_ble_eq_true rfl⟩) (z_prV (ci := 4) (k := 0) hX hP rfl z_g0) rfl rfl hl.1 rfl (lv_room (Nat.le_of_ble_eq_true rfl)) dX4_cut_35 ⟨Nat.le_of_ble_eq_true rfl, Nat.le_of_ble_eq_true rfl⟩) hS (fun _ _ h9 => h9) (fun _ h9 => h9) (fun H locs hP hz9 hk9 hS => ?_)
    have hD := z_Dm hinj (z_cC G ad (z_rkn σ (z_tk κ t)) (z_tk κ t))
    refine lv_iload_n hx hb dX4_cut_38 rfl (lv_at hl 0 rfl) ?_
    have hPf : va_P (z_DD G) vwCl (z_wC G ad (z_rkn σ (z_tk κ t)) (z_tk κ t)) H := by exact hP
    refine z_iret hx hb hr hlocks dX4_cut_39 (fun t ht hW => ⟨rfl, by rw [ht]; exact hPf, hS.F ht⟩) hS.2.2 ?_
    rfl
  · skip
    exact absurd (show (0 : Int32) < nI (κ 1 t) from nI_lt (a := 0) g1 (by omega)) c16

set_option maxHeartbeats 4000000 in
set_option maxRecDepth 100000 in
theorem c_X4_told (l : Launch) (G : z_GT) (ad : Nat → Nat) (σ : Nat → Nat → Int32) (κ : Nat → Nat → Nat) (hw : z_wf κ) (t : Nat) (ht : t < κ 0 1) (w9 : Nat) (h9 : w9 < 6) : Met l yX4_told wsX4_told ({ frames := 3, cells := 0, slots := 0, locals := 69 } : Room) (z_Pr G [.ref (ad 0), .int (nI t), .int (nI w9)] (z_wC G ad σ κ)) (z_Qo (some (.int (z_tld σ κ t w9)))) 0 0 (fun _ => False) := by
  refine Met.ofW (cc := cX4_told) (maxL := 4) (ret := (some .int)) (by decide) rfl ?_
  intro p e s m args below meth c s₁ B hml hw0
  obtain ⟨rfl, hX, hP⟩ := hw0
  have hK := hX.1
  have hx := B.exec
  have hb := B.bytes
  have hr := B.returns
  have hts := atoms_spec (ws := wsX4_told) B.pre
  have hown : s.vm.findClass RX4 = some m.cls := findClass_of_methodNamed B.named
  have hlocks := B.notSynchronized
  have hl := lv_entry ([.ref (ad 0), .int (nI t), .int (nI w9)]) (n := 4) (Nat.le_of_ble_eq_true rfl)
  rw [lg_entry_eq]
  generalize (lg_sl ([.ref (ad 0), .int (nI t), .int (nI w9)]) ++ List.replicate (4 - (lg_sl ([.ref (ad 0), .int (nI t), .int (nI w9)])).length) Slot.unset).toArray = ls at hl ⊢
  have hl : lv_has ls 4 [(0, .ref (ad 0)), (1, .int (nI t)), (2, .int (nI w9))] := hl
  have hf_RX4_158 : (Cond.fieldLink RX4 158 "BlossomTours" "today" "I").before ([.ref (ad 0), .int (nI t), .int (nI w9)] : List Value).toArray s = true := hts _ (by decide +kernel)
  have hf_RX4_17 : (Cond.fieldLink RX4 17 "BlossomTours" "tours" "[LBlossomTours$Tour;").before ([.ref (ad 0), .int (nI t), .int (nI w9)] : List Value).toArray s = true := hts _ (by decide +kernel)
  have hi_RX2 : ∀ w ∈ u_ws RX2 TX2 4, w ∈ wsX4_told := by decide +kernel
  have hi_RX4 : ∀ w ∈ u_ws RX4 TX4 9, w ∈ wsX4_told := by decide +kernel
  refine lv_aload_n hx hb dX4_told_0 rfl (lv_at hl 0 rfl) ?_
  refine lv_iload_n hx hb dX4_told_1 rfl (lv_at hl 1 rfl) ?_
  refine z_call (va_runV (As := [.int (nI t)]) (rest := []) ⟨hx, hb, hml, hown, hts⟩ (c_X4_checkTour l G ad σ κ t ht (Nat.le_trans hw.2.1 (by decide))) (cwV 1 hts gX4_told_X4_checkTour rfl rfl rfl (by decide +kernel) ⟨Nat.le_of_ble_eq_true rfl, Nat.le_of_ble_eq_true rfl⟩) (z_prV (ci := 4) (k := 0) hX hP rfl z_g0) rfl rfl hl.1 rfl (lv_room (Nat.le_of_ble_eq_true rfl)) dX4_told_2 ⟨Nat.le_of_ble_eq_true rfl, Nat.le_of_ble_eq_true rfl⟩) (fun _ h9 => h9) ?_
  refine lv_aload_n hx hb dX4_told_5 rfl (lv_at hl 0 rfl) ?_
  refine va_get (D := z_DD G) (ci := 4) (v := .ref (ad 2)) (C := RX4) (T := TX4) (N := 9) hx hb hts hi_RX4 hown hK hP 0 z_g0 rfl 1 (by decide) hf_RX4_17 (fun _ h9 => h9) rfl dX4_told_6 ?_
  refine lv_iload_n hx hb dX4_told_9 rfl (lv_at hl 1 rfl) ?_
  refine z_aald (k := t) (g := fun j => ad (16 + j)) hx hb hK hP 2 2 z_g2 rfl (Nat.lt_of_lt_of_le ht hw.2.1) (by decide) dX4_told_10 ?_
  refine lv_astore_n (lv' := [(3, .ref (ad (16 + t))), (0, .ref (ad 0)), (1, .int (nI t)), (2, .int (nI w9))]) hx hb dX4_told_11 rfl hl (by decide) rfl (fun ls hl => ?_)
  refine lv_iload_n hx hb dX4_told_12 rfl (lv_at hl 3 rfl) ?_
  rcases (show w9 = 0 ∨ w9 = 1 ∨ w9 = 2 ∨ w9 = 3 ∨ w9 = 4 ∨ w9 = 5 by omega) with rfl | rfl | rfl | rfl | rfl | rfl
  · skip
    refine lv_tableIn (x := nI 0) (off := 39) (tgt := 52) hx hb dX4_told_13 (by decide) (by decide) rfl (by decide) ?_
    refine lv_aload_n hx hb dX4_told_52 rfl (lv_at hl 0 rfl) ?_
    refine va_getN (D := z_DD G) (ci := 2) (v := .int (σ 5 t)) (C := RX2) (T := TX2) (N := 4) hx hb hts hi_RX2 hown hK hP (16 + t) (z_gT (Nat.lt_of_lt_of_le ht hw.2.1)) rfl 2 (by decide) (z_nfw hX.2 11 rfl) (fun _ h9 => h9) rfl dX4_told_53 ?_
    refine z_iret hx hb hr hlocks dX4_told_56 (fun t ht hW => ⟨rfl, ht⟩) (fun _ h9 => nomatch h9) ?_
    rfl
  · skip
    refine lv_tableIn (x := nI 1) (off := 44) (tgt := 57) hx hb dX4_told_13 (by decide) (by decide) rfl (by decide) ?_
    refine lv_aload_n hx hb dX4_told_57 rfl (lv_at hl 0 rfl) ?_
    refine va_getN (D := z_DD G) (ci := 2) (v := .int (nI (κ 1 t))) (C := RX2) (T := TX2) (N := 4) hx hb hts hi_RX2 hown hK hP (16 + t) (z_gT (Nat.lt_of_lt_of_le ht hw.2.1)) rfl 1 (by decide) (z_nfw hX.2 10 rfl) (fun _ h9 => h9) rfl dX4_told_58 ?_
    refine z_iret hx hb hr hlocks dX4_told_61 (fun t ht hW => ⟨rfl, ht⟩) (fun _ h9 => nomatch h9) ?_
    rfl
  · skip
    refine lv_tableIn (x := nI 2) (off := 49) (tgt := 62) hx hb dX4_told_13 (by decide) (by decide) rfl (by decide) ?_
    refine lv_aload_n hx hb dX4_told_62 rfl (lv_at hl 0 rfl) ?_
    refine va_getN (D := z_DD G) (ci := 2) (v := .int (σ 6 t)) (C := RX2) (T := TX2) (N := 4) hx hb hts hi_RX2 hown hK hP (16 + t) (z_gT (Nat.lt_of_lt_of_le ht hw.2.1)) rfl 3 (by decide) (z_nfw hX.2 12 rfl) (fun _ h9 => h9) rfl dX4_told_63 ?_
    refine z_iret hx hb hr hlocks dX4_told_66 (fun t ht hW => ⟨rfl, ht⟩) (fun _ h9 => nomatch h9) ?_
    rfl
  · skip
    refine lv_tableIn (x := nI 3) (off := 54) (tgt := 67) hx hb dX4_told_13 (by decide) (by decide) rfl (by decide) ?_
    refine lv_aload_n hx hb dX4_told_67 rfl (lv_at hl 0 rfl) ?_
    refine z_call (va_runVN (As := []) (rest := []) ⟨hx, hb, hml, hown, hts⟩ (c_X2_canGo l G ad σ κ t (Nat.lt_of_lt_of_le ht hw.2.1)) ⟨va_cnB 0 hts gX4_told_X2_canGo_n155 rfl rfl rfl (z_nmw hX.2 5 rfl) (hts (.initialized RX2) (by decide +kernel)) (by decide +kernel) ⟨Nat.le_of_ble_eq_true rfl, Nat.le_of_ble_eq_true rfl⟩, hts (.instanceMethod yX2_canGo) (by decide +kernel), hts (.selects RX2 yX2_canGo yX2_canGo) (by decide +kernel)⟩ (z_prV (ci := 2) (k := (16 + t)) hX hP rfl (z_gT (Nat.lt_of_lt_of_le ht hw.2.1))) rfl rfl hl.1 rfl (lv_room (Nat.le_of_ble_eq_true rfl)) dX4_told_68 ⟨Nat.le_of_ble_eq_true rfl, Nat.le_of_ble_eq_true rfl⟩) (fun _ h9 => h9) ?_
    refine W.eq (g2 := F0 m 71 ls [.int (z_gc (κ 1 t) (σ 6 t))]) rfl ?_
    refine lv_if_eq (tgt := 78) hx hb dX4_told_71 (by decide) (fun c71 => ?_) (fun c71 => ?_)
    · skip
      refine lv_iconst (v := 0) hx hb dX4_told_78 (by decide) ?_
      refine z_iret hx hb hr hlocks dX4_told_79 (fun t ht hW => ⟨rfl, ht⟩) (fun _ h9 => nomatch h9) ?_
      first | (show _ = (if z_gc (κ 1 t) (σ 6 t) = 0 then (0 : Int32) else 1); rw [if_neg c71]; done) | (show _ = (if z_gc (κ 1 t) (σ 6 t) = 0 then (0 : Int32) else 1); rw [if_pos c71])
    · skip
      refine lv_iconst (v := 1) hx hb dX4_told_74 (by decide) ?_
      refine lv_goto (tgt := 79) hx hb dX4_told_75 (by decide) ?_
      refine z_iret hx hb hr hlocks dX4_told_79 (fun t ht hW => ⟨rfl, ht⟩) (fun _ h9 => nomatch h9) ?_
      first | (show _ = (if z_gc (κ 1 t) (σ 6 t) = 0 then (0 : Int32) else 1); rw [if_neg c71]; done) | (show _ = (if z_gc (κ 1 t) (σ 6 t) = 0 then (0 : Int32) else 1); rw [if_pos c71])
  · skip
    refine lv_tableIn (x := nI 4) (off := 67) (tgt := 80) hx hb dX4_told_13 (by decide) (by decide) rfl (by decide) ?_
    refine lv_aload_n hx hb dX4_told_80 rfl (lv_at hl 1 rfl) ?_
    refine lv_aload_n hx hb dX4_told_81 rfl (lv_at hl 0 rfl) ?_
    refine lv_aload_n hx hb dX4_told_82 rfl (lv_at hl 1 rfl) ?_
    refine va_get (D := z_DD G) (ci := 4) (v := .int (σ 8 1)) (C := RX4) (T := TX4) (N := 9) hx hb hts hi_RX4 hown hK hP 0 z_g0 rfl 8 (by decide) hf_RX4_158 (fun _ h9 => h9) rfl dX4_told_83 ?_
    refine z_call (va_runV (As := [.ref (ad (16 + t)), .int (σ 8 1)]) (rest := []) ⟨hx, hb, hml, hown, hts⟩ (c_X4_joyOn l G ad σ κ hw t (Nat.lt_of_lt_of_le ht hw.2.1) (σ 8 1)) (cwV 2 hts gX4_told_X4_joyOn rfl rfl rfl (by decide +kernel) ⟨Nat.le_of_ble_eq_true rfl, Nat.le_of_ble_eq_true rfl⟩) (z_prV (ci := 4) (k := 0) hX hP rfl z_g0) rfl rfl hl.1 rfl (lv_room (Nat.le_of_ble_eq_true rfl)) dX4_told_86 ⟨Nat.le_of_ble_eq_true rfl, Nat.le_of_ble_eq_true rfl⟩) (fun _ h9 => h9) ?_
    refine W.eq (g2 := F0 m 89 ls [.int (z_joy σ κ t (σ 8 1))]) rfl ?_
    refine z_iret hx hb hr hlocks dX4_told_89 (fun t ht hW => ⟨rfl, ht⟩) (fun _ h9 => nomatch h9) ?_
    rfl
  · skip
    refine lv_tableIn (x := nI 5) (off := 77) (tgt := 90) hx hb dX4_told_13 (by decide) (by decide) rfl (by decide) ?_
    refine lv_aload_n hx hb dX4_told_90 rfl (lv_at hl 1 rfl) ?_
    refine lv_aload_n hx hb dX4_told_91 rfl (lv_at hl 0 rfl) ?_
    refine lv_aload_n hx hb dX4_told_92 rfl (lv_at hl 1 rfl) ?_
    refine va_get (D := z_DD G) (ci := 4) (v := .int (σ 8 1)) (C := RX4) (T := TX4) (N := 9) hx hb hts hi_RX4 hown hK hP 0 z_g0 rfl 8 (by decide) hf_RX4_158 (fun _ h9 => h9) rfl dX4_told_93 ?_
    refine z_call (va_runV (As := [.ref (ad (16 + t)), .int (σ 8 1)]) (rest := []) ⟨hx, hb, hml, hown, hts⟩ (c_X4_stingsOn l G ad σ κ hw t (Nat.lt_of_lt_of_le ht hw.2.1) (σ 8 1)) (cwV 2 hts gX4_told_X4_stingsOn rfl rfl rfl (by decide +kernel) ⟨Nat.le_of_ble_eq_true rfl, Nat.le_of_ble_eq_true rfl⟩) (z_prV (ci := 4) (k := 0) hX hP rfl z_g0) rfl rfl hl.1 rfl (lv_room (Nat.le_of_ble_eq_true rfl)) dX4_told_96 ⟨Nat.le_of_ble_eq_true rfl, Nat.le_of_ble_eq_true rfl⟩) (fun _ h9 => h9) ?_
    refine W.eq (g2 := F0 m 99 ls [.int (z_stg σ κ t (σ 8 1))]) rfl ?_
    refine z_iret hx hb hr hlocks dX4_told_99 (fun t ht hW => ⟨rfl, ht⟩) (fun _ h9 => nomatch h9) ?_
    rfl

set_option maxHeartbeats 4000000 in
set_option maxRecDepth 100000 in
theorem c_X4_about (l : Launch) (G : z_GT) (ad : Nat → Nat) (σ : Nat → Nat → Int32) (κ : Nat → Nat → Nat) (hw : z_wf κ) (v : Nat) (hv : v < κ 0 0) (w9 : Nat) (h9 : w9 < 6) : Met l yX4_about wsX4_about ({ frames := 2, cells := 0, slots := 0, locals := 45 } : Room) (z_Pr G [.ref (ad 0), .int (nI v), .int (nI w9)] (z_wC G ad σ κ)) (z_Qo (some (.int (z_abt σ v w9)))) 0 0 (fun _ => False) := by
  refine Met.ofW (cc := cX4_about) (maxL := 4) (ret := (some .int)) (by decide) rfl ?_
  intro p e s m args below meth c s₁ B hml hw0
  obtain ⟨rfl, hX, hP⟩ := hw0
  have hK := hX.1
  have hx := B.exec
  have hb := B.bytes
  have hr := B.returns
  have hts := atoms_spec (ws := wsX4_about) B.pre
  have hown : s.vm.findClass RX4 = some m.cls := findClass_of_methodNamed B.named
  have hlocks := B.notSynchronized
  have hl := lv_entry ([.ref (ad 0), .int (nI v), .int (nI w9)]) (n := 4) (Nat.le_of_ble_eq_true rfl)
  rw [lg_entry_eq]
  generalize (lg_sl ([.ref (ad 0), .int (nI v), .int (nI w9)]) ++ List.replicate (4 - (lg_sl ([.ref (ad 0), .int (nI v), .int (nI w9)])).length) Slot.unset).toArray = ls at hl ⊢
  have hl : lv_has ls 4 [(0, .ref (ad 0)), (1, .int (nI v)), (2, .int (nI w9))] := hl
  have hf_RX4_11 : (Cond.fieldLink RX4 11 "BlossomTours" "valleys" "[LBlossomTours$Valley;").before ([.ref (ad 0), .int (nI v), .int (nI w9)] : List Value).toArray s = true := hts _ (by decide +kernel)
  have hf_RX4_158 : (Cond.fieldLink RX4 158 "BlossomTours" "today" "I").before ([.ref (ad 0), .int (nI v), .int (nI w9)] : List Value).toArray s = true := hts _ (by decide +kernel)
  have hi_RX3 : ∀ w ∈ u_ws RX3 TX3 5, w ∈ wsX4_about := by decide +kernel
  have hi_RX4 : ∀ w ∈ u_ws RX4 TX4 9, w ∈ wsX4_about := by decide +kernel
  refine lv_aload_n hx hb dX4_about_0 rfl (lv_at hl 0 rfl) ?_
  refine lv_iload_n hx hb dX4_about_1 rfl (lv_at hl 1 rfl) ?_
  refine z_call (va_runV (As := [.int (nI v)]) (rest := []) ⟨hx, hb, hml, hown, hts⟩ (c_X4_checkValley l G ad σ κ v hv hw.1) (cwV 1 hts gX4_about_X4_checkValley rfl rfl rfl (by decide +kernel) ⟨Nat.le_of_ble_eq_true rfl, Nat.le_of_ble_eq_true rfl⟩) (z_prV (ci := 4) (k := 0) hX hP rfl z_g0) rfl rfl hl.1 rfl (lv_room (Nat.le_of_ble_eq_true rfl)) dX4_about_2 ⟨Nat.le_of_ble_eq_true rfl, Nat.le_of_ble_eq_true rfl⟩) (fun _ h9 => h9) ?_
  refine lv_aload_n hx hb dX4_about_5 rfl (lv_at hl 0 rfl) ?_
  refine va_get (D := z_DD G) (ci := 4) (v := .ref (ad 1)) (C := RX4) (T := TX4) (N := 9) hx hb hts hi_RX4 hown hK hP 0 z_g0 rfl 0 (by decide) hf_RX4_11 (fun _ h9 => h9) rfl dX4_about_6 ?_
  refine lv_iload_n hx hb dX4_about_9 rfl (lv_at hl 1 rfl) ?_
  refine z_aald (k := v) (g := fun j => ad (8 + j)) hx hb hK hP 1 1 z_g1 rfl (Nat.lt_of_lt_of_le hv hw.1) (by decide) dX4_about_10 ?_
  refine lv_astore_n (lv' := [(3, .ref (ad (8 + v))), (0, .ref (ad 0)), (1, .int (nI v)), (2, .int (nI w9))]) hx hb dX4_about_11 rfl hl (by decide) rfl (fun ls hl => ?_)
  refine lv_iload_n hx hb dX4_about_12 rfl (lv_at hl 3 rfl) ?_
  rcases (show w9 = 0 ∨ w9 = 1 ∨ w9 = 2 ∨ w9 = 3 ∨ w9 = 4 ∨ w9 = 5 by omega) with rfl | rfl | rfl | rfl | rfl | rfl
  · skip
    refine lv_tableIn (x := nI 0) (off := 39) (tgt := 52) hx hb dX4_about_13 (by decide) (by decide) rfl (by decide) ?_
    refine lv_aload_n hx hb dX4_about_52 rfl (lv_at hl 0 rfl) ?_
    refine va_getN (D := z_DD G) (ci := 3) (v := .int (σ 0 v)) (C := RX3) (T := TX3) (N := 5) hx hb hts hi_RX3 hown hK hP (8 + v) (z_gV (Nat.lt_of_lt_of_le hv hw.1)) rfl 0 (by decide) (z_nfw hX.2 4 rfl) (fun _ h9 => h9) rfl dX4_about_53 ?_
    refine z_iret hx hb hr hlocks dX4_about_56 (fun t ht hW => ⟨rfl, ht⟩) (fun _ h9 => nomatch h9) ?_
    rfl
  · skip
    refine lv_tableIn (x := nI 1) (off := 44) (tgt := 57) hx hb dX4_about_13 (by decide) (by decide) rfl (by decide) ?_
    refine lv_aload_n hx hb dX4_about_57 rfl (lv_at hl 0 rfl) ?_
    refine va_getN (D := z_DD G) (ci := 3) (v := .int (σ 1 v)) (C := RX3) (T := TX3) (N := 5) hx hb hts hi_RX3 hown hK hP (8 + v) (z_gV (Nat.lt_of_lt_of_le hv hw.1)) rfl 1 (by decide) (z_nfw hX.2 5 rfl) (fun _ h9 => h9) rfl dX4_about_58 ?_
    refine z_iret hx hb hr hlocks dX4_about_61 (fun t ht hW => ⟨rfl, ht⟩) (fun _ h9 => nomatch h9) ?_
    rfl
  · skip
    refine lv_tableIn (x := nI 2) (off := 49) (tgt := 62) hx hb dX4_about_13 (by decide) (by decide) rfl (by decide) ?_
    refine lv_aload_n hx hb dX4_about_62 rfl (lv_at hl 0 rfl) ?_
    refine va_getN (D := z_DD G) (ci := 3) (v := .int (σ 2 v)) (C := RX3) (T := TX3) (N := 5) hx hb hts hi_RX3 hown hK hP (8 + v) (z_gV (Nat.lt_of_lt_of_le hv hw.1)) rfl 2 (by decide) (z_nfw hX.2 6 rfl) (fun _ h9 => h9) rfl dX4_about_63 ?_
    refine z_iret hx hb hr hlocks dX4_about_66 (fun t ht hW => ⟨rfl, ht⟩) (fun _ h9 => nomatch h9) ?_
    rfl
  · skip
    refine lv_tableIn (x := nI 3) (off := 54) (tgt := 67) hx hb dX4_about_13 (by decide) (by decide) rfl (by decide) ?_
    refine lv_aload_n hx hb dX4_about_67 rfl (lv_at hl 0 rfl) ?_
    refine lv_aload_n hx hb dX4_about_68 rfl (lv_at hl 1 rfl) ?_
    refine va_get (D := z_DD G) (ci := 4) (v := .int (σ 8 1)) (C := RX4) (T := TX4) (N := 9) hx hb hts hi_RX4 hown hK hP 0 z_g0 rfl 8 (by decide) hf_RX4_158 (fun _ h9 => h9) rfl dX4_about_69 ?_
    refine z_call (va_runVN (As := [.int (σ 8 1)]) (rest := []) ⟨hx, hb, hml, hown, hts⟩ (c_X3_bloomOn l G ad σ κ v (σ 8 1) (Nat.lt_of_lt_of_le hv hw.1)) ⟨va_cnB 1 hts gX4_about_X3_bloomOn_n107 rfl rfl rfl (z_nmw hX.2 4 rfl) (hts (.initialized RX3) (by decide +kernel)) (by decide +kernel) ⟨Nat.le_of_ble_eq_true rfl, Nat.le_of_ble_eq_true rfl⟩, hts (.instanceMethod yX3_bloomOn) (by decide +kernel), hts (.selects RX3 yX3_bloomOn yX3_bloomOn) (by decide +kernel)⟩ (z_prV (ci := 3) (k := (8 + v)) hX hP rfl (z_gV (Nat.lt_of_lt_of_le hv hw.1))) rfl rfl hl.1 rfl (lv_room (Nat.le_of_ble_eq_true rfl)) dX4_about_72 ⟨Nat.le_of_ble_eq_true rfl, Nat.le_of_ble_eq_true rfl⟩) (fun _ h9 => h9) ?_
    refine W.eq (g2 := F0 m 75 ls [.int (z_bl (σ 0 v) (σ 1 v) (σ 8 1))]) rfl ?_
    refine z_iret hx hb hr hlocks dX4_about_75 (fun t ht hW => ⟨rfl, ht⟩) (fun _ h9 => nomatch h9) ?_
    rfl
  · skip
    refine lv_tableIn (x := nI 4) (off := 63) (tgt := 76) hx hb dX4_about_13 (by decide) (by decide) rfl (by decide) ?_
    refine lv_aload_n hx hb dX4_about_76 rfl (lv_at hl 0 rfl) ?_
    refine va_getN (D := z_DD G) (ci := 3) (v := .int (σ 3 v)) (C := RX3) (T := TX3) (N := 5) hx hb hts hi_RX3 hown hK hP (8 + v) (z_gV (Nat.lt_of_lt_of_le hv hw.1)) rfl 3 (by decide) (z_nfw hX.2 7 rfl) (fun _ h9 => h9) rfl dX4_about_77 ?_
    refine z_iret hx hb hr hlocks dX4_about_80 (fun t ht hW => ⟨rfl, ht⟩) (fun _ h9 => nomatch h9) ?_
    rfl
  · skip
    refine lv_tableIn (x := nI 5) (off := 68) (tgt := 81) hx hb dX4_about_13 (by decide) (by decide) rfl (by decide) ?_
    refine lv_aload_n hx hb dX4_about_81 rfl (lv_at hl 0 rfl) ?_
    refine va_getN (D := z_DD G) (ci := 3) (v := .int (σ 4 v)) (C := RX3) (T := TX3) (N := 5) hx hb hts hi_RX3 hown hK hP (8 + v) (z_gV (Nat.lt_of_lt_of_le hv hw.1)) rfl 4 (by decide) (z_nfw hX.2 8 rfl) (fun _ h9 => h9) rfl dX4_about_82 ?_
    refine z_iret hx hb hr hlocks dX4_about_85 (fun t ht hW => ⟨rfl, ht⟩) (fun _ h9 => nomatch h9) ?_
    rfl

set_option maxHeartbeats 4000000 in
set_option maxRecDepth 100000 in
theorem c_X4_count (l : Launch) (G : z_GT) (ad : Nat → Nat) (σ : Nat → Nat → Int32) (κ : Nat → Nat → Nat) (hw : z_wf κ) (w9 : Nat) (h9 : w9 < 9) : Met l yX4_count wsX4_count ({ frames := 3, cells := 0, slots := 0, locals := 68 } : Room) (z_Pr G [.ref (ad 0), .int (nI w9)] (z_wC G ad σ κ)) (z_Qo (some (.int (z_cnt σ κ w9)))) 0 0 (fun _ => False) := by
  refine Met.ofW (cc := cX4_count) (maxL := 2) (ret := (some .int)) (by decide) rfl ?_
  intro p e s m args below meth c s₁ B hml hw0
  obtain ⟨rfl, hX, hP⟩ := hw0
  have hK := hX.1
  have hx := B.exec
  have hb := B.bytes
  have hr := B.returns
  have hts := atoms_spec (ws := wsX4_count) B.pre
  have hown : s.vm.findClass RX4 = some m.cls := findClass_of_methodNamed B.named
  have hlocks := B.notSynchronized
  have hl := lv_entry ([.ref (ad 0), .int (nI w9)]) (n := 2) (Nat.le_of_ble_eq_true rfl)
  rw [lg_entry_eq]
  generalize (lg_sl ([.ref (ad 0), .int (nI w9)]) ++ List.replicate (2 - (lg_sl ([.ref (ad 0), .int (nI w9)])).length) Slot.unset).toArray = ls at hl ⊢
  have hl : lv_has ls 2 [(0, .ref (ad 0)), (1, .int (nI w9))] := hl
  have hf_RX4_117 : (Cond.fieldLink RX4 117 "BlossomTours" "tourCount" "I").before ([.ref (ad 0), .int (nI w9)] : List Value).toArray s = true := hts _ (by decide +kernel)
  have hf_RX4_158 : (Cond.fieldLink RX4 158 "BlossomTours" "today" "I").before ([.ref (ad 0), .int (nI w9)] : List Value).toArray s = true := hts _ (by decide +kernel)
  have hf_RX4_28 : (Cond.fieldLink RX4 28 "BlossomTours" "roads" "LBlossomTours$Roads;").before ([.ref (ad 0), .int (nI w9)] : List Value).toArray s = true := hts _ (by decide +kernel)
  have hf_RX4_35 : (Cond.fieldLink RX4 35 "BlossomTours" "books" "LBlossomTours$Books;").before ([.ref (ad 0), .int (nI w9)] : List Value).toArray s = true := hts _ (by decide +kernel)
  have hf_RX4_59 : (Cond.fieldLink RX4 59 "BlossomTours" "valleyCount" "I").before ([.ref (ad 0), .int (nI w9)] : List Value).toArray s = true := hts _ (by decide +kernel)
  have hi_RX0 : ∀ w ∈ u_ws RX0 TX0 3, w ∈ wsX4_count := by decide +kernel
  have hi_RX1 : ∀ w ∈ u_ws RX1 TX1 2, w ∈ wsX4_count := by decide +kernel
  have hi_RX4 : ∀ w ∈ u_ws RX4 TX4 9, w ∈ wsX4_count := by decide +kernel
  refine lv_iload_n hx hb dX4_count_0 rfl (lv_at hl 1 rfl) ?_
  rcases (show w9 = 0 ∨ w9 = 1 ∨ w9 = 2 ∨ w9 = 3 ∨ w9 = 4 ∨ w9 = 5 ∨ w9 = 6 ∨ w9 = 7 ∨ w9 = 8 by omega) with rfl | rfl | rfl | rfl | rfl | rfl | rfl | rfl | rfl
  · skip
    refine lv_tableIn (x := nI 0) (off := 51) (tgt := 52) hx hb dX4_count_1 (by decide) (by decide) rfl (by decide) ?_
    refine lv_aload_n hx hb dX4_count_52 rfl (lv_at hl 0 rfl) ?_
    refine va_get (D := z_DD G) (ci := 4) (v := .int (σ 8 1)) (C := RX4) (T := TX4) (N := 9) hx hb hts hi_RX4 hown hK hP 0 z_g0 rfl 8 (by decide) hf_RX4_158 (fun _ h9 => h9) rfl dX4_count_53 ?_
    refine z_iret hx hb hr hlocks dX4_count_56 (fun t ht hW => ⟨rfl, ht⟩) (fun _ h9 => nomatch h9) ?_
    rfl
  · skip
    refine lv_tableIn (x := nI 1) (off := 56) (tgt := 57) hx hb dX4_count_1 (by decide) (by decide) rfl (by decide) ?_
    refine lv_aload_n hx hb dX4_count_57 rfl (lv_at hl 0 rfl) ?_
    refine va_get (D := z_DD G) (ci := 4) (v := .int (nI (κ 0 0))) (C := RX4) (T := TX4) (N := 9) hx hb hts hi_RX4 hown hK hP 0 z_g0 rfl 6 (by decide) hf_RX4_59 (fun _ h9 => h9) rfl dX4_count_58 ?_
    refine z_iret hx hb hr hlocks dX4_count_61 (fun t ht hW => ⟨rfl, ht⟩) (fun _ h9 => nomatch h9) ?_
    rfl
  · skip
    refine lv_tableIn (x := nI 2) (off := 61) (tgt := 62) hx hb dX4_count_1 (by decide) (by decide) rfl (by decide) ?_
    refine lv_aload_n hx hb dX4_count_62 rfl (lv_at hl 0 rfl) ?_
    refine va_get (D := z_DD G) (ci := 4) (v := .ref (ad 4)) (C := RX4) (T := TX4) (N := 9) hx hb hts hi_RX4 hown hK hP 0 z_g0 rfl 3 (by decide) hf_RX4_28 (fun _ h9 => h9) rfl dX4_count_63 ?_
    refine va_getN (D := z_DD G) (ci := 1) (v := .int (σ 8 0)) (C := RX1) (T := TX1) (N := 2) hx hb hts hi_RX1 hown hK hP 4 z_g4 rfl 1 (by decide) (z_nfw hX.2 0 rfl) (fun _ h9 => h9) rfl dX4_count_66 ?_
    refine z_iret hx hb hr hlocks dX4_count_69 (fun t ht hW => ⟨rfl, ht⟩) (fun _ h9 => nomatch h9) ?_
    rfl
  · skip
    refine lv_tableIn (x := nI 3) (off := 69) (tgt := 70) hx hb dX4_count_1 (by decide) (by decide) rfl (by decide) ?_
    refine lv_aload_n hx hb dX4_count_70 rfl (lv_at hl 0 rfl) ?_
    refine va_get (D := z_DD G) (ci := 4) (v := .int (nI (κ 0 1))) (C := RX4) (T := TX4) (N := 9) hx hb hts hi_RX4 hown hK hP 0 z_g0 rfl 7 (by decide) hf_RX4_117 (fun _ h9 => h9) rfl dX4_count_71 ?_
    refine z_iret hx hb hr hlocks dX4_count_74 (fun t ht hW => ⟨rfl, ht⟩) (fun _ h9 => nomatch h9) ?_
    rfl
  · skip
    refine lv_tableIn (x := nI 4) (off := 74) (tgt := 75) hx hb dX4_count_1 (by decide) (by decide) rfl (by decide) ?_
    refine lv_aload_n hx hb dX4_count_75 rfl (lv_at hl 0 rfl) ?_
    refine z_call (va_runV (As := []) (rest := []) ⟨hx, hb, hml, hown, hts⟩ (c_X4_toursThatCanGo l G ad σ κ hw) (cwV 0 hts gX4_count_X4_toursThatCanGo rfl rfl rfl (by decide +kernel) ⟨Nat.le_of_ble_eq_true rfl, Nat.le_of_ble_eq_true rfl⟩) (z_prV (ci := 4) (k := 0) hX hP rfl z_g0) rfl rfl hl.1 rfl (lv_room (Nat.le_of_ble_eq_true rfl)) dX4_count_76 ⟨Nat.le_of_ble_eq_true rfl, Nat.le_of_ble_eq_true rfl⟩) (fun _ h9 => h9) ?_
    refine W.eq (g2 := F0 m 79 ls [.int (z_sm (z_gn σ κ) (κ 0 1))]) rfl ?_
    refine z_iret hx hb hr hlocks dX4_count_79 (fun t ht hW => ⟨rfl, ht⟩) (fun _ h9 => nomatch h9) ?_
    rfl
  · skip
    refine lv_tableIn (x := nI 5) (off := 79) (tgt := 80) hx hb dX4_count_1 (by decide) (by decide) rfl (by decide) ?_
    refine lv_aload_n hx hb dX4_count_80 rfl (lv_at hl 0 rfl) ?_
    refine lv_aload_n hx hb dX4_count_81 rfl (lv_at hl 0 rfl) ?_
    refine va_get (D := z_DD G) (ci := 4) (v := .int (σ 8 1)) (C := RX4) (T := TX4) (N := 9) hx hb hts hi_RX4 hown hK hP 0 z_g0 rfl 8 (by decide) hf_RX4_158 (fun _ h9 => h9) rfl dX4_count_82 ?_
    refine z_call (va_runV (As := [.int (σ 8 1)]) (rest := []) ⟨hx, hb, hml, hown, hts⟩ (c_X4_valleysInBloomOn l G ad σ κ hw (σ 8 1)) (cwV 1 hts gX4_count_X4_valleysInBloomOn rfl rfl rfl (by decide +kernel) ⟨Nat.le_of_ble_eq_true rfl, Nat.le_of_ble_eq_true rfl⟩) (z_prV (ci := 4) (k := 0) hX hP rfl z_g0) rfl rfl hl.1 rfl (lv_room (Nat.le_of_ble_eq_true rfl)) dX4_count_85 ⟨Nat.le_of_ble_eq_true rfl, Nat.le_of_ble_eq_true rfl⟩) (fun _ h9 => h9) ?_
    refine W.eq (g2 := F0 m 88 ls [.int (z_sm (z_bn σ (σ 8 1)) (κ 0 0))]) rfl ?_
    refine z_iret hx hb hr hlocks dX4_count_88 (fun t ht hW => ⟨rfl, ht⟩) (fun _ h9 => nomatch h9) ?_
    rfl
  · skip
    refine lv_tableIn (x := nI 6) (off := 88) (tgt := 89) hx hb dX4_count_1 (by decide) (by decide) rfl (by decide) ?_
    refine lv_aload_n hx hb dX4_count_89 rfl (lv_at hl 0 rfl) ?_
    refine va_get (D := z_DD G) (ci := 4) (v := .ref (ad 6)) (C := RX4) (T := TX4) (N := 9) hx hb hts hi_RX4 hown hK hP 0 z_g0 rfl 4 (by decide) hf_RX4_35 (fun _ h9 => h9) rfl dX4_count_90 ?_
    refine va_getN (D := z_DD G) (ci := 0) (v := .int (σ 8 2)) (C := RX0) (T := TX0) (N := 3) hx hb hts hi_RX0 hown hK hP 6 z_g6 rfl 0 (by decide) (z_nfw hX.2 1 rfl) (fun _ h9 => h9) rfl dX4_count_93 ?_
    refine z_iret hx hb hr hlocks dX4_count_96 (fun t ht hW => ⟨rfl, ht⟩) (fun _ h9 => nomatch h9) ?_
    rfl
  · skip
    refine lv_tableIn (x := nI 7) (off := 96) (tgt := 97) hx hb dX4_count_1 (by decide) (by decide) rfl (by decide) ?_
    refine lv_aload_n hx hb dX4_count_97 rfl (lv_at hl 0 rfl) ?_
    refine va_get (D := z_DD G) (ci := 4) (v := .ref (ad 6)) (C := RX4) (T := TX4) (N := 9) hx hb hts hi_RX4 hown hK hP 0 z_g0 rfl 4 (by decide) hf_RX4_35 (fun _ h9 => h9) rfl dX4_count_98 ?_
    refine va_getN (D := z_DD G) (ci := 0) (v := .int (σ 8 3)) (C := RX0) (T := TX0) (N := 3) hx hb hts hi_RX0 hown hK hP 6 z_g6 rfl 1 (by decide) (z_nfw hX.2 2 rfl) (fun _ h9 => h9) rfl dX4_count_101 ?_
    refine z_iret hx hb hr hlocks dX4_count_104 (fun t ht hW => ⟨rfl, ht⟩) (fun _ h9 => nomatch h9) ?_
    rfl
  · skip
    refine lv_tableIn (x := nI 8) (off := 104) (tgt := 105) hx hb dX4_count_1 (by decide) (by decide) rfl (by decide) ?_
    refine lv_aload_n hx hb dX4_count_105 rfl (lv_at hl 0 rfl) ?_
    refine va_get (D := z_DD G) (ci := 4) (v := .ref (ad 6)) (C := RX4) (T := TX4) (N := 9) hx hb hts hi_RX4 hown hK hP 0 z_g0 rfl 4 (by decide) hf_RX4_35 (fun _ h9 => h9) rfl dX4_count_106 ?_
    refine va_getN (D := z_DD G) (ci := 0) (v := .int (σ 8 4)) (C := RX0) (T := TX0) (N := 3) hx hb hts hi_RX0 hown hK hP 6 z_g6 rfl 2 (by decide) (z_nfw hX.2 3 rfl) (fun _ h9 => h9) rfl dX4_count_109 ?_
    refine z_iret hx hb hr hlocks dX4_count_112 (fun t ht hW => ⟨rfl, ht⟩) (fun _ h9 => nomatch h9) ?_
    rfl

set_option maxHeartbeats 4000000 in
set_option maxRecDepth 100000 in
theorem c_X4_pass (l : Launch) (G : z_GT) (ad : Nat → Nat) (σ : Nat → Nat → Int32) (κ : Nat → Nat → Nat) (hinj : ∀ i j, i < 36 → j < 36 → ad i = ad j → i = j) (hw : z_wf κ) (T n : Nat) (hT9 : σ 8 1 = nI T) (hT2 : T + n < 2 ^ 31) (g : ¬ z_wi (nI n) 1 60 = 0) : Met l yX4_pass wsX4_pass ({ frames := 5, cells := 0, slots := 0, locals := 118 } : Room) (z_Pr G [.ref (ad 0), .int (nI n)] (z_wC G ad σ κ)) (z_Qm G (some (.int (σ 8 2 + z_dd (z_fc σ κ) T (κ 0 1) n - σ 8 2))) (z_wC G ad (z_ps σ κ T n) κ) (z_A 36 ad)) 0 0 (z_A 36 ad) := by
  refine Met.ofW (cc := cX4_pass) (maxL := 3) (ret := (some .int)) (by decide) rfl ?_
  intro p e s m args below meth c s₁ B hml hw0
  obtain ⟨rfl, hX, hP⟩ := hw0
  have hK := hX.1
  have hx := B.exec
  have hb := B.bytes
  have hr := B.returns
  have hts := atoms_spec (ws := wsX4_pass) B.pre
  have hown : s.vm.findClass RX4 = some m.cls := findClass_of_methodNamed B.named
  have hlocks := B.notSynchronized
  have hl := lv_entry ([.ref (ad 0), .int (nI n)]) (n := 3) (Nat.le_of_ble_eq_true rfl)
  rw [lg_entry_eq]
  generalize (lg_sl ([.ref (ad 0), .int (nI n)]) ++ List.replicate (3 - (lg_sl ([.ref (ad 0), .int (nI n)])).length) Slot.unset).toArray = ls at hl ⊢
  have hl : lv_has ls 3 [(0, .ref (ad 0)), (1, .int (nI n))] := hl
  have hf_RX4_158 : (Cond.fieldLink RX4 158 "BlossomTours" "today" "I").before ([.ref (ad 0), .int (nI n)] : List Value).toArray s = true := hts _ (by decide +kernel)
  have hf_RX4_35 : (Cond.fieldLink RX4 35 "BlossomTours" "books" "LBlossomTours$Books;").before ([.ref (ad 0), .int (nI n)] : List Value).toArray s = true := hts _ (by decide +kernel)
  have hi_RX0 : ∀ w ∈ u_ws RX0 TX0 3, w ∈ wsX4_pass := by decide +kernel
  have hi_RX4 : ∀ w ∈ u_ws RX4 TX4 9, w ∈ wsX4_pass := by decide +kernel
  have hS : va_S (z_A 36 ad) s.heap s.heap [] := va_S.rf
  have hD := z_Dm hinj (z_cC G ad σ κ)
  refine lv_iload_n hx hb dX4_pass_0 rfl (lv_at hl 1 rfl) ?_
  refine z_call (va_runS (As := [.int (nI n)]) (rest := []) ⟨hx, hb, hml, hown, hts⟩ (c_X4_checkSpan l G (nI n) g) (va_cwS 1 hts gX4_pass_X4_checkSpan rfl rfl rfl (by decide +kernel) ⟨Nat.le_of_ble_eq_true rfl, Nat.le_of_ble_eq_true rfl⟩) (z_prS hX z_P0) rfl rfl hl.1 rfl (lv_room (Nat.le_of_ble_eq_true rfl)) dX4_pass_1 ⟨Nat.le_of_ble_eq_true rfl, Nat.le_of_ble_eq_true rfl⟩) (fun _ h9 => h9) ?_
  refine lv_aload_n hx hb dX4_pass_4 rfl (lv_at hl 0 rfl) ?_
  refine va_get (D := z_DD G) (ci := 4) (v := .ref (ad 6)) (C := RX4) (T := TX4) (N := 9) hx hb hts hi_RX4 hown hK hP 0 z_g0 rfl 4 (by decide) hf_RX4_35 (fun _ h9 => h9) rfl dX4_pass_5 ?_
  refine va_getN (D := z_DD G) (ci := 0) (v := .int (σ 8 2)) (C := RX0) (T := TX0) (N := 3) hx hb hts hi_RX0 hown hK hP 6 z_g6 rfl 0 (by decide) (z_nfw hX.2 1 rfl) (fun _ h9 => h9) rfl dX4_pass_8 ?_
  refine lv_istore_n (lv' := [(2, .int (σ 8 2)), (0, .ref (ad 0)), (1, .int (nI n))]) hx hb dX4_pass_11 rfl hl (by decide) rfl (fun ls hl => ?_)
  refine lv_aload_n hx hb dX4_pass_12 rfl (lv_at hl 1 rfl) ?_
  refine lv_aload_n hx hb dX4_pass_13 rfl (lv_at hl 1 rfl) ?_
  refine va_get (D := z_DD G) (ci := 4) (v := .ref (ad 6)) (C := RX4) (T := TX4) (N := 9) hx hb hts hi_RX4 hown hK hP 0 z_g0 rfl 4 (by decide) hf_RX4_35 (fun _ h9 => h9) rfl dX4_pass_14 ?_
  refine lv_iload_n hx hb dX4_pass_17 rfl (lv_at hl 2 rfl) ?_
  refine z_callm (va_runV (As := [.ref (ad 6), .int (nI n)]) (rest := []) ⟨hx, hb, hml, hown, hts⟩ (c_X4_enterDays_b l G ad σ κ hinj hw T n hT9 hT2) (cwV 2 hts gX4_pass_X4_enterDays rfl rfl rfl (by decide +kernel) ⟨Nat.le_of_ble_eq_true rfl, Nat.le_of_ble_eq_true rfl⟩) (z_prV (ci := 4) (k := 0) hX hP rfl z_g0) rfl rfl hl.1 rfl (lv_room (Nat.le_of_ble_eq_true rfl)) dX4_pass_18 ⟨Nat.le_of_ble_eq_true rfl, Nat.le_of_ble_eq_true rfl⟩) hS (fun _ _ h9 => h9) (fun _ h9 => h9) (fun H locs hP hz9 hk9 hS => ?_)
  have hD := z_Dm hinj (z_cC G ad (z_k3 σ 2 (σ 8 2 + z_dd (z_fc σ κ) T (κ 0 1) n) (σ 8 3 + z_dd (z_fj σ κ) T (κ 0 1) n) (σ 8 4 + z_dd (z_fs σ κ) T (κ 0 1) n)) κ)
  refine lv_aload_n hx hb dX4_pass_21 rfl (lv_at hl 1 rfl) ?_
  refine lv_dup hx hb dX4_pass_22 rfl ?_
  refine va_get (D := z_DD G) (ci := 4) (v := .int ((z_k3 σ 2 (σ 8 2 + z_dd (z_fc σ κ) T (κ 0 1) n) (σ 8 3 + z_dd (z_fj σ κ) T (κ 0 1) n) (σ 8 4 + z_dd (z_fs σ κ) T (κ 0 1) n)) 8 1)) (C := RX4) (T := TX4) (N := 9) hx hb hts hi_RX4 hown hK hP 0 z_g0 rfl 8 (by decide) hf_RX4_158 (fun _ h9 => h9) rfl dX4_pass_23 ?_
  refine z_top (show (.int ((z_k3 σ 2 (σ 8 2 + z_dd (z_fc σ κ) T (κ 0 1) n) (σ 8 3 + z_dd (z_fj σ κ) T (κ 0 1) n) (σ 8 4 + z_dd (z_fs σ κ) T (κ 0 1) n)) 8 1) : Value) = .int (nI T) from by (show Value.int (σ 8 1) = _; rw [hT9])) ?_
  refine lv_iload_n hx hb dX4_pass_26 rfl (lv_at hl 2 rfl) ?_
  refine lv_iadd hx hb dX4_pass_27 ?_
  refine z_top (show (.int ((nI T) + (nI n)) : Value) = .int (nI (T + n)) from by rw [nI_add]) ?_
  refine va_put (D := z_DD G) (ci := 4) (v := .int (nI (T + n))) (ty := .int) (C := RX4) (T := TX4) (N := 9) hx hb hts hi_RX4 tyX4 tyX4_ok nmX4 hown hK hP hD hS 0 z_g0 rfl 8 (by decide) hf_RX4_158 (fun _ h9 => h9) rfl (by decide +kernel) rfl rfl (Nat.le_of_ble_eq_true rfl) dX4_pass_28 (fun H locs hP hD hS => ?_)
  have hP : va_P (z_DD G) vwCl (z_wC G ad (z_up (z_k3 σ 2 (σ 8 2 + z_dd (z_fc σ κ) T (κ 0 1) n) (σ 8 3 + z_dd (z_fj σ κ) T (κ 0 1) n) (σ 8 4 + z_dd (z_fs σ κ) T (κ 0 1) n)) 8 1 (nI (T + n))) κ) H := Eq.mp (congrArg (fun w => va_P (z_DD G) vwCl w H) z_sM8) hP
  have hD := z_Dm hinj (z_cC G ad (z_up (z_k3 σ 2 (σ 8 2 + z_dd (z_fc σ κ) T (κ 0 1) n) (σ 8 3 + z_dd (z_fj σ κ) T (κ 0 1) n) (σ 8 4 + z_dd (z_fs σ κ) T (κ 0 1) n)) 8 1 (nI (T + n))) κ)
  refine lv_aload_n hx hb dX4_pass_31 rfl (lv_at hl 1 rfl) ?_
  refine va_get (D := z_DD G) (ci := 4) (v := .ref (ad 6)) (C := RX4) (T := TX4) (N := 9) hx hb hts hi_RX4 hown hK hP 0 z_g0 rfl 4 (by decide) hf_RX4_35 (fun _ h9 => h9) rfl dX4_pass_32 ?_
  refine va_getN (D := z_DD G) (ci := 0) (v := .int ((z_up (z_k3 σ 2 (σ 8 2 + z_dd (z_fc σ κ) T (κ 0 1) n) (σ 8 3 + z_dd (z_fj σ κ) T (κ 0 1) n) (σ 8 4 + z_dd (z_fs σ κ) T (κ 0 1) n)) 8 1 (nI (T + n))) 8 2)) (C := RX0) (T := TX0) (N := 3) hx hb hts hi_RX0 hown hK hP 6 z_g6 rfl 0 (by decide) (z_nfw hX.2 1 rfl) (fun _ h9 => h9) rfl dX4_pass_35 ?_
  refine lv_iload_n hx hb dX4_pass_38 rfl (lv_at hl 0 rfl) ?_
  refine lv_isub hx hb dX4_pass_39 ?_
  have hPf : va_P (z_DD G) vwCl (z_wC G ad (z_ps σ κ T n) κ) H := by exact hP
  refine z_iret hx hb hr hlocks dX4_pass_40 (fun t ht hW => ⟨rfl, by rw [ht]; exact hPf, hS.F ht⟩) hS.2.2 ?_
  rfl

set_option maxHeartbeats 4000000 in
set_option maxRecDepth 100000 in
theorem c_X4_joy (l : Launch) (G : z_GT) (ad : Nat → Nat) (σ : Nat → Nat → Int32) (κ : Nat → Nat → Nat) (hw : z_wf κ) (t : Nat) (ht : t < κ 0 1) (d : Int32) (h : ¬ d < 0) : Met l yX4_joy wsX4_joy ({ frames := 3, cells := 0, slots := 0, locals := 69 } : Room) (z_Pr G [.ref (ad 0), .int (nI t), .int d] (z_wC G ad σ κ)) (z_Qo (some (.int (z_joy σ κ t d)))) 0 0 (fun _ => False) := by
  refine Met.ofW (cc := cX4_joy) (maxL := 3) (ret := (some .int)) (by decide) rfl ?_
  intro p e s m args below meth c s₁ B hml hw0
  obtain ⟨rfl, hX, hP⟩ := hw0
  have hK := hX.1
  have hx := B.exec
  have hb := B.bytes
  have hr := B.returns
  have hts := atoms_spec (ws := wsX4_joy) B.pre
  have hown : s.vm.findClass RX4 = some m.cls := findClass_of_methodNamed B.named
  have hlocks := B.notSynchronized
  have hl := lv_entry ([.ref (ad 0), .int (nI t), .int d]) (n := 3) (Nat.le_of_ble_eq_true rfl)
  rw [lg_entry_eq]
  generalize (lg_sl ([.ref (ad 0), .int (nI t), .int d]) ++ List.replicate (3 - (lg_sl ([.ref (ad 0), .int (nI t), .int d])).length) Slot.unset).toArray = ls at hl ⊢
  have hl : lv_has ls 3 [(0, .ref (ad 0)), (1, .int (nI t)), (2, .int d)] := hl
  have hf_RX4_17 : (Cond.fieldLink RX4 17 "BlossomTours" "tours" "[LBlossomTours$Tour;").before ([.ref (ad 0), .int (nI t), .int d] : List Value).toArray s = true := hts _ (by decide +kernel)
  have hi_RX4 : ∀ w ∈ u_ws RX4 TX4 9, w ∈ wsX4_joy := by decide +kernel
  refine lv_aload_n hx hb dX4_joy_0 rfl (lv_at hl 0 rfl) ?_
  refine lv_iload_n hx hb dX4_joy_1 rfl (lv_at hl 1 rfl) ?_
  refine z_call (va_runV (As := [.int (nI t)]) (rest := []) ⟨hx, hb, hml, hown, hts⟩ (c_X4_checkTour l G ad σ κ t ht (Nat.le_trans hw.2.1 (by decide))) (cwV 1 hts gX4_joy_X4_checkTour rfl rfl rfl (by decide +kernel) ⟨Nat.le_of_ble_eq_true rfl, Nat.le_of_ble_eq_true rfl⟩) (z_prV (ci := 4) (k := 0) hX hP rfl z_g0) rfl rfl hl.1 rfl (lv_room (Nat.le_of_ble_eq_true rfl)) dX4_joy_2 ⟨Nat.le_of_ble_eq_true rfl, Nat.le_of_ble_eq_true rfl⟩) (fun _ h9 => h9) ?_
  refine lv_iload_n hx hb dX4_joy_5 rfl (lv_at hl 2 rfl) ?_
  refine z_call (va_runS (As := [.int d]) (rest := []) ⟨hx, hb, hml, hown, hts⟩ (c_X4_checkDay l G d h) (va_cwS 1 hts gX4_joy_X4_checkDay rfl rfl rfl (by decide +kernel) ⟨Nat.le_of_ble_eq_true rfl, Nat.le_of_ble_eq_true rfl⟩) (z_prS hX z_P0) rfl rfl hl.1 rfl (lv_room (Nat.le_of_ble_eq_true rfl)) dX4_joy_6 ⟨Nat.le_of_ble_eq_true rfl, Nat.le_of_ble_eq_true rfl⟩) (fun _ h9 => h9) ?_
  refine lv_aload_n hx hb dX4_joy_9 rfl (lv_at hl 0 rfl) ?_
  refine lv_aload_n hx hb dX4_joy_10 rfl (lv_at hl 0 rfl) ?_
  refine va_get (D := z_DD G) (ci := 4) (v := .ref (ad 2)) (C := RX4) (T := TX4) (N := 9) hx hb hts hi_RX4 hown hK hP 0 z_g0 rfl 1 (by decide) hf_RX4_17 (fun _ h9 => h9) rfl dX4_joy_11 ?_
  refine lv_iload_n hx hb dX4_joy_14 rfl (lv_at hl 1 rfl) ?_
  refine z_aald (k := t) (g := fun j => ad (16 + j)) hx hb hK hP 2 2 z_g2 rfl (Nat.lt_of_lt_of_le ht hw.2.1) (by decide) dX4_joy_15 ?_
  refine lv_iload_n hx hb dX4_joy_16 rfl (lv_at hl 2 rfl) ?_
  refine z_call (va_runV (As := [.ref (ad (16 + t)), .int d]) (rest := []) ⟨hx, hb, hml, hown, hts⟩ (c_X4_joyOn l G ad σ κ hw t (Nat.lt_of_lt_of_le ht hw.2.1) d) (cwV 2 hts gX4_joy_X4_joyOn rfl rfl rfl (by decide +kernel) ⟨Nat.le_of_ble_eq_true rfl, Nat.le_of_ble_eq_true rfl⟩) (z_prV (ci := 4) (k := 0) hX hP rfl z_g0) rfl rfl hl.1 rfl (lv_room (Nat.le_of_ble_eq_true rfl)) dX4_joy_17 ⟨Nat.le_of_ble_eq_true rfl, Nat.le_of_ble_eq_true rfl⟩) (fun _ h9 => h9) ?_
  refine W.eq (g2 := F0 m 20 ls [.int (z_joy σ κ t d)]) rfl ?_
  refine z_iret hx hb hr hlocks dX4_joy_20 (fun t ht hW => ⟨rfl, ht⟩) (fun _ h9 => nomatch h9) ?_
  rfl

set_option maxHeartbeats 4000000 in
set_option maxRecDepth 100000 in
theorem c_X4_best (l : Launch) (G : z_GT) (ad : Nat → Nat) (σ : Nat → Nat → Int32) (κ : Nat → Nat → Nat) (hw : z_wf κ) (t : Nat) (ht : t < κ 0 1) (T : Nat) (hT9 : σ 8 1 = nI T) : Met l yX4_best wsX4_best ({ frames := 3, cells := 0, slots := 0, locals := 69 } : Room) (z_Pr G [.ref (ad 0), .int (nI t)] (z_wC G ad σ κ)) (z_Qo (some (.int (z_bs σ κ t T 120).1))) 0 0 (fun _ => False) := by
  refine Met.ofW (cc := cX4_best) (maxL := 6) (ret := (some .int)) (by decide) rfl ?_
  intro p e s m args below meth c s₁ B hml hw0
  obtain ⟨rfl, hX, hP⟩ := hw0
  have hK := hX.1
  have hx := B.exec
  have hb := B.bytes
  have hr := B.returns
  have hts := atoms_spec (ws := wsX4_best) B.pre
  have hown : s.vm.findClass RX4 = some m.cls := findClass_of_methodNamed B.named
  have hlocks := B.notSynchronized
  have hl := lv_entry ([.ref (ad 0), .int (nI t)]) (n := 6) (Nat.le_of_ble_eq_true rfl)
  rw [lg_entry_eq]
  generalize (lg_sl ([.ref (ad 0), .int (nI t)]) ++ List.replicate (6 - (lg_sl ([.ref (ad 0), .int (nI t)])).length) Slot.unset).toArray = ls at hl ⊢
  have hl : lv_has ls 6 [(0, .ref (ad 0)), (1, .int (nI t))] := hl
  have hf_RX4_158 : (Cond.fieldLink RX4 158 "BlossomTours" "today" "I").before ([.ref (ad 0), .int (nI t)] : List Value).toArray s = true := hts _ (by decide +kernel)
  have hf_RX4_17 : (Cond.fieldLink RX4 17 "BlossomTours" "tours" "[LBlossomTours$Tour;").before ([.ref (ad 0), .int (nI t)] : List Value).toArray s = true := hts _ (by decide +kernel)
  have hi_RX4 : ∀ w ∈ u_ws RX4 TX4 9, w ∈ wsX4_best := by decide +kernel
  refine lv_aload_n hx hb dX4_best_0 rfl (lv_at hl 0 rfl) ?_
  refine lv_iload_n hx hb dX4_best_1 rfl (lv_at hl 1 rfl) ?_
  refine z_call (va_runV (As := [.int (nI t)]) (rest := []) ⟨hx, hb, hml, hown, hts⟩ (c_X4_checkTour l G ad σ κ t ht (Nat.le_trans hw.2.1 (by decide))) (cwV 1 hts gX4_best_X4_checkTour rfl rfl rfl (by decide +kernel) ⟨Nat.le_of_ble_eq_true rfl, Nat.le_of_ble_eq_true rfl⟩) (z_prV (ci := 4) (k := 0) hX hP rfl z_g0) rfl rfl hl.1 rfl (lv_room (Nat.le_of_ble_eq_true rfl)) dX4_best_2 ⟨Nat.le_of_ble_eq_true rfl, Nat.le_of_ble_eq_true rfl⟩) (fun _ h9 => h9) ?_
  refine lv_iconst (v := (-1)) hx hb dX4_best_5 (by decide) ?_
  refine lv_istore_n (lv' := [(2, .int (-1)), (0, .ref (ad 0)), (1, .int (nI t))]) hx hb dX4_best_6 rfl hl (by decide) rfl (fun ls hl => ?_)
  refine lv_iconst (v := 0) hx hb dX4_best_7 (by decide) ?_
  refine lv_istore_n (lv' := [(3, .int 0), (2, .int (-1)), (0, .ref (ad 0)), (1, .int (nI t))]) hx hb dX4_best_8 rfl hl (by decide) rfl (fun ls hl => ?_)
  refine lv_iconst (v := nI 0) hx hb dX4_best_9 (by decide) ?_
  refine lv_istore (lv' := [(4, .int (nI 0)), (3, .int 0), (2, .int (-1)), (0, .ref (ad 0)), (1, .int (nI t))]) hx hb dX4_best_10 hl (by decide) rfl (fun ls hl => ?_)
  have lp12 : ∀ (fu12 : Nat) (i : Nat), i ≤ 120 → 120 < i + fu12 → ∀ (ls : Array Slot), lv_has ls 6 [(0, .ref (ad 0)), (1, .int (nI t)), (2, .int ((z_bs σ κ t T i).1)), (3, .int ((z_bs σ κ t T i).2)), (4, .int (nI i))] → W p l e (headSpec wsX4_best ({ frames := 3, cells := 0, slots := 0, locals := 69 } : Room)).room s m ([.ref (ad 0), .int (nI t)] : List Value).toArray below meth c s.heap [] 0 0 (MQ below (z_Qo (some (.int (z_bs σ κ t T 120).1))) ([.ref (ad 0), .int (nI t)] : List Value).toArray s 0 0 (fun _ => False)) (F0 m 12 ls []) := by
    intro fu12
    induction fu12 with
    | zero =>
      intro i h1 h2
      exfalso; omega
    | succ fu12 ih12 =>
      intro i h1 h2 ls hl
      refine lv_iload hx hb dX4_best_12 (lv_at hl 4 rfl) ?_
      refine lv_bipush (v := nI 120) hx hb dX4_best_14 (by decide) ?_
      refine lv_icmp_ge (tgt := 61) hx hb dX4_best_16 (by decide) (fun c16 => ?_) (fun c16 => ?_)
      · skip
        have hi : i = 120 := Nat.le_antisymm h1 (z_ge (by omega) (by omega) c16)
        rw [show ((z_bs σ κ t T i).1 : Int32) = (z_bs σ κ t T 120).1 from by rw [hi]] at hl
        refine lv_iload_n hx hb dX4_best_61 rfl (lv_at hl 2 rfl) ?_
        refine z_iret hx hb hr hlocks dX4_best_62 (fun t ht hW => ⟨rfl, ht⟩) (fun _ h9 => nomatch h9) ?_
        rfl
      · skip
        have hi := z_ng (by omega) (by omega) c16
        refine lv_aload_n hx hb dX4_best_19 rfl (lv_at hl 0 rfl) ?_
        refine lv_aload_n hx hb dX4_best_20 rfl (lv_at hl 0 rfl) ?_
        refine va_get (D := z_DD G) (ci := 4) (v := .ref (ad 2)) (C := RX4) (T := TX4) (N := 9) hx hb hts hi_RX4 hown hK hP 0 z_g0 rfl 1 (by decide) hf_RX4_17 (fun _ h9 => h9) rfl dX4_best_21 ?_
        refine lv_iload_n hx hb dX4_best_24 rfl (lv_at hl 1 rfl) ?_
        refine z_aald (k := t) (g := fun j => ad (16 + j)) hx hb hK hP 2 2 z_g2 rfl (Nat.lt_of_lt_of_le ht hw.2.1) (by decide) dX4_best_25 ?_
        refine lv_aload_n hx hb dX4_best_26 rfl (lv_at hl 0 rfl) ?_
        refine va_get (D := z_DD G) (ci := 4) (v := .int (σ 8 1)) (C := RX4) (T := TX4) (N := 9) hx hb hts hi_RX4 hown hK hP 0 z_g0 rfl 8 (by decide) hf_RX4_158 (fun _ h9 => h9) rfl dX4_best_27 ?_
        refine lv_iload hx hb dX4_best_30 (lv_at hl 4 rfl) ?_
        refine lv_iadd hx hb dX4_best_32 ?_
        refine z_top (show (.int ((σ 8 1) + (nI i)) : Value) = .int (nI (T + i)) from by rw [hT9, nI_add]) ?_
        refine z_call (va_runV (As := [.ref (ad (16 + t)), .int (nI (T + i))]) (rest := []) ⟨hx, hb, hml, hown, hts⟩ (c_X4_joyOn l G ad σ κ hw t (Nat.lt_of_lt_of_le ht hw.2.1) (nI (T + i))) (cwV 2 hts gX4_best_X4_joyOn rfl rfl rfl (by decide +kernel) ⟨Nat.le_of_ble_eq_true rfl, Nat.le_of_ble_eq_true rfl⟩) (z_prV (ci := 4) (k := 0) hX hP rfl z_g0) rfl rfl hl.1 rfl (lv_room (Nat.le_of_ble_eq_true rfl)) dX4_best_33 ⟨Nat.le_of_ble_eq_true rfl, Nat.le_of_ble_eq_true rfl⟩) (fun _ h9 => h9) ?_
        refine W.eq (g2 := F0 m 36 ls [.int (z_joy σ κ t (nI (T + i)))]) rfl ?_
        refine lv_istore (lv' := [(5, .int (z_joy σ κ t (nI (T + i)))), (0, .ref (ad 0)), (1, .int (nI t)), (2, .int ((z_bs σ κ t T i).1)), (3, .int ((z_bs σ κ t T i).2)), (4, .int (nI i))]) hx hb dX4_best_36 hl (by decide) rfl (fun ls hl => ?_)
        refine lv_iload hx hb dX4_best_38 (lv_at hl 0 rfl) ?_
        refine lv_iload_n hx hb dX4_best_40 rfl (lv_at hl 4 rfl) ?_
        refine lv_icmp_le (tgt := 55) hx hb dX4_best_41 (by decide) (fun c41 => ?_) (fun c41 => ?_)
        · skip
          refine lv_iinc (v := nI (i + 1)) (lv' := [(4, .int (nI (i + 1))), (5, .int (z_joy σ κ t (nI (T + i)))), (0, .ref (ad 0)), (1, .int (nI t)), (2, .int ((z_bs σ κ t T i).1)), (3, .int ((z_bs σ κ t T i).2))]) hx hb dX4_best_55 hl (k := 5) rfl (z_inc _) (by decide) rfl (fun ls hl => ?_)
          refine lv_goto (tgt := 12) hx hb dX4_best_58 (by decide) ?_
          -- back to 12
          rw [show ((z_bs σ κ t T i).2 : Int32) = (z_bs σ κ t T (i + 1)).2 from by first | (rw [z_bs, if_pos c41]; done) | (rw [z_bs, if_neg c41])] at hl
          rw [show ((z_bs σ κ t T i).1 : Int32) = (z_bs σ κ t T (i + 1)).1 from by first | (rw [z_bs, if_pos c41]; done) | (rw [z_bs, if_neg c41])] at hl
          exact ih12 (i + 1) (by omega) (by omega) ls (lv_sub hl [2, 3, 4, 5, 0] rfl)
        · skip
          refine lv_iload hx hb dX4_best_44 (lv_at hl 0 rfl) ?_
          refine lv_istore_n (lv' := [(3, .int (z_joy σ κ t (nI (T + i)))), (5, .int (z_joy σ κ t (nI (T + i)))), (0, .ref (ad 0)), (1, .int (nI t)), (2, .int ((z_bs σ κ t T i).1)), (4, .int (nI i))]) hx hb dX4_best_46 rfl hl (by decide) rfl (fun ls hl => ?_)
          refine lv_aload_n hx hb dX4_best_47 rfl (lv_at hl 2 rfl) ?_
          refine va_get (D := z_DD G) (ci := 4) (v := .int (σ 8 1)) (C := RX4) (T := TX4) (N := 9) hx hb hts hi_RX4 hown hK hP 0 z_g0 rfl 8 (by decide) hf_RX4_158 (fun _ h9 => h9) rfl dX4_best_48 ?_
          refine lv_iload hx hb dX4_best_51 (lv_at hl 5 rfl) ?_
          refine lv_iadd hx hb dX4_best_53 ?_
          refine z_top (show (.int ((σ 8 1) + (nI i)) : Value) = .int (nI (T + i)) from by rw [hT9, nI_add]) ?_
          refine lv_istore_n (lv' := [(2, .int (nI (T + i))), (3, .int (z_joy σ κ t (nI (T + i)))), (5, .int (z_joy σ κ t (nI (T + i)))), (0, .ref (ad 0)), (1, .int (nI t)), (4, .int (nI i))]) hx hb dX4_best_54 rfl hl (by decide) rfl (fun ls hl => ?_)
          refine lv_iinc (v := nI (i + 1)) (lv' := [(4, .int (nI (i + 1))), (2, .int (nI (T + i))), (3, .int (z_joy σ κ t (nI (T + i)))), (5, .int (z_joy σ κ t (nI (T + i)))), (0, .ref (ad 0)), (1, .int (nI t))]) hx hb dX4_best_55 hl (k := 5) rfl (z_inc _) (by decide) rfl (fun ls hl => ?_)
          refine lv_goto (tgt := 12) hx hb dX4_best_58 (by decide) ?_
          -- back to 12
          rw [show (z_joy σ κ t (nI (T + i)) : Int32) = (z_bs σ κ t T (i + 1)).2 from by first | (rw [z_bs, if_pos c41]; done) | (rw [z_bs, if_neg c41])] at hl
          rw [show (nI (T + i) : Int32) = (z_bs σ κ t T (i + 1)).1 from by first | (rw [z_bs, if_pos c41]; done) | (rw [z_bs, if_neg c41])] at hl
          exact ih12 (i + 1) (by omega) (by omega) ls (lv_sub hl [4, 5, 1, 2, 0] rfl)
  rw [show ((-1) : Int32) = (z_bs σ κ t T 0).1 from by rfl] at hl
  rw [show (0 : Int32) = (z_bs σ κ t T 0).2 from by rfl] at hl
  exact lp12 121 0 (by omega) (by omega) ls (lv_sub hl [3, 4, 2, 1, 0] rfl)

set_option maxHeartbeats 4000000 in
set_option maxRecDepth 100000 in
theorem c_X4_advise (l : Launch) (G : z_GT) (ad : Nat → Nat) (σ : Nat → Nat → Int32) (κ : Nat → Nat → Nat) (hinj : ∀ i j, i < 36 → j < 36 → ad i = ad j → i = j) (hw : z_wf κ) (t : Nat) (ht : t < κ 0 1) (g1 : κ 1 t < 5) : Met l yX4_advise wsX4_advise ({ frames := 6, cells := 0, slots := 0, locals := 132 } : Room) (z_Pr G [.ref (ad 0), .int (nI t)] (z_wC G ad σ κ)) (z_Qm G (some (.int (z_aB σ κ t (κ 0 0)).1)) (z_wC G ad (z_aS σ κ t (κ 0 0)).1 (z_aS σ κ t (κ 0 0)).2) (z_A 36 ad)) 0 0 (z_A 36 ad) := by
  refine Met.ofW (cc := cX4_advise) (maxL := 7) (ret := (some .int)) (by decide) rfl ?_
  intro p e s m args below meth c s₁ B hml hw0
  obtain ⟨rfl, hX, hP⟩ := hw0
  have hK := hX.1
  have hx := B.exec
  have hb := B.bytes
  have hr := B.returns
  have hts := atoms_spec (ws := wsX4_advise) B.pre
  have hown : s.vm.findClass RX4 = some m.cls := findClass_of_methodNamed B.named
  have hlocks := B.notSynchronized
  have hl := lv_entry ([.ref (ad 0), .int (nI t)]) (n := 7) (Nat.le_of_ble_eq_true rfl)
  rw [lg_entry_eq]
  generalize (lg_sl ([.ref (ad 0), .int (nI t)]) ++ List.replicate (7 - (lg_sl ([.ref (ad 0), .int (nI t)])).length) Slot.unset).toArray = ls at hl ⊢
  have hl : lv_has ls 7 [(0, .ref (ad 0)), (1, .int (nI t))] := hl
  have hf_RX4_158 : (Cond.fieldLink RX4 158 "BlossomTours" "today" "I").before ([.ref (ad 0), .int (nI t)] : List Value).toArray s = true := hts _ (by decide +kernel)
  have hf_RX4_17 : (Cond.fieldLink RX4 17 "BlossomTours" "tours" "[LBlossomTours$Tour;").before ([.ref (ad 0), .int (nI t)] : List Value).toArray s = true := hts _ (by decide +kernel)
  have hf_RX4_59 : (Cond.fieldLink RX4 59 "BlossomTours" "valleyCount" "I").before ([.ref (ad 0), .int (nI t)] : List Value).toArray s = true := hts _ (by decide +kernel)
  have hi_RX4 : ∀ w ∈ u_ws RX4 TX4 9, w ∈ wsX4_advise := by decide +kernel
  have ht6 : t < 6 := Nat.lt_of_lt_of_le ht hw.2.1
  have hn8 := hw.1
  have hS : va_S (z_A 36 ad) s.heap s.heap [] := va_S.rf
  have hD := z_Dm hinj (z_cC G ad σ κ)
  refine lv_aload_n hx hb dX4_advise_0 rfl (lv_at hl 0 rfl) ?_
  refine lv_iload_n hx hb dX4_advise_1 rfl (lv_at hl 1 rfl) ?_
  refine z_call (va_runV (As := [.int (nI t)]) (rest := []) ⟨hx, hb, hml, hown, hts⟩ (c_X4_checkTour l G ad σ κ t ht (Nat.le_trans hw.2.1 (by decide))) (cwV 1 hts gX4_advise_X4_checkTour rfl rfl rfl (by decide +kernel) ⟨Nat.le_of_ble_eq_true rfl, Nat.le_of_ble_eq_true rfl⟩) (z_prV (ci := 4) (k := 0) hX hP rfl z_g0) rfl rfl hl.1 rfl (lv_room (Nat.le_of_ble_eq_true rfl)) dX4_advise_2 ⟨Nat.le_of_ble_eq_true rfl, Nat.le_of_ble_eq_true rfl⟩) (fun _ h9 => h9) ?_
  refine lv_aload_n hx hb dX4_advise_5 rfl (lv_at hl 0 rfl) ?_
  refine va_get (D := z_DD G) (ci := 4) (v := .ref (ad 2)) (C := RX4) (T := TX4) (N := 9) hx hb hts hi_RX4 hown hK hP 0 z_g0 rfl 1 (by decide) hf_RX4_17 (fun _ h9 => h9) rfl dX4_advise_6 ?_
  refine lv_iload_n hx hb dX4_advise_9 rfl (lv_at hl 1 rfl) ?_
  refine z_aald (k := t) (g := fun j => ad (16 + j)) hx hb hK hP 2 2 z_g2 rfl (Nat.lt_of_lt_of_le ht hw.2.1) (by decide) dX4_advise_10 ?_
  refine lv_astore_n (lv' := [(2, .ref (ad (16 + t))), (0, .ref (ad 0)), (1, .int (nI t))]) hx hb dX4_advise_11 rfl hl (by decide) rfl (fun ls hl => ?_)
  refine lv_aload_n hx hb dX4_advise_12 rfl (lv_at hl 0 rfl) ?_
  refine z_call (va_runVN (As := []) (rest := []) ⟨hx, hb, hml, hown, hts⟩ (c_X2_isFull l G ad σ κ t (Nat.lt_of_lt_of_le ht hw.2.1)) ⟨va_cnB 0 hts gX4_advise_X2_isFull_n128 rfl rfl rfl (z_nmw hX.2 13 rfl) (hts (.initialized RX2) (by decide +kernel)) (by decide +kernel) ⟨Nat.le_of_ble_eq_true rfl, Nat.le_of_ble_eq_true rfl⟩, hts (.instanceMethod yX2_isFull) (by decide +kernel), hts (.selects RX2 yX2_isFull yX2_isFull) (by decide +kernel)⟩ (z_prV (ci := 2) (k := (16 + t)) hX hP rfl (z_gT (Nat.lt_of_lt_of_le ht hw.2.1))) rfl rfl hl.1 rfl (lv_room (Nat.le_of_ble_eq_true rfl)) dX4_advise_13 ⟨Nat.le_of_ble_eq_true rfl, Nat.le_of_ble_eq_true rfl⟩) (fun _ h9 => h9) ?_
  refine W.eq (g2 := F0 m 16 ls [.int (z_full (κ 1 t))]) rfl ?_
  refine lv_if_eq (tgt := 21) hx hb dX4_advise_16 (by decide) (fun c16 => ?_) (fun c16 => ?_)
  · skip
    refine lv_iconst (v := (-1)) hx hb dX4_advise_21 (by decide) ?_
    refine lv_istore_n (lv' := [(3, .int (-1)), (2, .ref (ad (16 + t))), (0, .ref (ad 0)), (1, .int (nI t))]) hx hb dX4_advise_22 rfl hl (by decide) rfl (fun ls hl => ?_)
    refine lv_aload_n hx hb dX4_advise_23 rfl (lv_at hl 2 rfl) ?_
    refine lv_aload_n hx hb dX4_advise_24 rfl (lv_at hl 1 rfl) ?_
    refine lv_aload_n hx hb dX4_advise_25 rfl (lv_at hl 2 rfl) ?_
    refine va_get (D := z_DD G) (ci := 4) (v := .int (σ 8 1)) (C := RX4) (T := TX4) (N := 9) hx hb hts hi_RX4 hown hK hP 0 z_g0 rfl 8 (by decide) hf_RX4_158 (fun _ h9 => h9) rfl dX4_advise_26 ?_
    refine z_call (va_runV (As := [.ref (ad (16 + t)), .int (σ 8 1)]) (rest := []) ⟨hx, hb, hml, hown, hts⟩ (c_X4_joyOn l G ad σ κ hw t (Nat.lt_of_lt_of_le ht hw.2.1) (σ 8 1)) (cwV 2 hts gX4_advise_X4_joyOn rfl rfl rfl (by decide +kernel) ⟨Nat.le_of_ble_eq_true rfl, Nat.le_of_ble_eq_true rfl⟩) (z_prV (ci := 4) (k := 0) hX hP rfl z_g0) rfl rfl hl.1 rfl (lv_room (Nat.le_of_ble_eq_true rfl)) dX4_advise_29 ⟨Nat.le_of_ble_eq_true rfl, Nat.le_of_ble_eq_true rfl⟩) (fun _ h9 => h9) ?_
    refine W.eq (g2 := F0 m 32 ls [.int (z_joy σ κ t (σ 8 1))]) rfl ?_
    refine lv_istore (lv' := [(4, .int (z_joy σ κ t (σ 8 1))), (3, .int (-1)), (2, .ref (ad (16 + t))), (0, .ref (ad 0)), (1, .int (nI t))]) hx hb dX4_advise_32 hl (by decide) rfl (fun ls hl => ?_)
    refine lv_iconst (v := nI 0) hx hb dX4_advise_34 (by decide) ?_
    refine lv_istore (lv' := [(5, .int (nI 0)), (4, .int (z_joy σ κ t (σ 8 1))), (3, .int (-1)), (2, .ref (ad (16 + t))), (0, .ref (ad 0)), (1, .int (nI t))]) hx hb dX4_advise_35 hl (by decide) rfl (fun ls hl => ?_)
    have lp37 : ∀ (fu37 : Nat) (v : Nat), v ≤ κ 0 0 → κ 0 0 < v + fu37 → ∀ (H : Heap) (locs : List Loc), va_P (z_DD G) vwCl (z_wC G ad (z_aS σ κ t v).1 (z_aS σ κ t v).2) H → va_S (z_A 36 ad) s.heap H locs → ∀ (ls : Array Slot), lv_has ls 7 [(0, .ref (ad 0)), (1, .int (nI t)), (2, .ref (ad (16 + t))), (3, .int ((z_aB σ κ t v).1)), (4, .int ((z_aB σ κ t v).2)), (5, .int (nI v))] → W p l e (headSpec wsX4_advise ({ frames := 6, cells := 0, slots := 0, locals := 132 } : Room)).room s m ([.ref (ad 0), .int (nI t)] : List Value).toArray below meth c H locs 0 0 (MQ below (z_Qm G (some (.int (z_aB σ κ t (κ 0 0)).1)) (z_wC G ad (z_aS σ κ t (κ 0 0)).1 (z_aS σ κ t (κ 0 0)).2) (z_A 36 ad)) ([.ref (ad 0), .int (nI t)] : List Value).toArray s 0 0 (z_A 36 ad)) (F0 m 37 ls []) := by
      intro fu37
      induction fu37 with
      | zero =>
        intro v h1 h2
        exfalso; omega
      | succ fu37 ih37 =>
        intro v h1 h2 H locs hP hS ls hl
        have hD := z_Dm hinj (z_cC G ad (z_aS σ κ t v).1 (z_aS σ κ t v).2)
        have hq := z_aS_ok (σ := σ) hw ht6 g1 v h1
        refine lv_iload hx hb dX4_advise_37 (lv_at hl 5 rfl) ?_
        refine lv_aload_n hx hb dX4_advise_39 rfl (lv_at hl 0 rfl) ?_
        refine va_get (D := z_DD G) (ci := 4) (v := .int (nI ((z_aS σ κ t v).2 0 0))) (C := RX4) (T := TX4) (N := 9) hx hb hts hi_RX4 hown hK hP 0 z_g0 rfl 6 (by decide) hf_RX4_59 (fun _ h9 => h9) rfl dX4_advise_40 ?_
        refine lv_icmp_ge (tgt := 88) hx hb dX4_advise_43 (by decide) (fun c43 => ?_) (fun c43 => ?_)
        · skip
          have hi : v = κ 0 0 := Nat.le_antisymm h1 (by have := hq.2.2 0; have := z_ge (by omega) (by omega) c43; omega)
          rw [show ((z_aB σ κ t v).1 : Int32) = (z_aB σ κ t (κ 0 0)).1 from by rw [hi]] at hl
          refine lv_iload_n hx hb dX4_advise_88 rfl (lv_at hl 3 rfl) ?_
          have hPf : va_P (z_DD G) vwCl (z_wC G ad (z_aS σ κ t (κ 0 0)).1 (z_aS σ κ t (κ 0 0)).2) H := by rw [hi] at hP; exact hP
          refine z_iret hx hb hr hlocks dX4_advise_89 (fun t ht hW => ⟨rfl, by rw [ht]; exact hPf, hS.F ht⟩) hS.2.2 ?_
          rfl
        · skip
          have hi : v < κ 0 0 := by have := hq.2.2 0; have := z_ng (by omega) (by omega) c43; omega
          refine lv_aload_n hx hb dX4_advise_46 rfl (lv_at hl 2 rfl) ?_
          refine lv_iload hx hb dX4_advise_47 (lv_at hl 5 rfl) ?_
          refine z_call (va_runVN (As := [.int (nI v)]) (rest := []) ⟨hx, hb, hml, hown, hts⟩ (c_X2_visits l G ad (z_aS σ κ t v).1 (z_aS σ κ t v).2 t v (Nat.lt_of_lt_of_le ht hw.2.1) (by omega) (hq.1.2.2.1 t (Nat.lt_of_lt_of_le ht hw.2.1)) (hq.1.2.2.2 t (Nat.lt_of_lt_of_le ht hw.2.1))) ⟨va_cnB 1 hts gX4_advise_X2_visits_n134 rfl rfl rfl (z_nmw hX.2 9 rfl) (hts (.initialized RX2) (by decide +kernel)) (by decide +kernel) ⟨Nat.le_of_ble_eq_true rfl, Nat.le_of_ble_eq_true rfl⟩, hts (.instanceMethod yX2_visits) (by decide +kernel), hts (.selects RX2 yX2_visits yX2_visits) (by decide +kernel)⟩ (z_prV (ci := 2) (k := (16 + t)) hX hP rfl (z_gT (Nat.lt_of_lt_of_le ht hw.2.1))) rfl rfl hl.1 rfl (lv_room (Nat.le_of_ble_eq_true rfl)) dX4_advise_49 ⟨Nat.le_of_ble_eq_true rfl, Nat.le_of_ble_eq_true rfl⟩) (fun _ h9 => h9) ?_
          refine W.eq (g2 := F0 m 52 ls [.int (z_bi (z_vi ((z_aS σ κ t v).2 (2 + t)) v ((z_aS σ κ t v).2 1 t)))]) rfl ?_
          refine lv_if_eq (tgt := 59) hx hb dX4_advise_52 (by decide) (fun c52 => ?_) (fun c52 => ?_)
          · skip
            refine lv_aload_n hx hb dX4_advise_59 rfl (lv_at hl 0 rfl) ?_
            refine lv_aload_n hx hb dX4_advise_60 rfl (lv_at hl 2 rfl) ?_
            refine lv_iload hx hb dX4_advise_61 (lv_at hl 5 rfl) ?_
            refine z_callm (va_runV (As := [.ref (ad (16 + t)), .int (nI v)]) (rest := []) ⟨hx, hb, hml, hown, hts⟩ (c_X4_joyWithStopAdded l G ad (z_aS σ κ t v).1 (z_aS σ κ t v).2 hinj hq.1 t v (Nat.lt_of_lt_of_le ht hw.2.1) (by omega) (by rw [hq.2.1]; exact g1)) (cwV 2 hts gX4_advise_X4_joyWithStopAdded rfl rfl rfl (by decide +kernel) ⟨Nat.le_of_ble_eq_true rfl, Nat.le_of_ble_eq_true rfl⟩) (z_prV (ci := 4) (k := 0) hX hP rfl z_g0) rfl rfl hl.1 rfl (lv_room (Nat.le_of_ble_eq_true rfl)) dX4_advise_63 ⟨Nat.le_of_ble_eq_true rfl, Nat.le_of_ble_eq_true rfl⟩) hS (fun _ _ h9 => h9) (fun _ h9 => h9) (fun H locs hP hz9 hk9 hS => ?_)
            have hD := z_Dm hinj (z_cC G ad (z_rkn (z_rkn (z_aS σ κ t v).1 (z_ap (z_aS σ κ t v).2 t v)) (z_tk (z_ap (z_aS σ κ t v).2 t v) t)) (z_tk (z_ap (z_aS σ κ t v).2 t v) t))
            refine W.eq (g2 := F0 m 66 ls [.int (z_joy (z_rkn (z_aS σ κ t v).1 (z_ap (z_aS σ κ t v).2 t v)) (z_ap (z_aS σ κ t v).2 t v) t (z_rkn (z_aS σ κ t v).1 (z_ap (z_aS σ κ t v).2 t v) 8 1))]) rfl ?_
            refine z_top (show (.int (z_joy (z_rkn (z_aS σ κ t v).1 (z_ap (z_aS σ κ t v).2 t v)) (z_ap (z_aS σ κ t v).2 t v) t (z_rkn (z_aS σ κ t v).1 (z_ap (z_aS σ κ t v).2 t v) 8 1)) : Value) = .int (z_aW σ κ t v) from by first | (unfold z_aW; rw [if_neg (by rw [z_bi_f c52]; decide)]; rfl) | (unfold z_aW; rw [if_pos (z_bi_t c52)])) ?_
            refine lv_istore (lv' := [(6, .int (z_aW σ κ t v)), (0, .ref (ad 0)), (1, .int (nI t)), (2, .ref (ad (16 + t))), (3, .int ((z_aB σ κ t v).1)), (4, .int ((z_aB σ κ t v).2)), (5, .int (nI v))]) hx hb dX4_advise_66 hl (by decide) rfl (fun ls hl => ?_)
            refine lv_iload hx hb dX4_advise_68 (lv_at hl 0 rfl) ?_
            refine lv_iload hx hb dX4_advise_70 (lv_at hl 5 rfl) ?_
            refine lv_icmp_le (tgt := 82) hx hb dX4_advise_72 (by decide) (fun c72 => ?_) (fun c72 => ?_)
            · skip
              refine lv_iinc (v := nI (v + 1)) (lv' := [(5, .int (nI (v + 1))), (6, .int (z_aW σ κ t v)), (0, .ref (ad 0)), (1, .int (nI t)), (2, .ref (ad (16 + t))), (3, .int ((z_aB σ κ t v).1)), (4, .int ((z_aB σ κ t v).2))]) hx hb dX4_advise_82 hl (k := 6) rfl (z_inc _) (by decide) rfl (fun ls hl => ?_)
              refine lv_goto (tgt := 37) hx hb dX4_advise_85 (by decide) ?_
              -- back to 37
              rw [show ((z_aB σ κ t v).1 : Int32) = (z_aB σ κ t (v + 1)).1 from by first | (rw [z_aB, if_pos c72]; done) | (rw [z_aB, if_neg c72])] at hl
              rw [show ((z_aB σ κ t v).2 : Int32) = (z_aB σ κ t (v + 1)).2 from by first | (rw [z_aB, if_pos c72]; done) | (rw [z_aB, if_neg c72])] at hl
              have hP : va_P (z_DD G) vwCl (z_wC G ad (z_aS σ κ t (v + 1)).1 (z_aS σ κ t (v + 1)).2) H := by first | (rw [z_aS, if_neg (by rw [z_bi_f c52]; decide)]; exact hP) | (rw [z_aS, if_pos (z_bi_t c52)]; exact hP)
              exact ih37 (v + 1) (by omega) (by omega) _ _ hP hS ls (lv_sub hl [2, 3, 4, 5, 6, 0] rfl)
            · skip
              refine lv_iload hx hb dX4_advise_75 (lv_at hl 0 rfl) ?_
              refine lv_istore (lv' := [(4, .int (z_aW σ κ t v)), (6, .int (z_aW σ κ t v)), (0, .ref (ad 0)), (1, .int (nI t)), (2, .ref (ad (16 + t))), (3, .int ((z_aB σ κ t v).1)), (5, .int (nI v))]) hx hb dX4_advise_77 hl (by decide) rfl (fun ls hl => ?_)
              refine lv_iload hx hb dX4_advise_79 (lv_at hl 6 rfl) ?_
              refine lv_istore_n (lv' := [(3, .int (nI v)), (4, .int (z_aW σ κ t v)), (6, .int (z_aW σ κ t v)), (0, .ref (ad 0)), (1, .int (nI t)), (2, .ref (ad (16 + t))), (5, .int (nI v))]) hx hb dX4_advise_81 rfl hl (by decide) rfl (fun ls hl => ?_)
              refine lv_iinc (v := nI (v + 1)) (lv' := [(5, .int (nI (v + 1))), (3, .int (nI v)), (4, .int (z_aW σ κ t v)), (6, .int (z_aW σ κ t v)), (0, .ref (ad 0)), (1, .int (nI t)), (2, .ref (ad (16 + t)))]) hx hb dX4_advise_82 hl (k := 6) rfl (z_inc _) (by decide) rfl (fun ls hl => ?_)
              refine lv_goto (tgt := 37) hx hb dX4_advise_85 (by decide) ?_
              -- back to 37
              rw [show (nI v : Int32) = (z_aB σ κ t (v + 1)).1 from by first | (rw [z_aB, if_pos c72]; done) | (rw [z_aB, if_neg c72])] at hl
              rw [show (z_aW σ κ t v : Int32) = (z_aB σ κ t (v + 1)).2 from by first | (rw [z_aB, if_pos c72]; done) | (rw [z_aB, if_neg c72])] at hl
              have hP : va_P (z_DD G) vwCl (z_wC G ad (z_aS σ κ t (v + 1)).1 (z_aS σ κ t (v + 1)).2) H := by first | (rw [z_aS, if_neg (by rw [z_bi_f c52]; decide)]; exact hP) | (rw [z_aS, if_pos (z_bi_t c52)]; exact hP)
              exact ih37 (v + 1) (by omega) (by omega) _ _ hP hS ls (lv_sub hl [4, 5, 6, 1, 2, 0] rfl)
          · skip
            refine lv_iconst (v := 0) hx hb dX4_advise_55 (by decide) ?_
            refine lv_goto (tgt := 66) hx hb dX4_advise_56 (by decide) ?_
            refine z_top (show (.int 0 : Value) = .int (z_aW σ κ t v) from by first | (unfold z_aW; rw [if_neg (by rw [z_bi_f c52]; decide)]; rfl) | (unfold z_aW; rw [if_pos (z_bi_t c52)])) ?_
            refine lv_istore (lv' := [(6, .int (z_aW σ κ t v)), (0, .ref (ad 0)), (1, .int (nI t)), (2, .ref (ad (16 + t))), (3, .int ((z_aB σ κ t v).1)), (4, .int ((z_aB σ κ t v).2)), (5, .int (nI v))]) hx hb dX4_advise_66 hl (by decide) rfl (fun ls hl => ?_)
            refine lv_iload hx hb dX4_advise_68 (lv_at hl 0 rfl) ?_
            refine lv_iload hx hb dX4_advise_70 (lv_at hl 5 rfl) ?_
            refine lv_icmp_le (tgt := 82) hx hb dX4_advise_72 (by decide) (fun c72 => ?_) (fun c72 => ?_)
            · skip
              refine lv_iinc (v := nI (v + 1)) (lv' := [(5, .int (nI (v + 1))), (6, .int (z_aW σ κ t v)), (0, .ref (ad 0)), (1, .int (nI t)), (2, .ref (ad (16 + t))), (3, .int ((z_aB σ κ t v).1)), (4, .int ((z_aB σ κ t v).2))]) hx hb dX4_advise_82 hl (k := 6) rfl (z_inc _) (by decide) rfl (fun ls hl => ?_)
              refine lv_goto (tgt := 37) hx hb dX4_advise_85 (by decide) ?_
              -- back to 37
              rw [show ((z_aB σ κ t v).1 : Int32) = (z_aB σ κ t (v + 1)).1 from by first | (rw [z_aB, if_pos c72]; done) | (rw [z_aB, if_neg c72])] at hl
              rw [show ((z_aB σ κ t v).2 : Int32) = (z_aB σ κ t (v + 1)).2 from by first | (rw [z_aB, if_pos c72]; done) | (rw [z_aB, if_neg c72])] at hl
              have hP : va_P (z_DD G) vwCl (z_wC G ad (z_aS σ κ t (v + 1)).1 (z_aS σ κ t (v + 1)).2) H := by first | (rw [z_aS, if_neg (by rw [z_bi_f c52]; decide)]; exact hP) | (rw [z_aS, if_pos (z_bi_t c52)]; exact hP)
              exact ih37 (v + 1) (by omega) (by omega) _ _ hP hS ls (lv_sub hl [2, 3, 4, 5, 6, 0] rfl)
            · skip
              refine lv_iload hx hb dX4_advise_75 (lv_at hl 0 rfl) ?_
              refine lv_istore (lv' := [(4, .int (z_aW σ κ t v)), (6, .int (z_aW σ κ t v)), (0, .ref (ad 0)), (1, .int (nI t)), (2, .ref (ad (16 + t))), (3, .int ((z_aB σ κ t v).1)), (5, .int (nI v))]) hx hb dX4_advise_77 hl (by decide) rfl (fun ls hl => ?_)
              refine lv_iload hx hb dX4_advise_79 (lv_at hl 6 rfl) ?_
              refine lv_istore_n (lv' := [(3, .int (nI v)), (4, .int (z_aW σ κ t v)), (6, .int (z_aW σ κ t v)), (0, .ref (ad 0)), (1, .int (nI t)), (2, .ref (ad (16 + t))), (5, .int (nI v))]) hx hb dX4_advise_81 rfl hl (by decide) rfl (fun ls hl => ?_)
              refine lv_iinc (v := nI (v + 1)) (lv' := [(5, .int (nI (v + 1))), (3, .int (nI v)), (4, .int (z_aW σ κ t v)), (6, .int (z_aW σ κ t v)), (0, .ref (ad 0)), (1, .int (nI t)), (2, .ref (ad (16 + t)))]) hx hb dX4_advise_82 hl (k := 6) rfl (z_inc _) (by decide) rfl (fun ls hl => ?_)
              refine lv_goto (tgt := 37) hx hb dX4_advise_85 (by decide) ?_
              -- back to 37
              rw [show (nI v : Int32) = (z_aB σ κ t (v + 1)).1 from by first | (rw [z_aB, if_pos c72]; done) | (rw [z_aB, if_neg c72])] at hl
              rw [show (z_aW σ κ t v : Int32) = (z_aB σ κ t (v + 1)).2 from by first | (rw [z_aB, if_pos c72]; done) | (rw [z_aB, if_neg c72])] at hl
              have hP : va_P (z_DD G) vwCl (z_wC G ad (z_aS σ κ t (v + 1)).1 (z_aS σ κ t (v + 1)).2) H := by first | (rw [z_aS, if_neg (by rw [z_bi_f c52]; decide)]; exact hP) | (rw [z_aS, if_pos (z_bi_t c52)]; exact hP)
              exact ih37 (v + 1) (by omega) (by omega) _ _ hP hS ls (lv_sub hl [4, 5, 6, 1, 2, 0] rfl)
    rw [show ((-1) : Int32) = (z_aB σ κ t 0).1 from by rfl] at hl
    rw [show (z_joy σ κ t (σ 8 1) : Int32) = (z_aB σ κ t 0).2 from by rfl] at hl
    exact lp37 (κ 0 0 + 1) 0 (by omega) (by omega) _ _ hP hS ls (lv_sub hl [4, 5, 3, 2, 1, 0] rfl)
  · skip
    exact absurd (z_full0 g1) c16

set_option maxHeartbeats 4000000 in
set_option maxRecDepth 100000 in
theorem c_X4_advise_full (l : Launch) (G : z_GT) (ad : Nat → Nat) (σ : Nat → Nat → Int32) (κ : Nat → Nat → Nat) (hw : z_wf κ) (t : Nat) (ht : t < κ 0 1) (g1 : ¬ κ 1 t < 5) : Met l yX4_advise wsX4_advise ({ frames := 6, cells := 0, slots := 0, locals := 132 } : Room) (z_Pr G [.ref (ad 0), .int (nI t)] (z_wC G ad σ κ)) (z_Qo (some (.int (-1)))) 0 0 (fun _ => False) := by
  refine Met.ofW (cc := cX4_advise) (maxL := 7) (ret := (some .int)) (by decide) rfl ?_
  intro p e s m args below meth c s₁ B hml hw0
  obtain ⟨rfl, hX, hP⟩ := hw0
  have hK := hX.1
  have hx := B.exec
  have hb := B.bytes
  have hr := B.returns
  have hts := atoms_spec (ws := wsX4_advise) B.pre
  have hown : s.vm.findClass RX4 = some m.cls := findClass_of_methodNamed B.named
  have hlocks := B.notSynchronized
  have hl := lv_entry ([.ref (ad 0), .int (nI t)]) (n := 7) (Nat.le_of_ble_eq_true rfl)
  rw [lg_entry_eq]
  generalize (lg_sl ([.ref (ad 0), .int (nI t)]) ++ List.replicate (7 - (lg_sl ([.ref (ad 0), .int (nI t)])).length) Slot.unset).toArray = ls at hl ⊢
  have hl : lv_has ls 7 [(0, .ref (ad 0)), (1, .int (nI t))] := hl
  have hf_RX4_17 : (Cond.fieldLink RX4 17 "BlossomTours" "tours" "[LBlossomTours$Tour;").before ([.ref (ad 0), .int (nI t)] : List Value).toArray s = true := hts _ (by decide +kernel)
  have hi_RX4 : ∀ w ∈ u_ws RX4 TX4 9, w ∈ wsX4_advise := by decide +kernel
  have hk := hw.2.2.1 t (Nat.lt_of_lt_of_le ht hw.2.1)
  refine lv_aload_n hx hb dX4_advise_0 rfl (lv_at hl 0 rfl) ?_
  refine lv_iload_n hx hb dX4_advise_1 rfl (lv_at hl 1 rfl) ?_
  refine z_call (va_runV (As := [.int (nI t)]) (rest := []) ⟨hx, hb, hml, hown, hts⟩ (c_X4_checkTour l G ad σ κ t ht (Nat.le_trans hw.2.1 (by decide))) (cwV 1 hts gX4_advise_X4_checkTour rfl rfl rfl (by decide +kernel) ⟨Nat.le_of_ble_eq_true rfl, Nat.le_of_ble_eq_true rfl⟩) (z_prV (ci := 4) (k := 0) hX hP rfl z_g0) rfl rfl hl.1 rfl (lv_room (Nat.le_of_ble_eq_true rfl)) dX4_advise_2 ⟨Nat.le_of_ble_eq_true rfl, Nat.le_of_ble_eq_true rfl⟩) (fun _ h9 => h9) ?_
  refine lv_aload_n hx hb dX4_advise_5 rfl (lv_at hl 0 rfl) ?_
  refine va_get (D := z_DD G) (ci := 4) (v := .ref (ad 2)) (C := RX4) (T := TX4) (N := 9) hx hb hts hi_RX4 hown hK hP 0 z_g0 rfl 1 (by decide) hf_RX4_17 (fun _ h9 => h9) rfl dX4_advise_6 ?_
  refine lv_iload_n hx hb dX4_advise_9 rfl (lv_at hl 1 rfl) ?_
  refine z_aald (k := t) (g := fun j => ad (16 + j)) hx hb hK hP 2 2 z_g2 rfl (Nat.lt_of_lt_of_le ht hw.2.1) (by decide) dX4_advise_10 ?_
  refine lv_astore_n (lv' := [(2, .ref (ad (16 + t))), (0, .ref (ad 0)), (1, .int (nI t))]) hx hb dX4_advise_11 rfl hl (by decide) rfl (fun ls hl => ?_)
  refine lv_aload_n hx hb dX4_advise_12 rfl (lv_at hl 0 rfl) ?_
  refine z_call (va_runVN (As := []) (rest := []) ⟨hx, hb, hml, hown, hts⟩ (c_X2_isFull l G ad σ κ t (Nat.lt_of_lt_of_le ht hw.2.1)) ⟨va_cnB 0 hts gX4_advise_X2_isFull_n128 rfl rfl rfl (z_nmw hX.2 13 rfl) (hts (.initialized RX2) (by decide +kernel)) (by decide +kernel) ⟨Nat.le_of_ble_eq_true rfl, Nat.le_of_ble_eq_true rfl⟩, hts (.instanceMethod yX2_isFull) (by decide +kernel), hts (.selects RX2 yX2_isFull yX2_isFull) (by decide +kernel)⟩ (z_prV (ci := 2) (k := (16 + t)) hX hP rfl (z_gT (Nat.lt_of_lt_of_le ht hw.2.1))) rfl rfl hl.1 rfl (lv_room (Nat.le_of_ble_eq_true rfl)) dX4_advise_13 ⟨Nat.le_of_ble_eq_true rfl, Nat.le_of_ble_eq_true rfl⟩) (fun _ h9 => h9) ?_
  refine W.eq (g2 := F0 m 16 ls [.int (z_full (κ 1 t))]) rfl ?_
  refine lv_if_eq (tgt := 21) hx hb dX4_advise_16 (by decide) (fun c16 => ?_) (fun c16 => ?_)
  · skip
    exact absurd (c16.symm.trans (z_fullN g1 (by omega))) (by decide)
  · skip
    refine lv_iconst (v := (-1)) hx hb dX4_advise_19 (by decide) ?_
    refine z_iret hx hb hr hlocks dX4_advise_20 (fun t ht hW => ⟨rfl, ht⟩) (fun _ h9 => nomatch h9) ?_
    rfl

set_option maxHeartbeats 4000000 in
set_option maxRecDepth 100000 in
theorem c_X4_foresee (l : Launch) (G : z_GT) (ad : Nat → Nat) (σ : Nat → Nat → Int32) (κ : Nat → Nat → Nat) (hinj : ∀ i j, i < 36 → j < 36 → ad i = ad j → i = j) (hw : z_wf κ) (T n : Nat) (hT9 : σ 8 1 = nI T) (hT2 : T + n < 2 ^ 31) (g : ¬ z_wi (nI n) 1 60 = 0) (w9 : Nat) (h9 : w9 < 9) (h8 : 4 < w9) : Met l yX4_foresee wsX4_foresee ({ frames := 5, cells := 0, slots := 0, locals := 118 } : Room) (z_Pr G [.ref (ad 0), .int (nI n), .int (nI w9)] (z_wC G ad σ κ)) (z_Qm G (some (.int (z_fo σ κ T n w9))) (z_wC G ad (z_fd σ κ T n) κ) (z_A 36 ad)) 0 0 (z_A 36 ad) := by
  refine Met.ofW (cc := cX4_foresee) (maxL := 3) (ret := (some .int)) (by decide) rfl ?_
  intro p e s m args below meth c s₁ B hml hw0
  obtain ⟨rfl, hX, hP⟩ := hw0
  have hK := hX.1
  have hx := B.exec
  have hb := B.bytes
  have hr := B.returns
  have hts := atoms_spec (ws := wsX4_foresee) B.pre
  have hown : s.vm.findClass RX4 = some m.cls := findClass_of_methodNamed B.named
  have hlocks := B.notSynchronized
  have hl := lv_entry ([.ref (ad 0), .int (nI n), .int (nI w9)]) (n := 3) (Nat.le_of_ble_eq_true rfl)
  rw [lg_entry_eq]
  generalize (lg_sl ([.ref (ad 0), .int (nI n), .int (nI w9)]) ++ List.replicate (3 - (lg_sl ([.ref (ad 0), .int (nI n), .int (nI w9)])).length) Slot.unset).toArray = ls at hl ⊢
  have hl : lv_has ls 3 [(0, .ref (ad 0)), (1, .int (nI n)), (2, .int (nI w9))] := hl
  have hf_RX4_158 : (Cond.fieldLink RX4 158 "BlossomTours" "today" "I").before ([.ref (ad 0), .int (nI n), .int (nI w9)] : List Value).toArray s = true := hts _ (by decide +kernel)
  have hf_RX4_35 : (Cond.fieldLink RX4 35 "BlossomTours" "books" "LBlossomTours$Books;").before ([.ref (ad 0), .int (nI n), .int (nI w9)] : List Value).toArray s = true := hts _ (by decide +kernel)
  have hf_RX4_39 : (Cond.fieldLink RX4 39 "BlossomTours" "draft" "LBlossomTours$Books;").before ([.ref (ad 0), .int (nI n), .int (nI w9)] : List Value).toArray s = true := hts _ (by decide +kernel)
  have hi_RX0 : ∀ w ∈ u_ws RX0 TX0 3, w ∈ wsX4_foresee := by decide +kernel
  have hi_RX4 : ∀ w ∈ u_ws RX4 TX4 9, w ∈ wsX4_foresee := by decide +kernel
  have hS : va_S (z_A 36 ad) s.heap s.heap [] := va_S.rf
  have hD := z_Dm hinj (z_cC G ad σ κ)
  refine lv_iload_n hx hb dX4_foresee_0 rfl (lv_at hl 1 rfl) ?_
  refine z_call (va_runS (As := [.int (nI n)]) (rest := []) ⟨hx, hb, hml, hown, hts⟩ (c_X4_checkSpan l G (nI n) g) (va_cwS 1 hts gX4_foresee_X4_checkSpan rfl rfl rfl (by decide +kernel) ⟨Nat.le_of_ble_eq_true rfl, Nat.le_of_ble_eq_true rfl⟩) (z_prS hX z_P0) rfl rfl hl.1 rfl (lv_room (Nat.le_of_ble_eq_true rfl)) dX4_foresee_1 ⟨Nat.le_of_ble_eq_true rfl, Nat.le_of_ble_eq_true rfl⟩) (fun _ h9 => h9) ?_
  refine lv_aload_n hx hb dX4_foresee_4 rfl (lv_at hl 0 rfl) ?_
  refine va_get (D := z_DD G) (ci := 4) (v := .ref (ad 7)) (C := RX4) (T := TX4) (N := 9) hx hb hts hi_RX4 hown hK hP 0 z_g0 rfl 5 (by decide) hf_RX4_39 (fun _ h9 => h9) rfl dX4_foresee_5 ?_
  refine lv_aload_n hx hb dX4_foresee_8 rfl (lv_at hl 0 rfl) ?_
  refine va_get (D := z_DD G) (ci := 4) (v := .ref (ad 6)) (C := RX4) (T := TX4) (N := 9) hx hb hts hi_RX4 hown hK hP 0 z_g0 rfl 4 (by decide) hf_RX4_35 (fun _ h9 => h9) rfl dX4_foresee_9 ?_
  refine z_callm (va_runVN (As := [.ref (ad 6)]) (rest := []) ⟨hx, hb, hml, hown, hts⟩ (c_X0_copyFrom l G ad σ κ hinj) ⟨va_cnB 1 hts gX4_foresee_X0_copyFrom_n203 rfl rfl rfl (z_nmw hX.2 16 rfl) (hts (.initialized RX0) (by decide +kernel)) (by decide +kernel) ⟨Nat.le_of_ble_eq_true rfl, Nat.le_of_ble_eq_true rfl⟩, hts (.instanceMethod yX0_copyFrom) (by decide +kernel), hts (.selects RX0 yX0_copyFrom yX0_copyFrom) (by decide +kernel)⟩ (z_prV (ci := 0) (k := 7) hX hP rfl z_g7) rfl rfl hl.1 rfl (lv_room (Nat.le_of_ble_eq_true rfl)) dX4_foresee_12 ⟨Nat.le_of_ble_eq_true rfl, Nat.le_of_ble_eq_true rfl⟩) hS (fun _ _ h9 => h9) (fun _ h9 => h9) (fun H locs hP hz9 hk9 hS => ?_)
  have hD := z_Dm hinj (z_cC G ad (z_k3 σ 5 (σ 8 2) (σ 8 3) (σ 8 4)) κ)
  refine lv_aload_n hx hb dX4_foresee_15 rfl (lv_at hl 0 rfl) ?_
  refine lv_aload_n hx hb dX4_foresee_16 rfl (lv_at hl 0 rfl) ?_
  refine va_get (D := z_DD G) (ci := 4) (v := .ref (ad 7)) (C := RX4) (T := TX4) (N := 9) hx hb hts hi_RX4 hown hK hP 0 z_g0 rfl 5 (by decide) hf_RX4_39 (fun _ h9 => h9) rfl dX4_foresee_17 ?_
  refine lv_iload_n hx hb dX4_foresee_20 rfl (lv_at hl 1 rfl) ?_
  refine z_callm (va_runV (As := [.ref (ad 7), .int (nI n)]) (rest := []) ⟨hx, hb, hml, hown, hts⟩ (c_X4_enterDays_d l G ad (z_k3 σ 5 (σ 8 2) (σ 8 3) (σ 8 4)) κ hinj hw T n hT9 hT2) (cwV 2 hts gX4_foresee_X4_enterDays rfl rfl rfl (by decide +kernel) ⟨Nat.le_of_ble_eq_true rfl, Nat.le_of_ble_eq_true rfl⟩) (z_prV (ci := 4) (k := 0) hX hP rfl z_g0) rfl rfl hl.1 rfl (lv_room (Nat.le_of_ble_eq_true rfl)) dX4_foresee_21 ⟨Nat.le_of_ble_eq_true rfl, Nat.le_of_ble_eq_true rfl⟩) hS (fun _ _ h9 => h9) (fun _ h9 => h9) (fun H locs hP hz9 hk9 hS => ?_)
  have hD := z_Dm hinj (z_cC G ad (z_k3 (z_k3 σ 5 (σ 8 2) (σ 8 3) (σ 8 4)) 5 ((z_k3 σ 5 (σ 8 2) (σ 8 3) (σ 8 4)) 8 5 + z_dd (z_fc (z_k3 σ 5 (σ 8 2) (σ 8 3) (σ 8 4)) κ) T (κ 0 1) n) ((z_k3 σ 5 (σ 8 2) (σ 8 3) (σ 8 4)) 8 6 + z_dd (z_fj (z_k3 σ 5 (σ 8 2) (σ 8 3) (σ 8 4)) κ) T (κ 0 1) n) ((z_k3 σ 5 (σ 8 2) (σ 8 3) (σ 8 4)) 8 7 + z_dd (z_fs (z_k3 σ 5 (σ 8 2) (σ 8 3) (σ 8 4)) κ) T (κ 0 1) n)) κ)
  have hP : va_P (z_DD G) vwCl (z_wC G ad (z_fd σ κ T n) κ) H := by rw [← z_fd_of σ κ T n rfl]; exact hP
  have hD := z_Dm hinj (z_cC G ad (z_fd σ κ T n) κ)
  refine lv_iload_n hx hb dX4_foresee_24 rfl (lv_at hl 2 rfl) ?_
  rcases (show w9 = 5 ∨ w9 = 6 ∨ w9 = 7 ∨ w9 = 8 by omega) with rfl | rfl | rfl | rfl
  · skip
    refine lv_tableIn (x := nI 5) (off := 31) (tgt := 56) hx hb dX4_foresee_25 (by decide) (by decide) rfl (by decide) ?_
    refine lv_aload_n hx hb dX4_foresee_56 rfl (lv_at hl 0 rfl) ?_
    refine lv_aload_n hx hb dX4_foresee_57 rfl (lv_at hl 0 rfl) ?_
    refine va_get (D := z_DD G) (ci := 4) (v := .int ((z_fd σ κ T n) 8 1)) (C := RX4) (T := TX4) (N := 9) hx hb hts hi_RX4 hown hK hP 0 z_g0 rfl 8 (by decide) hf_RX4_158 (fun _ h9 => h9) rfl dX4_foresee_58 ?_
    refine z_top (show (.int ((z_fd σ κ T n) 8 1) : Value) = .int (nI T) from by (show Value.int (σ 8 1) = _; rw [hT9])) ?_
    refine lv_iload_n hx hb dX4_foresee_61 rfl (lv_at hl 1 rfl) ?_
    refine lv_iadd hx hb dX4_foresee_62 ?_
    refine z_top (show (.int ((nI T) + (nI n)) : Value) = .int (nI (T + n)) from by rw [nI_add]) ?_
    refine z_call (va_runV (As := [.int (nI (T + n))]) (rest := []) ⟨hx, hb, hml, hown, hts⟩ (c_X4_valleysInBloomOn l G ad (z_fd σ κ T n) κ hw (nI (T + n))) (cwV 1 hts gX4_foresee_X4_valleysInBloomOn rfl rfl rfl (by decide +kernel) ⟨Nat.le_of_ble_eq_true rfl, Nat.le_of_ble_eq_true rfl⟩) (z_prV (ci := 4) (k := 0) hX hP rfl z_g0) rfl rfl hl.1 rfl (lv_room (Nat.le_of_ble_eq_true rfl)) dX4_foresee_63 ⟨Nat.le_of_ble_eq_true rfl, Nat.le_of_ble_eq_true rfl⟩) (fun _ h9 => h9) ?_
    refine W.eq (g2 := F0 m 66 ls [.int (z_sm (z_bn (z_fd σ κ T n) (nI (T + n))) (κ 0 0))]) rfl ?_
    have hPf : va_P (z_DD G) vwCl (z_wC G ad (z_fd σ κ T n) κ) H := by exact hP
    refine z_iret hx hb hr hlocks dX4_foresee_66 (fun t ht hW => ⟨rfl, by rw [ht]; exact hPf, hS.F ht⟩) hS.2.2 ?_
    rfl
  · skip
    refine lv_tableIn (x := nI 6) (off := 42) (tgt := 67) hx hb dX4_foresee_25 (by decide) (by decide) rfl (by decide) ?_
    refine lv_aload_n hx hb dX4_foresee_67 rfl (lv_at hl 0 rfl) ?_
    refine va_get (D := z_DD G) (ci := 4) (v := .ref (ad 7)) (C := RX4) (T := TX4) (N := 9) hx hb hts hi_RX4 hown hK hP 0 z_g0 rfl 5 (by decide) hf_RX4_39 (fun _ h9 => h9) rfl dX4_foresee_68 ?_
    refine va_getN (D := z_DD G) (ci := 0) (v := .int ((z_fd σ κ T n) 8 5)) (C := RX0) (T := TX0) (N := 3) hx hb hts hi_RX0 hown hK hP 7 z_g7 rfl 0 (by decide) (z_nfw hX.2 1 rfl) (fun _ h9 => h9) rfl dX4_foresee_71 ?_
    have hPf : va_P (z_DD G) vwCl (z_wC G ad (z_fd σ κ T n) κ) H := by exact hP
    refine z_iret hx hb hr hlocks dX4_foresee_74 (fun t ht hW => ⟨rfl, by rw [ht]; exact hPf, hS.F ht⟩) hS.2.2 ?_
    rfl
  · skip
    refine lv_tableIn (x := nI 7) (off := 50) (tgt := 75) hx hb dX4_foresee_25 (by decide) (by decide) rfl (by decide) ?_
    refine lv_aload_n hx hb dX4_foresee_75 rfl (lv_at hl 0 rfl) ?_
    refine va_get (D := z_DD G) (ci := 4) (v := .ref (ad 7)) (C := RX4) (T := TX4) (N := 9) hx hb hts hi_RX4 hown hK hP 0 z_g0 rfl 5 (by decide) hf_RX4_39 (fun _ h9 => h9) rfl dX4_foresee_76 ?_
    refine va_getN (D := z_DD G) (ci := 0) (v := .int ((z_fd σ κ T n) 8 6)) (C := RX0) (T := TX0) (N := 3) hx hb hts hi_RX0 hown hK hP 7 z_g7 rfl 1 (by decide) (z_nfw hX.2 2 rfl) (fun _ h9 => h9) rfl dX4_foresee_79 ?_
    have hPf : va_P (z_DD G) vwCl (z_wC G ad (z_fd σ κ T n) κ) H := by exact hP
    refine z_iret hx hb hr hlocks dX4_foresee_82 (fun t ht hW => ⟨rfl, by rw [ht]; exact hPf, hS.F ht⟩) hS.2.2 ?_
    rfl
  · skip
    refine lv_tableIn (x := nI 8) (off := 58) (tgt := 83) hx hb dX4_foresee_25 (by decide) (by decide) rfl (by decide) ?_
    refine lv_aload_n hx hb dX4_foresee_83 rfl (lv_at hl 0 rfl) ?_
    refine va_get (D := z_DD G) (ci := 4) (v := .ref (ad 7)) (C := RX4) (T := TX4) (N := 9) hx hb hts hi_RX4 hown hK hP 0 z_g0 rfl 5 (by decide) hf_RX4_39 (fun _ h9 => h9) rfl dX4_foresee_84 ?_
    refine va_getN (D := z_DD G) (ci := 0) (v := .int ((z_fd σ κ T n) 8 7)) (C := RX0) (T := TX0) (N := 3) hx hb hts hi_RX0 hown hK hP 7 z_g7 rfl 2 (by decide) (z_nfw hX.2 3 rfl) (fun _ h9 => h9) rfl dX4_foresee_87 ?_
    have hPf : va_P (z_DD G) vwCl (z_wC G ad (z_fd σ κ T n) κ) H := by exact hP
    refine z_iret hx hb hr hlocks dX4_foresee_90 (fun t ht hW => ⟨rfl, by rw [ht]; exact hPf, hS.F ht⟩) hS.2.2 ?_
    rfl

set_option maxHeartbeats 4000000 in
set_option maxRecDepth 100000 in
theorem c_X4_mixedWithValley (l : Launch) (G : z_GT) (ad : Nat → Nat) (σ : Nat → Nat → Int32) (κ : Nat → Nat → Nat) (hw : z_wf κ) (d : Int64) (v : Nat) (hv : v < κ 0 0) : Met l yX4_mixedWithValley wsX4_mixedWithValley ({ frames := 3, cells := 0, slots := 0, locals := 68 } : Room) (z_Pr G [.ref (ad 0), .long d, .int (nI v)] (z_wC G ad σ κ)) (z_Qo (some (.long (z_mv σ κ d v)))) 0 0 (fun _ => False) := by
  refine Met.ofW (cc := cX4_mixedWithValley) (maxL := 7) (ret := (some .long)) (by decide) rfl ?_
  intro p e s m args below meth c s₁ B hml hw0
  obtain ⟨rfl, hX, hP⟩ := hw0
  have hK := hX.1
  have hx := B.exec
  have hb := B.bytes
  have hr := B.returns
  have hts := atoms_spec (ws := wsX4_mixedWithValley) B.pre
  have hown : s.vm.findClass RX4 = some m.cls := findClass_of_methodNamed B.named
  have hlocks := B.notSynchronized
  have hl := lv_entry ([.ref (ad 0), .long d, .int (nI v)]) (n := 7) (Nat.le_of_ble_eq_true rfl)
  rw [lg_entry_eq]
  generalize (lg_sl ([.ref (ad 0), .long d, .int (nI v)]) ++ List.replicate (7 - (lg_sl ([.ref (ad 0), .long d, .int (nI v)])).length) Slot.unset).toArray = ls at hl ⊢
  have hl : lv_has ls 7 [(0, .ref (ad 0)), (1, .long d), (3, .int (nI v))] := hl
  have hf_RX4_28 : (Cond.fieldLink RX4 28 "BlossomTours" "roads" "LBlossomTours$Roads;").before ([.ref (ad 0), .long d, .int (nI v)] : List Value).toArray s = true := hts _ (by decide +kernel)
  have hf_RX4_59 : (Cond.fieldLink RX4 59 "BlossomTours" "valleyCount" "I").before ([.ref (ad 0), .long d, .int (nI v)] : List Value).toArray s = true := hts _ (by decide +kernel)
  have hi_RX4 : ∀ w ∈ u_ws RX4 TX4 9, w ∈ wsX4_mixedWithValley := by decide +kernel
  have hn := hw.1
  refine lv_lload_n hx hb dX4_mixedWithValley_0 rfl (lv_at hl 1 rfl) ?_
  refine lv_lstore (lv' := [(4, .long d), (0, .ref (ad 0)), (1, .long d), (3, .int (nI v))]) hx hb dX4_mixedWithValley_1 hl (by decide) rfl (fun ls hl => ?_)
  refine lv_iconst (v := nI 0) hx hb dX4_mixedWithValley_3 (by decide) ?_
  refine lv_istore (lv' := [(6, .int (nI 0)), (4, .long d), (0, .ref (ad 0)), (1, .long d), (3, .int (nI v))]) hx hb dX4_mixedWithValley_4 hl (by decide) rfl (fun ls hl => ?_)
  have lp6 : ∀ (fu6 : Nat) (i : Nat), i ≤ 6 → 6 < i + fu6 → ∀ (ls : Array Slot), lv_has ls 7 [(0, .ref (ad 0)), (1, .long d), (3, .int (nI v)), (4, .long (z_mx (z_abt σ v) d i)), (6, .int (nI i))] → W p l e (headSpec wsX4_mixedWithValley ({ frames := 3, cells := 0, slots := 0, locals := 68 } : Room)).room s m ([.ref (ad 0), .long d, .int (nI v)] : List Value).toArray below meth c s.heap [] 0 0 (MQ below (z_Qo (some (.long (z_mv σ κ d v)))) ([.ref (ad 0), .long d, .int (nI v)] : List Value).toArray s 0 0 (fun _ => False)) (F0 m 6 ls []) := by
    intro fu6
    induction fu6 with
    | zero =>
      intro i h6 g6
      exfalso; omega
    | succ fu6 ih6 =>
      intro i h6 g6 ls hl
      refine lv_iload hx hb dX4_mixedWithValley_6 (lv_at hl 4 rfl) ?_
      refine lv_bipush (v := nI 6) hx hb dX4_mixedWithValley_8 (by decide) ?_
      refine lv_icmp_ge (tgt := 34) hx hb dX4_mixedWithValley_10 (by decide) (fun c10 => ?_) (fun c10 => ?_)
      · skip
        have hi : i = 6 := Nat.le_antisymm h6 (z_ge (by omega) (by omega) c10)
        rw [show (z_mx (z_abt σ v) d i : Int64) = z_mx (z_abt σ v) d 6 from by rw [hi]] at hl
        refine lv_iconst (v := nI 0) hx hb dX4_mixedWithValley_34 (by decide) ?_
        refine lv_istore (lv' := [(6, .int (nI 0)), (0, .ref (ad 0)), (1, .long d), (3, .int (nI v)), (4, .long (z_mx (z_abt σ v) d 6))]) hx hb dX4_mixedWithValley_35 hl (by decide) rfl (fun ls hl => ?_)
        have lp37 : ∀ (fu37 : Nat) (u : Nat), u ≤ κ 0 0 → κ 0 0 < u + fu37 → ∀ (ls : Array Slot), lv_has ls 7 [(0, .ref (ad 0)), (1, .long d), (3, .int (nI v)), (4, .long (z_mx (fun u => z_mb (σ (10 + v) u)) (z_mx (z_abt σ v) d 6) u)), (6, .int (nI u))] → W p l e (headSpec wsX4_mixedWithValley ({ frames := 3, cells := 0, slots := 0, locals := 68 } : Room)).room s m ([.ref (ad 0), .long d, .int (nI v)] : List Value).toArray below meth c s.heap [] 0 0 (MQ below (z_Qo (some (.long (z_mv σ κ d v)))) ([.ref (ad 0), .long d, .int (nI v)] : List Value).toArray s 0 0 (fun _ => False)) (F0 m 37 ls []) := by
          intro fu37
          induction fu37 with
          | zero =>
            intro u h37 g37
            exfalso; omega
          | succ fu37 ih37 =>
            intro u h37 g37 ls hl
            refine lv_iload hx hb dX4_mixedWithValley_37 (lv_at hl 4 rfl) ?_
            refine lv_aload_n hx hb dX4_mixedWithValley_39 rfl (lv_at hl 0 rfl) ?_
            refine va_get (D := z_DD G) (ci := 4) (v := .int (nI (κ 0 0))) (C := RX4) (T := TX4) (N := 9) hx hb hts hi_RX4 hown hK hP 0 z_g0 rfl 6 (by decide) hf_RX4_59 (fun _ h9 => h9) rfl dX4_mixedWithValley_40 ?_
            refine lv_icmp_ge (tgt := 70) hx hb dX4_mixedWithValley_43 (by decide) (fun c43 => ?_) (fun c43 => ?_)
            · skip
              have hu : u = κ 0 0 := Nat.le_antisymm h37 (z_ge (by omega) (by omega) c43)
              refine lv_lload hx hb dX4_mixedWithValley_70 (lv_at hl 3 rfl) ?_
              refine z_lret hx hb hr hlocks dX4_mixedWithValley_72 (fun t ht hW => ⟨rfl, ht⟩) (fun _ h9 => nomatch h9) ?_
              rw [hu]; rfl
            · skip
              have hu := z_ng (by omega) (by omega) c43
              refine lv_lload hx hb dX4_mixedWithValley_46 (lv_at hl 3 rfl) ?_
              refine lv_aload_n hx hb dX4_mixedWithValley_48 rfl (lv_at hl 0 rfl) ?_
              refine va_get (D := z_DD G) (ci := 4) (v := .ref (ad 4)) (C := RX4) (T := TX4) (N := 9) hx hb hts hi_RX4 hown hK hP 0 z_g0 rfl 3 (by decide) hf_RX4_28 (fun _ h9 => h9) rfl dX4_mixedWithValley_49 ?_
              refine lv_iload_n hx hb dX4_mixedWithValley_52 rfl (lv_at hl 2 rfl) ?_
              refine lv_iload hx hb dX4_mixedWithValley_53 (lv_at hl 4 rfl) ?_
              refine z_call (va_runVN (As := [.int (nI v), .int (nI u)]) (rest := [.long (z_mx (fun u => z_mb (σ (10 + v) u)) (z_mx (z_abt σ v) d 6) u)]) ⟨hx, hb, hml, hown, hts⟩ (c_X1_minutesBetween l G ad σ κ v u (Nat.lt_of_lt_of_le hv hw.1) (by omega)) ⟨va_cnB 2 hts gX4_mixedWithValley_X1_minutesBetween_n111 rfl rfl rfl (z_nmw hX.2 7 rfl) (hts (.initialized RX1) (by decide +kernel)) (by decide +kernel) ⟨Nat.le_of_ble_eq_true rfl, Nat.le_of_ble_eq_true rfl⟩, hts (.instanceMethod yX1_minutesBetween) (by decide +kernel), hts (.selects RX1 yX1_minutesBetween yX1_minutesBetween) (by decide +kernel)⟩ (z_prV (ci := 1) (k := 4) hX hP rfl z_g4) rfl rfl hl.1 rfl (lv_room (Nat.le_of_ble_eq_true rfl)) dX4_mixedWithValley_55 ⟨Nat.le_of_ble_eq_true rfl, Nat.le_of_ble_eq_true rfl⟩) (fun _ h9 => h9) ?_
              refine W.eq (g2 := F0 m 58 ls [.int (z_mb (σ (10 + v) u)), .long (z_mx (fun u => z_mb (σ (10 + v) u)) (z_mx (z_abt σ v) d 6) u)]) rfl ?_
              refine lv_i2l hx hb dX4_mixedWithValley_58 rfl ?_
              refine z_call (va_runS (As := [.long (z_mx (fun u => z_mb (σ (10 + v) u)) (z_mx (z_abt σ v) d 6) u), .long ((z_mb (σ (10 + v) u)).toInt64)]) (rest := []) ⟨hx, hb, hml, hown, hts⟩ (c_X4_mixed l G (z_mx (fun u => z_mb (σ (10 + v) u)) (z_mx (z_abt σ v) d 6) u) ((z_mb (σ (10 + v) u)).toInt64)) (va_cwS 2 hts gX4_mixedWithValley_X4_mixed rfl rfl rfl (by decide +kernel) ⟨Nat.le_of_ble_eq_true rfl, Nat.le_of_ble_eq_true rfl⟩) (z_prS hX z_P0) rfl rfl hl.1 rfl (lv_room (Nat.le_of_ble_eq_true rfl)) dX4_mixedWithValley_59 ⟨Nat.le_of_ble_eq_true rfl, Nat.le_of_ble_eq_true rfl⟩) (fun _ h9 => h9) ?_
              refine W.eq (g2 := F0 m 62 ls [.long ((z_mx (fun u => z_mb (σ (10 + v) u)) (z_mx (z_abt σ v) d 6) u) * 31 + ((z_mb (σ (10 + v) u)).toInt64))]) rfl ?_
              refine lv_lstore (lv' := [(4, .long ((z_mx (fun u => z_mb (σ (10 + v) u)) (z_mx (z_abt σ v) d 6) u) * 31 + ((z_mb (σ (10 + v) u)).toInt64))), (0, .ref (ad 0)), (1, .long d), (3, .int (nI v)), (6, .int (nI u))]) hx hb dX4_mixedWithValley_62 hl (by decide) rfl (fun ls hl => ?_)
              refine lv_iinc (v := nI (u + 1)) (lv' := [(6, .int (nI (u + 1))), (4, .long ((z_mx (fun u => z_mb (σ (10 + v) u)) (z_mx (z_abt σ v) d 6) u) * 31 + ((z_mb (σ (10 + v) u)).toInt64))), (0, .ref (ad 0)), (1, .long d), (3, .int (nI v))]) hx hb dX4_mixedWithValley_64 hl (k := 4) rfl (z_inc _) (by decide) rfl (fun ls hl => ?_)
              refine lv_goto (tgt := 37) hx hb dX4_mixedWithValley_67 (by decide) ?_
              -- back to 37
              rw [show ((z_mx (fun u => z_mb (σ (10 + v) u)) (z_mx (z_abt σ v) d 6) u) * 31 + ((z_mb (σ (10 + v) u)).toInt64) : Int64) = z_mx (fun u => z_mb (σ (10 + v) u)) (z_mx (z_abt σ v) d 6) (u + 1) from by rfl] at hl
              exact ih37 (u + 1) (by omega) (by omega) ls (lv_sub hl [2, 3, 4, 1, 0] rfl)
        rw [show (z_mx (z_abt σ v) d 6 : Int64) = z_mx (fun u => z_mb (σ (10 + v) u)) (z_mx (z_abt σ v) d 6) 0 from by rfl] at hl
        exact lp37 (κ 0 0 + 1) 0 (by omega) (by omega) ls (lv_sub hl [1, 2, 3, 4, 0] rfl)
      · skip
        have hi := z_ng (by omega) (by omega) c10
        refine lv_lload hx hb dX4_mixedWithValley_13 (lv_at hl 3 rfl) ?_
        refine lv_aload_n hx hb dX4_mixedWithValley_15 rfl (lv_at hl 0 rfl) ?_
        refine lv_iload_n hx hb dX4_mixedWithValley_16 rfl (lv_at hl 2 rfl) ?_
        refine lv_iload hx hb dX4_mixedWithValley_17 (lv_at hl 4 rfl) ?_
        refine z_call (va_runV (As := [.int (nI v), .int (nI i)]) (rest := [.long (z_mx (z_abt σ v) d i)]) ⟨hx, hb, hml, hown, hts⟩ (c_X4_about l G ad σ κ hw v hv i (by omega)) (cwV 2 hts gX4_mixedWithValley_X4_about rfl rfl rfl (by decide +kernel) ⟨Nat.le_of_ble_eq_true rfl, Nat.le_of_ble_eq_true rfl⟩) (z_prV (ci := 4) (k := 0) hX hP rfl z_g0) rfl rfl hl.1 rfl (lv_room (Nat.le_of_ble_eq_true rfl)) dX4_mixedWithValley_19 ⟨Nat.le_of_ble_eq_true rfl, Nat.le_of_ble_eq_true rfl⟩) (fun _ h9 => h9) ?_
        refine W.eq (g2 := F0 m 22 ls [.int (z_abt σ v i), .long (z_mx (z_abt σ v) d i)]) rfl ?_
        refine lv_i2l hx hb dX4_mixedWithValley_22 rfl ?_
        refine z_call (va_runS (As := [.long (z_mx (z_abt σ v) d i), .long ((z_abt σ v i).toInt64)]) (rest := []) ⟨hx, hb, hml, hown, hts⟩ (c_X4_mixed l G (z_mx (z_abt σ v) d i) ((z_abt σ v i).toInt64)) (va_cwS 2 hts gX4_mixedWithValley_X4_mixed rfl rfl rfl (by decide +kernel) ⟨Nat.le_of_ble_eq_true rfl, Nat.le_of_ble_eq_true rfl⟩) (z_prS hX z_P0) rfl rfl hl.1 rfl (lv_room (Nat.le_of_ble_eq_true rfl)) dX4_mixedWithValley_23 ⟨Nat.le_of_ble_eq_true rfl, Nat.le_of_ble_eq_true rfl⟩) (fun _ h9 => h9) ?_
        refine W.eq (g2 := F0 m 26 ls [.long ((z_mx (z_abt σ v) d i) * 31 + ((z_abt σ v i).toInt64))]) rfl ?_
        refine lv_lstore (lv' := [(4, .long ((z_mx (z_abt σ v) d i) * 31 + ((z_abt σ v i).toInt64))), (0, .ref (ad 0)), (1, .long d), (3, .int (nI v)), (6, .int (nI i))]) hx hb dX4_mixedWithValley_26 hl (by decide) rfl (fun ls hl => ?_)
        refine lv_iinc (v := nI (i + 1)) (lv' := [(6, .int (nI (i + 1))), (4, .long ((z_mx (z_abt σ v) d i) * 31 + ((z_abt σ v i).toInt64))), (0, .ref (ad 0)), (1, .long d), (3, .int (nI v))]) hx hb dX4_mixedWithValley_28 hl (k := 4) rfl (z_inc _) (by decide) rfl (fun ls hl => ?_)
        refine lv_goto (tgt := 6) hx hb dX4_mixedWithValley_31 (by decide) ?_
        -- back to 6
        rw [show ((z_mx (z_abt σ v) d i) * 31 + ((z_abt σ v i).toInt64) : Int64) = z_mx (z_abt σ v) d (i + 1) from by rfl] at hl
        exact ih6 (i + 1) (by omega) (by omega) ls (lv_sub hl [2, 3, 4, 1, 0] rfl)
  rw [show (d : Int64) = z_mx (z_abt σ v) d 0 from by rfl] at hl
  exact lp6 (6 + 1) 0 (by omega) (by omega) ls (lv_sub hl [2, 3, 4, 1, 0] rfl)

set_option maxHeartbeats 4000000 in
set_option maxRecDepth 100000 in
theorem c_X4_mixedWithTour (l : Launch) (G : z_GT) (ad : Nat → Nat) (σ : Nat → Nat → Int32) (κ : Nat → Nat → Nat) (hw : z_wf κ) (d : Int64) (t : Nat) (ht : t < κ 0 1) : Met l yX4_mixedWithTour wsX4_mixedWithTour ({ frames := 4, cells := 0, slots := 0, locals := 92 } : Room) (z_Pr G [.ref (ad 0), .long d, .int (nI t)] (z_wC G ad σ κ)) (z_Qo (some (.long (z_mtr σ κ d t)))) 0 0 (fun _ => False) := by
  refine Met.ofW (cc := cX4_mixedWithTour) (maxL := 7) (ret := (some .long)) (by decide) rfl ?_
  intro p e s m args below meth c s₁ B hml hw0
  obtain ⟨rfl, hX, hP⟩ := hw0
  have hK := hX.1
  have hx := B.exec
  have hb := B.bytes
  have hr := B.returns
  have hts := atoms_spec (ws := wsX4_mixedWithTour) B.pre
  have hown : s.vm.findClass RX4 = some m.cls := findClass_of_methodNamed B.named
  have hlocks := B.notSynchronized
  have hl := lv_entry ([.ref (ad 0), .long d, .int (nI t)]) (n := 7) (Nat.le_of_ble_eq_true rfl)
  rw [lg_entry_eq]
  generalize (lg_sl ([.ref (ad 0), .long d, .int (nI t)]) ++ List.replicate (7 - (lg_sl ([.ref (ad 0), .long d, .int (nI t)])).length) Slot.unset).toArray = ls at hl ⊢
  have hl : lv_has ls 7 [(0, .ref (ad 0)), (1, .long d), (3, .int (nI t))] := hl
  have hf_RX4_17 : (Cond.fieldLink RX4 17 "BlossomTours" "tours" "[LBlossomTours$Tour;").before ([.ref (ad 0), .long d, .int (nI t)] : List Value).toArray s = true := hts _ (by decide +kernel)
  have hi_RX2 : ∀ w ∈ u_ws RX2 TX2 4, w ∈ wsX4_mixedWithTour := by decide +kernel
  have hi_RX4 : ∀ w ∈ u_ws RX4 TX4 9, w ∈ wsX4_mixedWithTour := by decide +kernel
  have hk5 := hw.2.2.1 t (Nat.lt_of_lt_of_le ht hw.2.1)
  refine lv_lload_n hx hb dX4_mixedWithTour_0 rfl (lv_at hl 1 rfl) ?_
  refine lv_lstore (lv' := [(4, .long d), (0, .ref (ad 0)), (1, .long d), (3, .int (nI t))]) hx hb dX4_mixedWithTour_1 hl (by decide) rfl (fun ls hl => ?_)
  refine lv_iconst (v := nI 0) hx hb dX4_mixedWithTour_3 (by decide) ?_
  refine lv_istore (lv' := [(6, .int (nI 0)), (4, .long d), (0, .ref (ad 0)), (1, .long d), (3, .int (nI t))]) hx hb dX4_mixedWithTour_4 hl (by decide) rfl (fun ls hl => ?_)
  have lp6 : ∀ (fu6 : Nat) (i : Nat), i ≤ 6 → 6 < i + fu6 → ∀ (ls : Array Slot), lv_has ls 7 [(0, .ref (ad 0)), (1, .long d), (3, .int (nI t)), (4, .long (z_mx (z_tld σ κ t) d i)), (6, .int (nI i))] → W p l e (headSpec wsX4_mixedWithTour ({ frames := 4, cells := 0, slots := 0, locals := 92 } : Room)).room s m ([.ref (ad 0), .long d, .int (nI t)] : List Value).toArray below meth c s.heap [] 0 0 (MQ below (z_Qo (some (.long (z_mtr σ κ d t)))) ([.ref (ad 0), .long d, .int (nI t)] : List Value).toArray s 0 0 (fun _ => False)) (F0 m 6 ls []) := by
    intro fu6
    induction fu6 with
    | zero =>
      intro i h6 g6
      exfalso; omega
    | succ fu6 ih6 =>
      intro i h6 g6 ls hl
      refine lv_iload hx hb dX4_mixedWithTour_6 (lv_at hl 4 rfl) ?_
      refine lv_bipush (v := nI 6) hx hb dX4_mixedWithTour_8 (by decide) ?_
      refine lv_icmp_ge (tgt := 34) hx hb dX4_mixedWithTour_10 (by decide) (fun c10 => ?_) (fun c10 => ?_)
      · skip
        have hi : i = 6 := Nat.le_antisymm h6 (z_ge (by omega) (by omega) c10)
        rw [show (z_mx (z_tld σ κ t) d i : Int64) = z_mx (z_tld σ κ t) d 6 from by rw [hi]] at hl
        refine lv_iconst (v := nI 0) hx hb dX4_mixedWithTour_34 (by decide) ?_
        refine lv_istore (lv' := [(6, .int (nI 0)), (0, .ref (ad 0)), (1, .long d), (3, .int (nI t)), (4, .long (z_mx (z_tld σ κ t) d 6))]) hx hb dX4_mixedWithTour_35 hl (by decide) rfl (fun ls hl => ?_)
        have lp37 : ∀ (fu37 : Nat) (k : Nat), k ≤ κ 1 t → κ 1 t < k + fu37 → ∀ (ls : Array Slot), lv_has ls 7 [(0, .ref (ad 0)), (1, .long d), (3, .int (nI t)), (4, .long (z_mx (fun k => nI (κ (2 + t) k)) (z_mx (z_tld σ κ t) d 6) k)), (6, .int (nI k))] → W p l e (headSpec wsX4_mixedWithTour ({ frames := 4, cells := 0, slots := 0, locals := 92 } : Room)).room s m ([.ref (ad 0), .long d, .int (nI t)] : List Value).toArray below meth c s.heap [] 0 0 (MQ below (z_Qo (some (.long (z_mtr σ κ d t)))) ([.ref (ad 0), .long d, .int (nI t)] : List Value).toArray s 0 0 (fun _ => False)) (F0 m 37 ls []) := by
          intro fu37
          induction fu37 with
          | zero =>
            intro k h37 g37
            exfalso; omega
          | succ fu37 ih37 =>
            intro k h37 g37 ls hl
            refine lv_iload hx hb dX4_mixedWithTour_37 (lv_at hl 4 rfl) ?_
            refine lv_aload_n hx hb dX4_mixedWithTour_39 rfl (lv_at hl 0 rfl) ?_
            refine va_get (D := z_DD G) (ci := 4) (v := .ref (ad 2)) (C := RX4) (T := TX4) (N := 9) hx hb hts hi_RX4 hown hK hP 0 z_g0 rfl 1 (by decide) hf_RX4_17 (fun _ h9 => h9) rfl dX4_mixedWithTour_40 ?_
            refine lv_iload_n hx hb dX4_mixedWithTour_43 rfl (lv_at hl 2 rfl) ?_
            refine z_aald (k := t) (g := fun j => ad (16 + j)) hx hb hK hP 2 2 z_g2 rfl (Nat.lt_of_lt_of_le ht hw.2.1) (by decide) dX4_mixedWithTour_44 ?_
            refine va_getN (D := z_DD G) (ci := 2) (v := .int (nI (κ 1 t))) (C := RX2) (T := TX2) (N := 4) hx hb hts hi_RX2 hown hK hP (16 + t) (z_gT (Nat.lt_of_lt_of_le ht hw.2.1)) rfl 1 (by decide) (z_nfw hX.2 10 rfl) (fun _ h9 => h9) rfl dX4_mixedWithTour_45 ?_
            refine lv_icmp_ge (tgt := 77) hx hb dX4_mixedWithTour_48 (by decide) (fun c48 => ?_) (fun c48 => ?_)
            · skip
              have hu : k = κ 1 t := Nat.le_antisymm h37 (z_ge (by omega) (by omega) c48)
              refine lv_lload hx hb dX4_mixedWithTour_77 (lv_at hl 3 rfl) ?_
              refine z_lret hx hb hr hlocks dX4_mixedWithTour_79 (fun t ht hW => ⟨rfl, ht⟩) (fun _ h9 => nomatch h9) ?_
              rw [hu]; rfl
            · skip
              have hu := z_ng (by omega) (by omega) c48
              refine lv_lload hx hb dX4_mixedWithTour_51 (lv_at hl 3 rfl) ?_
              refine lv_aload_n hx hb dX4_mixedWithTour_53 rfl (lv_at hl 0 rfl) ?_
              refine va_get (D := z_DD G) (ci := 4) (v := .ref (ad 2)) (C := RX4) (T := TX4) (N := 9) hx hb hts hi_RX4 hown hK hP 0 z_g0 rfl 1 (by decide) hf_RX4_17 (fun _ h9 => h9) rfl dX4_mixedWithTour_54 ?_
              refine lv_iload_n hx hb dX4_mixedWithTour_57 rfl (lv_at hl 2 rfl) ?_
              refine z_aald (k := t) (g := fun j => ad (16 + j)) hx hb hK hP 2 2 z_g2 rfl (Nat.lt_of_lt_of_le ht hw.2.1) (by decide) dX4_mixedWithTour_58 ?_
              refine va_getN (D := z_DD G) (ci := 2) (v := .ref (ad (22 + t))) (C := RX2) (T := TX2) (N := 4) hx hb hts hi_RX2 hown hK hP (16 + t) (z_gT (Nat.lt_of_lt_of_le ht hw.2.1)) rfl 0 (by decide) (z_nfw hX.2 9 rfl) (fun _ h9 => h9) rfl dX4_mixedWithTour_59 ?_
              refine lv_iload hx hb dX4_mixedWithTour_62 (lv_at hl 4 rfl) ?_
              refine z_iald (k := k) (f := fun z9 => nI (κ (2 + t) z9)) hx hb hK hP (22 + t) 0 (z_gS (Nat.lt_of_lt_of_le ht hw.2.1)) rfl (by omega) (by decide) dX4_mixedWithTour_64 ?_
              refine lv_i2l hx hb dX4_mixedWithTour_65 rfl ?_
              refine z_call (va_runS (As := [.long (z_mx (fun k => nI (κ (2 + t) k)) (z_mx (z_tld σ κ t) d 6) k), .long ((nI (κ (2 + t) k)).toInt64)]) (rest := []) ⟨hx, hb, hml, hown, hts⟩ (c_X4_mixed l G (z_mx (fun k => nI (κ (2 + t) k)) (z_mx (z_tld σ κ t) d 6) k) ((nI (κ (2 + t) k)).toInt64)) (va_cwS 2 hts gX4_mixedWithTour_X4_mixed rfl rfl rfl (by decide +kernel) ⟨Nat.le_of_ble_eq_true rfl, Nat.le_of_ble_eq_true rfl⟩) (z_prS hX z_P0) rfl rfl hl.1 rfl (lv_room (Nat.le_of_ble_eq_true rfl)) dX4_mixedWithTour_66 ⟨Nat.le_of_ble_eq_true rfl, Nat.le_of_ble_eq_true rfl⟩) (fun _ h9 => h9) ?_
              refine W.eq (g2 := F0 m 69 ls [.long ((z_mx (fun k => nI (κ (2 + t) k)) (z_mx (z_tld σ κ t) d 6) k) * 31 + ((nI (κ (2 + t) k)).toInt64))]) rfl ?_
              refine lv_lstore (lv' := [(4, .long ((z_mx (fun k => nI (κ (2 + t) k)) (z_mx (z_tld σ κ t) d 6) k) * 31 + ((nI (κ (2 + t) k)).toInt64))), (0, .ref (ad 0)), (1, .long d), (3, .int (nI t)), (6, .int (nI k))]) hx hb dX4_mixedWithTour_69 hl (by decide) rfl (fun ls hl => ?_)
              refine lv_iinc (v := nI (k + 1)) (lv' := [(6, .int (nI (k + 1))), (4, .long ((z_mx (fun k => nI (κ (2 + t) k)) (z_mx (z_tld σ κ t) d 6) k) * 31 + ((nI (κ (2 + t) k)).toInt64))), (0, .ref (ad 0)), (1, .long d), (3, .int (nI t))]) hx hb dX4_mixedWithTour_71 hl (k := 4) rfl (z_inc _) (by decide) rfl (fun ls hl => ?_)
              refine lv_goto (tgt := 37) hx hb dX4_mixedWithTour_74 (by decide) ?_
              -- back to 37
              rw [show ((z_mx (fun k => nI (κ (2 + t) k)) (z_mx (z_tld σ κ t) d 6) k) * 31 + ((nI (κ (2 + t) k)).toInt64) : Int64) = z_mx (fun k => nI (κ (2 + t) k)) (z_mx (z_tld σ κ t) d 6) (k + 1) from by rfl] at hl
              exact ih37 (k + 1) (by omega) (by omega) ls (lv_sub hl [2, 3, 4, 1, 0] rfl)
        rw [show (z_mx (z_tld σ κ t) d 6 : Int64) = z_mx (fun k => nI (κ (2 + t) k)) (z_mx (z_tld σ κ t) d 6) 0 from by rfl] at hl
        exact lp37 (κ 1 t + 1) 0 (by omega) (by omega) ls (lv_sub hl [1, 2, 3, 4, 0] rfl)
      · skip
        have hi := z_ng (by omega) (by omega) c10
        refine lv_lload hx hb dX4_mixedWithTour_13 (lv_at hl 3 rfl) ?_
        refine lv_aload_n hx hb dX4_mixedWithTour_15 rfl (lv_at hl 0 rfl) ?_
        refine lv_iload_n hx hb dX4_mixedWithTour_16 rfl (lv_at hl 2 rfl) ?_
        refine lv_iload hx hb dX4_mixedWithTour_17 (lv_at hl 4 rfl) ?_
        refine z_call (va_runV (As := [.int (nI t), .int (nI i)]) (rest := [.long (z_mx (z_tld σ κ t) d i)]) ⟨hx, hb, hml, hown, hts⟩ (c_X4_told l G ad σ κ hw t ht i (by omega)) (cwV 2 hts gX4_mixedWithTour_X4_told rfl rfl rfl (by decide +kernel) ⟨Nat.le_of_ble_eq_true rfl, Nat.le_of_ble_eq_true rfl⟩) (z_prV (ci := 4) (k := 0) hX hP rfl z_g0) rfl rfl hl.1 rfl (lv_room (Nat.le_of_ble_eq_true rfl)) dX4_mixedWithTour_19 ⟨Nat.le_of_ble_eq_true rfl, Nat.le_of_ble_eq_true rfl⟩) (fun _ h9 => h9) ?_
        refine W.eq (g2 := F0 m 22 ls [.int (z_tld σ κ t i), .long (z_mx (z_tld σ κ t) d i)]) rfl ?_
        refine lv_i2l hx hb dX4_mixedWithTour_22 rfl ?_
        refine z_call (va_runS (As := [.long (z_mx (z_tld σ κ t) d i), .long ((z_tld σ κ t i).toInt64)]) (rest := []) ⟨hx, hb, hml, hown, hts⟩ (c_X4_mixed l G (z_mx (z_tld σ κ t) d i) ((z_tld σ κ t i).toInt64)) (va_cwS 2 hts gX4_mixedWithTour_X4_mixed rfl rfl rfl (by decide +kernel) ⟨Nat.le_of_ble_eq_true rfl, Nat.le_of_ble_eq_true rfl⟩) (z_prS hX z_P0) rfl rfl hl.1 rfl (lv_room (Nat.le_of_ble_eq_true rfl)) dX4_mixedWithTour_23 ⟨Nat.le_of_ble_eq_true rfl, Nat.le_of_ble_eq_true rfl⟩) (fun _ h9 => h9) ?_
        refine W.eq (g2 := F0 m 26 ls [.long ((z_mx (z_tld σ κ t) d i) * 31 + ((z_tld σ κ t i).toInt64))]) rfl ?_
        refine lv_lstore (lv' := [(4, .long ((z_mx (z_tld σ κ t) d i) * 31 + ((z_tld σ κ t i).toInt64))), (0, .ref (ad 0)), (1, .long d), (3, .int (nI t)), (6, .int (nI i))]) hx hb dX4_mixedWithTour_26 hl (by decide) rfl (fun ls hl => ?_)
        refine lv_iinc (v := nI (i + 1)) (lv' := [(6, .int (nI (i + 1))), (4, .long ((z_mx (z_tld σ κ t) d i) * 31 + ((z_tld σ κ t i).toInt64))), (0, .ref (ad 0)), (1, .long d), (3, .int (nI t))]) hx hb dX4_mixedWithTour_28 hl (k := 4) rfl (z_inc _) (by decide) rfl (fun ls hl => ?_)
        refine lv_goto (tgt := 6) hx hb dX4_mixedWithTour_31 (by decide) ?_
        -- back to 6
        rw [show ((z_mx (z_tld σ κ t) d i) * 31 + ((z_tld σ κ t i).toInt64) : Int64) = z_mx (z_tld σ κ t) d (i + 1) from by rfl] at hl
        exact ih6 (i + 1) (by omega) (by omega) ls (lv_sub hl [2, 3, 4, 1, 0] rfl)
  rw [show (d : Int64) = z_mx (z_tld σ κ t) d 0 from by rfl] at hl
  exact lp6 (6 + 1) 0 (by omega) (by omega) ls (lv_sub hl [2, 3, 4, 1, 0] rfl)

set_option maxHeartbeats 4000000 in
set_option maxRecDepth 100000 in
theorem c_X4_digest (l : Launch) (G : z_GT) (ad : Nat → Nat) (σ : Nat → Nat → Int32) (κ : Nat → Nat → Nat) (hw : z_wf κ) : Met l yX4_digest wsX4_digest ({ frames := 5, cells := 0, slots := 0, locals := 118 } : Room) (z_Pr G [.ref (ad 0)] (z_wC G ad σ κ)) (z_Qo (some (.long (z_dg σ κ)))) 0 0 (fun _ => False) := by
  refine Met.ofW (cc := cX4_digest) (maxL := 4) (ret := (some .long)) (by decide) rfl ?_
  intro p e s m args below meth c s₁ B hml hw0
  obtain ⟨rfl, hX, hP⟩ := hw0
  have hK := hX.1
  have hx := B.exec
  have hb := B.bytes
  have hr := B.returns
  have hts := atoms_spec (ws := wsX4_digest) B.pre
  have hown : s.vm.findClass RX4 = some m.cls := findClass_of_methodNamed B.named
  have hlocks := B.notSynchronized
  have hl := lv_entry ([.ref (ad 0)]) (n := 4) (Nat.le_of_ble_eq_true rfl)
  rw [lg_entry_eq]
  generalize (lg_sl ([.ref (ad 0)]) ++ List.replicate (4 - (lg_sl ([.ref (ad 0)])).length) Slot.unset).toArray = ls at hl ⊢
  have hl : lv_has ls 4 [(0, .ref (ad 0))] := hl
  have hf_RX4_117 : (Cond.fieldLink RX4 117 "BlossomTours" "tourCount" "I").before ([.ref (ad 0)] : List Value).toArray s = true := hts _ (by decide +kernel)
  have hf_RX4_21 : (Cond.fieldLink RX4 21 "BlossomTours" "heats" "[I").before ([.ref (ad 0)] : List Value).toArray s = true := hts _ (by decide +kernel)
  have hf_RX4_59 : (Cond.fieldLink RX4 59 "BlossomTours" "valleyCount" "I").before ([.ref (ad 0)] : List Value).toArray s = true := hts _ (by decide +kernel)
  have hi_RX4 : ∀ w ∈ u_ws RX4 TX4 9, w ∈ wsX4_digest := by decide +kernel
  have hn := hw.1
  have hm := hw.2.1
  refine lv_ldc2 (v := 1213) hx hb hown (hts (.constantLong RX4 209 (1213)) (by decide +kernel)) dX4_digest_0 ?_
  refine lv_lstore_n (lv' := [(1, .long 1213), (0, .ref (ad 0))]) hx hb dX4_digest_3 rfl hl (by decide) rfl (fun ls hl => ?_)
  refine lv_iconst (v := nI 0) hx hb dX4_digest_4 (by decide) ?_
  refine lv_istore_n (lv' := [(3, .int (nI 0)), (1, .long 1213), (0, .ref (ad 0))]) hx hb dX4_digest_5 rfl hl (by decide) rfl (fun ls hl => ?_)
  have lp6 : ∀ (fu6 : Nat) (i : Nat), i ≤ 9 → 9 < i + fu6 → ∀ (ls : Array Slot), lv_has ls 4 [(0, .ref (ad 0)), (1, .long (z_mx (z_cnt σ κ) 1213 i)), (3, .int (nI i))] → W p l e (headSpec wsX4_digest ({ frames := 5, cells := 0, slots := 0, locals := 118 } : Room)).room s m ([.ref (ad 0)] : List Value).toArray below meth c s.heap [] 0 0 (MQ below (z_Qo (some (.long (z_dg σ κ)))) ([.ref (ad 0)] : List Value).toArray s 0 0 (fun _ => False)) (F0 m 6 ls []) := by
    intro fu6
    induction fu6 with
    | zero =>
      intro i h6 g6
      exfalso; omega
    | succ fu6 ih6 =>
      intro i h6 g6 ls hl
      refine lv_iload_n hx hb dX4_digest_6 rfl (lv_at hl 2 rfl) ?_
      refine lv_bipush (v := nI 9) hx hb dX4_digest_7 (by decide) ?_
      refine lv_icmp_ge (tgt := 29) hx hb dX4_digest_9 (by decide) (fun c9 => ?_) (fun c9 => ?_)
      · skip
        have hi : i = 9 := Nat.le_antisymm h6 (z_ge (by omega) (by omega) c9)
        rw [show (z_mx (z_cnt σ κ) 1213 i : Int64) = z_mx (z_cnt σ κ) 1213 9 from by rw [hi]] at hl
        refine lv_iconst (v := nI 0) hx hb dX4_digest_29 (by decide) ?_
        refine lv_istore_n (lv' := [(3, .int (nI 0)), (0, .ref (ad 0)), (1, .long (z_mx (z_cnt σ κ) 1213 9))]) hx hb dX4_digest_30 rfl hl (by decide) rfl (fun ls hl => ?_)
        have lp31 : ∀ (fu31 : Nat) (j : Nat), j ≤ 10 → 10 < j + fu31 → ∀ (ls : Array Slot), lv_has ls 4 [(0, .ref (ad 0)), (1, .long (z_mx (fun i => σ 7 i) (z_mx (z_cnt σ κ) 1213 9) j)), (3, .int (nI j))] → W p l e (headSpec wsX4_digest ({ frames := 5, cells := 0, slots := 0, locals := 118 } : Room)).room s m ([.ref (ad 0)] : List Value).toArray below meth c s.heap [] 0 0 (MQ below (z_Qo (some (.long (z_dg σ κ)))) ([.ref (ad 0)] : List Value).toArray s 0 0 (fun _ => False)) (F0 m 31 ls []) := by
          intro fu31
          induction fu31 with
          | zero =>
            intro j h31 g31
            exfalso; omega
          | succ fu31 ih31 =>
            intro j h31 g31 ls hl
            refine lv_iload_n hx hb dX4_digest_31 rfl (lv_at hl 2 rfl) ?_
            refine lv_aload_n hx hb dX4_digest_32 rfl (lv_at hl 0 rfl) ?_
            refine va_get (D := z_DD G) (ci := 4) (v := .ref (ad 3)) (C := RX4) (T := TX4) (N := 9) hx hb hts hi_RX4 hown hK hP 0 z_g0 rfl 2 (by decide) hf_RX4_21 (fun _ h9 => h9) rfl dX4_digest_33 ?_
            refine va_alen (v := nI 10) hx hb hK hP 3 0 z_g3 rfl rfl dX4_digest_36 ?_
            refine lv_icmp_ge (tgt := 58) hx hb dX4_digest_37 (by decide) (fun c37 => ?_) (fun c37 => ?_)
            · skip
              have hj : j = 10 := Nat.le_antisymm h31 (z_ge (by omega) (by omega) c37)
              rw [show (z_mx (fun i => σ 7 i) (z_mx (z_cnt σ κ) 1213 9) j : Int64) = z_mx (fun i => σ 7 i) (z_mx (z_cnt σ κ) 1213 9) 10 from by rw [hj]] at hl
              refine lv_iconst (v := nI 0) hx hb dX4_digest_58 (by decide) ?_
              refine lv_istore_n (lv' := [(3, .int (nI 0)), (0, .ref (ad 0)), (1, .long (z_mx (fun i => σ 7 i) (z_mx (z_cnt σ κ) 1213 9) 10))]) hx hb dX4_digest_59 rfl hl (by decide) rfl (fun ls hl => ?_)
              have lp60 : ∀ (fu60 : Nat) (v : Nat), v ≤ κ 0 0 → κ 0 0 < v + fu60 → ∀ (ls : Array Slot), lv_has ls 4 [(0, .ref (ad 0)), (1, .long (z_my (z_mv σ κ) (z_mx (fun i => σ 7 i) (z_mx (z_cnt σ κ) 1213 9) 10) v)), (3, .int (nI v))] → W p l e (headSpec wsX4_digest ({ frames := 5, cells := 0, slots := 0, locals := 118 } : Room)).room s m ([.ref (ad 0)] : List Value).toArray below meth c s.heap [] 0 0 (MQ below (z_Qo (some (.long (z_dg σ κ)))) ([.ref (ad 0)] : List Value).toArray s 0 0 (fun _ => False)) (F0 m 60 ls []) := by
                intro fu60
                induction fu60 with
                | zero =>
                  intro v h60 g60
                  exfalso; omega
                | succ fu60 ih60 =>
                  intro v h60 g60 ls hl
                  refine lv_iload_n hx hb dX4_digest_60 rfl (lv_at hl 2 rfl) ?_
                  refine lv_aload_n hx hb dX4_digest_61 rfl (lv_at hl 0 rfl) ?_
                  refine va_get (D := z_DD G) (ci := 4) (v := .int (nI (κ 0 0))) (C := RX4) (T := TX4) (N := 9) hx hb hts hi_RX4 hown hK hP 0 z_g0 rfl 6 (by decide) hf_RX4_59 (fun _ h9 => h9) rfl dX4_digest_62 ?_
                  refine lv_icmp_ge (tgt := 81) hx hb dX4_digest_65 (by decide) (fun c65 => ?_) (fun c65 => ?_)
                  · skip
                    have hv : v = κ 0 0 := Nat.le_antisymm h60 (z_ge (by omega) (by omega) c65)
                    rw [show (z_my (z_mv σ κ) (z_mx (fun i => σ 7 i) (z_mx (z_cnt σ κ) 1213 9) 10) v : Int64) = z_my (z_mv σ κ) (z_mx (fun i => σ 7 i) (z_mx (z_cnt σ κ) 1213 9) 10) (κ 0 0) from by rw [hv]] at hl
                    refine lv_iconst (v := nI 0) hx hb dX4_digest_81 (by decide) ?_
                    refine lv_istore_n (lv' := [(3, .int (nI 0)), (0, .ref (ad 0)), (1, .long (z_my (z_mv σ κ) (z_mx (fun i => σ 7 i) (z_mx (z_cnt σ κ) 1213 9) 10) (κ 0 0)))]) hx hb dX4_digest_82 rfl hl (by decide) rfl (fun ls hl => ?_)
                    have lp83 : ∀ (fu83 : Nat) (t : Nat), t ≤ κ 0 1 → κ 0 1 < t + fu83 → ∀ (ls : Array Slot), lv_has ls 4 [(0, .ref (ad 0)), (1, .long (z_my (z_mtr σ κ) (z_my (z_mv σ κ) (z_mx (fun i => σ 7 i) (z_mx (z_cnt σ κ) 1213 9) 10) (κ 0 0)) t)), (3, .int (nI t))] → W p l e (headSpec wsX4_digest ({ frames := 5, cells := 0, slots := 0, locals := 118 } : Room)).room s m ([.ref (ad 0)] : List Value).toArray below meth c s.heap [] 0 0 (MQ below (z_Qo (some (.long (z_dg σ κ)))) ([.ref (ad 0)] : List Value).toArray s 0 0 (fun _ => False)) (F0 m 83 ls []) := by
                      intro fu83
                      induction fu83 with
                      | zero =>
                        intro t h83 g83
                        exfalso; omega
                      | succ fu83 ih83 =>
                        intro t h83 g83 ls hl
                        refine lv_iload_n hx hb dX4_digest_83 rfl (lv_at hl 2 rfl) ?_
                        refine lv_aload_n hx hb dX4_digest_84 rfl (lv_at hl 0 rfl) ?_
                        refine va_get (D := z_DD G) (ci := 4) (v := .int (nI (κ 0 1))) (C := RX4) (T := TX4) (N := 9) hx hb hts hi_RX4 hown hK hP 0 z_g0 rfl 7 (by decide) hf_RX4_117 (fun _ h9 => h9) rfl dX4_digest_85 ?_
                        refine lv_icmp_ge (tgt := 104) hx hb dX4_digest_88 (by decide) (fun c88 => ?_) (fun c88 => ?_)
                        · skip
                          have ht : t = κ 0 1 := Nat.le_antisymm h83 (z_ge (by omega) (by omega) c88)
                          refine lv_lload_n hx hb dX4_digest_104 rfl (lv_at hl 1 rfl) ?_
                          refine z_lret hx hb hr hlocks dX4_digest_105 (fun t ht hW => ⟨rfl, ht⟩) (fun _ h9 => nomatch h9) ?_
                          rw [ht]; rfl
                        · skip
                          have ht := z_ng (by omega) (by omega) c88
                          refine lv_aload_n hx hb dX4_digest_91 rfl (lv_at hl 0 rfl) ?_
                          refine lv_lload_n hx hb dX4_digest_92 rfl (lv_at hl 1 rfl) ?_
                          refine lv_iload_n hx hb dX4_digest_93 rfl (lv_at hl 2 rfl) ?_
                          refine z_call (va_runV (As := [.long (z_my (z_mtr σ κ) (z_my (z_mv σ κ) (z_mx (fun i => σ 7 i) (z_mx (z_cnt σ κ) 1213 9) 10) (κ 0 0)) t), .int (nI t)]) (rest := []) ⟨hx, hb, hml, hown, hts⟩ (c_X4_mixedWithTour l G ad σ κ hw (z_my (z_mtr σ κ) (z_my (z_mv σ κ) (z_mx (fun i => σ 7 i) (z_mx (z_cnt σ κ) 1213 9) 10) (κ 0 0)) t) t ht) (cwV 2 hts gX4_digest_X4_mixedWithTour rfl rfl rfl (by decide +kernel) ⟨Nat.le_of_ble_eq_true rfl, Nat.le_of_ble_eq_true rfl⟩) (z_prV (ci := 4) (k := 0) hX hP rfl z_g0) rfl rfl hl.1 rfl (lv_room (Nat.le_of_ble_eq_true rfl)) dX4_digest_94 ⟨Nat.le_of_ble_eq_true rfl, Nat.le_of_ble_eq_true rfl⟩) (fun _ h9 => h9) ?_
                          refine W.eq (g2 := F0 m 97 ls [.long (z_mtr σ κ (z_my (z_mtr σ κ) (z_my (z_mv σ κ) (z_mx (fun i => σ 7 i) (z_mx (z_cnt σ κ) 1213 9) 10) (κ 0 0)) t) t)]) rfl ?_
                          refine lv_lstore_n (lv' := [(1, .long (z_mtr σ κ (z_my (z_mtr σ κ) (z_my (z_mv σ κ) (z_mx (fun i => σ 7 i) (z_mx (z_cnt σ κ) 1213 9) 10) (κ 0 0)) t) t)), (0, .ref (ad 0)), (3, .int (nI t))]) hx hb dX4_digest_97 rfl hl (by decide) rfl (fun ls hl => ?_)
                          refine lv_iinc (v := nI (t + 1)) (lv' := [(3, .int (nI (t + 1))), (1, .long (z_mtr σ κ (z_my (z_mtr σ κ) (z_my (z_mv σ κ) (z_mx (fun i => σ 7 i) (z_mx (z_cnt σ κ) 1213 9) 10) (κ 0 0)) t) t)), (0, .ref (ad 0))]) hx hb dX4_digest_98 hl (k := 2) rfl (z_inc _) (by decide) rfl (fun ls hl => ?_)
                          refine lv_goto (tgt := 83) hx hb dX4_digest_101 (by decide) ?_
                          -- back to 83
                          rw [show (z_mtr σ κ (z_my (z_mtr σ κ) (z_my (z_mv σ κ) (z_mx (fun i => σ 7 i) (z_mx (z_cnt σ κ) 1213 9) 10) (κ 0 0)) t) t : Int64) = z_my (z_mtr σ κ) (z_my (z_mv σ κ) (z_mx (fun i => σ 7 i) (z_mx (z_cnt σ κ) 1213 9) 10) (κ 0 0)) (t + 1) from by rfl] at hl
                          exact ih83 (t + 1) (by omega) (by omega) ls (lv_sub hl [2, 1, 0] rfl)
                    rw [show (z_my (z_mv σ κ) (z_mx (fun i => σ 7 i) (z_mx (z_cnt σ κ) 1213 9) 10) (κ 0 0) : Int64) = z_my (z_mtr σ κ) (z_my (z_mv σ κ) (z_mx (fun i => σ 7 i) (z_mx (z_cnt σ κ) 1213 9) 10) (κ 0 0)) 0 from by rfl] at hl
                    exact lp83 (κ 0 1 + 1) 0 (by omega) (by omega) ls (lv_sub hl [1, 2, 0] rfl)
                  · skip
                    have hv := z_ng (by omega) (by omega) c65
                    refine lv_aload_n hx hb dX4_digest_68 rfl (lv_at hl 0 rfl) ?_
                    refine lv_lload_n hx hb dX4_digest_69 rfl (lv_at hl 1 rfl) ?_
                    refine lv_iload_n hx hb dX4_digest_70 rfl (lv_at hl 2 rfl) ?_
                    refine z_call (va_runV (As := [.long (z_my (z_mv σ κ) (z_mx (fun i => σ 7 i) (z_mx (z_cnt σ κ) 1213 9) 10) v), .int (nI v)]) (rest := []) ⟨hx, hb, hml, hown, hts⟩ (c_X4_mixedWithValley l G ad σ κ hw (z_my (z_mv σ κ) (z_mx (fun i => σ 7 i) (z_mx (z_cnt σ κ) 1213 9) 10) v) v hv) (cwV 2 hts gX4_digest_X4_mixedWithValley rfl rfl rfl (by decide +kernel) ⟨Nat.le_of_ble_eq_true rfl, Nat.le_of_ble_eq_true rfl⟩) (z_prV (ci := 4) (k := 0) hX hP rfl z_g0) rfl rfl hl.1 rfl (lv_room (Nat.le_of_ble_eq_true rfl)) dX4_digest_71 ⟨Nat.le_of_ble_eq_true rfl, Nat.le_of_ble_eq_true rfl⟩) (fun _ h9 => h9) ?_
                    refine W.eq (g2 := F0 m 74 ls [.long (z_mv σ κ (z_my (z_mv σ κ) (z_mx (fun i => σ 7 i) (z_mx (z_cnt σ κ) 1213 9) 10) v) v)]) rfl ?_
                    refine lv_lstore_n (lv' := [(1, .long (z_mv σ κ (z_my (z_mv σ κ) (z_mx (fun i => σ 7 i) (z_mx (z_cnt σ κ) 1213 9) 10) v) v)), (0, .ref (ad 0)), (3, .int (nI v))]) hx hb dX4_digest_74 rfl hl (by decide) rfl (fun ls hl => ?_)
                    refine lv_iinc (v := nI (v + 1)) (lv' := [(3, .int (nI (v + 1))), (1, .long (z_mv σ κ (z_my (z_mv σ κ) (z_mx (fun i => σ 7 i) (z_mx (z_cnt σ κ) 1213 9) 10) v) v)), (0, .ref (ad 0))]) hx hb dX4_digest_75 hl (k := 2) rfl (z_inc _) (by decide) rfl (fun ls hl => ?_)
                    refine lv_goto (tgt := 60) hx hb dX4_digest_78 (by decide) ?_
                    -- back to 60
                    rw [show (z_mv σ κ (z_my (z_mv σ κ) (z_mx (fun i => σ 7 i) (z_mx (z_cnt σ κ) 1213 9) 10) v) v : Int64) = z_my (z_mv σ κ) (z_mx (fun i => σ 7 i) (z_mx (z_cnt σ κ) 1213 9) 10) (v + 1) from by rfl] at hl
                    exact ih60 (v + 1) (by omega) (by omega) ls (lv_sub hl [2, 1, 0] rfl)
              rw [show (z_mx (fun i => σ 7 i) (z_mx (z_cnt σ κ) 1213 9) 10 : Int64) = z_my (z_mv σ κ) (z_mx (fun i => σ 7 i) (z_mx (z_cnt σ κ) 1213 9) 10) 0 from by rfl] at hl
              exact lp60 (κ 0 0 + 1) 0 (by omega) (by omega) ls (lv_sub hl [1, 2, 0] rfl)
            · skip
              have hj := z_ng (by omega) (by omega) c37
              refine lv_lload_n hx hb dX4_digest_40 rfl (lv_at hl 1 rfl) ?_
              refine lv_aload_n hx hb dX4_digest_41 rfl (lv_at hl 0 rfl) ?_
              refine va_get (D := z_DD G) (ci := 4) (v := .ref (ad 3)) (C := RX4) (T := TX4) (N := 9) hx hb hts hi_RX4 hown hK hP 0 z_g0 rfl 2 (by decide) hf_RX4_21 (fun _ h9 => h9) rfl dX4_digest_42 ?_
              refine lv_iload_n hx hb dX4_digest_45 rfl (lv_at hl 2 rfl) ?_
              refine z_iald (k := j) (f := fun z9 => σ 7 z9) hx hb hK hP 3 0 z_g3 rfl (by omega) (by decide) dX4_digest_46 ?_
              refine lv_i2l hx hb dX4_digest_47 rfl ?_
              refine z_call (va_runS (As := [.long (z_mx (fun i => σ 7 i) (z_mx (z_cnt σ κ) 1213 9) j), .long ((σ 7 j).toInt64)]) (rest := []) ⟨hx, hb, hml, hown, hts⟩ (c_X4_mixed l G (z_mx (fun i => σ 7 i) (z_mx (z_cnt σ κ) 1213 9) j) ((σ 7 j).toInt64)) (va_cwS 2 hts gX4_digest_X4_mixed rfl rfl rfl (by decide +kernel) ⟨Nat.le_of_ble_eq_true rfl, Nat.le_of_ble_eq_true rfl⟩) (z_prS hX z_P0) rfl rfl hl.1 rfl (lv_room (Nat.le_of_ble_eq_true rfl)) dX4_digest_48 ⟨Nat.le_of_ble_eq_true rfl, Nat.le_of_ble_eq_true rfl⟩) (fun _ h9 => h9) ?_
              refine W.eq (g2 := F0 m 51 ls [.long ((z_mx (fun i => σ 7 i) (z_mx (z_cnt σ κ) 1213 9) j) * 31 + ((σ 7 j).toInt64))]) rfl ?_
              refine lv_lstore_n (lv' := [(1, .long ((z_mx (fun i => σ 7 i) (z_mx (z_cnt σ κ) 1213 9) j) * 31 + ((σ 7 j).toInt64))), (0, .ref (ad 0)), (3, .int (nI j))]) hx hb dX4_digest_51 rfl hl (by decide) rfl (fun ls hl => ?_)
              refine lv_iinc (v := nI (j + 1)) (lv' := [(3, .int (nI (j + 1))), (1, .long ((z_mx (fun i => σ 7 i) (z_mx (z_cnt σ κ) 1213 9) j) * 31 + ((σ 7 j).toInt64))), (0, .ref (ad 0))]) hx hb dX4_digest_52 hl (k := 2) rfl (z_inc _) (by decide) rfl (fun ls hl => ?_)
              refine lv_goto (tgt := 31) hx hb dX4_digest_55 (by decide) ?_
              -- back to 31
              rw [show ((z_mx (fun i => σ 7 i) (z_mx (z_cnt σ κ) 1213 9) j) * 31 + ((σ 7 j).toInt64) : Int64) = z_mx (fun i => σ 7 i) (z_mx (z_cnt σ κ) 1213 9) (j + 1) from by rfl] at hl
              exact ih31 (j + 1) (by omega) (by omega) ls (lv_sub hl [2, 1, 0] rfl)
        rw [show (z_mx (z_cnt σ κ) 1213 9 : Int64) = z_mx (fun i => σ 7 i) (z_mx (z_cnt σ κ) 1213 9) 0 from by rfl] at hl
        exact lp31 (10 + 1) 0 (by omega) (by omega) ls (lv_sub hl [1, 2, 0] rfl)
      · skip
        have hi := z_ng (by omega) (by omega) c9
        refine lv_lload_n hx hb dX4_digest_12 rfl (lv_at hl 1 rfl) ?_
        refine lv_aload_n hx hb dX4_digest_13 rfl (lv_at hl 0 rfl) ?_
        refine lv_iload_n hx hb dX4_digest_14 rfl (lv_at hl 2 rfl) ?_
        refine z_call (va_runV (As := [.int (nI i)]) (rest := [.long (z_mx (z_cnt σ κ) 1213 i)]) ⟨hx, hb, hml, hown, hts⟩ (c_X4_count l G ad σ κ hw i (by omega)) (cwV 1 hts gX4_digest_X4_count rfl rfl rfl (by decide +kernel) ⟨Nat.le_of_ble_eq_true rfl, Nat.le_of_ble_eq_true rfl⟩) (z_prV (ci := 4) (k := 0) hX hP rfl z_g0) rfl rfl hl.1 rfl (lv_room (Nat.le_of_ble_eq_true rfl)) dX4_digest_15 ⟨Nat.le_of_ble_eq_true rfl, Nat.le_of_ble_eq_true rfl⟩) (fun _ h9 => h9) ?_
        refine W.eq (g2 := F0 m 18 ls [.int (z_cnt σ κ i), .long (z_mx (z_cnt σ κ) 1213 i)]) rfl ?_
        refine lv_i2l hx hb dX4_digest_18 rfl ?_
        refine z_call (va_runS (As := [.long (z_mx (z_cnt σ κ) 1213 i), .long ((z_cnt σ κ i).toInt64)]) (rest := []) ⟨hx, hb, hml, hown, hts⟩ (c_X4_mixed l G (z_mx (z_cnt σ κ) 1213 i) ((z_cnt σ κ i).toInt64)) (va_cwS 2 hts gX4_digest_X4_mixed rfl rfl rfl (by decide +kernel) ⟨Nat.le_of_ble_eq_true rfl, Nat.le_of_ble_eq_true rfl⟩) (z_prS hX z_P0) rfl rfl hl.1 rfl (lv_room (Nat.le_of_ble_eq_true rfl)) dX4_digest_19 ⟨Nat.le_of_ble_eq_true rfl, Nat.le_of_ble_eq_true rfl⟩) (fun _ h9 => h9) ?_
        refine W.eq (g2 := F0 m 22 ls [.long ((z_mx (z_cnt σ κ) 1213 i) * 31 + ((z_cnt σ κ i).toInt64))]) rfl ?_
        refine lv_lstore_n (lv' := [(1, .long ((z_mx (z_cnt σ κ) 1213 i) * 31 + ((z_cnt σ κ i).toInt64))), (0, .ref (ad 0)), (3, .int (nI i))]) hx hb dX4_digest_22 rfl hl (by decide) rfl (fun ls hl => ?_)
        refine lv_iinc (v := nI (i + 1)) (lv' := [(3, .int (nI (i + 1))), (1, .long ((z_mx (z_cnt σ κ) 1213 i) * 31 + ((z_cnt σ κ i).toInt64))), (0, .ref (ad 0))]) hx hb dX4_digest_23 hl (k := 2) rfl (z_inc _) (by decide) rfl (fun ls hl => ?_)
        refine lv_goto (tgt := 6) hx hb dX4_digest_26 (by decide) ?_
        -- back to 6
        rw [show ((z_mx (z_cnt σ κ) 1213 i) * 31 + ((z_cnt σ κ i).toInt64) : Int64) = z_mx (z_cnt σ κ) 1213 (i + 1) from by rfl] at hl
        exact ih6 (i + 1) (by omega) (by omega) ls (lv_sub hl [2, 1, 0] rfl)
  rw [show (1213 : Int64) = z_mx (z_cnt σ κ) 1213 0 from by rfl] at hl
  exact lp6 (9 + 1) 0 (by omega) (by omega) ls (lv_sub hl [2, 1, 0] rfl)
