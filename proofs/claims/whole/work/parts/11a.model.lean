/-! Part 11a: the reference's readers. -/
set_option maxHeartbeats 4000000 in
set_option maxRecDepth 100000 in
theorem c_X5_isIn (l : Launch) (G : z_GT) (n a b : Int32) : Met l yX5_isIn wsX5_isIn ({ frames := 0, cells := 0, slots := 0, locals := 0 } : Room) (z_Pr G [.int n, .int a, .int b] []) (z_Qo (some (.int (z_wi n a b)))) 0 0 (fun _ => False) := by
  refine Met.ofW (cc := cX5_isIn) (maxL := 3) (ret := (some .boolean)) (by decide) rfl ?_
  intro p e s m args below meth c s₁ B hml hw0
  obtain ⟨rfl, hX, hP⟩ := hw0
  have hK := hX.1
  have hx := B.exec
  have hb := B.bytes
  have hr := B.returns
  have hts := atoms_spec (ws := wsX5_isIn) B.pre
  have hown : s.vm.findClass RX5 = some m.cls := findClass_of_methodNamed B.named
  have hlocks := B.notSynchronized
  have hl := lv_entry ([.int n, .int a, .int b]) (n := 3) (Nat.le_of_ble_eq_true rfl)
  rw [lg_entry_eq]
  generalize (lg_sl ([.int n, .int a, .int b]) ++ List.replicate (3 - (lg_sl ([.int n, .int a, .int b])).length) Slot.unset).toArray = ls at hl ⊢
  have hl : lv_has ls 3 [(0, .int n), (1, .int a), (2, .int b)] := hl
  refine lv_iload_n hx hb dX5_isIn_0 rfl (lv_at hl 0 rfl) ?_
  refine lv_iload_n hx hb dX5_isIn_1 rfl (lv_at hl 1 rfl) ?_
  refine lv_icmp_lt (tgt := 14) hx hb dX5_isIn_2 (by decide) (fun c2 => ?_) (fun c2 => ?_)
  · skip
    refine lv_iconst (v := 0) hx hb dX5_isIn_14 (by decide) ?_
    refine z_zret hx hb hr hlocks dX5_isIn_15 (fun t ht hW => ⟨rfl, ht⟩) (fun _ h9 => nomatch h9) ?_ ?_
    · first | exact Or.inl rfl | exact Or.inr rfl | (split <;> simp)
    · simp [z_wi, *]
  · skip
    refine lv_iload_n hx hb dX5_isIn_5 rfl (lv_at hl 0 rfl) ?_
    refine lv_iload_n hx hb dX5_isIn_6 rfl (lv_at hl 2 rfl) ?_
    refine lv_icmp_gt (tgt := 14) hx hb dX5_isIn_7 (by decide) (fun c7 => ?_) (fun c7 => ?_)
    · skip
      refine lv_iconst (v := 0) hx hb dX5_isIn_14 (by decide) ?_
      refine z_zret hx hb hr hlocks dX5_isIn_15 (fun t ht hW => ⟨rfl, ht⟩) (fun _ h9 => nomatch h9) ?_ ?_
      · first | exact Or.inl rfl | exact Or.inr rfl | (split <;> simp)
      · simp [z_wi, *]
    · skip
      refine lv_iconst (v := 1) hx hb dX5_isIn_10 (by decide) ?_
      refine lv_goto (tgt := 15) hx hb dX5_isIn_11 (by decide) ?_
      refine z_zret hx hb hr hlocks dX5_isIn_15 (fun t ht hW => ⟨rfl, ht⟩) (fun _ h9 => nomatch h9) ?_ ?_
      · first | exact Or.inl rfl | exact Or.inr rfl | (split <;> simp)
      · simp [z_wi, *]

set_option maxHeartbeats 4000000 in
set_option maxRecDepth 100000 in
theorem c_X5_isValley (l : Launch) (G : z_GT) (am : Nat → Nat) (x : Nat) (μ : Nat → Nat → Int32) (ν : Nat → Nat → Nat) (v : Int32) : Met l yX5_isValley wsX5_isValley ({ frames := 1, cells := 0, slots := 0, locals := 22 } : Room) (z_Pr G [.ref (am 0), .int v] (z_wN G am x μ ν)) (z_Qo (some (.int (z_wi v 0 (nI (ν 0 0) - 1))))) 0 0 (fun _ => False) := by
  refine Met.ofW (cc := cX5_isValley) (maxL := 2) (ret := (some .boolean)) (by decide) rfl ?_
  intro p e s m args below meth c s₁ B hml hw0
  obtain ⟨rfl, hX, hP⟩ := hw0
  have hK := hX.1
  have hx := B.exec
  have hb := B.bytes
  have hr := B.returns
  have hts := atoms_spec (ws := wsX5_isValley) B.pre
  have hown : s.vm.findClass RX5 = some m.cls := findClass_of_methodNamed B.named
  have hlocks := B.notSynchronized
  have hl := lv_entry ([.ref (am 0), .int v]) (n := 2) (Nat.le_of_ble_eq_true rfl)
  rw [lg_entry_eq]
  generalize (lg_sl ([.ref (am 0), .int v]) ++ List.replicate (2 - (lg_sl ([.ref (am 0), .int v])).length) Slot.unset).toArray = ls at hl ⊢
  have hl : lv_has ls 2 [(0, .ref (am 0)), (1, .int v)] := hl
  have hf_RX5_41 : (Cond.fieldLink RX5 41 "BlossomToursModel" "valleys" "I").before ([.ref (am 0), .int v] : List Value).toArray s = true := hts _ (by decide +kernel)
  have hi_RX5 : ∀ w ∈ u_ws RX5 TX5 13, w ∈ wsX5_isValley := by decide +kernel
  refine lv_iload_n hx hb dX5_isValley_0 rfl (lv_at hl 1 rfl) ?_
  refine lv_iconst (v := 0) hx hb dX5_isValley_1 (by decide) ?_
  refine lv_aload_n hx hb dX5_isValley_2 rfl (lv_at hl 0 rfl) ?_
  refine va_get (D := z_DD G) (ci := 5) (v := .int (nI (ν 0 0))) (C := RX5) (T := TX5) (N := 13) hx hb hts hi_RX5 hown hK hP 0 z_n0 rfl 1 (by decide) hf_RX5_41 (fun _ h9 => h9) rfl dX5_isValley_3 ?_
  refine lv_iconst (v := 1) hx hb dX5_isValley_6 (by decide) ?_
  refine lv_isub hx hb dX5_isValley_7 ?_
  refine z_call (va_runS (As := [.int v, .int 0, .int ((nI (ν 0 0)) - 1)]) (rest := []) ⟨hx, hb, hml, hown, hts⟩ (c_X5_isIn l G v 0 ((nI (ν 0 0)) - 1)) (va_cwS 3 hts gX5_isValley_X5_isIn rfl rfl rfl (by decide +kernel) ⟨Nat.le_of_ble_eq_true rfl, Nat.le_of_ble_eq_true rfl⟩) (z_prS hX z_P0) rfl rfl hl.1 rfl (lv_room (Nat.le_of_ble_eq_true rfl)) dX5_isValley_8 ⟨Nat.le_of_ble_eq_true rfl, Nat.le_of_ble_eq_true rfl⟩) (fun _ h9 => h9) ?_
  refine W.eq (g2 := F0 m 11 ls [.int (z_wi v 0 ((nI (ν 0 0)) - 1))]) rfl ?_
  refine z_zret hx hb hr hlocks dX5_isValley_11 (fun t ht hW => ⟨rfl, ht⟩) (fun _ h9 => nomatch h9) ?_ ?_
  · exact z_wi01 _ _ _
  · rfl

set_option maxHeartbeats 4000000 in
set_option maxRecDepth 100000 in
theorem c_X5_isTour (l : Launch) (G : z_GT) (am : Nat → Nat) (x : Nat) (μ : Nat → Nat → Int32) (ν : Nat → Nat → Nat) (v : Int32) : Met l yX5_isTour wsX5_isTour ({ frames := 1, cells := 0, slots := 0, locals := 22 } : Room) (z_Pr G [.ref (am 0), .int v] (z_wN G am x μ ν)) (z_Qo (some (.int (z_wi v 0 (nI (ν 0 1) - 1))))) 0 0 (fun _ => False) := by
  refine Met.ofW (cc := cX5_isTour) (maxL := 2) (ret := (some .boolean)) (by decide) rfl ?_
  intro p e s m args below meth c s₁ B hml hw0
  obtain ⟨rfl, hX, hP⟩ := hw0
  have hK := hX.1
  have hx := B.exec
  have hb := B.bytes
  have hr := B.returns
  have hts := atoms_spec (ws := wsX5_isTour) B.pre
  have hown : s.vm.findClass RX5 = some m.cls := findClass_of_methodNamed B.named
  have hlocks := B.notSynchronized
  have hl := lv_entry ([.ref (am 0), .int v]) (n := 2) (Nat.le_of_ble_eq_true rfl)
  rw [lg_entry_eq]
  generalize (lg_sl ([.ref (am 0), .int v]) ++ List.replicate (2 - (lg_sl ([.ref (am 0), .int v])).length) Slot.unset).toArray = ls at hl ⊢
  have hl : lv_has ls 2 [(0, .ref (am 0)), (1, .int v)] := hl
  have hf_RX5_48 : (Cond.fieldLink RX5 48 "BlossomToursModel" "tours" "I").before ([.ref (am 0), .int v] : List Value).toArray s = true := hts _ (by decide +kernel)
  have hi_RX5 : ∀ w ∈ u_ws RX5 TX5 13, w ∈ wsX5_isTour := by decide +kernel
  refine lv_iload_n hx hb dX5_isTour_0 rfl (lv_at hl 1 rfl) ?_
  refine lv_iconst (v := 0) hx hb dX5_isTour_1 (by decide) ?_
  refine lv_aload_n hx hb dX5_isTour_2 rfl (lv_at hl 0 rfl) ?_
  refine va_get (D := z_DD G) (ci := 5) (v := .int (nI (ν 0 1))) (C := RX5) (T := TX5) (N := 13) hx hb hts hi_RX5 hown hK hP 0 z_n0 rfl 8 (by decide) hf_RX5_48 (fun _ h9 => h9) rfl dX5_isTour_3 ?_
  refine lv_iconst (v := 1) hx hb dX5_isTour_6 (by decide) ?_
  refine lv_isub hx hb dX5_isTour_7 ?_
  refine z_call (va_runS (As := [.int v, .int 0, .int ((nI (ν 0 1)) - 1)]) (rest := []) ⟨hx, hb, hml, hown, hts⟩ (c_X5_isIn l G v 0 ((nI (ν 0 1)) - 1)) (va_cwS 3 hts gX5_isTour_X5_isIn rfl rfl rfl (by decide +kernel) ⟨Nat.le_of_ble_eq_true rfl, Nat.le_of_ble_eq_true rfl⟩) (z_prS hX z_P0) rfl rfl hl.1 rfl (lv_room (Nat.le_of_ble_eq_true rfl)) dX5_isTour_8 ⟨Nat.le_of_ble_eq_true rfl, Nat.le_of_ble_eq_true rfl⟩) (fun _ h9 => h9) ?_
  refine W.eq (g2 := F0 m 11 ls [.int (z_wi v 0 ((nI (ν 0 1)) - 1))]) rfl ?_
  refine z_zret hx hb hr hlocks dX5_isTour_11 (fun t ht hW => ⟨rfl, ht⟩) (fun _ h9 => nomatch h9) ?_ ?_
  · exact z_wi01 _ _ _
  · rfl

set_option maxHeartbeats 4000000 in
set_option maxRecDepth 100000 in
theorem c_X5_blooms (l : Launch) (G : z_GT) (am : Nat → Nat) (x : Nat) (μ : Nat → Nat → Int32) (ν : Nat → Nat → Nat) (v : Nat) (d : Int32) (hv : v < 8) (hz : ¬ (μ 1 v + 1) / 2 = 0) : Met l yX5_blooms wsX5_blooms ({ frames := 1, cells := 0, slots := 0, locals := 22 } : Room) (z_Pr G [.ref (am 0), .int (nI v), .int d] (z_wN G am x μ ν)) (z_Qo (some (.int (y_bl (μ 0 v) (μ 1 v) d)))) 0 0 (fun _ => False) := by
  refine Met.ofW (cc := cX5_blooms) (maxL := 3) (ret := (some .int)) (by decide) rfl ?_
  intro p e s m args below meth c s₁ B hml hw0
  obtain ⟨rfl, hX, hP⟩ := hw0
  have hK := hX.1
  have hx := B.exec
  have hb := B.bytes
  have hr := B.returns
  have hts := atoms_spec (ws := wsX5_blooms) B.pre
  have hown : s.vm.findClass RX5 = some m.cls := findClass_of_methodNamed B.named
  have hlocks := B.notSynchronized
  have hl := lv_entry ([.ref (am 0), .int (nI v), .int d]) (n := 3) (Nat.le_of_ble_eq_true rfl)
  rw [lg_entry_eq]
  generalize (lg_sl ([.ref (am 0), .int (nI v), .int d]) ++ List.replicate (3 - (lg_sl ([.ref (am 0), .int (nI v), .int d])).length) Slot.unset).toArray = ls at hl ⊢
  have hl : lv_has ls 3 [(0, .ref (am 0)), (1, .int (nI v)), (2, .int d)] := hl
  have hf_RX5_13 : (Cond.fieldLink RX5 13 "BlossomToursModel" "length" "[I").before ([.ref (am 0), .int (nI v), .int d] : List Value).toArray s = true := hts _ (by decide +kernel)
  have hf_RX5_9 : (Cond.fieldLink RX5 9 "BlossomToursModel" "from" "[I").before ([.ref (am 0), .int (nI v), .int d] : List Value).toArray s = true := hts _ (by decide +kernel)
  have hi_RX5 : ∀ w ∈ u_ws RX5 TX5 13, w ∈ wsX5_blooms := by decide +kernel
  refine lv_iload_n hx hb dX5_blooms_0 rfl (lv_at hl 2 rfl) ?_
  refine lv_aload_n hx hb dX5_blooms_1 rfl (lv_at hl 0 rfl) ?_
  refine va_get (D := z_DD G) (ci := 5) (v := .ref (am 1)) (C := RX5) (T := TX5) (N := 13) hx hb hts hi_RX5 hown hK hP 0 z_n0 rfl 2 (by decide) hf_RX5_9 (fun _ h9 => h9) rfl dX5_blooms_2 ?_
  refine lv_iload_n hx hb dX5_blooms_5 rfl (lv_at hl 1 rfl) ?_
  refine z_iald (k := v) (f := fun z9 => μ 0 z9) hx hb hK hP 1 0 z_n1 rfl hv (by decide) dX5_blooms_6 ?_
  refine lv_aload_n hx hb dX5_blooms_7 rfl (lv_at hl 0 rfl) ?_
  refine va_get (D := z_DD G) (ci := 5) (v := .ref (am 1)) (C := RX5) (T := TX5) (N := 13) hx hb hts hi_RX5 hown hK hP 0 z_n0 rfl 2 (by decide) hf_RX5_9 (fun _ h9 => h9) rfl dX5_blooms_8 ?_
  refine lv_iload_n hx hb dX5_blooms_11 rfl (lv_at hl 1 rfl) ?_
  refine z_iald (k := v) (f := fun z9 => μ 0 z9) hx hb hK hP 1 0 z_n1 rfl hv (by decide) dX5_blooms_12 ?_
  refine lv_aload_n hx hb dX5_blooms_13 rfl (lv_at hl 0 rfl) ?_
  refine va_get (D := z_DD G) (ci := 5) (v := .ref (am 2)) (C := RX5) (T := TX5) (N := 13) hx hb hts hi_RX5 hown hK hP 0 z_n0 rfl 3 (by decide) hf_RX5_13 (fun _ h9 => h9) rfl dX5_blooms_14 ?_
  refine lv_iload_n hx hb dX5_blooms_17 rfl (lv_at hl 1 rfl) ?_
  refine z_iald (k := v) (f := fun z9 => μ 1 z9) hx hb hK hP 2 0 z_n2 rfl hv (by decide) dX5_blooms_18 ?_
  refine lv_iadd hx hb dX5_blooms_19 ?_
  refine lv_iconst (v := 1) hx hb dX5_blooms_20 (by decide) ?_
  refine lv_isub hx hb dX5_blooms_21 ?_
  refine z_call (va_runS (As := [.int d, .int (μ 0 v), .int (((μ 0 v) + (μ 1 v)) - 1)]) (rest := []) ⟨hx, hb, hml, hown, hts⟩ (c_X5_isIn l G d (μ 0 v) (((μ 0 v) + (μ 1 v)) - 1)) (va_cwS 3 hts gX5_blooms_X5_isIn rfl rfl rfl (by decide +kernel) ⟨Nat.le_of_ble_eq_true rfl, Nat.le_of_ble_eq_true rfl⟩) (z_prS hX z_P0) rfl rfl hl.1 rfl (lv_room (Nat.le_of_ble_eq_true rfl)) dX5_blooms_22 ⟨Nat.le_of_ble_eq_true rfl, Nat.le_of_ble_eq_true rfl⟩) (fun _ h9 => h9) ?_
  refine W.eq (g2 := F0 m 25 ls [.int (z_wi d (μ 0 v) (((μ 0 v) + (μ 1 v)) - 1))]) rfl ?_
  refine lv_if_ne (tgt := 30) hx hb dX5_blooms_25 (by decide) (fun c25 => ?_) (fun c25 => ?_)
  · skip
    refine lv_bipush (v := 100) hx hb dX5_blooms_30 (by decide) ?_
    refine lv_iload_n hx hb dX5_blooms_32 rfl (lv_at hl 2 rfl) ?_
    refine lv_aload_n hx hb dX5_blooms_33 rfl (lv_at hl 0 rfl) ?_
    refine va_get (D := z_DD G) (ci := 5) (v := .ref (am 1)) (C := RX5) (T := TX5) (N := 13) hx hb hts hi_RX5 hown hK hP 0 z_n0 rfl 2 (by decide) hf_RX5_9 (fun _ h9 => h9) rfl dX5_blooms_34 ?_
    refine lv_iload_n hx hb dX5_blooms_37 rfl (lv_at hl 1 rfl) ?_
    refine z_iald (k := v) (f := fun z9 => μ 0 z9) hx hb hK hP 1 0 z_n1 rfl hv (by decide) dX5_blooms_38 ?_
    refine lv_isub hx hb dX5_blooms_39 ?_
    refine lv_iconst (v := 1) hx hb dX5_blooms_40 (by decide) ?_
    refine lv_iadd hx hb dX5_blooms_41 ?_
    refine lv_aload_n hx hb dX5_blooms_42 rfl (lv_at hl 0 rfl) ?_
    refine va_get (D := z_DD G) (ci := 5) (v := .ref (am 1)) (C := RX5) (T := TX5) (N := 13) hx hb hts hi_RX5 hown hK hP 0 z_n0 rfl 2 (by decide) hf_RX5_9 (fun _ h9 => h9) rfl dX5_blooms_43 ?_
    refine lv_iload_n hx hb dX5_blooms_46 rfl (lv_at hl 1 rfl) ?_
    refine z_iald (k := v) (f := fun z9 => μ 0 z9) hx hb hK hP 1 0 z_n1 rfl hv (by decide) dX5_blooms_47 ?_
    refine lv_aload_n hx hb dX5_blooms_48 rfl (lv_at hl 0 rfl) ?_
    refine va_get (D := z_DD G) (ci := 5) (v := .ref (am 2)) (C := RX5) (T := TX5) (N := 13) hx hb hts hi_RX5 hown hK hP 0 z_n0 rfl 3 (by decide) hf_RX5_13 (fun _ h9 => h9) rfl dX5_blooms_49 ?_
    refine lv_iload_n hx hb dX5_blooms_52 rfl (lv_at hl 1 rfl) ?_
    refine z_iald (k := v) (f := fun z9 => μ 1 z9) hx hb hK hP 2 0 z_n2 rfl hv (by decide) dX5_blooms_53 ?_
    refine lv_iadd hx hb dX5_blooms_54 ?_
    refine lv_iload_n hx hb dX5_blooms_55 rfl (lv_at hl 2 rfl) ?_
    refine lv_isub hx hb dX5_blooms_56 ?_
    refine va_mmin hx hb (hml.trans hl.1.symm) hown (hts (.methodLink RX5 66 Lib.Math.min.name) (by decide +kernel)) (hts (.static Lib.Math.min.name) (by decide +kernel)) (hts (.initialized "java/lang/Math") (by decide +kernel)) (hts (.code Lib.Math.min.name Lib.Math.min.code 2 (some .int)) (by decide +kernel)) (Nat.le_of_ble_eq_true rfl) (Nat.le_of_ble_eq_true rfl) (Nat.le_of_ble_eq_true rfl) (Nat.le_of_ble_eq_true rfl) dX5_blooms_57 ?_
    refine lv_imul hx hb dX5_blooms_60 ?_
    refine lv_aload_n hx hb dX5_blooms_61 rfl (lv_at hl 0 rfl) ?_
    refine va_get (D := z_DD G) (ci := 5) (v := .ref (am 2)) (C := RX5) (T := TX5) (N := 13) hx hb hts hi_RX5 hown hK hP 0 z_n0 rfl 3 (by decide) hf_RX5_13 (fun _ h9 => h9) rfl dX5_blooms_62 ?_
    refine lv_iload_n hx hb dX5_blooms_65 rfl (lv_at hl 1 rfl) ?_
    refine z_iald (k := v) (f := fun z9 => μ 1 z9) hx hb hK hP 2 0 z_n2 rfl hv (by decide) dX5_blooms_66 ?_
    refine lv_iconst (v := 1) hx hb dX5_blooms_67 (by decide) ?_
    refine lv_iadd hx hb dX5_blooms_68 ?_
    refine lv_iconst (v := 2) hx hb dX5_blooms_69 (by decide) ?_
    refine lv_idiv hx hb dX5_blooms_70 (by decide) ?_
    refine lv_idiv hx hb dX5_blooms_71 hz ?_
    refine z_iret hx hb hr hlocks dX5_blooms_72 (fun t ht hW => ⟨rfl, ht⟩) (fun _ h9 => nomatch h9) ?_
    unfold y_bl; rw [if_neg c25]
  · skip
    refine lv_iconst (v := 0) hx hb dX5_blooms_28 (by decide) ?_
    refine z_iret hx hb hr hlocks dX5_blooms_29 (fun t ht hW => ⟨rfl, ht⟩) (fun _ h9 => nomatch h9) ?_
    unfold y_bl; rw [if_pos c25]

set_option maxHeartbeats 4000000 in
set_option maxRecDepth 100000 in
theorem c_X5_at (l : Launch) (G : z_GT) (am : Nat → Nat) (x : Nat) (μ : Nat → Nat → Int32) (ν : Nat → Nat → Nat) (t k : Nat) (ht : t < 6) (hk : k < 5) : Met l yX5_at wsX5_at ({ frames := 0, cells := 0, slots := 0, locals := 0 } : Room) (z_Pr G [.ref (am 0), .int (nI t), .int (nI k)] (z_wN G am x μ ν)) (z_Qo (some (.int (nI (ν 2 (5 * t + k)))))) 0 0 (fun _ => False) := by
  refine Met.ofW (cc := cX5_at) (maxL := 3) (ret := (some .int)) (by decide) rfl ?_
  intro p e s m args below meth c s₁ B hml hw0
  obtain ⟨rfl, hX, hP⟩ := hw0
  have hK := hX.1
  have hx := B.exec
  have hb := B.bytes
  have hr := B.returns
  have hts := atoms_spec (ws := wsX5_at) B.pre
  have hown : s.vm.findClass RX5 = some m.cls := findClass_of_methodNamed B.named
  have hlocks := B.notSynchronized
  have hl := lv_entry ([.ref (am 0), .int (nI t), .int (nI k)]) (n := 3) (Nat.le_of_ble_eq_true rfl)
  rw [lg_entry_eq]
  generalize (lg_sl ([.ref (am 0), .int (nI t), .int (nI k)]) ++ List.replicate (3 - (lg_sl ([.ref (am 0), .int (nI t), .int (nI k)])).length) Slot.unset).toArray = ls at hl ⊢
  have hl : lv_has ls 3 [(0, .ref (am 0)), (1, .int (nI t)), (2, .int (nI k))] := hl
  have hf_RX5_31 : (Cond.fieldLink RX5 31 "BlossomToursModel" "list" "[I").before ([.ref (am 0), .int (nI t), .int (nI k)] : List Value).toArray s = true := hts _ (by decide +kernel)
  have hi_RX5 : ∀ w ∈ u_ws RX5 TX5 13, w ∈ wsX5_at := by decide +kernel
  refine lv_aload_n hx hb dX5_at_0 rfl (lv_at hl 0 rfl) ?_
  refine va_get (D := z_DD G) (ci := 5) (v := .ref (am 8)) (C := RX5) (T := TX5) (N := 13) hx hb hts hi_RX5 hown hK hP 0 z_n0 rfl 11 (by decide) hf_RX5_31 (fun _ h9 => h9) rfl dX5_at_1 ?_
  refine lv_iconst (v := nI 5) hx hb dX5_at_4 (by decide) ?_
  refine lv_iload_n hx hb dX5_at_5 rfl (lv_at hl 1 rfl) ?_
  refine lv_imul hx hb dX5_at_6 ?_
  refine z_top (show (.int ((nI 5) * (nI t)) : Value) = .int (nI (5 * t)) from by rw [pk_mul]) ?_
  refine lv_iload_n hx hb dX5_at_7 rfl (lv_at hl 2 rfl) ?_
  refine lv_iadd hx hb dX5_at_8 ?_
  refine z_top (show (.int ((nI (5 * t)) + (nI k)) : Value) = .int (nI ((5 * t) + k)) from by rw [nI_add]) ?_
  refine z_iald (k := ((5 * t) + k)) (f := fun z9 => nI (ν 2 z9)) hx hb hK hP 8 0 z_n8 rfl (by omega) (by decide) dX5_at_9 ?_
  refine z_iret hx hb hr hlocks dX5_at_10 (fun t ht hW => ⟨rfl, ht⟩) (fun _ h9 => nomatch h9) ?_
  rfl

set_option maxHeartbeats 4000000 in
set_option maxRecDepth 100000 in
theorem c_X5_has (l : Launch) (G : z_GT) (am : Nat → Nat) (x : Nat) (μ : Nat → Nat → Int32) (ν : Nat → Nat → Nat) (hy : y_wf μ ν) (t v : Nat) (ht : t < 6) (hv : v < 8) : Met l yX5_has wsX5_has ({ frames := 1, cells := 0, slots := 0, locals := 22 } : Room) (z_Pr G [.ref (am 0), .int (nI t), .int (nI v)] (z_wN G am x μ ν)) (z_Qo (some (.int (z_bi (y_has ν t v))))) 0 0 (fun _ => False) := by
  refine Met.ofW (cc := cX5_has) (maxL := 4) (ret := (some .boolean)) (by decide) rfl ?_
  intro p e s m args below meth c s₁ B hml hw0
  obtain ⟨rfl, hX, hP⟩ := hw0
  have hK := hX.1
  have hx := B.exec
  have hb := B.bytes
  have hr := B.returns
  have hts := atoms_spec (ws := wsX5_has) B.pre
  have hown : s.vm.findClass RX5 = some m.cls := findClass_of_methodNamed B.named
  have hlocks := B.notSynchronized
  have hl := lv_entry ([.ref (am 0), .int (nI t), .int (nI v)]) (n := 4) (Nat.le_of_ble_eq_true rfl)
  rw [lg_entry_eq]
  generalize (lg_sl ([.ref (am 0), .int (nI t), .int (nI v)]) ++ List.replicate (4 - (lg_sl ([.ref (am 0), .int (nI t), .int (nI v)])).length) Slot.unset).toArray = ls at hl ⊢
  have hl : lv_has ls 4 [(0, .ref (am 0)), (1, .int (nI t)), (2, .int (nI v))] := hl
  have hf_RX5_28 : (Cond.fieldLink RX5 28 "BlossomToursModel" "many" "[I").before ([.ref (am 0), .int (nI t), .int (nI v)] : List Value).toArray s = true := hts _ (by decide +kernel)
  have hi_RX5 : ∀ w ∈ u_ws RX5 TX5 13, w ∈ wsX5_has := by decide +kernel
  have hk5 := hy.2.2.1 t ht
  have hn8 := hy.1
  refine lv_iconst (v := nI 0) hx hb dX5_has_0 (by decide) ?_
  refine lv_istore_n (lv' := [(3, .int (nI 0)), (0, .ref (am 0)), (1, .int (nI t)), (2, .int (nI v))]) hx hb dX5_has_1 rfl hl (by decide) rfl (fun ls hl => ?_)
  have lp2 : ∀ (fu2 : Nat) (k : Nat), k ≤ ν 1 t → ν 1 t < k + fu2 → z_vi (fun k => ν 2 (5 * t + k)) v k = false → ∀ (ls : Array Slot), lv_has ls 4 [(0, .ref (am 0)), (1, .int (nI t)), (2, .int (nI v)), (3, .int (nI k))] → W p l e (headSpec wsX5_has ({ frames := 1, cells := 0, slots := 0, locals := 22 } : Room)).room s m ([.ref (am 0), .int (nI t), .int (nI v)] : List Value).toArray below meth c s.heap [] 0 0 (MQ below (z_Qo (some (.int (z_bi (y_has ν t v))))) ([.ref (am 0), .int (nI t), .int (nI v)] : List Value).toArray s 0 0 (fun _ => False)) (F0 m 2 ls []) := by
    intro fu2
    induction fu2 with
    | zero =>
      intro k h1 h2 h3
      exfalso; omega
    | succ fu2 ih2 =>
      intro k h1 h2 h3 ls hl
      refine lv_iload_n hx hb dX5_has_2 rfl (lv_at hl 3 rfl) ?_
      refine lv_aload_n hx hb dX5_has_3 rfl (lv_at hl 0 rfl) ?_
      refine va_get (D := z_DD G) (ci := 5) (v := .ref (am 7)) (C := RX5) (T := TX5) (N := 13) hx hb hts hi_RX5 hown hK hP 0 z_n0 rfl 10 (by decide) hf_RX5_28 (fun _ h9 => h9) rfl dX5_has_4 ?_
      refine lv_iload_n hx hb dX5_has_7 rfl (lv_at hl 1 rfl) ?_
      refine z_iald (k := t) (f := fun z9 => nI (ν 1 z9)) hx hb hK hP 7 0 z_n7 rfl ht (by decide) dX5_has_8 ?_
      refine lv_icmp_ge (tgt := 30) hx hb dX5_has_9 (by decide) (fun c9 => ?_) (fun c9 => ?_)
      · skip
        have hi : k = ν 1 t := Nat.le_antisymm h1 (z_ge (by omega) (by omega) c9)
        refine lv_iconst (v := 0) hx hb dX5_has_30 (by decide) ?_
        refine z_zret hx hb hr hlocks dX5_has_31 (fun t ht hW => ⟨rfl, ht⟩) (fun _ h9 => nomatch h9) ?_ ?_
        · first | exact Or.inl rfl | exact Or.inr rfl | (split <;> simp)
        · rw [show y_has ν t v = false from (by rw [hi] at h3; exact h3)]; rfl
      · skip
        have hi := z_ng (by omega) (by omega) c9
        have hsi := hy.2.2.2.1 t ht k hi
        refine lv_aload_n hx hb dX5_has_12 rfl (lv_at hl 0 rfl) ?_
        refine lv_iload_n hx hb dX5_has_13 rfl (lv_at hl 1 rfl) ?_
        refine lv_iload_n hx hb dX5_has_14 rfl (lv_at hl 3 rfl) ?_
        refine z_call (va_runV (As := [.int (nI t), .int (nI k)]) (rest := []) ⟨hx, hb, hml, hown, hts⟩ (c_X5_at l G am x μ ν t k ht (by omega)) (cwV 2 hts gX5_has_X5_at rfl rfl rfl (by decide +kernel) ⟨Nat.le_of_ble_eq_true rfl, Nat.le_of_ble_eq_true rfl⟩) (z_prV (ci := 5) (k := 0) hX hP rfl z_n0) rfl rfl hl.1 rfl (lv_room (Nat.le_of_ble_eq_true rfl)) dX5_has_15 ⟨Nat.le_of_ble_eq_true rfl, Nat.le_of_ble_eq_true rfl⟩) (fun _ h9 => h9) ?_
        refine W.eq (g2 := F0 m 18 ls [.int (nI (ν 2 (5 * t + k)))]) rfl ?_
        refine lv_iload_n hx hb dX5_has_18 rfl (lv_at hl 2 rfl) ?_
        refine lv_icmp_ne (tgt := 24) hx hb dX5_has_19 (by decide) (fun c19 => ?_) (fun c19 => ?_)
        · skip
          refine lv_iinc (v := nI (k + 1)) (lv' := [(3, .int (nI (k + 1))), (0, .ref (am 0)), (1, .int (nI t)), (2, .int (nI v))]) hx hb dX5_has_24 hl (k := 3) rfl (z_inc _) (by decide) rfl (fun ls hl => ?_)
          refine lv_goto (tgt := 2) hx hb dX5_has_27 (by decide) ?_
          -- back to 2
          exact ih2 (k + 1) (by omega) (by omega) (z_vi_f h3 (fun e => c19 (by rw [show ν 2 (5 * t + k) = v from e]))) ls (lv_sub hl [1, 2, 3, 0] rfl)
        · skip
          have hiv : ν 2 (5 * t + k) = v := (nI_eq (by omega) (by omega)).mp c19
          refine lv_iconst (v := 1) hx hb dX5_has_22 (by decide) ?_
          refine z_zret hx hb hr hlocks dX5_has_23 (fun t ht hW => ⟨rfl, ht⟩) (fun _ h9 => nomatch h9) ?_ ?_
          · first | exact Or.inl rfl | exact Or.inr rfl | (split <;> simp)
          · rw [show y_has ν t v = true from z_vi_t (t := fun k => ν 2 (5 * t + k)) hi hiv]; rfl
  exact lp2 (ν 1 t + 1) 0 (by omega) (by omega) rfl ls (lv_sub hl [1, 2, 3, 0] rfl)

set_option maxHeartbeats 4000000 in
set_option maxRecDepth 100000 in
theorem c_X5_minutes (l : Launch) (G : z_GT) (am : Nat → Nat) (x : Nat) (μ : Nat → Nat → Int32) (ν : Nat → Nat → Nat) (hy : y_wf μ ν) (t : Nat) (ht : t < 6) : Met l yX5_minutes wsX5_minutes ({ frames := 1, cells := 0, slots := 0, locals := 22 } : Room) (z_Pr G [.ref (am 0), .int (nI t)] (z_wN G am x μ ν)) (z_Qo (some (.int (y_mns μ ν t)))) 0 0 (fun _ => False) := by
  refine Met.ofW (cc := cX5_minutes) (maxL := 5) (ret := (some .int)) (by decide) rfl ?_
  intro p e s m args below meth c s₁ B hml hw0
  obtain ⟨rfl, hX, hP⟩ := hw0
  have hK := hX.1
  have hx := B.exec
  have hb := B.bytes
  have hr := B.returns
  have hts := atoms_spec (ws := wsX5_minutes) B.pre
  have hown : s.vm.findClass RX5 = some m.cls := findClass_of_methodNamed B.named
  have hlocks := B.notSynchronized
  have hl := lv_entry ([.ref (am 0), .int (nI t)]) (n := 5) (Nat.le_of_ble_eq_true rfl)
  rw [lg_entry_eq]
  generalize (lg_sl ([.ref (am 0), .int (nI t)]) ++ List.replicate (5 - (lg_sl ([.ref (am 0), .int (nI t)])).length) Slot.unset).toArray = ls at hl ⊢
  have hl : lv_has ls 5 [(0, .ref (am 0)), (1, .int (nI t))] := hl
  have hf_RX5_19 : (Cond.fieldLink RX5 19 "BlossomToursModel" "ways" "[I").before ([.ref (am 0), .int (nI t)] : List Value).toArray s = true := hts _ (by decide +kernel)
  have hf_RX5_28 : (Cond.fieldLink RX5 28 "BlossomToursModel" "many" "[I").before ([.ref (am 0), .int (nI t)] : List Value).toArray s = true := hts _ (by decide +kernel)
  have hi_RX5 : ∀ w ∈ u_ws RX5 TX5 13, w ∈ wsX5_minutes := by decide +kernel
  have hk5 := hy.2.2.1 t ht
  have hn8 := hy.1
  refine lv_bipush (v := 50) hx hb dX5_minutes_0 (by decide) ?_
  refine lv_aload_n hx hb dX5_minutes_2 rfl (lv_at hl 0 rfl) ?_
  refine va_get (D := z_DD G) (ci := 5) (v := .ref (am 7)) (C := RX5) (T := TX5) (N := 13) hx hb hts hi_RX5 hown hK hP 0 z_n0 rfl 10 (by decide) hf_RX5_28 (fun _ h9 => h9) rfl dX5_minutes_3 ?_
  refine lv_iload_n hx hb dX5_minutes_6 rfl (lv_at hl 1 rfl) ?_
  refine z_iald (k := t) (f := fun z9 => nI (ν 1 z9)) hx hb hK hP 7 0 z_n7 rfl ht (by decide) dX5_minutes_7 ?_
  refine lv_imul hx hb dX5_minutes_8 ?_
  refine lv_istore_n (lv' := [(2, .int (50 * (nI (ν 1 t)))), (0, .ref (am 0)), (1, .int (nI t))]) hx hb dX5_minutes_9 rfl hl (by decide) rfl (fun ls hl => ?_)
  refine lv_iconst (v := nI (0 + 1)) hx hb dX5_minutes_10 (by decide) ?_
  refine lv_istore_n (lv' := [(3, .int (nI (0 + 1))), (2, .int (50 * (nI (ν 1 t)))), (0, .ref (am 0)), (1, .int (nI t))]) hx hb dX5_minutes_11 rfl hl (by decide) rfl (fun ls hl => ?_)
  have lp12 : ∀ (fu12 : Nat) (k : Nat), k ≤ ν 1 t - 1 → ν 1 t < k + fu12 → z_mf (fun a b => μ 10 (8 * a + b)) (fun k => ν 2 (5 * t + k)) k = false → ∀ (ls : Array Slot), lv_has ls 5 [(0, .ref (am 0)), (1, .int (nI t)), (2, .int (z_mt (fun a b => μ 10 (8 * a + b)) (fun k => ν 2 (5 * t + k)) (50 * nI (ν 1 t)) k)), (3, .int (nI (k + 1)))] → W p l e (headSpec wsX5_minutes ({ frames := 1, cells := 0, slots := 0, locals := 22 } : Room)).room s m ([.ref (am 0), .int (nI t)] : List Value).toArray below meth c s.heap [] 0 0 (MQ below (z_Qo (some (.int (y_mns μ ν t)))) ([.ref (am 0), .int (nI t)] : List Value).toArray s 0 0 (fun _ => False)) (F0 m 12 ls []) := by
    intro fu12
    induction fu12 with
    | zero =>
      intro k h1 h2 h3
      exfalso; omega
    | succ fu12 ih12 =>
      intro k h1 h2 h3 ls hl
      refine lv_iload_n hx hb dX5_minutes_12 rfl (lv_at hl 3 rfl) ?_
      refine lv_aload_n hx hb dX5_minutes_13 rfl (lv_at hl 0 rfl) ?_
      refine va_get (D := z_DD G) (ci := 5) (v := .ref (am 7)) (C := RX5) (T := TX5) (N := 13) hx hb hts hi_RX5 hown hK hP 0 z_n0 rfl 10 (by decide) hf_RX5_28 (fun _ h9 => h9) rfl dX5_minutes_14 ?_
      refine lv_iload_n hx hb dX5_minutes_17 rfl (lv_at hl 1 rfl) ?_
      refine z_iald (k := t) (f := fun z9 => nI (ν 1 z9)) hx hb hK hP 7 0 z_n7 rfl ht (by decide) dX5_minutes_18 ?_
      refine lv_icmp_ge (tgt := 66) hx hb dX5_minutes_19 (by decide) (fun c19 => ?_) (fun c19 => ?_)
      · skip
        have hi := z_ge (by omega) (by omega) c19
        have hk1 : k = ν 1 t - 1 := by omega
        refine lv_iload_n hx hb dX5_minutes_66 rfl (lv_at hl 2 rfl) ?_
        refine z_iret hx hb hr hlocks dX5_minutes_67 (fun t ht hW => ⟨rfl, ht⟩) (fun _ h9 => nomatch h9) ?_
        (unfold y_mns z_mn; rw [← hk1, if_neg (by rw [h3]; decide)])
      · skip
        have hi := z_ng (by omega) (by omega) c19
        have hs1 := hy.2.2.2.1 t ht k (by omega)
        have hs2 := hy.2.2.2.1 t ht (k + 1) (by omega)
        refine lv_aload_n hx hb dX5_minutes_22 rfl (lv_at hl 0 rfl) ?_
        refine va_get (D := z_DD G) (ci := 5) (v := .ref (am 4)) (C := RX5) (T := TX5) (N := 13) hx hb hts hi_RX5 hown hK hP 0 z_n0 rfl 6 (by decide) hf_RX5_19 (fun _ h9 => h9) rfl dX5_minutes_23 ?_
        refine lv_bipush (v := nI 8) hx hb dX5_minutes_26 (by decide) ?_
        refine lv_aload_n hx hb dX5_minutes_28 rfl (lv_at hl 0 rfl) ?_
        refine lv_iload_n hx hb dX5_minutes_29 rfl (lv_at hl 1 rfl) ?_
        refine lv_iload_n hx hb dX5_minutes_30 rfl (lv_at hl 3 rfl) ?_
        refine lv_iconst (v := 1) hx hb dX5_minutes_31 (by decide) ?_
        refine lv_isub hx hb dX5_minutes_32 ?_
        refine z_top (show (.int ((nI (k + 1)) - 1) : Value) = .int (nI k) from by rw [nI_pred]) ?_
        refine z_call (va_runV (As := [.int (nI t), .int (nI k)]) (rest := [.int (nI 8), .ref (am 4)]) ⟨hx, hb, hml, hown, hts⟩ (c_X5_at l G am x μ ν t k ht (by omega)) (cwV 2 hts gX5_minutes_X5_at rfl rfl rfl (by decide +kernel) ⟨Nat.le_of_ble_eq_true rfl, Nat.le_of_ble_eq_true rfl⟩) (z_prV (ci := 5) (k := 0) hX hP rfl z_n0) rfl rfl hl.1 rfl (lv_room (Nat.le_of_ble_eq_true rfl)) dX5_minutes_33 ⟨Nat.le_of_ble_eq_true rfl, Nat.le_of_ble_eq_true rfl⟩) (fun _ h9 => h9) ?_
        refine W.eq (g2 := F0 m 36 ls [.int (nI (ν 2 (5 * t + k))), .int (nI 8), .ref (am 4)]) rfl ?_
        refine lv_imul hx hb dX5_minutes_36 ?_
        refine z_top (show (.int ((nI 8) * (nI (ν 2 (5 * t + k)))) : Value) = .int (nI (8 * (ν 2 (5 * t + k)))) from by rw [pk_mul]) ?_
        refine lv_aload_n hx hb dX5_minutes_37 rfl (lv_at hl 0 rfl) ?_
        refine lv_iload_n hx hb dX5_minutes_38 rfl (lv_at hl 1 rfl) ?_
        refine lv_iload_n hx hb dX5_minutes_39 rfl (lv_at hl 3 rfl) ?_
        refine z_call (va_runV (As := [.int (nI t), .int (nI (k + 1))]) (rest := [.int (nI (8 * (ν 2 (5 * t + k)))), .ref (am 4)]) ⟨hx, hb, hml, hown, hts⟩ (c_X5_at l G am x μ ν t (k + 1) ht (by omega)) (cwV 2 hts gX5_minutes_X5_at rfl rfl rfl (by decide +kernel) ⟨Nat.le_of_ble_eq_true rfl, Nat.le_of_ble_eq_true rfl⟩) (z_prV (ci := 5) (k := 0) hX hP rfl z_n0) rfl rfl hl.1 rfl (lv_room (Nat.le_of_ble_eq_true rfl)) dX5_minutes_40 ⟨Nat.le_of_ble_eq_true rfl, Nat.le_of_ble_eq_true rfl⟩) (fun _ h9 => h9) ?_
        refine W.eq (g2 := F0 m 43 ls [.int (nI (ν 2 (5 * t + (k + 1)))), .int (nI (8 * (ν 2 (5 * t + k)))), .ref (am 4)]) rfl ?_
        refine lv_iadd hx hb dX5_minutes_43 ?_
        refine z_top (show (.int ((nI (8 * (ν 2 (5 * t + k)))) + (nI (ν 2 (5 * t + (k + 1))))) : Value) = .int (nI ((8 * (ν 2 (5 * t + k))) + (ν 2 (5 * t + (k + 1))))) from by rw [nI_add]) ?_
        refine z_iald (k := ((8 * (ν 2 (5 * t + k))) + (ν 2 (5 * t + (k + 1))))) (f := fun z9 => μ 10 z9) hx hb hK hP 4 0 z_n4 rfl (by omega) (by decide) dX5_minutes_44 ?_
        refine lv_istore (lv' := [(4, .int (μ 10 ((8 * (ν 2 (5 * t + k))) + (ν 2 (5 * t + (k + 1)))))), (0, .ref (am 0)), (1, .int (nI t)), (2, .int (z_mt (fun a b => μ 10 (8 * a + b)) (fun k => ν 2 (5 * t + k)) (50 * nI (ν 1 t)) k)), (3, .int (nI (k + 1)))]) hx hb dX5_minutes_45 hl (by decide) rfl (fun ls hl => ?_)
        refine lv_iload hx hb dX5_minutes_47 (lv_at hl 0 rfl) ?_
        refine lv_iconst (v := (-1)) hx hb dX5_minutes_49 (by decide) ?_
        refine lv_icmp_ne (tgt := 55) hx hb dX5_minutes_50 (by decide) (fun c50 => ?_) (fun c50 => ?_)
        · skip
          refine lv_iload_n hx hb dX5_minutes_55 rfl (lv_at hl 3 rfl) ?_
          refine lv_iload hx hb dX5_minutes_56 (lv_at hl 0 rfl) ?_
          refine lv_iadd hx hb dX5_minutes_58 ?_
          refine lv_istore_n (lv' := [(2, .int ((z_mt (fun a b => μ 10 (8 * a + b)) (fun k => ν 2 (5 * t + k)) (50 * nI (ν 1 t)) k) + (μ 10 ((8 * (ν 2 (5 * t + k))) + (ν 2 (5 * t + (k + 1))))))), (4, .int (μ 10 ((8 * (ν 2 (5 * t + k))) + (ν 2 (5 * t + (k + 1)))))), (0, .ref (am 0)), (1, .int (nI t)), (3, .int (nI (k + 1)))]) hx hb dX5_minutes_59 rfl hl (by decide) rfl (fun ls hl => ?_)
          refine lv_iinc (v := nI ((k + 1) + 1)) (lv' := [(3, .int (nI ((k + 1) + 1))), (2, .int ((z_mt (fun a b => μ 10 (8 * a + b)) (fun k => ν 2 (5 * t + k)) (50 * nI (ν 1 t)) k) + (μ 10 ((8 * (ν 2 (5 * t + k))) + (ν 2 (5 * t + (k + 1))))))), (4, .int (μ 10 ((8 * (ν 2 (5 * t + k))) + (ν 2 (5 * t + (k + 1)))))), (0, .ref (am 0)), (1, .int (nI t))]) hx hb dX5_minutes_60 hl (k := 4) rfl (z_inc _) (by decide) rfl (fun ls hl => ?_)
          refine lv_goto (tgt := 12) hx hb dX5_minutes_63 (by decide) ?_
          -- back to 12
          have hge : 0 ≤ μ 10 (8 * ν 2 (5 * t + k) + ν 2 (5 * t + (k + 1))) := (hy.2.2.2.2.2 _ _ (by omega) (by omega)).resolve_left c50
          rw [show ((z_mt (fun a b => μ 10 (8 * a + b)) (fun k => ν 2 (5 * t + k)) (50 * nI (ν 1 t)) k) + (μ 10 ((8 * (ν 2 (5 * t + k))) + (ν 2 (5 * t + (k + 1))))) : Int32) = z_mt (fun a b => μ 10 (8 * a + b)) (fun k => ν 2 (5 * t + k)) (50 * nI (ν 1 t)) (k + 1) from by rfl] at hl
          exact ih12 (k + 1) (by omega) (by omega) (by simp [z_mf, h3, hge]) ls (lv_sub hl [3, 4, 1, 0] rfl)
        · skip
          have hlt : ¬ 0 ≤ μ 10 (8 * ν 2 (5 * t + k) + ν 2 (5 * t + (k + 1))) := by rw [c50]; decide
          refine lv_iconst (v := (-1)) hx hb dX5_minutes_53 (by decide) ?_
          refine z_iret hx hb hr hlocks dX5_minutes_54 (fun t ht hW => ⟨rfl, ht⟩) (fun _ h9 => nomatch h9) ?_
          (unfold y_mns z_mn; rw [if_pos (z_mf_t (W := (fun a b => μ 10 (8 * a + b))) (t := (fun k => ν 2 (5 * t + k))) (k := k) (by omega) hlt)])
  rw [show (50 * (nI (ν 1 t)) : Int32) = z_mt (fun a b => μ 10 (8 * a + b)) (fun k => ν 2 (5 * t + k)) (50 * nI (ν 1 t)) 0 from by rfl] at hl
  exact lp12 (ν 1 t + 1) 0 (by omega) (by omega) rfl ls (lv_sub hl [2, 3, 1, 0] rfl)

set_option maxHeartbeats 4000000 in
set_option maxRecDepth 100000 in
theorem c_X5_goes (l : Launch) (G : z_GT) (am : Nat → Nat) (x : Nat) (μ : Nat → Nat → Int32) (ν : Nat → Nat → Nat) (hy : y_wf μ ν) (t : Nat) (ht : t < 6) : Met l yX5_goes wsX5_goes ({ frames := 2, cells := 0, slots := 0, locals := 46 } : Room) (z_Pr G [.ref (am 0), .int (nI t)] (z_wN G am x μ ν)) (z_Qo (some (.int (y_go μ ν t)))) 0 0 (fun _ => False) := by
  refine Met.ofW (cc := cX5_goes) (maxL := 2) (ret := (some .boolean)) (by decide) rfl ?_
  intro p e s m args below meth c s₁ B hml hw0
  obtain ⟨rfl, hX, hP⟩ := hw0
  have hK := hX.1
  have hx := B.exec
  have hb := B.bytes
  have hr := B.returns
  have hts := atoms_spec (ws := wsX5_goes) B.pre
  have hown : s.vm.findClass RX5 = some m.cls := findClass_of_methodNamed B.named
  have hlocks := B.notSynchronized
  have hl := lv_entry ([.ref (am 0), .int (nI t)]) (n := 2) (Nat.le_of_ble_eq_true rfl)
  rw [lg_entry_eq]
  generalize (lg_sl ([.ref (am 0), .int (nI t)]) ++ List.replicate (2 - (lg_sl ([.ref (am 0), .int (nI t)])).length) Slot.unset).toArray = ls at hl ⊢
  have hl : lv_has ls 2 [(0, .ref (am 0)), (1, .int (nI t))] := hl
  refine lv_aload_n hx hb dX5_goes_0 rfl (lv_at hl 0 rfl) ?_
  refine lv_iload_n hx hb dX5_goes_1 rfl (lv_at hl 1 rfl) ?_
  refine z_call (va_runV (As := [.int (nI t)]) (rest := []) ⟨hx, hb, hml, hown, hts⟩ (c_X5_minutes l G am x μ ν hy t ht) (cwV 1 hts gX5_goes_X5_minutes rfl rfl rfl (by decide +kernel) ⟨Nat.le_of_ble_eq_true rfl, Nat.le_of_ble_eq_true rfl⟩) (z_prV (ci := 5) (k := 0) hX hP rfl z_n0) rfl rfl hl.1 rfl (lv_room (Nat.le_of_ble_eq_true rfl)) dX5_goes_2 ⟨Nat.le_of_ble_eq_true rfl, Nat.le_of_ble_eq_true rfl⟩) (fun _ h9 => h9) ?_
  refine W.eq (g2 := F0 m 5 ls [.int (y_mns μ ν t)]) rfl ?_
  refine lv_iconst (v := 1) hx hb dX5_goes_5 (by decide) ?_
  refine lv_sipush (v := 480) hx hb dX5_goes_6 (by decide) ?_
  refine z_call (va_runS (As := [.int (y_mns μ ν t), .int 1, .int 480]) (rest := []) ⟨hx, hb, hml, hown, hts⟩ (c_X5_isIn l G (y_mns μ ν t) 1 480) (va_cwS 3 hts gX5_goes_X5_isIn rfl rfl rfl (by decide +kernel) ⟨Nat.le_of_ble_eq_true rfl, Nat.le_of_ble_eq_true rfl⟩) (z_prS hX z_P0) rfl rfl hl.1 rfl (lv_room (Nat.le_of_ble_eq_true rfl)) dX5_goes_9 ⟨Nat.le_of_ble_eq_true rfl, Nat.le_of_ble_eq_true rfl⟩) (fun _ h9 => h9) ?_
  refine W.eq (g2 := F0 m 12 ls [.int (z_wi (y_mns μ ν t) 1 480)]) rfl ?_
  refine z_zret hx hb hr hlocks dX5_goes_12 (fun t ht hW => ⟨rfl, ht⟩) (fun _ h9 => nomatch h9) ?_ ?_
  · exact z_wi01 _ _ _
  · rfl

set_option maxHeartbeats 4000000 in
set_option maxRecDepth 100000 in
theorem c_X5_crowd (l : Launch) (G : z_GT) (am : Nat → Nat) (x : Nat) (μ : Nat → Nat → Int32) (ν : Nat → Nat → Nat) (hy : y_wf μ ν) (v : Nat) (hv : v < 8) : Met l yX5_crowd wsX5_crowd ({ frames := 3, cells := 0, slots := 0, locals := 67 } : Room) (z_Pr G [.ref (am 0), .int (nI v)] (z_wN G am x μ ν)) (z_Qo (some (.int (y_cr μ ν v)))) 0 0 (fun _ => False) := by
  refine Met.ofW (cc := cX5_crowd) (maxL := 4) (ret := (some .int)) (by decide) rfl ?_
  intro p e s m args below meth c s₁ B hml hw0
  obtain ⟨rfl, hX, hP⟩ := hw0
  have hK := hX.1
  have hx := B.exec
  have hb := B.bytes
  have hr := B.returns
  have hts := atoms_spec (ws := wsX5_crowd) B.pre
  have hown : s.vm.findClass RX5 = some m.cls := findClass_of_methodNamed B.named
  have hlocks := B.notSynchronized
  have hl := lv_entry ([.ref (am 0), .int (nI v)]) (n := 4) (Nat.le_of_ble_eq_true rfl)
  rw [lg_entry_eq]
  generalize (lg_sl ([.ref (am 0), .int (nI v)]) ++ List.replicate (4 - (lg_sl ([.ref (am 0), .int (nI v)])).length) Slot.unset).toArray = ls at hl ⊢
  have hl : lv_has ls 4 [(0, .ref (am 0)), (1, .int (nI v))] := hl
  have hf_RX5_25 : (Cond.fieldLink RX5 25 "BlossomToursModel" "tourists" "[I").before ([.ref (am 0), .int (nI v)] : List Value).toArray s = true := hts _ (by decide +kernel)
  have hf_RX5_48 : (Cond.fieldLink RX5 48 "BlossomToursModel" "tours" "I").before ([.ref (am 0), .int (nI v)] : List Value).toArray s = true := hts _ (by decide +kernel)
  have hi_RX5 : ∀ w ∈ u_ws RX5 TX5 13, w ∈ wsX5_crowd := by decide +kernel
  have hm6 := hy.2.1
  refine lv_iconst (v := 0) hx hb dX5_crowd_0 (by decide) ?_
  refine lv_istore_n (lv' := [(2, .int 0), (0, .ref (am 0)), (1, .int (nI v))]) hx hb dX5_crowd_1 rfl hl (by decide) rfl (fun ls hl => ?_)
  refine lv_iconst (v := nI 0) hx hb dX5_crowd_2 (by decide) ?_
  refine lv_istore_n (lv' := [(3, .int (nI 0)), (2, .int 0), (0, .ref (am 0)), (1, .int (nI v))]) hx hb dX5_crowd_3 rfl hl (by decide) rfl (fun ls hl => ?_)
  have lp4 : ∀ (fu4 : Nat) (t : Nat), t ≤ ν 0 1 → ν 0 1 < t + fu4 → ∀ (ls : Array Slot), lv_has ls 4 [(0, .ref (am 0)), (1, .int (nI v)), (2, .int (z_sm (y_cf μ ν v) t)), (3, .int (nI t))] → W p l e (headSpec wsX5_crowd ({ frames := 3, cells := 0, slots := 0, locals := 67 } : Room)).room s m ([.ref (am 0), .int (nI v)] : List Value).toArray below meth c s.heap [] 0 0 (MQ below (z_Qo (some (.int (y_cr μ ν v)))) ([.ref (am 0), .int (nI v)] : List Value).toArray s 0 0 (fun _ => False)) (F0 m 4 ls []) := by
    intro fu4
    induction fu4 with
    | zero =>
      intro t h1 h2
      exfalso; omega
    | succ fu4 ih4 =>
      intro t h1 h2 ls hl
      refine lv_iload_n hx hb dX5_crowd_4 rfl (lv_at hl 3 rfl) ?_
      refine lv_aload_n hx hb dX5_crowd_5 rfl (lv_at hl 0 rfl) ?_
      refine va_get (D := z_DD G) (ci := 5) (v := .int (nI (ν 0 1))) (C := RX5) (T := TX5) (N := 13) hx hb hts hi_RX5 hown hK hP 0 z_n0 rfl 8 (by decide) hf_RX5_48 (fun _ h9 => h9) rfl dX5_crowd_6 ?_
      refine lv_icmp_ge (tgt := 48) hx hb dX5_crowd_9 (by decide) (fun c9 => ?_) (fun c9 => ?_)
      · skip
        have hi : t = ν 0 1 := Nat.le_antisymm h1 (z_ge (by omega) (by omega) c9)
        refine lv_iload_n hx hb dX5_crowd_48 rfl (lv_at hl 2 rfl) ?_
        refine z_iret hx hb hr hlocks dX5_crowd_49 (fun t ht hW => ⟨rfl, ht⟩) (fun _ h9 => nomatch h9) ?_
        rw [hi]; rfl
      · skip
        have hi := z_ng (by omega) (by omega) c9
        refine lv_iload_n hx hb dX5_crowd_12 rfl (lv_at hl 2 rfl) ?_
        refine lv_aload_n hx hb dX5_crowd_13 rfl (lv_at hl 0 rfl) ?_
        refine lv_iload_n hx hb dX5_crowd_14 rfl (lv_at hl 3 rfl) ?_
        refine lv_iload_n hx hb dX5_crowd_15 rfl (lv_at hl 1 rfl) ?_
        refine z_call (va_runV (As := [.int (nI t), .int (nI v)]) (rest := [.int (z_sm (y_cf μ ν v) t)]) ⟨hx, hb, hml, hown, hts⟩ (c_X5_has l G am x μ ν hy t v (by omega) hv) (cwV 2 hts gX5_crowd_X5_has rfl rfl rfl (by decide +kernel) ⟨Nat.le_of_ble_eq_true rfl, Nat.le_of_ble_eq_true rfl⟩) (z_prV (ci := 5) (k := 0) hX hP rfl z_n0) rfl rfl hl.1 rfl (lv_room (Nat.le_of_ble_eq_true rfl)) dX5_crowd_16 ⟨Nat.le_of_ble_eq_true rfl, Nat.le_of_ble_eq_true rfl⟩) (fun _ h9 => h9) ?_
        refine W.eq (g2 := F0 m 19 ls [.int (z_bi (y_has ν t v)), .int (z_sm (y_cf μ ν v) t)]) rfl ?_
        refine lv_if_eq (tgt := 39) hx hb dX5_crowd_19 (by decide) (fun c19 => ?_) (fun c19 => ?_)
        · skip
          refine lv_iconst (v := 0) hx hb dX5_crowd_39 (by decide) ?_
          refine lv_iadd hx hb dX5_crowd_40 ?_
          refine lv_istore_n (lv' := [(2, .int ((z_sm (y_cf μ ν v) t) + 0)), (0, .ref (am 0)), (1, .int (nI v)), (3, .int (nI t))]) hx hb dX5_crowd_41 rfl hl (by decide) rfl (fun ls hl => ?_)
          refine lv_iinc (v := nI (t + 1)) (lv' := [(3, .int (nI (t + 1))), (2, .int ((z_sm (y_cf μ ν v) t) + 0)), (0, .ref (am 0)), (1, .int (nI v))]) hx hb dX5_crowd_42 hl (k := 3) rfl (z_inc _) (by decide) rfl (fun ls hl => ?_)
          refine lv_goto (tgt := 4) hx hb dX5_crowd_45 (by decide) ?_
          -- back to 4
          rw [show ((z_sm (y_cf μ ν v) t) + 0 : Int32) = z_sm (y_cf μ ν v) (t + 1) from by first | (show _ = z_sm (y_cf μ ν v) t + y_cf μ ν v t; rw [y_cf, if_neg (by rw [z_bi_f c19]; decide)]; done) | (show _ = z_sm (y_cf μ ν v) t + y_cf μ ν v t; rw [y_cf, if_pos (z_bi_t c19), if_pos c27]; done) | (show _ = z_sm (y_cf μ ν v) t + y_cf μ ν v t; rw [y_cf, if_pos (z_bi_t c19), if_neg c27]; done)] at hl
          exact ih4 (t + 1) (by omega) (by omega) ls (lv_sub hl [2, 3, 1, 0] rfl)
        · skip
          refine lv_aload_n hx hb dX5_crowd_22 rfl (lv_at hl 0 rfl) ?_
          refine lv_iload_n hx hb dX5_crowd_23 rfl (lv_at hl 3 rfl) ?_
          refine z_call (va_runV (As := [.int (nI t)]) (rest := [.int (z_sm (y_cf μ ν v) t)]) ⟨hx, hb, hml, hown, hts⟩ (c_X5_goes l G am x μ ν hy t (by omega)) (cwV 1 hts gX5_crowd_X5_goes rfl rfl rfl (by decide +kernel) ⟨Nat.le_of_ble_eq_true rfl, Nat.le_of_ble_eq_true rfl⟩) (z_prV (ci := 5) (k := 0) hX hP rfl z_n0) rfl rfl hl.1 rfl (lv_room (Nat.le_of_ble_eq_true rfl)) dX5_crowd_24 ⟨Nat.le_of_ble_eq_true rfl, Nat.le_of_ble_eq_true rfl⟩) (fun _ h9 => h9) ?_
          refine W.eq (g2 := F0 m 27 ls [.int (y_go μ ν t), .int (z_sm (y_cf μ ν v) t)]) rfl ?_
          refine lv_if_eq (tgt := 39) hx hb dX5_crowd_27 (by decide) (fun c27 => ?_) (fun c27 => ?_)
          · skip
            refine lv_iconst (v := 0) hx hb dX5_crowd_39 (by decide) ?_
            refine lv_iadd hx hb dX5_crowd_40 ?_
            refine lv_istore_n (lv' := [(2, .int ((z_sm (y_cf μ ν v) t) + 0)), (0, .ref (am 0)), (1, .int (nI v)), (3, .int (nI t))]) hx hb dX5_crowd_41 rfl hl (by decide) rfl (fun ls hl => ?_)
            refine lv_iinc (v := nI (t + 1)) (lv' := [(3, .int (nI (t + 1))), (2, .int ((z_sm (y_cf μ ν v) t) + 0)), (0, .ref (am 0)), (1, .int (nI v))]) hx hb dX5_crowd_42 hl (k := 3) rfl (z_inc _) (by decide) rfl (fun ls hl => ?_)
            refine lv_goto (tgt := 4) hx hb dX5_crowd_45 (by decide) ?_
            -- back to 4
            rw [show ((z_sm (y_cf μ ν v) t) + 0 : Int32) = z_sm (y_cf μ ν v) (t + 1) from by first | (show _ = z_sm (y_cf μ ν v) t + y_cf μ ν v t; rw [y_cf, if_neg (by rw [z_bi_f c19]; decide)]; done) | (show _ = z_sm (y_cf μ ν v) t + y_cf μ ν v t; rw [y_cf, if_pos (z_bi_t c19), if_pos c27]; done) | (show _ = z_sm (y_cf μ ν v) t + y_cf μ ν v t; rw [y_cf, if_pos (z_bi_t c19), if_neg c27]; done)] at hl
            exact ih4 (t + 1) (by omega) (by omega) ls (lv_sub hl [2, 3, 1, 0] rfl)
          · skip
            refine lv_aload_n hx hb dX5_crowd_30 rfl (lv_at hl 0 rfl) ?_
            refine va_get (D := z_DD G) (ci := 5) (v := .ref (am 6)) (C := RX5) (T := TX5) (N := 13) hx hb hts hi_RX5 hown hK hP 0 z_n0 rfl 9 (by decide) hf_RX5_25 (fun _ h9 => h9) rfl dX5_crowd_31 ?_
            refine lv_iload_n hx hb dX5_crowd_34 rfl (lv_at hl 3 rfl) ?_
            refine z_iald (k := t) (f := fun z9 => μ 5 z9) hx hb hK hP 6 0 z_n6 rfl (by omega) (by decide) dX5_crowd_35 ?_
            refine lv_goto (tgt := 40) hx hb dX5_crowd_36 (by decide) ?_
            refine lv_iadd hx hb dX5_crowd_40 ?_
            refine lv_istore_n (lv' := [(2, .int ((z_sm (y_cf μ ν v) t) + (μ 5 t))), (0, .ref (am 0)), (1, .int (nI v)), (3, .int (nI t))]) hx hb dX5_crowd_41 rfl hl (by decide) rfl (fun ls hl => ?_)
            refine lv_iinc (v := nI (t + 1)) (lv' := [(3, .int (nI (t + 1))), (2, .int ((z_sm (y_cf μ ν v) t) + (μ 5 t))), (0, .ref (am 0)), (1, .int (nI v))]) hx hb dX5_crowd_42 hl (k := 3) rfl (z_inc _) (by decide) rfl (fun ls hl => ?_)
            refine lv_goto (tgt := 4) hx hb dX5_crowd_45 (by decide) ?_
            -- back to 4
            rw [show ((z_sm (y_cf μ ν v) t) + (μ 5 t) : Int32) = z_sm (y_cf μ ν v) (t + 1) from by first | (show _ = z_sm (y_cf μ ν v) t + y_cf μ ν v t; rw [y_cf, if_neg (by rw [z_bi_f c19]; decide)]; done) | (show _ = z_sm (y_cf μ ν v) t + y_cf μ ν v t; rw [y_cf, if_pos (z_bi_t c19), if_pos c27]; done) | (show _ = z_sm (y_cf μ ν v) t + y_cf μ ν v t; rw [y_cf, if_pos (z_bi_t c19), if_neg c27]; done)] at hl
            exact ih4 (t + 1) (by omega) (by omega) ls (lv_sub hl [2, 3, 1, 0] rfl)
  rw [show (0 : Int32) = z_sm (y_cf μ ν v) 0 from by rfl] at hl
  exact lp4 (ν 0 1 + 1) 0 (by omega) (by omega) ls (lv_sub hl [2, 3, 1, 0] rfl)

set_option maxHeartbeats 4000000 in
set_option maxRecDepth 100000 in
theorem c_X5_joyOf (l : Launch) (G : z_GT) (am : Nat → Nat) (x : Nat) (μ : Nat → Nat → Int32) (ν : Nat → Nat → Nat) (hy : y_wf μ ν) (t : Nat) (ht : t < 6) (d : Int32) : Met l yX5_joyOf wsX5_joyOf ({ frames := 4, cells := 0, slots := 0, locals := 90 } : Room) (z_Pr G [.ref (am 0), .int (nI t), .int d] (z_wN G am x μ ν)) (z_Qo (some (.int (y_joy μ ν t d)))) 0 0 (fun _ => False) := by
  refine Met.ofW (cc := cX5_joyOf) (maxL := 5) (ret := (some .int)) (by decide) rfl ?_
  intro p e s m args below meth c s₁ B hml hw0
  obtain ⟨rfl, hX, hP⟩ := hw0
  have hK := hX.1
  have hx := B.exec
  have hb := B.bytes
  have hr := B.returns
  have hts := atoms_spec (ws := wsX5_joyOf) B.pre
  have hown : s.vm.findClass RX5 = some m.cls := findClass_of_methodNamed B.named
  have hlocks := B.notSynchronized
  have hl := lv_entry ([.ref (am 0), .int (nI t), .int d]) (n := 5) (Nat.le_of_ble_eq_true rfl)
  rw [lg_entry_eq]
  generalize (lg_sl ([.ref (am 0), .int (nI t), .int d]) ++ List.replicate (5 - (lg_sl ([.ref (am 0), .int (nI t), .int d])).length) Slot.unset).toArray = ls at hl ⊢
  have hl : lv_has ls 5 [(0, .ref (am 0)), (1, .int (nI t)), (2, .int d)] := hl
  have hf_RX5_28 : (Cond.fieldLink RX5 28 "BlossomToursModel" "many" "[I").before ([.ref (am 0), .int (nI t), .int d] : List Value).toArray s = true := hts _ (by decide +kernel)
  have hi_RX5 : ∀ w ∈ u_ws RX5 TX5 13, w ∈ wsX5_joyOf := by decide +kernel
  have hk5 := hy.2.2.1 t ht
  have hn8 := hy.1
  refine lv_iconst (v := 0) hx hb dX5_joyOf_0 (by decide) ?_
  refine lv_istore_n (lv' := [(3, .int 0), (0, .ref (am 0)), (1, .int (nI t)), (2, .int d)]) hx hb dX5_joyOf_1 rfl hl (by decide) rfl (fun ls hl => ?_)
  refine lv_iconst (v := nI 0) hx hb dX5_joyOf_2 (by decide) ?_
  refine lv_istore (lv' := [(4, .int (nI 0)), (3, .int 0), (0, .ref (am 0)), (1, .int (nI t)), (2, .int d)]) hx hb dX5_joyOf_3 hl (by decide) rfl (fun ls hl => ?_)
  have lp5 : ∀ (fu5 : Nat) (k : Nat), k ≤ ν 1 t → ν 1 t < k + fu5 → k = 0 ∨ ¬ y_go μ ν t = 0 → ∀ (ls : Array Slot), lv_has ls 5 [(0, .ref (am 0)), (1, .int (nI t)), (2, .int d), (3, .int (z_sm (y_jf μ ν t d) k)), (4, .int (nI k))] → W p l e (headSpec wsX5_joyOf ({ frames := 4, cells := 0, slots := 0, locals := 90 } : Room)).room s m ([.ref (am 0), .int (nI t), .int d] : List Value).toArray below meth c s.heap [] 0 0 (MQ below (z_Qo (some (.int (y_joy μ ν t d)))) ([.ref (am 0), .int (nI t), .int d] : List Value).toArray s 0 0 (fun _ => False)) (F0 m 5 ls []) := by
    intro fu5
    induction fu5 with
    | zero =>
      intro k h1 h2 h3
      exfalso; omega
    | succ fu5 ih5 =>
      intro k h1 h2 h3 ls hl
      refine lv_iload hx hb dX5_joyOf_5 (lv_at hl 4 rfl) ?_
      refine lv_aload_n hx hb dX5_joyOf_7 rfl (lv_at hl 0 rfl) ?_
      refine va_get (D := z_DD G) (ci := 5) (v := .ref (am 7)) (C := RX5) (T := TX5) (N := 13) hx hb hts hi_RX5 hown hK hP 0 z_n0 rfl 10 (by decide) hf_RX5_28 (fun _ h9 => h9) rfl dX5_joyOf_8 ?_
      refine lv_iload_n hx hb dX5_joyOf_11 rfl (lv_at hl 1 rfl) ?_
      refine z_iald (k := t) (f := fun z9 => nI (ν 1 z9)) hx hb hK hP 7 0 z_n7 rfl ht (by decide) dX5_joyOf_12 ?_
      refine lv_icmp_ge (tgt := 64) hx hb dX5_joyOf_13 (by decide) (fun c13 => ?_) (fun c13 => ?_)
      · skip
        have hi : k = ν 1 t := Nat.le_antisymm h1 (z_ge (by omega) (by omega) c13)
        refine lv_iload_n hx hb dX5_joyOf_64 rfl (lv_at hl 3 rfl) ?_
        refine z_iret hx hb hr hlocks dX5_joyOf_65 (fun t ht hW => ⟨rfl, ht⟩) (fun _ h9 => nomatch h9) ?_
        first | exact hend | exact z_end hi h3
      · skip
        have hi := z_ng (by omega) (by omega) c13
        have hsk := hy.2.2.2.1 t ht k hi
        refine lv_aload_n hx hb dX5_joyOf_16 rfl (lv_at hl 0 rfl) ?_
        refine lv_iload_n hx hb dX5_joyOf_17 rfl (lv_at hl 1 rfl) ?_
        refine z_call (va_runV (As := [.int (nI t)]) (rest := []) ⟨hx, hb, hml, hown, hts⟩ (c_X5_goes l G am x μ ν hy t ht) (cwV 1 hts gX5_joyOf_X5_goes rfl rfl rfl (by decide +kernel) ⟨Nat.le_of_ble_eq_true rfl, Nat.le_of_ble_eq_true rfl⟩) (z_prV (ci := 5) (k := 0) hX hP rfl z_n0) rfl rfl hl.1 rfl (lv_room (Nat.le_of_ble_eq_true rfl)) dX5_joyOf_18 ⟨Nat.le_of_ble_eq_true rfl, Nat.le_of_ble_eq_true rfl⟩) (fun _ h9 => h9) ?_
        refine W.eq (g2 := F0 m 21 ls [.int (y_go μ ν t)]) rfl ?_
        refine lv_if_eq (tgt := 64) hx hb dX5_joyOf_21 (by decide) (fun c21 => ?_) (fun c21 => ?_)
        · skip
          have hk0 : k = 0 := h3.resolve_right (fun q => q c21)
          have hend : z_sm (y_jf μ ν t d) k = y_joy μ ν t d := by rw [hk0]; unfold y_joy; rw [if_pos c21]; rfl
          refine lv_iload_n hx hb dX5_joyOf_64 rfl (lv_at hl 3 rfl) ?_
          refine z_iret hx hb hr hlocks dX5_joyOf_65 (fun t ht hW => ⟨rfl, ht⟩) (fun _ h9 => nomatch h9) ?_
          first | exact hend | exact z_end hi h3
        · skip
          refine lv_iload_n hx hb dX5_joyOf_24 rfl (lv_at hl 3 rfl) ?_
          refine lv_iconst (v := 0) hx hb dX5_joyOf_25 (by decide) ?_
          refine lv_aload_n hx hb dX5_joyOf_26 rfl (lv_at hl 0 rfl) ?_
          refine lv_aload_n hx hb dX5_joyOf_27 rfl (lv_at hl 0 rfl) ?_
          refine lv_iload_n hx hb dX5_joyOf_28 rfl (lv_at hl 1 rfl) ?_
          refine lv_iload hx hb dX5_joyOf_29 (lv_at hl 4 rfl) ?_
          refine z_call (va_runV (As := [.int (nI t), .int (nI k)]) (rest := [.ref (am 0), .int 0, .int (z_sm (y_jf μ ν t d) k)]) ⟨hx, hb, hml, hown, hts⟩ (c_X5_at l G am x μ ν t k ht (by omega)) (cwV 2 hts gX5_joyOf_X5_at rfl rfl rfl (by decide +kernel) ⟨Nat.le_of_ble_eq_true rfl, Nat.le_of_ble_eq_true rfl⟩) (z_prV (ci := 5) (k := 0) hX hP rfl z_n0) rfl rfl hl.1 rfl (lv_room (Nat.le_of_ble_eq_true rfl)) dX5_joyOf_31 ⟨Nat.le_of_ble_eq_true rfl, Nat.le_of_ble_eq_true rfl⟩) (fun _ h9 => h9) ?_
          refine W.eq (g2 := F0 m 34 ls [.int (nI (ν 2 (5 * t + k))), .ref (am 0), .int 0, .int (z_sm (y_jf μ ν t d) k)]) rfl ?_
          refine lv_iload_n hx hb dX5_joyOf_34 rfl (lv_at hl 2 rfl) ?_
          refine z_call (va_runV (As := [.int (nI (ν 2 (5 * t + k))), .int d]) (rest := [.int 0, .int (z_sm (y_jf μ ν t d) k)]) ⟨hx, hb, hml, hown, hts⟩ (c_X5_blooms l G am x μ ν (ν 2 (5 * t + k)) d (by omega) (hy.2.2.2.2.1 _ hsk)) (cwV 2 hts gX5_joyOf_X5_blooms rfl rfl rfl (by decide +kernel) ⟨Nat.le_of_ble_eq_true rfl, Nat.le_of_ble_eq_true rfl⟩) (z_prV (ci := 5) (k := 0) hX hP rfl z_n0) rfl rfl hl.1 rfl (lv_room (Nat.le_of_ble_eq_true rfl)) dX5_joyOf_35 ⟨Nat.le_of_ble_eq_true rfl, Nat.le_of_ble_eq_true rfl⟩) (fun _ h9 => h9) ?_
          refine W.eq (g2 := F0 m 38 ls [.int (y_bl (μ 0 (ν 2 (5 * t + k))) (μ 1 (ν 2 (5 * t + k))) d), .int 0, .int (z_sm (y_jf μ ν t d) k)]) rfl ?_
          refine lv_aload_n hx hb dX5_joyOf_38 rfl (lv_at hl 0 rfl) ?_
          refine lv_aload_n hx hb dX5_joyOf_39 rfl (lv_at hl 0 rfl) ?_
          refine lv_iload_n hx hb dX5_joyOf_40 rfl (lv_at hl 1 rfl) ?_
          refine lv_iload hx hb dX5_joyOf_41 (lv_at hl 4 rfl) ?_
          refine z_call (va_runV (As := [.int (nI t), .int (nI k)]) (rest := [.ref (am 0), .int (y_bl (μ 0 (ν 2 (5 * t + k))) (μ 1 (ν 2 (5 * t + k))) d), .int 0, .int (z_sm (y_jf μ ν t d) k)]) ⟨hx, hb, hml, hown, hts⟩ (c_X5_at l G am x μ ν t k ht (by omega)) (cwV 2 hts gX5_joyOf_X5_at rfl rfl rfl (by decide +kernel) ⟨Nat.le_of_ble_eq_true rfl, Nat.le_of_ble_eq_true rfl⟩) (z_prV (ci := 5) (k := 0) hX hP rfl z_n0) rfl rfl hl.1 rfl (lv_room (Nat.le_of_ble_eq_true rfl)) dX5_joyOf_43 ⟨Nat.le_of_ble_eq_true rfl, Nat.le_of_ble_eq_true rfl⟩) (fun _ h9 => h9) ?_
          refine W.eq (g2 := F0 m 46 ls [.int (nI (ν 2 (5 * t + k))), .ref (am 0), .int (y_bl (μ 0 (ν 2 (5 * t + k))) (μ 1 (ν 2 (5 * t + k))) d), .int 0, .int (z_sm (y_jf μ ν t d) k)]) rfl ?_
          refine z_call (va_runV (As := [.int (nI (ν 2 (5 * t + k)))]) (rest := [.int (y_bl (μ 0 (ν 2 (5 * t + k))) (μ 1 (ν 2 (5 * t + k))) d), .int 0, .int (z_sm (y_jf μ ν t d) k)]) ⟨hx, hb, hml, hown, hts⟩ (c_X5_crowd l G am x μ ν hy (ν 2 (5 * t + k)) (by omega)) (cwV 1 hts gX5_joyOf_X5_crowd rfl rfl rfl (by decide +kernel) ⟨Nat.le_of_ble_eq_true rfl, Nat.le_of_ble_eq_true rfl⟩) (z_prV (ci := 5) (k := 0) hX hP rfl z_n0) rfl rfl hl.1 rfl (lv_room (Nat.le_of_ble_eq_true rfl)) dX5_joyOf_46 ⟨Nat.le_of_ble_eq_true rfl, Nat.le_of_ble_eq_true rfl⟩) (fun _ h9 => h9) ?_
          refine W.eq (g2 := F0 m 49 ls [.int (y_cr μ ν (ν 2 (5 * t + k))), .int (y_bl (μ 0 (ν 2 (5 * t + k))) (μ 1 (ν 2 (5 * t + k))) d), .int 0, .int (z_sm (y_jf μ ν t d) k)]) rfl ?_
          refine lv_bipush (v := 10) hx hb dX5_joyOf_49 (by decide) ?_
          refine lv_idiv hx hb dX5_joyOf_51 (by decide) ?_
          refine lv_isub hx hb dX5_joyOf_52 ?_
          refine va_mmax hx hb (hml.trans hl.1.symm) hown (hts (.methodLink RX5 91 Lib.Math.max.name) (by decide +kernel)) (hts (.static Lib.Math.max.name) (by decide +kernel)) (hts (.initialized "java/lang/Math") (by decide +kernel)) (hts (.code Lib.Math.max.name Lib.Math.max.code 2 (some .int)) (by decide +kernel)) (Nat.le_of_ble_eq_true rfl) (Nat.le_of_ble_eq_true rfl) (Nat.le_of_ble_eq_true rfl) (Nat.le_of_ble_eq_true rfl) dX5_joyOf_53 ?_
          refine lv_iadd hx hb dX5_joyOf_56 ?_
          refine lv_istore_n (lv' := [(3, .int ((z_sm (y_jf μ ν t d) k) + (if 0 < (y_bl (μ 0 (ν 2 (5 * t + k))) (μ 1 (ν 2 (5 * t + k))) d) - ((y_cr μ ν (ν 2 (5 * t + k))) / 10) then (y_bl (μ 0 (ν 2 (5 * t + k))) (μ 1 (ν 2 (5 * t + k))) d) - ((y_cr μ ν (ν 2 (5 * t + k))) / 10) else 0))), (0, .ref (am 0)), (1, .int (nI t)), (2, .int d), (4, .int (nI k))]) hx hb dX5_joyOf_57 rfl hl (by decide) rfl (fun ls hl => ?_)
          refine lv_iinc (v := nI (k + 1)) (lv' := [(4, .int (nI (k + 1))), (3, .int ((z_sm (y_jf μ ν t d) k) + (if 0 < (y_bl (μ 0 (ν 2 (5 * t + k))) (μ 1 (ν 2 (5 * t + k))) d) - ((y_cr μ ν (ν 2 (5 * t + k))) / 10) then (y_bl (μ 0 (ν 2 (5 * t + k))) (μ 1 (ν 2 (5 * t + k))) d) - ((y_cr μ ν (ν 2 (5 * t + k))) / 10) else 0))), (0, .ref (am 0)), (1, .int (nI t)), (2, .int d)]) hx hb dX5_joyOf_58 hl (k := 4) rfl (z_inc _) (by decide) rfl (fun ls hl => ?_)
          refine lv_goto (tgt := 5) hx hb dX5_joyOf_61 (by decide) ?_
          -- back to 5
          rw [show ((z_sm (y_jf μ ν t d) k) + (if 0 < (y_bl (μ 0 (ν 2 (5 * t + k))) (μ 1 (ν 2 (5 * t + k))) d) - ((y_cr μ ν (ν 2 (5 * t + k))) / 10) then (y_bl (μ 0 (ν 2 (5 * t + k))) (μ 1 (ν 2 (5 * t + k))) d) - ((y_cr μ ν (ν 2 (5 * t + k))) / 10) else 0) : Int32) = z_sm (y_jf μ ν t d) (k + 1) from by rfl] at hl
          exact ih5 (k + 1) (by omega) (by omega) (Or.inr c21) ls (lv_sub hl [2, 3, 4, 1, 0] rfl)
  rw [show (0 : Int32) = z_sm (y_jf μ ν t d) 0 from by rfl] at hl
  exact lp5 (ν 1 t + 1) 0 (by omega) (by omega) (Or.inl rfl) ls (lv_sub hl [2, 3, 4, 1, 0] rfl)

set_option maxHeartbeats 4000000 in
set_option maxRecDepth 100000 in
theorem c_X5_stingsOf (l : Launch) (G : z_GT) (am : Nat → Nat) (x : Nat) (μ : Nat → Nat → Int32) (ν : Nat → Nat → Nat) (hy : y_wf μ ν) (t : Nat) (ht : t < 6) (d : Int32) : Met l yX5_stingsOf wsX5_stingsOf ({ frames := 3, cells := 0, slots := 0, locals := 67 } : Room) (z_Pr G [.ref (am 0), .int (nI t), .int d] (z_wN G am x μ ν)) (z_Qo (some (.int (y_stg μ ν t d)))) 0 0 (fun _ => False) := by
  refine Met.ofW (cc := cX5_stingsOf) (maxL := 5) (ret := (some .int)) (by decide) rfl ?_
  intro p e s m args below meth c s₁ B hml hw0
  obtain ⟨rfl, hX, hP⟩ := hw0
  have hK := hX.1
  have hx := B.exec
  have hb := B.bytes
  have hr := B.returns
  have hts := atoms_spec (ws := wsX5_stingsOf) B.pre
  have hown : s.vm.findClass RX5 = some m.cls := findClass_of_methodNamed B.named
  have hlocks := B.notSynchronized
  have hl := lv_entry ([.ref (am 0), .int (nI t), .int d]) (n := 5) (Nat.le_of_ble_eq_true rfl)
  rw [lg_entry_eq]
  generalize (lg_sl ([.ref (am 0), .int (nI t), .int d]) ++ List.replicate (5 - (lg_sl ([.ref (am 0), .int (nI t), .int d])).length) Slot.unset).toArray = ls at hl ⊢
  have hl : lv_has ls 5 [(0, .ref (am 0)), (1, .int (nI t)), (2, .int d)] := hl
  have hf_RX5_16 : (Cond.fieldLink RX5 16 "BlossomToursModel" "bees" "[I").before ([.ref (am 0), .int (nI t), .int d] : List Value).toArray s = true := hts _ (by decide +kernel)
  have hf_RX5_25 : (Cond.fieldLink RX5 25 "BlossomToursModel" "tourists" "[I").before ([.ref (am 0), .int (nI t), .int d] : List Value).toArray s = true := hts _ (by decide +kernel)
  have hf_RX5_28 : (Cond.fieldLink RX5 28 "BlossomToursModel" "many" "[I").before ([.ref (am 0), .int (nI t), .int d] : List Value).toArray s = true := hts _ (by decide +kernel)
  have hi_RX5 : ∀ w ∈ u_ws RX5 TX5 13, w ∈ wsX5_stingsOf := by decide +kernel
  have hk5 := hy.2.2.1 t ht
  have hn8 := hy.1
  refine lv_iconst (v := 0) hx hb dX5_stingsOf_0 (by decide) ?_
  refine lv_istore_n (lv' := [(3, .int 0), (0, .ref (am 0)), (1, .int (nI t)), (2, .int d)]) hx hb dX5_stingsOf_1 rfl hl (by decide) rfl (fun ls hl => ?_)
  refine lv_iconst (v := nI 0) hx hb dX5_stingsOf_2 (by decide) ?_
  refine lv_istore (lv' := [(4, .int (nI 0)), (3, .int 0), (0, .ref (am 0)), (1, .int (nI t)), (2, .int d)]) hx hb dX5_stingsOf_3 hl (by decide) rfl (fun ls hl => ?_)
  have lp5 : ∀ (fu5 : Nat) (k : Nat), k ≤ ν 1 t → ν 1 t < k + fu5 → k = 0 ∨ ¬ y_go μ ν t = 0 → ∀ (ls : Array Slot), lv_has ls 5 [(0, .ref (am 0)), (1, .int (nI t)), (2, .int d), (3, .int (z_sm (y_gf μ ν t d) k)), (4, .int (nI k))] → W p l e (headSpec wsX5_stingsOf ({ frames := 3, cells := 0, slots := 0, locals := 67 } : Room)).room s m ([.ref (am 0), .int (nI t), .int d] : List Value).toArray below meth c s.heap [] 0 0 (MQ below (z_Qo (some (.int (y_stg μ ν t d)))) ([.ref (am 0), .int (nI t), .int d] : List Value).toArray s 0 0 (fun _ => False)) (F0 m 5 ls []) := by
    intro fu5
    induction fu5 with
    | zero =>
      intro k h1 h2 h3
      exfalso; omega
    | succ fu5 ih5 =>
      intro k h1 h2 h3 ls hl
      refine lv_iload hx hb dX5_stingsOf_5 (lv_at hl 4 rfl) ?_
      refine lv_aload_n hx hb dX5_stingsOf_7 rfl (lv_at hl 0 rfl) ?_
      refine va_get (D := z_DD G) (ci := 5) (v := .ref (am 7)) (C := RX5) (T := TX5) (N := 13) hx hb hts hi_RX5 hown hK hP 0 z_n0 rfl 10 (by decide) hf_RX5_28 (fun _ h9 => h9) rfl dX5_stingsOf_8 ?_
      refine lv_iload_n hx hb dX5_stingsOf_11 rfl (lv_at hl 1 rfl) ?_
      refine z_iald (k := t) (f := fun z9 => nI (ν 1 z9)) hx hb hK hP 7 0 z_n7 rfl ht (by decide) dX5_stingsOf_12 ?_
      refine lv_icmp_ge (tgt := 69) hx hb dX5_stingsOf_13 (by decide) (fun c13 => ?_) (fun c13 => ?_)
      · skip
        have hi : k = ν 1 t := Nat.le_antisymm h1 (z_ge (by omega) (by omega) c13)
        refine lv_iload_n hx hb dX5_stingsOf_69 rfl (lv_at hl 3 rfl) ?_
        refine z_iret hx hb hr hlocks dX5_stingsOf_70 (fun t ht hW => ⟨rfl, ht⟩) (fun _ h9 => nomatch h9) ?_
        first | exact hend | exact z_end hi h3
      · skip
        have hi := z_ng (by omega) (by omega) c13
        have hsk := hy.2.2.2.1 t ht k hi
        refine lv_aload_n hx hb dX5_stingsOf_16 rfl (lv_at hl 0 rfl) ?_
        refine lv_iload_n hx hb dX5_stingsOf_17 rfl (lv_at hl 1 rfl) ?_
        refine z_call (va_runV (As := [.int (nI t)]) (rest := []) ⟨hx, hb, hml, hown, hts⟩ (c_X5_goes l G am x μ ν hy t ht) (cwV 1 hts gX5_stingsOf_X5_goes rfl rfl rfl (by decide +kernel) ⟨Nat.le_of_ble_eq_true rfl, Nat.le_of_ble_eq_true rfl⟩) (z_prV (ci := 5) (k := 0) hX hP rfl z_n0) rfl rfl hl.1 rfl (lv_room (Nat.le_of_ble_eq_true rfl)) dX5_stingsOf_18 ⟨Nat.le_of_ble_eq_true rfl, Nat.le_of_ble_eq_true rfl⟩) (fun _ h9 => h9) ?_
        refine W.eq (g2 := F0 m 21 ls [.int (y_go μ ν t)]) rfl ?_
        refine lv_if_eq (tgt := 69) hx hb dX5_stingsOf_21 (by decide) (fun c21 => ?_) (fun c21 => ?_)
        · skip
          have hk0 : k = 0 := h3.resolve_right (fun q => q c21)
          have hend : z_sm (y_gf μ ν t d) k = y_stg μ ν t d := by rw [hk0]; unfold y_stg; rw [if_pos c21]; rfl
          refine lv_iload_n hx hb dX5_stingsOf_69 rfl (lv_at hl 3 rfl) ?_
          refine z_iret hx hb hr hlocks dX5_stingsOf_70 (fun t ht hW => ⟨rfl, ht⟩) (fun _ h9 => nomatch h9) ?_
          first | exact hend | exact z_end hi h3
        · skip
          refine lv_iload_n hx hb dX5_stingsOf_24 rfl (lv_at hl 3 rfl) ?_
          refine lv_aload_n hx hb dX5_stingsOf_25 rfl (lv_at hl 0 rfl) ?_
          refine va_get (D := z_DD G) (ci := 5) (v := .ref (am 6)) (C := RX5) (T := TX5) (N := 13) hx hb hts hi_RX5 hown hK hP 0 z_n0 rfl 9 (by decide) hf_RX5_25 (fun _ h9 => h9) rfl dX5_stingsOf_26 ?_
          refine lv_iload_n hx hb dX5_stingsOf_29 rfl (lv_at hl 1 rfl) ?_
          refine z_iald (k := t) (f := fun z9 => μ 5 z9) hx hb hK hP 6 0 z_n6 rfl ht (by decide) dX5_stingsOf_30 ?_
          refine lv_aload_n hx hb dX5_stingsOf_31 rfl (lv_at hl 0 rfl) ?_
          refine va_get (D := z_DD G) (ci := 5) (v := .ref (am 3)) (C := RX5) (T := TX5) (N := 13) hx hb hts hi_RX5 hown hK hP 0 z_n0 rfl 4 (by decide) hf_RX5_16 (fun _ h9 => h9) rfl dX5_stingsOf_32 ?_
          refine lv_aload_n hx hb dX5_stingsOf_35 rfl (lv_at hl 0 rfl) ?_
          refine lv_iload_n hx hb dX5_stingsOf_36 rfl (lv_at hl 1 rfl) ?_
          refine lv_iload hx hb dX5_stingsOf_37 (lv_at hl 4 rfl) ?_
          refine z_call (va_runV (As := [.int (nI t), .int (nI k)]) (rest := [.ref (am 3), .int (μ 5 t), .int (z_sm (y_gf μ ν t d) k)]) ⟨hx, hb, hml, hown, hts⟩ (c_X5_at l G am x μ ν t k ht (by omega)) (cwV 2 hts gX5_stingsOf_X5_at rfl rfl rfl (by decide +kernel) ⟨Nat.le_of_ble_eq_true rfl, Nat.le_of_ble_eq_true rfl⟩) (z_prV (ci := 5) (k := 0) hX hP rfl z_n0) rfl rfl hl.1 rfl (lv_room (Nat.le_of_ble_eq_true rfl)) dX5_stingsOf_39 ⟨Nat.le_of_ble_eq_true rfl, Nat.le_of_ble_eq_true rfl⟩) (fun _ h9 => h9) ?_
          refine W.eq (g2 := F0 m 42 ls [.int (nI (ν 2 (5 * t + k))), .ref (am 3), .int (μ 5 t), .int (z_sm (y_gf μ ν t d) k)]) rfl ?_
          refine z_iald (k := (ν 2 (5 * t + k))) (f := fun z9 => μ 2 z9) hx hb hK hP 3 0 z_n3 rfl (by omega) (by decide) dX5_stingsOf_42 ?_
          refine lv_imul hx hb dX5_stingsOf_43 ?_
          refine lv_aload_n hx hb dX5_stingsOf_44 rfl (lv_at hl 0 rfl) ?_
          refine lv_aload_n hx hb dX5_stingsOf_45 rfl (lv_at hl 0 rfl) ?_
          refine lv_iload_n hx hb dX5_stingsOf_46 rfl (lv_at hl 1 rfl) ?_
          refine lv_iload hx hb dX5_stingsOf_47 (lv_at hl 4 rfl) ?_
          refine z_call (va_runV (As := [.int (nI t), .int (nI k)]) (rest := [.ref (am 0), .int ((μ 5 t) * (μ 2 (ν 2 (5 * t + k)))), .int (z_sm (y_gf μ ν t d) k)]) ⟨hx, hb, hml, hown, hts⟩ (c_X5_at l G am x μ ν t k ht (by omega)) (cwV 2 hts gX5_stingsOf_X5_at rfl rfl rfl (by decide +kernel) ⟨Nat.le_of_ble_eq_true rfl, Nat.le_of_ble_eq_true rfl⟩) (z_prV (ci := 5) (k := 0) hX hP rfl z_n0) rfl rfl hl.1 rfl (lv_room (Nat.le_of_ble_eq_true rfl)) dX5_stingsOf_49 ⟨Nat.le_of_ble_eq_true rfl, Nat.le_of_ble_eq_true rfl⟩) (fun _ h9 => h9) ?_
          refine W.eq (g2 := F0 m 52 ls [.int (nI (ν 2 (5 * t + k))), .ref (am 0), .int ((μ 5 t) * (μ 2 (ν 2 (5 * t + k)))), .int (z_sm (y_gf μ ν t d) k)]) rfl ?_
          refine lv_iload_n hx hb dX5_stingsOf_52 rfl (lv_at hl 2 rfl) ?_
          refine z_call (va_runV (As := [.int (nI (ν 2 (5 * t + k))), .int d]) (rest := [.int ((μ 5 t) * (μ 2 (ν 2 (5 * t + k)))), .int (z_sm (y_gf μ ν t d) k)]) ⟨hx, hb, hml, hown, hts⟩ (c_X5_blooms l G am x μ ν (ν 2 (5 * t + k)) d (by omega) (hy.2.2.2.2.1 _ hsk)) (cwV 2 hts gX5_stingsOf_X5_blooms rfl rfl rfl (by decide +kernel) ⟨Nat.le_of_ble_eq_true rfl, Nat.le_of_ble_eq_true rfl⟩) (z_prV (ci := 5) (k := 0) hX hP rfl z_n0) rfl rfl hl.1 rfl (lv_room (Nat.le_of_ble_eq_true rfl)) dX5_stingsOf_53 ⟨Nat.le_of_ble_eq_true rfl, Nat.le_of_ble_eq_true rfl⟩) (fun _ h9 => h9) ?_
          refine W.eq (g2 := F0 m 56 ls [.int (y_bl (μ 0 (ν 2 (5 * t + k))) (μ 1 (ν 2 (5 * t + k))) d), .int ((μ 5 t) * (μ 2 (ν 2 (5 * t + k)))), .int (z_sm (y_gf μ ν t d) k)]) rfl ?_
          refine lv_imul hx hb dX5_stingsOf_56 ?_
          refine lv_sipush (v := 5000) hx hb dX5_stingsOf_57 (by decide) ?_
          refine lv_idiv hx hb dX5_stingsOf_60 (by decide) ?_
          refine lv_iadd hx hb dX5_stingsOf_61 ?_
          refine lv_istore_n (lv' := [(3, .int ((z_sm (y_gf μ ν t d) k) + ((((μ 5 t) * (μ 2 (ν 2 (5 * t + k)))) * (y_bl (μ 0 (ν 2 (5 * t + k))) (μ 1 (ν 2 (5 * t + k))) d)) / 5000))), (0, .ref (am 0)), (1, .int (nI t)), (2, .int d), (4, .int (nI k))]) hx hb dX5_stingsOf_62 rfl hl (by decide) rfl (fun ls hl => ?_)
          refine lv_iinc (v := nI (k + 1)) (lv' := [(4, .int (nI (k + 1))), (3, .int ((z_sm (y_gf μ ν t d) k) + ((((μ 5 t) * (μ 2 (ν 2 (5 * t + k)))) * (y_bl (μ 0 (ν 2 (5 * t + k))) (μ 1 (ν 2 (5 * t + k))) d)) / 5000))), (0, .ref (am 0)), (1, .int (nI t)), (2, .int d)]) hx hb dX5_stingsOf_63 hl (k := 4) rfl (z_inc _) (by decide) rfl (fun ls hl => ?_)
          refine lv_goto (tgt := 5) hx hb dX5_stingsOf_66 (by decide) ?_
          -- back to 5
          rw [show ((z_sm (y_gf μ ν t d) k) + ((((μ 5 t) * (μ 2 (ν 2 (5 * t + k)))) * (y_bl (μ 0 (ν 2 (5 * t + k))) (μ 1 (ν 2 (5 * t + k))) d)) / 5000) : Int32) = z_sm (y_gf μ ν t d) (k + 1) from by rfl] at hl
          exact ih5 (k + 1) (by omega) (by omega) (Or.inr c21) ls (lv_sub hl [2, 3, 4, 1, 0] rfl)
  rw [show (0 : Int32) = z_sm (y_gf μ ν t d) 0 from by rfl] at hl
  exact lp5 (ν 1 t + 1) 0 (by omega) (by omega) (Or.inl rfl) ls (lv_sub hl [2, 3, 4, 1, 0] rfl)
