/-! Part 11b: the reference's face. -/
set_option maxHeartbeats 4000000 in
set_option maxRecDepth 100000 in
theorem c_X5_thrown (l : Launch) (G : z_GT) (am : Nat → Nat) (μ : Nat → Nat → Int32) (ν : Nat → Nat → Nat) : Met l yX5_thrown wsX5_thrown ({ frames := 0, cells := 0, slots := 0, locals := 0 } : Room) (z_Pr G [.ref (am 0)] (z_wM G am μ ν)) (z_Qo (some (.int (μ 8 1)))) 0 0 (fun _ => False) := by
  refine Met.ofW (cc := cX5_thrown) (maxL := 1) (ret := (some .int)) (by decide) rfl ?_
  intro p e s m args below meth c s₁ B hml hw0
  obtain ⟨rfl, hX, hP⟩ := hw0
  have hK := hX.1
  have hx := B.exec
  have hb := B.bytes
  have hr := B.returns
  have hts := atoms_spec (ws := wsX5_thrown) B.pre
  have hown : s.vm.findClass RX5 = some m.cls := findClass_of_methodNamed B.named
  have hlocks := B.notSynchronized
  have hl := lv_entry ([.ref (am 0)]) (n := 1) (Nat.le_of_ble_eq_true rfl)
  rw [lg_entry_eq]
  generalize (lg_sl ([.ref (am 0)]) ++ List.replicate (1 - (lg_sl ([.ref (am 0)])).length) Slot.unset).toArray = ls at hl ⊢
  have hl : lv_has ls 1 [(0, .ref (am 0))] := hl
  have hf_RX5_37 : (Cond.fieldLink RX5 37 "BlossomToursModel" "thrown" "I").before ([.ref (am 0)] : List Value).toArray s = true := hts _ (by decide +kernel)
  have hi_RX5 : ∀ w ∈ u_ws RX5 TX5 13, w ∈ wsX5_thrown := by decide +kernel
  refine lv_aload_n hx hb dX5_thrown_0 rfl (lv_at hl 0 rfl) ?_
  refine va_get (D := z_DD G) (ci := 5) (v := .int (μ 8 1)) (C := RX5) (T := TX5) (N := 13) hx hb hts hi_RX5 hown hK hP 0 z_m0 rfl 0 (by decide) hf_RX5_37 (fun _ h9 => h9) rfl dX5_thrown_1 ?_
  refine z_iret hx hb hr hlocks dX5_thrown_4 (fun t ht hW => ⟨rfl, ht⟩) (fun _ h9 => nomatch h9) ?_
  rfl

set_option maxHeartbeats 4000000 in
set_option maxRecDepth 100000 in
theorem c_X5_no (l : Launch) (G : z_GT) (am : Nat → Nat) (μ : Nat → Nat → Int32) (ν : Nat → Nat → Nat) (hinj : ∀ i j, i < 10 → j < 10 → am i = am j → i = j) (k : Int32) : Met l yX5_no wsX5_no ({ frames := 0, cells := 0, slots := 0, locals := 0 } : Room) (z_Pr G [.ref (am 0), .int k] (z_wM G am μ ν)) (z_Qm G (some (.int 0)) (z_wM G am (z_up μ 8 1 k) ν) (z_A 10 am)) 0 0 (z_A 10 am) := by
  refine Met.ofW (cc := cX5_no) (maxL := 2) (ret := (some .int)) (by decide) rfl ?_
  intro p e s m args below meth c s₁ B hml hw0
  obtain ⟨rfl, hX, hP⟩ := hw0
  have hK := hX.1
  have hx := B.exec
  have hb := B.bytes
  have hr := B.returns
  have hts := atoms_spec (ws := wsX5_no) B.pre
  have hown : s.vm.findClass RX5 = some m.cls := findClass_of_methodNamed B.named
  have hlocks := B.notSynchronized
  have hl := lv_entry ([.ref (am 0), .int k]) (n := 2) (Nat.le_of_ble_eq_true rfl)
  rw [lg_entry_eq]
  generalize (lg_sl ([.ref (am 0), .int k]) ++ List.replicate (2 - (lg_sl ([.ref (am 0), .int k])).length) Slot.unset).toArray = ls at hl ⊢
  have hl : lv_has ls 2 [(0, .ref (am 0)), (1, .int k)] := hl
  have hf_RX5_37 : (Cond.fieldLink RX5 37 "BlossomToursModel" "thrown" "I").before ([.ref (am 0), .int k] : List Value).toArray s = true := hts _ (by decide +kernel)
  have hi_RX5 : ∀ w ∈ u_ws RX5 TX5 13, w ∈ wsX5_no := by decide +kernel
  have hS : va_S (z_A 10 am) s.heap s.heap [] := va_S.rf
  have hD := z_Dm hinj (z_cM G am μ ν)
  refine lv_aload_n hx hb dX5_no_0 rfl (lv_at hl 0 rfl) ?_
  refine lv_iload_n hx hb dX5_no_1 rfl (lv_at hl 1 rfl) ?_
  refine va_put (D := z_DD G) (ci := 5) (v := .int k) (ty := .int) (C := RX5) (T := TX5) (N := 13) hx hb hts hi_RX5 tyX5 tyX5_ok nmX5 hown hK hP hD hS 0 z_m0 rfl 0 (by decide) hf_RX5_37 (fun _ h9 => h9) rfl (by decide +kernel) rfl rfl (Nat.le_of_ble_eq_true rfl) dX5_no_2 (fun H locs hP hD hS => ?_)
  have hP : va_P (z_DD G) vwCl (z_wM G am (z_up μ 8 1 k) ν) H := Eq.mp (congrArg (fun w => va_P (z_DD G) vwCl w H) z_tM0) hP
  have hD := z_Dm hinj (z_cM G am (z_up μ 8 1 k) ν)
  refine lv_iconst (v := 0) hx hb dX5_no_5 (by decide) ?_
  have hPf : va_P (z_DD G) vwCl (z_wM G am (z_up μ 8 1 k) ν) H := by exact hP
  refine z_iret hx hb hr hlocks dX5_no_6 (fun t ht hW => ⟨rfl, by rw [ht]; exact hPf, hS.F ht⟩) hS.2.2 ?_
  rfl

set_option maxHeartbeats 4000000 in
set_option maxRecDepth 100000 in
theorem c_X5_valley (l : Launch) (G : z_GT) (am : Nat → Nat) (μ : Nat → Nat → Int32) (ν : Nat → Nat → Nat) (hinj : ∀ i j, i < 10 → j < 10 → am i = am j → i = j) (x n y : Int32) (g1 : ¬ z_wi x 0 90 = 0) (g2 : ¬ z_wi n 1 30 = 0) (g3 : ¬ z_wi y 0 50 = 0) (g4 : ν 0 0 < 8) : Met l yX5_valley wsX5_valley ({ frames := 1, cells := 0, slots := 0, locals := 22 } : Room) (z_Pr G [.ref (am 0), .int x, .int n, .int y] (z_wM G am μ ν)) (z_Qm G (some (.int (nI (ν 0 0)))) (z_wM G am (z_vl (z_up μ 8 1 0) (ν 0 0) x n y) (z_up ν 0 0 (ν 0 0 + 1))) (z_A 10 am)) 0 0 (z_A 10 am) := by
  refine Met.ofW (cc := cX5_valley) (maxL := 4) (ret := (some .int)) (by decide) rfl ?_
  intro p e s m args below meth c s₁ B hml hw0
  obtain ⟨rfl, hX, hP⟩ := hw0
  have hK := hX.1
  have hx := B.exec
  have hb := B.bytes
  have hr := B.returns
  have hts := atoms_spec (ws := wsX5_valley) B.pre
  have hown : s.vm.findClass RX5 = some m.cls := findClass_of_methodNamed B.named
  have hlocks := B.notSynchronized
  have hl := lv_entry ([.ref (am 0), .int x, .int n, .int y]) (n := 4) (Nat.le_of_ble_eq_true rfl)
  rw [lg_entry_eq]
  generalize (lg_sl ([.ref (am 0), .int x, .int n, .int y]) ++ List.replicate (4 - (lg_sl ([.ref (am 0), .int x, .int n, .int y])).length) Slot.unset).toArray = ls at hl ⊢
  have hl : lv_has ls 4 [(0, .ref (am 0)), (1, .int x), (2, .int n), (3, .int y)] := hl
  have hf_RX5_13 : (Cond.fieldLink RX5 13 "BlossomToursModel" "length" "[I").before ([.ref (am 0), .int x, .int n, .int y] : List Value).toArray s = true := hts _ (by decide +kernel)
  have hf_RX5_16 : (Cond.fieldLink RX5 16 "BlossomToursModel" "bees" "[I").before ([.ref (am 0), .int x, .int n, .int y] : List Value).toArray s = true := hts _ (by decide +kernel)
  have hf_RX5_37 : (Cond.fieldLink RX5 37 "BlossomToursModel" "thrown" "I").before ([.ref (am 0), .int x, .int n, .int y] : List Value).toArray s = true := hts _ (by decide +kernel)
  have hf_RX5_41 : (Cond.fieldLink RX5 41 "BlossomToursModel" "valleys" "I").before ([.ref (am 0), .int x, .int n, .int y] : List Value).toArray s = true := hts _ (by decide +kernel)
  have hf_RX5_9 : (Cond.fieldLink RX5 9 "BlossomToursModel" "from" "[I").before ([.ref (am 0), .int x, .int n, .int y] : List Value).toArray s = true := hts _ (by decide +kernel)
  have hi_RX5 : ∀ w ∈ u_ws RX5 TX5 13, w ∈ wsX5_valley := by decide +kernel
  have hS : va_S (z_A 10 am) s.heap s.heap [] := va_S.rf
  have hD := z_Dm hinj (z_cM G am μ ν)
  refine lv_aload_n hx hb dX5_valley_0 rfl (lv_at hl 0 rfl) ?_
  refine lv_iconst (v := 0) hx hb dX5_valley_1 (by decide) ?_
  refine va_put (D := z_DD G) (ci := 5) (v := .int 0) (ty := .int) (C := RX5) (T := TX5) (N := 13) hx hb hts hi_RX5 tyX5 tyX5_ok nmX5 hown hK hP hD hS 0 z_m0 rfl 0 (by decide) hf_RX5_37 (fun _ h9 => h9) rfl (by decide +kernel) rfl rfl (Nat.le_of_ble_eq_true rfl) dX5_valley_2 (fun H locs hP hD hS => ?_)
  have hP : va_P (z_DD G) vwCl (z_wM G am (z_up μ 8 1 0) ν) H := Eq.mp (congrArg (fun w => va_P (z_DD G) vwCl w H) z_tM0) hP
  have hD := z_Dm hinj (z_cM G am (z_up μ 8 1 0) ν)
  refine lv_iload_n hx hb dX5_valley_5 rfl (lv_at hl 1 rfl) ?_
  refine lv_iconst (v := 0) hx hb dX5_valley_6 (by decide) ?_
  refine lv_bipush (v := 90) hx hb dX5_valley_7 (by decide) ?_
  refine z_call (va_runS (As := [.int x, .int 0, .int 90]) (rest := []) ⟨hx, hb, hml, hown, hts⟩ (c_X5_isIn l G x 0 90) (va_cwS 3 hts gX5_valley_X5_isIn rfl rfl rfl (by decide +kernel) ⟨Nat.le_of_ble_eq_true rfl, Nat.le_of_ble_eq_true rfl⟩) (z_prS hX z_P0) rfl rfl hl.1 rfl (lv_room (Nat.le_of_ble_eq_true rfl)) dX5_valley_9 ⟨Nat.le_of_ble_eq_true rfl, Nat.le_of_ble_eq_true rfl⟩) (fun _ h9 => h9) ?_
  refine W.eq (g2 := F0 m 12 ls [.int (z_wi x 0 90)]) rfl ?_
  refine lv_if_eq (tgt := 35) hx hb dX5_valley_12 (by decide) (fun c12 => ?_) (fun c12 => ?_)
  · skip
    exact absurd c12 g1
  · skip
    refine lv_iload_n hx hb dX5_valley_15 rfl (lv_at hl 2 rfl) ?_
    refine lv_iconst (v := 1) hx hb dX5_valley_16 (by decide) ?_
    refine lv_bipush (v := 30) hx hb dX5_valley_17 (by decide) ?_
    refine z_call (va_runS (As := [.int n, .int 1, .int 30]) (rest := []) ⟨hx, hb, hml, hown, hts⟩ (c_X5_isIn l G n 1 30) (va_cwS 3 hts gX5_valley_X5_isIn rfl rfl rfl (by decide +kernel) ⟨Nat.le_of_ble_eq_true rfl, Nat.le_of_ble_eq_true rfl⟩) (z_prS hX z_P0) rfl rfl hl.1 rfl (lv_room (Nat.le_of_ble_eq_true rfl)) dX5_valley_19 ⟨Nat.le_of_ble_eq_true rfl, Nat.le_of_ble_eq_true rfl⟩) (fun _ h9 => h9) ?_
    refine W.eq (g2 := F0 m 22 ls [.int (z_wi n 1 30)]) rfl ?_
    refine lv_if_eq (tgt := 35) hx hb dX5_valley_22 (by decide) (fun c22 => ?_) (fun c22 => ?_)
    · skip
      exact absurd c22 g2
    · skip
      refine lv_iload_n hx hb dX5_valley_25 rfl (lv_at hl 3 rfl) ?_
      refine lv_iconst (v := 0) hx hb dX5_valley_26 (by decide) ?_
      refine lv_bipush (v := 50) hx hb dX5_valley_27 (by decide) ?_
      refine z_call (va_runS (As := [.int y, .int 0, .int 50]) (rest := []) ⟨hx, hb, hml, hown, hts⟩ (c_X5_isIn l G y 0 50) (va_cwS 3 hts gX5_valley_X5_isIn rfl rfl rfl (by decide +kernel) ⟨Nat.le_of_ble_eq_true rfl, Nat.le_of_ble_eq_true rfl⟩) (z_prS hX z_P0) rfl rfl hl.1 rfl (lv_room (Nat.le_of_ble_eq_true rfl)) dX5_valley_29 ⟨Nat.le_of_ble_eq_true rfl, Nat.le_of_ble_eq_true rfl⟩) (fun _ h9 => h9) ?_
      refine W.eq (g2 := F0 m 32 ls [.int (z_wi y 0 50)]) rfl ?_
      refine lv_if_ne (tgt := 41) hx hb dX5_valley_32 (by decide) (fun c32 => ?_) (fun c32 => ?_)
      · skip
        refine lv_aload_n hx hb dX5_valley_41 rfl (lv_at hl 0 rfl) ?_
        refine va_get (D := z_DD G) (ci := 5) (v := .int (nI (ν 0 0))) (C := RX5) (T := TX5) (N := 13) hx hb hts hi_RX5 hown hK hP 0 z_m0 rfl 1 (by decide) hf_RX5_41 (fun _ h9 => h9) rfl dX5_valley_42 ?_
        refine lv_bipush (v := nI 8) hx hb dX5_valley_45 (by decide) ?_
        refine lv_icmp_ne (tgt := 56) hx hb dX5_valley_47 (by decide) (fun c47 => ?_) (fun c47 => ?_)
        · skip
          refine lv_aload_n hx hb dX5_valley_56 rfl (lv_at hl 0 rfl) ?_
          refine va_get (D := z_DD G) (ci := 5) (v := .ref (am 1)) (C := RX5) (T := TX5) (N := 13) hx hb hts hi_RX5 hown hK hP 0 z_m0 rfl 2 (by decide) hf_RX5_9 (fun _ h9 => h9) rfl dX5_valley_57 ?_
          refine lv_aload_n hx hb dX5_valley_60 rfl (lv_at hl 0 rfl) ?_
          refine va_get (D := z_DD G) (ci := 5) (v := .int (nI (ν 0 0))) (C := RX5) (T := TX5) (N := 13) hx hb hts hi_RX5 hown hK hP 0 z_m0 rfl 1 (by decide) hf_RX5_41 (fun _ h9 => h9) rfl dX5_valley_61 ?_
          refine lv_iload_n hx hb dX5_valley_64 rfl (lv_at hl 1 rfl) ?_
          refine va_iast (f := fun z9 => (z_up μ 8 1 0) 0 z9) hx hb hK hP hD hS 1 0 z_m1 rfl (vp_in_nI g4 (by omega)) dX5_valley_65 (fun H locs hP hD hS => ?_)
          have hP : va_P (z_DD G) vwCl (z_wM G am (z_up (z_up μ 8 1 0) 0 (ν 0 0) x) ν) H := Eq.mp (congrArg (fun w => va_P (z_DD G) vwCl w H) (z_tB1 (by omega))) hP
          have hD := z_Dm hinj (z_cM G am (z_up (z_up μ 8 1 0) 0 (ν 0 0) x) ν)
          refine lv_aload_n hx hb dX5_valley_66 rfl (lv_at hl 0 rfl) ?_
          refine va_get (D := z_DD G) (ci := 5) (v := .ref (am 2)) (C := RX5) (T := TX5) (N := 13) hx hb hts hi_RX5 hown hK hP 0 z_m0 rfl 3 (by decide) hf_RX5_13 (fun _ h9 => h9) rfl dX5_valley_67 ?_
          refine lv_aload_n hx hb dX5_valley_70 rfl (lv_at hl 0 rfl) ?_
          refine va_get (D := z_DD G) (ci := 5) (v := .int (nI (ν 0 0))) (C := RX5) (T := TX5) (N := 13) hx hb hts hi_RX5 hown hK hP 0 z_m0 rfl 1 (by decide) hf_RX5_41 (fun _ h9 => h9) rfl dX5_valley_71 ?_
          refine lv_iload_n hx hb dX5_valley_74 rfl (lv_at hl 2 rfl) ?_
          refine va_iast (f := fun z9 => (z_up (z_up μ 8 1 0) 0 (ν 0 0) x) 1 z9) hx hb hK hP hD hS 2 0 z_m2 rfl (vp_in_nI g4 (by omega)) dX5_valley_75 (fun H locs hP hD hS => ?_)
          have hP : va_P (z_DD G) vwCl (z_wM G am (z_up (z_up (z_up μ 8 1 0) 0 (ν 0 0) x) 1 (ν 0 0) n) ν) H := Eq.mp (congrArg (fun w => va_P (z_DD G) vwCl w H) (z_tB2 (by omega))) hP
          have hD := z_Dm hinj (z_cM G am (z_up (z_up (z_up μ 8 1 0) 0 (ν 0 0) x) 1 (ν 0 0) n) ν)
          refine lv_aload_n hx hb dX5_valley_76 rfl (lv_at hl 0 rfl) ?_
          refine va_get (D := z_DD G) (ci := 5) (v := .ref (am 3)) (C := RX5) (T := TX5) (N := 13) hx hb hts hi_RX5 hown hK hP 0 z_m0 rfl 4 (by decide) hf_RX5_16 (fun _ h9 => h9) rfl dX5_valley_77 ?_
          refine lv_aload_n hx hb dX5_valley_80 rfl (lv_at hl 0 rfl) ?_
          refine va_get (D := z_DD G) (ci := 5) (v := .int (nI (ν 0 0))) (C := RX5) (T := TX5) (N := 13) hx hb hts hi_RX5 hown hK hP 0 z_m0 rfl 1 (by decide) hf_RX5_41 (fun _ h9 => h9) rfl dX5_valley_81 ?_
          refine lv_iload_n hx hb dX5_valley_84 rfl (lv_at hl 3 rfl) ?_
          refine va_iast (f := fun z9 => (z_up (z_up (z_up μ 8 1 0) 0 (ν 0 0) x) 1 (ν 0 0) n) 2 z9) hx hb hK hP hD hS 3 0 z_m3 rfl (vp_in_nI g4 (by omega)) dX5_valley_85 (fun H locs hP hD hS => ?_)
          have hP : va_P (z_DD G) vwCl (z_wM G am (z_up (z_up (z_up (z_up μ 8 1 0) 0 (ν 0 0) x) 1 (ν 0 0) n) 2 (ν 0 0) y) ν) H := Eq.mp (congrArg (fun w => va_P (z_DD G) vwCl w H) (z_tB3 (by omega))) hP
          have hD := z_Dm hinj (z_cM G am (z_up (z_up (z_up (z_up μ 8 1 0) 0 (ν 0 0) x) 1 (ν 0 0) n) 2 (ν 0 0) y) ν)
          refine lv_aload_n hx hb dX5_valley_86 rfl (lv_at hl 0 rfl) ?_
          refine lv_dup hx hb dX5_valley_87 rfl ?_
          refine va_get (D := z_DD G) (ci := 5) (v := .int (nI (ν 0 0))) (C := RX5) (T := TX5) (N := 13) hx hb hts hi_RX5 hown hK hP 0 z_m0 rfl 1 (by decide) hf_RX5_41 (fun _ h9 => h9) rfl dX5_valley_88 ?_
          refine lv_iconst (v := 1) hx hb dX5_valley_91 (by decide) ?_
          refine lv_iadd hx hb dX5_valley_92 ?_
          refine z_top (show (.int ((nI (ν 0 0)) + 1) : Value) = .int (nI (ν 0 0 + 1)) from by (show Value.int (nI (ν 0 0) + 1) = _; rw [nI_1])) ?_
          refine va_put (D := z_DD G) (ci := 5) (v := .int (nI (ν 0 0 + 1))) (ty := .int) (C := RX5) (T := TX5) (N := 13) hx hb hts hi_RX5 tyX5 tyX5_ok nmX5 hown hK hP hD hS 0 z_m0 rfl 1 (by decide) hf_RX5_41 (fun _ h9 => h9) rfl (by decide +kernel) rfl rfl (Nat.le_of_ble_eq_true rfl) dX5_valley_93 (fun H locs hP hD hS => ?_)
          have hP : va_P (z_DD G) vwCl (z_wM G am (z_up (z_up (z_up (z_up μ 8 1 0) 0 (ν 0 0) x) 1 (ν 0 0) n) 2 (ν 0 0) y) (z_up ν 0 0 (ν 0 0 + 1))) H := Eq.mp (congrArg (fun w => va_P (z_DD G) vwCl w H) z_tM1) hP
          have hD := z_Dm hinj (z_cM G am (z_up (z_up (z_up (z_up μ 8 1 0) 0 (ν 0 0) x) 1 (ν 0 0) n) 2 (ν 0 0) y) (z_up ν 0 0 (ν 0 0 + 1)))
          refine lv_aload_n hx hb dX5_valley_96 rfl (lv_at hl 0 rfl) ?_
          refine va_get (D := z_DD G) (ci := 5) (v := .int (nI ((z_up ν 0 0 (ν 0 0 + 1)) 0 0))) (C := RX5) (T := TX5) (N := 13) hx hb hts hi_RX5 hown hK hP 0 z_m0 rfl 1 (by decide) hf_RX5_41 (fun _ h9 => h9) rfl dX5_valley_97 ?_
          refine lv_iconst (v := 1) hx hb dX5_valley_100 (by decide) ?_
          refine lv_isub hx hb dX5_valley_101 ?_
          refine z_top (show (.int ((nI ((z_up ν 0 0 (ν 0 0 + 1)) 0 0)) - 1) : Value) = .int (nI (ν 0 0)) from by (show Value.int (nI (ν 0 0 + 1) - 1) = _; rw [nI_pred])) ?_
          have hPf : va_P (z_DD G) vwCl (z_wM G am (z_vl (z_up μ 8 1 0) (ν 0 0) x n y) (z_up ν 0 0 (ν 0 0 + 1))) H := by exact hP
          refine z_iret hx hb hr hlocks dX5_valley_102 (fun t ht hW => ⟨rfl, by rw [ht]; exact hPf, hS.F ht⟩) hS.2.2 ?_
          rfl
        · skip
          exact absurd ((nI_eq (by omega) (by decide)).mp c47) (by omega)
      · skip
        exact absurd c32 g3

set_option maxHeartbeats 4000000 in
set_option maxRecDepth 100000 in
theorem x_X5_valley_1 (l : Launch) (G : z_GT) (am : Nat → Nat) (μ : Nat → Nat → Int32) (ν : Nat → Nat → Nat) (hinj : ∀ i j, i < 10 → j < 10 → am i = am j → i = j) (x n y : Int32) (h : z_wi x 0 90 = 0 ∨ z_wi n 1 30 = 0 ∨ z_wi y 0 50 = 0) : Met l yX5_valley wsX5_valley ({ frames := 1, cells := 0, slots := 0, locals := 22 } : Room) (z_Pr G [.ref (am 0), .int x, .int n, .int y] (z_wM G am μ ν)) (z_Qm G (some (.int 0)) (z_wM G am (y_no μ 1) ν) (z_A 10 am)) 0 0 (z_A 10 am) := by
  refine Met.ofW (cc := cX5_valley) (maxL := 4) (ret := (some .int)) (by decide) rfl ?_
  intro p e s m args below meth c s₁ B hml hw0
  obtain ⟨rfl, hX, hP⟩ := hw0
  have hK := hX.1
  have hx := B.exec
  have hb := B.bytes
  have hr := B.returns
  have hts := atoms_spec (ws := wsX5_valley) B.pre
  have hown : s.vm.findClass RX5 = some m.cls := findClass_of_methodNamed B.named
  have hlocks := B.notSynchronized
  have hl := lv_entry ([.ref (am 0), .int x, .int n, .int y]) (n := 4) (Nat.le_of_ble_eq_true rfl)
  rw [lg_entry_eq]
  generalize (lg_sl ([.ref (am 0), .int x, .int n, .int y]) ++ List.replicate (4 - (lg_sl ([.ref (am 0), .int x, .int n, .int y])).length) Slot.unset).toArray = ls at hl ⊢
  have hl : lv_has ls 4 [(0, .ref (am 0)), (1, .int x), (2, .int n), (3, .int y)] := hl
  have hf_RX5_37 : (Cond.fieldLink RX5 37 "BlossomToursModel" "thrown" "I").before ([.ref (am 0), .int x, .int n, .int y] : List Value).toArray s = true := hts _ (by decide +kernel)
  have hi_RX5 : ∀ w ∈ u_ws RX5 TX5 13, w ∈ wsX5_valley := by decide +kernel
  have hS : va_S (z_A 10 am) s.heap s.heap [] := va_S.rf
  have hD := z_Dm hinj (z_cM G am μ ν)
  refine lv_aload_n hx hb dX5_valley_0 rfl (lv_at hl 0 rfl) ?_
  refine lv_iconst (v := 0) hx hb dX5_valley_1 (by decide) ?_
  refine va_put (D := z_DD G) (ci := 5) (v := .int 0) (ty := .int) (C := RX5) (T := TX5) (N := 13) hx hb hts hi_RX5 tyX5 tyX5_ok nmX5 hown hK hP hD hS 0 z_m0 rfl 0 (by decide) hf_RX5_37 (fun _ h9 => h9) rfl (by decide +kernel) rfl rfl (Nat.le_of_ble_eq_true rfl) dX5_valley_2 (fun H locs hP hD hS => ?_)
  have hP : va_P (z_DD G) vwCl (z_wM G am (z_up μ 8 1 0) ν) H := Eq.mp (congrArg (fun w => va_P (z_DD G) vwCl w H) z_tM0) hP
  have hD := z_Dm hinj (z_cM G am (z_up μ 8 1 0) ν)
  refine lv_iload_n hx hb dX5_valley_5 rfl (lv_at hl 1 rfl) ?_
  refine lv_iconst (v := 0) hx hb dX5_valley_6 (by decide) ?_
  refine lv_bipush (v := 90) hx hb dX5_valley_7 (by decide) ?_
  refine z_call (va_runS (As := [.int x, .int 0, .int 90]) (rest := []) ⟨hx, hb, hml, hown, hts⟩ (c_X5_isIn l G x 0 90) (va_cwS 3 hts gX5_valley_X5_isIn rfl rfl rfl (by decide +kernel) ⟨Nat.le_of_ble_eq_true rfl, Nat.le_of_ble_eq_true rfl⟩) (z_prS hX z_P0) rfl rfl hl.1 rfl (lv_room (Nat.le_of_ble_eq_true rfl)) dX5_valley_9 ⟨Nat.le_of_ble_eq_true rfl, Nat.le_of_ble_eq_true rfl⟩) (fun _ h9 => h9) ?_
  refine W.eq (g2 := F0 m 12 ls [.int (z_wi x 0 90)]) rfl ?_
  refine lv_if_eq (tgt := 35) hx hb dX5_valley_12 (by decide) (fun c12 => ?_) (fun c12 => ?_)
  · skip
    refine lv_aload_n hx hb dX5_valley_35 rfl (lv_at hl 0 rfl) ?_
    refine lv_iconst (v := 1) hx hb dX5_valley_36 (by decide) ?_
    refine z_callm (va_runV (As := [.int 1]) (rest := []) ⟨hx, hb, hml, hown, hts⟩ (c_X5_no l G am (z_up μ 8 1 0) ν hinj 1) (cwV 1 hts gX5_valley_X5_no rfl rfl rfl (by decide +kernel) ⟨Nat.le_of_ble_eq_true rfl, Nat.le_of_ble_eq_true rfl⟩) (z_prV (ci := 5) (k := 0) hX hP rfl z_m0) rfl rfl hl.1 rfl (lv_room (Nat.le_of_ble_eq_true rfl)) dX5_valley_37 ⟨Nat.le_of_ble_eq_true rfl, Nat.le_of_ble_eq_true rfl⟩) hS (fun _ _ h9 => h9) (fun _ h9 => h9) (fun H locs hP hz9 hk9 hS => ?_)
    have hD := z_Dm hinj (z_cM G am (z_up (z_up μ 8 1 0) 8 1 1) ν)
    refine W.eq (g2 := F0 m 40 ls [.int 0]) rfl ?_
    have hPf : va_P (z_DD G) vwCl (z_wM G am (y_no μ 1) ν) H := by exact hP
    refine z_iret hx hb hr hlocks dX5_valley_40 (fun t ht hW => ⟨rfl, by rw [ht]; exact hPf, hS.F ht⟩) hS.2.2 ?_
    rfl
  · skip
    refine lv_iload_n hx hb dX5_valley_15 rfl (lv_at hl 2 rfl) ?_
    refine lv_iconst (v := 1) hx hb dX5_valley_16 (by decide) ?_
    refine lv_bipush (v := 30) hx hb dX5_valley_17 (by decide) ?_
    refine z_call (va_runS (As := [.int n, .int 1, .int 30]) (rest := []) ⟨hx, hb, hml, hown, hts⟩ (c_X5_isIn l G n 1 30) (va_cwS 3 hts gX5_valley_X5_isIn rfl rfl rfl (by decide +kernel) ⟨Nat.le_of_ble_eq_true rfl, Nat.le_of_ble_eq_true rfl⟩) (z_prS hX z_P0) rfl rfl hl.1 rfl (lv_room (Nat.le_of_ble_eq_true rfl)) dX5_valley_19 ⟨Nat.le_of_ble_eq_true rfl, Nat.le_of_ble_eq_true rfl⟩) (fun _ h9 => h9) ?_
    refine W.eq (g2 := F0 m 22 ls [.int (z_wi n 1 30)]) rfl ?_
    refine lv_if_eq (tgt := 35) hx hb dX5_valley_22 (by decide) (fun c22 => ?_) (fun c22 => ?_)
    · skip
      refine lv_aload_n hx hb dX5_valley_35 rfl (lv_at hl 0 rfl) ?_
      refine lv_iconst (v := 1) hx hb dX5_valley_36 (by decide) ?_
      refine z_callm (va_runV (As := [.int 1]) (rest := []) ⟨hx, hb, hml, hown, hts⟩ (c_X5_no l G am (z_up μ 8 1 0) ν hinj 1) (cwV 1 hts gX5_valley_X5_no rfl rfl rfl (by decide +kernel) ⟨Nat.le_of_ble_eq_true rfl, Nat.le_of_ble_eq_true rfl⟩) (z_prV (ci := 5) (k := 0) hX hP rfl z_m0) rfl rfl hl.1 rfl (lv_room (Nat.le_of_ble_eq_true rfl)) dX5_valley_37 ⟨Nat.le_of_ble_eq_true rfl, Nat.le_of_ble_eq_true rfl⟩) hS (fun _ _ h9 => h9) (fun _ h9 => h9) (fun H locs hP hz9 hk9 hS => ?_)
      have hD := z_Dm hinj (z_cM G am (z_up (z_up μ 8 1 0) 8 1 1) ν)
      refine W.eq (g2 := F0 m 40 ls [.int 0]) rfl ?_
      have hPf : va_P (z_DD G) vwCl (z_wM G am (y_no μ 1) ν) H := by exact hP
      refine z_iret hx hb hr hlocks dX5_valley_40 (fun t ht hW => ⟨rfl, by rw [ht]; exact hPf, hS.F ht⟩) hS.2.2 ?_
      rfl
    · skip
      refine lv_iload_n hx hb dX5_valley_25 rfl (lv_at hl 3 rfl) ?_
      refine lv_iconst (v := 0) hx hb dX5_valley_26 (by decide) ?_
      refine lv_bipush (v := 50) hx hb dX5_valley_27 (by decide) ?_
      refine z_call (va_runS (As := [.int y, .int 0, .int 50]) (rest := []) ⟨hx, hb, hml, hown, hts⟩ (c_X5_isIn l G y 0 50) (va_cwS 3 hts gX5_valley_X5_isIn rfl rfl rfl (by decide +kernel) ⟨Nat.le_of_ble_eq_true rfl, Nat.le_of_ble_eq_true rfl⟩) (z_prS hX z_P0) rfl rfl hl.1 rfl (lv_room (Nat.le_of_ble_eq_true rfl)) dX5_valley_29 ⟨Nat.le_of_ble_eq_true rfl, Nat.le_of_ble_eq_true rfl⟩) (fun _ h9 => h9) ?_
      refine W.eq (g2 := F0 m 32 ls [.int (z_wi y 0 50)]) rfl ?_
      refine lv_if_ne (tgt := 41) hx hb dX5_valley_32 (by decide) (fun c32 => ?_) (fun c32 => ?_)
      · skip
        exact absurd (h.resolve_left c12) (fun q => q.elim c22 c32)
      · skip
        refine lv_aload_n hx hb dX5_valley_35 rfl (lv_at hl 0 rfl) ?_
        refine lv_iconst (v := 1) hx hb dX5_valley_36 (by decide) ?_
        refine z_callm (va_runV (As := [.int 1]) (rest := []) ⟨hx, hb, hml, hown, hts⟩ (c_X5_no l G am (z_up μ 8 1 0) ν hinj 1) (cwV 1 hts gX5_valley_X5_no rfl rfl rfl (by decide +kernel) ⟨Nat.le_of_ble_eq_true rfl, Nat.le_of_ble_eq_true rfl⟩) (z_prV (ci := 5) (k := 0) hX hP rfl z_m0) rfl rfl hl.1 rfl (lv_room (Nat.le_of_ble_eq_true rfl)) dX5_valley_37 ⟨Nat.le_of_ble_eq_true rfl, Nat.le_of_ble_eq_true rfl⟩) hS (fun _ _ h9 => h9) (fun _ h9 => h9) (fun H locs hP hz9 hk9 hS => ?_)
        have hD := z_Dm hinj (z_cM G am (z_up (z_up μ 8 1 0) 8 1 1) ν)
        refine W.eq (g2 := F0 m 40 ls [.int 0]) rfl ?_
        have hPf : va_P (z_DD G) vwCl (z_wM G am (y_no μ 1) ν) H := by exact hP
        refine z_iret hx hb hr hlocks dX5_valley_40 (fun t ht hW => ⟨rfl, by rw [ht]; exact hPf, hS.F ht⟩) hS.2.2 ?_
        rfl

set_option maxHeartbeats 4000000 in
set_option maxRecDepth 100000 in
theorem x_X5_valley_2 (l : Launch) (G : z_GT) (am : Nat → Nat) (μ : Nat → Nat → Int32) (ν : Nat → Nat → Nat) (hinj : ∀ i j, i < 10 → j < 10 → am i = am j → i = j) (x n y : Int32) (g1 : ¬ z_wi x 0 90 = 0) (g2 : ¬ z_wi n 1 30 = 0) (g3 : ¬ z_wi y 0 50 = 0) (g4 : ν 0 0 = 8) : Met l yX5_valley wsX5_valley ({ frames := 1, cells := 0, slots := 0, locals := 22 } : Room) (z_Pr G [.ref (am 0), .int x, .int n, .int y] (z_wM G am μ ν)) (z_Qm G (some (.int 0)) (z_wM G am (y_no μ 2) ν) (z_A 10 am)) 0 0 (z_A 10 am) := by
  refine Met.ofW (cc := cX5_valley) (maxL := 4) (ret := (some .int)) (by decide) rfl ?_
  intro p e s m args below meth c s₁ B hml hw0
  obtain ⟨rfl, hX, hP⟩ := hw0
  have hK := hX.1
  have hx := B.exec
  have hb := B.bytes
  have hr := B.returns
  have hts := atoms_spec (ws := wsX5_valley) B.pre
  have hown : s.vm.findClass RX5 = some m.cls := findClass_of_methodNamed B.named
  have hlocks := B.notSynchronized
  have hl := lv_entry ([.ref (am 0), .int x, .int n, .int y]) (n := 4) (Nat.le_of_ble_eq_true rfl)
  rw [lg_entry_eq]
  generalize (lg_sl ([.ref (am 0), .int x, .int n, .int y]) ++ List.replicate (4 - (lg_sl ([.ref (am 0), .int x, .int n, .int y])).length) Slot.unset).toArray = ls at hl ⊢
  have hl : lv_has ls 4 [(0, .ref (am 0)), (1, .int x), (2, .int n), (3, .int y)] := hl
  have hf_RX5_37 : (Cond.fieldLink RX5 37 "BlossomToursModel" "thrown" "I").before ([.ref (am 0), .int x, .int n, .int y] : List Value).toArray s = true := hts _ (by decide +kernel)
  have hf_RX5_41 : (Cond.fieldLink RX5 41 "BlossomToursModel" "valleys" "I").before ([.ref (am 0), .int x, .int n, .int y] : List Value).toArray s = true := hts _ (by decide +kernel)
  have hi_RX5 : ∀ w ∈ u_ws RX5 TX5 13, w ∈ wsX5_valley := by decide +kernel
  have hS : va_S (z_A 10 am) s.heap s.heap [] := va_S.rf
  have hD := z_Dm hinj (z_cM G am μ ν)
  refine lv_aload_n hx hb dX5_valley_0 rfl (lv_at hl 0 rfl) ?_
  refine lv_iconst (v := 0) hx hb dX5_valley_1 (by decide) ?_
  refine va_put (D := z_DD G) (ci := 5) (v := .int 0) (ty := .int) (C := RX5) (T := TX5) (N := 13) hx hb hts hi_RX5 tyX5 tyX5_ok nmX5 hown hK hP hD hS 0 z_m0 rfl 0 (by decide) hf_RX5_37 (fun _ h9 => h9) rfl (by decide +kernel) rfl rfl (Nat.le_of_ble_eq_true rfl) dX5_valley_2 (fun H locs hP hD hS => ?_)
  have hP : va_P (z_DD G) vwCl (z_wM G am (z_up μ 8 1 0) ν) H := Eq.mp (congrArg (fun w => va_P (z_DD G) vwCl w H) z_tM0) hP
  have hD := z_Dm hinj (z_cM G am (z_up μ 8 1 0) ν)
  refine lv_iload_n hx hb dX5_valley_5 rfl (lv_at hl 1 rfl) ?_
  refine lv_iconst (v := 0) hx hb dX5_valley_6 (by decide) ?_
  refine lv_bipush (v := 90) hx hb dX5_valley_7 (by decide) ?_
  refine z_call (va_runS (As := [.int x, .int 0, .int 90]) (rest := []) ⟨hx, hb, hml, hown, hts⟩ (c_X5_isIn l G x 0 90) (va_cwS 3 hts gX5_valley_X5_isIn rfl rfl rfl (by decide +kernel) ⟨Nat.le_of_ble_eq_true rfl, Nat.le_of_ble_eq_true rfl⟩) (z_prS hX z_P0) rfl rfl hl.1 rfl (lv_room (Nat.le_of_ble_eq_true rfl)) dX5_valley_9 ⟨Nat.le_of_ble_eq_true rfl, Nat.le_of_ble_eq_true rfl⟩) (fun _ h9 => h9) ?_
  refine W.eq (g2 := F0 m 12 ls [.int (z_wi x 0 90)]) rfl ?_
  refine lv_if_eq (tgt := 35) hx hb dX5_valley_12 (by decide) (fun c12 => ?_) (fun c12 => ?_)
  · skip
    exact absurd c12 g1
  · skip
    refine lv_iload_n hx hb dX5_valley_15 rfl (lv_at hl 2 rfl) ?_
    refine lv_iconst (v := 1) hx hb dX5_valley_16 (by decide) ?_
    refine lv_bipush (v := 30) hx hb dX5_valley_17 (by decide) ?_
    refine z_call (va_runS (As := [.int n, .int 1, .int 30]) (rest := []) ⟨hx, hb, hml, hown, hts⟩ (c_X5_isIn l G n 1 30) (va_cwS 3 hts gX5_valley_X5_isIn rfl rfl rfl (by decide +kernel) ⟨Nat.le_of_ble_eq_true rfl, Nat.le_of_ble_eq_true rfl⟩) (z_prS hX z_P0) rfl rfl hl.1 rfl (lv_room (Nat.le_of_ble_eq_true rfl)) dX5_valley_19 ⟨Nat.le_of_ble_eq_true rfl, Nat.le_of_ble_eq_true rfl⟩) (fun _ h9 => h9) ?_
    refine W.eq (g2 := F0 m 22 ls [.int (z_wi n 1 30)]) rfl ?_
    refine lv_if_eq (tgt := 35) hx hb dX5_valley_22 (by decide) (fun c22 => ?_) (fun c22 => ?_)
    · skip
      exact absurd c22 g2
    · skip
      refine lv_iload_n hx hb dX5_valley_25 rfl (lv_at hl 3 rfl) ?_
      refine lv_iconst (v := 0) hx hb dX5_valley_26 (by decide) ?_
      refine lv_bipush (v := 50) hx hb dX5_valley_27 (by decide) ?_
      refine z_call (va_runS (As := [.int y, .int 0, .int 50]) (rest := []) ⟨hx, hb, hml, hown, hts⟩ (c_X5_isIn l G y 0 50) (va_cwS 3 hts gX5_valley_X5_isIn rfl rfl rfl (by decide +kernel) ⟨Nat.le_of_ble_eq_true rfl, Nat.le_of_ble_eq_true rfl⟩) (z_prS hX z_P0) rfl rfl hl.1 rfl (lv_room (Nat.le_of_ble_eq_true rfl)) dX5_valley_29 ⟨Nat.le_of_ble_eq_true rfl, Nat.le_of_ble_eq_true rfl⟩) (fun _ h9 => h9) ?_
      refine W.eq (g2 := F0 m 32 ls [.int (z_wi y 0 50)]) rfl ?_
      refine lv_if_ne (tgt := 41) hx hb dX5_valley_32 (by decide) (fun c32 => ?_) (fun c32 => ?_)
      · skip
        refine lv_aload_n hx hb dX5_valley_41 rfl (lv_at hl 0 rfl) ?_
        refine va_get (D := z_DD G) (ci := 5) (v := .int (nI (ν 0 0))) (C := RX5) (T := TX5) (N := 13) hx hb hts hi_RX5 hown hK hP 0 z_m0 rfl 1 (by decide) hf_RX5_41 (fun _ h9 => h9) rfl dX5_valley_42 ?_
        refine lv_bipush (v := nI 8) hx hb dX5_valley_45 (by decide) ?_
        refine lv_icmp_ne (tgt := 56) hx hb dX5_valley_47 (by decide) (fun c47 => ?_) (fun c47 => ?_)
        · skip
          exact absurd (show nI (ν 0 0) = nI 8 by rw [g4]) c47
        · skip
          refine lv_aload_n hx hb dX5_valley_50 rfl (lv_at hl 0 rfl) ?_
          refine lv_iconst (v := 2) hx hb dX5_valley_51 (by decide) ?_
          refine z_callm (va_runV (As := [.int 2]) (rest := []) ⟨hx, hb, hml, hown, hts⟩ (c_X5_no l G am (z_up μ 8 1 0) ν hinj 2) (cwV 1 hts gX5_valley_X5_no rfl rfl rfl (by decide +kernel) ⟨Nat.le_of_ble_eq_true rfl, Nat.le_of_ble_eq_true rfl⟩) (z_prV (ci := 5) (k := 0) hX hP rfl z_m0) rfl rfl hl.1 rfl (lv_room (Nat.le_of_ble_eq_true rfl)) dX5_valley_52 ⟨Nat.le_of_ble_eq_true rfl, Nat.le_of_ble_eq_true rfl⟩) hS (fun _ _ h9 => h9) (fun _ h9 => h9) (fun H locs hP hz9 hk9 hS => ?_)
          have hD := z_Dm hinj (z_cM G am (z_up (z_up μ 8 1 0) 8 1 2) ν)
          refine W.eq (g2 := F0 m 55 ls [.int 0]) rfl ?_
          have hPf : va_P (z_DD G) vwCl (z_wM G am (y_no μ 2) ν) H := by exact hP
          refine z_iret hx hb hr hlocks dX5_valley_55 (fun t ht hW => ⟨rfl, by rw [ht]; exact hPf, hS.F ht⟩) hS.2.2 ?_
          rfl
      · skip
        exact absurd c32 g3

set_option maxHeartbeats 4000000 in
set_option maxRecDepth 100000 in
theorem c_X5_shorten (l : Launch) (G : z_GT) (am : Nat → Nat) (μ : Nat → Nat → Int32) (ν : Nat → Nat → Nat) (hinj : ∀ i j, i < 10 → j < 10 → am i = am j → i = j) (a b : Nat) (mi : Int32) (ha : a < 8) (hb8 : b < 8) : Met l yX5_shorten wsX5_shorten ({ frames := 0, cells := 0, slots := 0, locals := 0 } : Room) (z_Pr G [.ref (am 0), .int (nI a), .int (nI b), .int mi] (z_wM G am μ ν)) (z_Qm G none (z_wM G am (y_sh μ a b mi) ν) (z_A 10 am)) 0 0 (z_A 10 am) := by
  refine Met.ofW (cc := cX5_shorten) (maxL := 9) (ret := none) (by decide) rfl ?_
  intro p e s m args below meth c s₁ B hml hw0
  obtain ⟨rfl, hX, hP⟩ := hw0
  have hK := hX.1
  have hx := B.exec
  have hb := B.bytes
  have hr := B.returns
  have hts := atoms_spec (ws := wsX5_shorten) B.pre
  have hown : s.vm.findClass RX5 = some m.cls := findClass_of_methodNamed B.named
  have hlocks := B.notSynchronized
  have hl := lv_entry ([.ref (am 0), .int (nI a), .int (nI b), .int mi]) (n := 9) (Nat.le_of_ble_eq_true rfl)
  rw [lg_entry_eq]
  generalize (lg_sl ([.ref (am 0), .int (nI a), .int (nI b), .int mi]) ++ List.replicate (9 - (lg_sl ([.ref (am 0), .int (nI a), .int (nI b), .int mi])).length) Slot.unset).toArray = ls at hl ⊢
  have hl : lv_has ls 9 [(0, .ref (am 0)), (1, .int (nI a)), (2, .int (nI b)), (3, .int mi)] := hl
  have hf_RX5_19 : (Cond.fieldLink RX5 19 "BlossomToursModel" "ways" "[I").before ([.ref (am 0), .int (nI a), .int (nI b), .int mi] : List Value).toArray s = true := hts _ (by decide +kernel)
  have hi_RX5 : ∀ w ∈ u_ws RX5 TX5 13, w ∈ wsX5_shorten := by decide +kernel
  have hS : va_S (z_A 10 am) s.heap s.heap [] := va_S.rf
  have hD := z_Dm hinj (z_cM G am μ ν)
  refine lv_iconst (v := nI 0) hx hb dX5_shorten_0 (by decide) ?_
  refine lv_istore (lv' := [(4, .int (nI 0)), (0, .ref (am 0)), (1, .int (nI a)), (2, .int (nI b)), (3, .int mi)]) hx hb dX5_shorten_1 hl (by decide) rfl (fun ls hl => ?_)
  have lp3 : ∀ (fu3 : Nat) (u : Nat), u ≤ 8 → 8 < u + fu3 → ∀ (H : Heap) (locs : List Loc), va_P (z_DD G) vwCl (z_wM G am (y_s2 μ a b mi u) ν) H → va_S (z_A 10 am) s.heap H locs → ∀ (ls : Array Slot), lv_has ls 9 [(0, .ref (am 0)), (1, .int (nI a)), (2, .int (nI b)), (3, .int mi), (4, .int (nI u))] → W p l e (headSpec wsX5_shorten ({ frames := 0, cells := 0, slots := 0, locals := 0 } : Room)).room s m ([.ref (am 0), .int (nI a), .int (nI b), .int mi] : List Value).toArray below meth c H locs 0 0 (MQ below (z_Qm G none (z_wM G am (y_sh μ a b mi) ν) (z_A 10 am)) ([.ref (am 0), .int (nI a), .int (nI b), .int mi] : List Value).toArray s 0 0 (z_A 10 am)) (F0 m 3 ls []) := by
    intro fu3
    induction fu3 with
    | zero =>
      intro u h1 h2
      exfalso; omega
    | succ fu3 ih3 =>
      intro u h1 h2 H locs hP hS ls hl
      have hD := z_Dm hinj (z_cM G am (y_s2 μ a b mi u) ν)
      refine lv_iload hx hb dX5_shorten_3 (lv_at hl 4 rfl) ?_
      refine lv_bipush (v := nI 8) hx hb dX5_shorten_5 (by decide) ?_
      refine lv_icmp_ge (tgt := 128) hx hb dX5_shorten_7 (by decide) (fun c7 => ?_) (fun c7 => ?_)
      · skip
        have hu : u = 8 := Nat.le_antisymm h1 (z_ge (by omega) (by omega) c7)
        have hPf : va_P (z_DD G) vwCl (z_wM G am (y_sh μ a b mi) ν) H := by rw [hu] at hP; exact hP
        exact W.vret hx hb hr (fun t ht hW => ⟨rfl, by rw [ht]; exact hPf, hS.F ht⟩) hS.2.2 dX5_shorten_128
      · skip
        have hu := z_ng (by omega) (by omega) c7
        refine lv_iconst (v := nI 0) hx hb dX5_shorten_10 (by decide) ?_
        refine lv_istore (lv' := [(5, .int (nI 0)), (0, .ref (am 0)), (1, .int (nI a)), (2, .int (nI b)), (3, .int mi), (4, .int (nI u))]) hx hb dX5_shorten_11 hl (by decide) rfl (fun ls hl => ?_)
        have lp13 : ∀ (fu13 : Nat) (v : Nat), v ≤ 8 → 8 < v + fu13 → ∀ (H : Heap) (locs : List Loc), va_P (z_DD G) vwCl (z_wM G am (y_s1 (y_s2 μ a b mi u) u a b mi v) ν) H → va_S (z_A 10 am) s.heap H locs → ∀ (ls : Array Slot), lv_has ls 9 [(0, .ref (am 0)), (1, .int (nI a)), (2, .int (nI b)), (3, .int mi), (4, .int (nI u)), (5, .int (nI v))] → W p l e (headSpec wsX5_shorten ({ frames := 0, cells := 0, slots := 0, locals := 0 } : Room)).room s m ([.ref (am 0), .int (nI a), .int (nI b), .int mi] : List Value).toArray below meth c H locs 0 0 (MQ below (z_Qm G none (z_wM G am (y_sh μ a b mi) ν) (z_A 10 am)) ([.ref (am 0), .int (nI a), .int (nI b), .int mi] : List Value).toArray s 0 0 (z_A 10 am)) (F0 m 13 ls []) := by
          intro fu13
          induction fu13 with
          | zero =>
            intro v g1 g2
            exfalso; omega
          | succ fu13 ih13 =>
            intro v g1 g2 H locs hP hS ls hl
            have hD := z_Dm hinj (z_cM G am (y_s1 (y_s2 μ a b mi u) u a b mi v) ν)
            refine lv_iload hx hb dX5_shorten_13 (lv_at hl 5 rfl) ?_
            refine lv_bipush (v := nI 8) hx hb dX5_shorten_15 (by decide) ?_
            refine lv_icmp_ge (tgt := 122) hx hb dX5_shorten_17 (by decide) (fun c17 => ?_) (fun c17 => ?_)
            · skip
              have hv : v = 8 := Nat.le_antisymm g1 (z_ge (by omega) (by omega) c17)
              refine lv_iinc (v := nI (u + 1)) (lv' := [(4, .int (nI (u + 1))), (0, .ref (am 0)), (1, .int (nI a)), (2, .int (nI b)), (3, .int mi), (5, .int (nI v))]) hx hb dX5_shorten_122 hl (k := 4) rfl (z_inc _) (by decide) rfl (fun ls hl => ?_)
              refine lv_goto (tgt := 3) hx hb dX5_shorten_125 (by decide) ?_
              -- back to 3
              have hP : va_P (z_DD G) vwCl (z_wM G am (y_s2 μ a b mi (u + 1)) ν) H := by rw [hv] at hP; exact hP
              exact ih3 (u + 1) (by omega) (by omega) _ _ hP hS ls (lv_sub hl [1, 2, 3, 4, 0] rfl)
            · skip
              have hv := z_ng (by omega) (by omega) c17
              refine lv_aload_n hx hb dX5_shorten_20 rfl (lv_at hl 0 rfl) ?_
              refine va_get (D := z_DD G) (ci := 5) (v := .ref (am 4)) (C := RX5) (T := TX5) (N := 13) hx hb hts hi_RX5 hown hK hP 0 z_m0 rfl 6 (by decide) hf_RX5_19 (fun _ h9 => h9) rfl dX5_shorten_21 ?_
              refine lv_bipush (v := nI 8) hx hb dX5_shorten_24 (by decide) ?_
              refine lv_iload hx hb dX5_shorten_26 (lv_at hl 4 rfl) ?_
              refine lv_imul hx hb dX5_shorten_28 ?_
              refine z_top (show (.int ((nI 8) * (nI u)) : Value) = .int (nI (8 * u)) from by rw [pk_mul]) ?_
              refine lv_iload_n hx hb dX5_shorten_29 rfl (lv_at hl 1 rfl) ?_
              refine lv_iadd hx hb dX5_shorten_30 ?_
              refine z_top (show (.int ((nI (8 * u)) + (nI a)) : Value) = .int (nI ((8 * u) + a)) from by rw [nI_add]) ?_
              refine z_iald (k := ((8 * u) + a)) (f := fun z9 => (y_s1 (y_s2 μ a b mi u) u a b mi v) 10 z9) hx hb hK hP 4 0 z_m4 rfl (by omega) (by decide) dX5_shorten_31 ?_
              refine lv_istore (lv' := [(6, .int ((y_s1 (y_s2 μ a b mi u) u a b mi v) 10 ((8 * u) + a))), (0, .ref (am 0)), (1, .int (nI a)), (2, .int (nI b)), (3, .int mi), (4, .int (nI u)), (5, .int (nI v))]) hx hb dX5_shorten_32 hl (by decide) rfl (fun ls hl => ?_)
              refine lv_aload_n hx hb dX5_shorten_34 rfl (lv_at hl 1 rfl) ?_
              refine va_get (D := z_DD G) (ci := 5) (v := .ref (am 4)) (C := RX5) (T := TX5) (N := 13) hx hb hts hi_RX5 hown hK hP 0 z_m0 rfl 6 (by decide) hf_RX5_19 (fun _ h9 => h9) rfl dX5_shorten_35 ?_
              refine lv_bipush (v := nI 8) hx hb dX5_shorten_38 (by decide) ?_
              refine lv_iload_n hx hb dX5_shorten_40 rfl (lv_at hl 3 rfl) ?_
              refine lv_imul hx hb dX5_shorten_41 ?_
              refine z_top (show (.int ((nI 8) * (nI b)) : Value) = .int (nI (8 * b)) from by rw [pk_mul]) ?_
              refine lv_iload hx hb dX5_shorten_42 (lv_at hl 6 rfl) ?_
              refine lv_iadd hx hb dX5_shorten_44 ?_
              refine z_top (show (.int ((nI (8 * b)) + (nI v)) : Value) = .int (nI ((8 * b) + v)) from by rw [nI_add]) ?_
              refine z_iald (k := ((8 * b) + v)) (f := fun z9 => (y_s1 (y_s2 μ a b mi u) u a b mi v) 10 z9) hx hb hK hP 4 0 z_m4 rfl (by omega) (by decide) dX5_shorten_45 ?_
              refine lv_istore (lv' := [(7, .int ((y_s1 (y_s2 μ a b mi u) u a b mi v) 10 ((8 * b) + v))), (6, .int ((y_s1 (y_s2 μ a b mi u) u a b mi v) 10 ((8 * u) + a))), (0, .ref (am 0)), (1, .int (nI a)), (2, .int (nI b)), (3, .int mi), (4, .int (nI u)), (5, .int (nI v))]) hx hb dX5_shorten_46 hl (by decide) rfl (fun ls hl => ?_)
              refine lv_iload hx hb dX5_shorten_48 (lv_at hl 1 rfl) ?_
              refine lv_iconst (v := (-1)) hx hb dX5_shorten_50 (by decide) ?_
              refine lv_icmp_eq (tgt := 116) hx hb dX5_shorten_51 (by decide) (fun c51 => ?_) (fun c51 => ?_)
              · skip
                refine lv_iinc (v := nI (v + 1)) (lv' := [(5, .int (nI (v + 1))), (7, .int ((y_s1 (y_s2 μ a b mi u) u a b mi v) 10 ((8 * b) + v))), (6, .int ((y_s1 (y_s2 μ a b mi u) u a b mi v) 10 ((8 * u) + a))), (0, .ref (am 0)), (1, .int (nI a)), (2, .int (nI b)), (3, .int mi), (4, .int (nI u))]) hx hb dX5_shorten_116 hl (k := 7) rfl (z_inc _) (by decide) rfl (fun ls hl => ?_)
                refine lv_goto (tgt := 13) hx hb dX5_shorten_119 (by decide) ?_
                -- back to 13
                have hP : va_P (z_DD G) vwCl (z_wM G am (y_s1 (y_s2 μ a b mi u) u a b mi (v + 1)) ν) H := by first | (rw [y_s1, y_sx, if_pos c51]; exact hP) | (rw [y_s1, y_sx, if_neg c51, if_pos c57]; exact hP) | (rw [y_s1, y_sx, if_neg c51, if_neg c57, if_pos c81]; exact hP) | (rw [y_s1, y_sx, if_neg c51, if_neg c57, if_neg c81, if_pos c93]; exact hP) | (rw [y_s1, y_sx, if_neg c51, if_neg c57, if_neg c81, if_neg c93]; exact hP)
                exact ih13 (v + 1) (by omega) (by omega) _ _ hP hS ls (lv_sub hl [3, 4, 5, 6, 7, 0] rfl)
              · skip
                refine lv_iload hx hb dX5_shorten_54 (lv_at hl 0 rfl) ?_
                refine lv_iconst (v := (-1)) hx hb dX5_shorten_56 (by decide) ?_
                refine lv_icmp_ne (tgt := 63) hx hb dX5_shorten_57 (by decide) (fun c57 => ?_) (fun c57 => ?_)
                · skip
                  refine lv_aload_n hx hb dX5_shorten_63 rfl (lv_at hl 2 rfl) ?_
                  refine va_get (D := z_DD G) (ci := 5) (v := .ref (am 4)) (C := RX5) (T := TX5) (N := 13) hx hb hts hi_RX5 hown hK hP 0 z_m0 rfl 6 (by decide) hf_RX5_19 (fun _ h9 => h9) rfl dX5_shorten_64 ?_
                  refine lv_bipush (v := nI 8) hx hb dX5_shorten_67 (by decide) ?_
                  refine lv_iload hx hb dX5_shorten_69 (lv_at hl 6 rfl) ?_
                  refine lv_imul hx hb dX5_shorten_71 ?_
                  refine z_top (show (.int ((nI 8) * (nI u)) : Value) = .int (nI (8 * u)) from by rw [pk_mul]) ?_
                  refine lv_iload hx hb dX5_shorten_72 (lv_at hl 7 rfl) ?_
                  refine lv_iadd hx hb dX5_shorten_74 ?_
                  refine z_top (show (.int ((nI (8 * u)) + (nI v)) : Value) = .int (nI ((8 * u) + v)) from by rw [nI_add]) ?_
                  refine z_iald (k := ((8 * u) + v)) (f := fun z9 => (y_s1 (y_s2 μ a b mi u) u a b mi v) 10 z9) hx hb hK hP 4 0 z_m4 rfl (by omega) (by decide) dX5_shorten_75 ?_
                  refine lv_istore (lv' := [(8, .int ((y_s1 (y_s2 μ a b mi u) u a b mi v) 10 ((8 * u) + v))), (7, .int ((y_s1 (y_s2 μ a b mi u) u a b mi v) 10 ((8 * b) + v))), (6, .int ((y_s1 (y_s2 μ a b mi u) u a b mi v) 10 ((8 * u) + a))), (0, .ref (am 0)), (1, .int (nI a)), (2, .int (nI b)), (3, .int mi), (4, .int (nI u)), (5, .int (nI v))]) hx hb dX5_shorten_76 hl (by decide) rfl (fun ls hl => ?_)
                  refine lv_iload hx hb dX5_shorten_78 (lv_at hl 0 rfl) ?_
                  refine lv_iconst (v := (-1)) hx hb dX5_shorten_80 (by decide) ?_
                  refine lv_icmp_eq (tgt := 96) hx hb dX5_shorten_81 (by decide) (fun c81 => ?_) (fun c81 => ?_)
                  · skip
                    refine lv_aload_n hx hb dX5_shorten_96 rfl (lv_at hl 3 rfl) ?_
                    refine va_get (D := z_DD G) (ci := 5) (v := .ref (am 4)) (C := RX5) (T := TX5) (N := 13) hx hb hts hi_RX5 hown hK hP 0 z_m0 rfl 6 (by decide) hf_RX5_19 (fun _ h9 => h9) rfl dX5_shorten_97 ?_
                    refine lv_bipush (v := nI 8) hx hb dX5_shorten_100 (by decide) ?_
                    refine lv_iload hx hb dX5_shorten_102 (lv_at hl 7 rfl) ?_
                    refine lv_imul hx hb dX5_shorten_104 ?_
                    refine z_top (show (.int ((nI 8) * (nI u)) : Value) = .int (nI (8 * u)) from by rw [pk_mul]) ?_
                    refine lv_iload hx hb dX5_shorten_105 (lv_at hl 8 rfl) ?_
                    refine lv_iadd hx hb dX5_shorten_107 ?_
                    refine z_top (show (.int ((nI (8 * u)) + (nI v)) : Value) = .int (nI ((8 * u) + v)) from by rw [nI_add]) ?_
                    refine lv_iload hx hb dX5_shorten_108 (lv_at hl 2 rfl) ?_
                    refine lv_iload_n hx hb dX5_shorten_110 rfl (lv_at hl 6 rfl) ?_
                    refine lv_iadd hx hb dX5_shorten_111 ?_
                    refine lv_iload hx hb dX5_shorten_112 (lv_at hl 1 rfl) ?_
                    refine lv_iadd hx hb dX5_shorten_114 ?_
                    refine va_iast (f := fun z9 => (y_s1 (y_s2 μ a b mi u) u a b mi v) 10 z9) hx hb hK hP hD hS 4 0 z_m4 rfl (vp_in_nI (by omega) (by omega)) dX5_shorten_115 (fun H locs hP hD hS => ?_)
                    have hP : va_P (z_DD G) vwCl (z_wM G am (z_up (y_s1 (y_s2 μ a b mi u) u a b mi v) 10 ((8 * u) + v) ((((y_s1 (y_s2 μ a b mi u) u a b mi v) 10 ((8 * u) + a)) + mi) + ((y_s1 (y_s2 μ a b mi u) u a b mi v) 10 ((8 * b) + v)))) ν) H := Eq.mp (congrArg (fun w => va_P (z_DD G) vwCl w H) (z_tB4 (by omega))) hP
                    have hD := z_Dm hinj (z_cM G am (z_up (y_s1 (y_s2 μ a b mi u) u a b mi v) 10 ((8 * u) + v) ((((y_s1 (y_s2 μ a b mi u) u a b mi v) 10 ((8 * u) + a)) + mi) + ((y_s1 (y_s2 μ a b mi u) u a b mi v) 10 ((8 * b) + v)))) ν)
                    refine lv_iinc (v := nI (v + 1)) (lv' := [(5, .int (nI (v + 1))), (8, .int ((y_s1 (y_s2 μ a b mi u) u a b mi v) 10 ((8 * u) + v))), (7, .int ((y_s1 (y_s2 μ a b mi u) u a b mi v) 10 ((8 * b) + v))), (6, .int ((y_s1 (y_s2 μ a b mi u) u a b mi v) 10 ((8 * u) + a))), (0, .ref (am 0)), (1, .int (nI a)), (2, .int (nI b)), (3, .int mi), (4, .int (nI u))]) hx hb dX5_shorten_116 hl (k := 8) rfl (z_inc _) (by decide) rfl (fun ls hl => ?_)
                    refine lv_goto (tgt := 13) hx hb dX5_shorten_119 (by decide) ?_
                    -- back to 13
                    have hP : va_P (z_DD G) vwCl (z_wM G am (y_s1 (y_s2 μ a b mi u) u a b mi (v + 1)) ν) H := by first | (rw [y_s1, y_sx, if_pos c51]; exact hP) | (rw [y_s1, y_sx, if_neg c51, if_pos c57]; exact hP) | (rw [y_s1, y_sx, if_neg c51, if_neg c57, if_pos c81]; exact hP) | (rw [y_s1, y_sx, if_neg c51, if_neg c57, if_neg c81, if_pos c93]; exact hP) | (rw [y_s1, y_sx, if_neg c51, if_neg c57, if_neg c81, if_neg c93]; exact hP)
                    exact ih13 (v + 1) (by omega) (by omega) _ _ hP hS ls (lv_sub hl [4, 5, 6, 7, 8, 0] rfl)
                  · skip
                    refine lv_iload hx hb dX5_shorten_84 (lv_at hl 2 rfl) ?_
                    refine lv_iload_n hx hb dX5_shorten_86 rfl (lv_at hl 6 rfl) ?_
                    refine lv_iadd hx hb dX5_shorten_87 ?_
                    refine lv_iload hx hb dX5_shorten_88 (lv_at hl 1 rfl) ?_
                    refine lv_iadd hx hb dX5_shorten_90 ?_
                    refine lv_iload hx hb dX5_shorten_91 (lv_at hl 0 rfl) ?_
                    refine lv_icmp_ge (tgt := 116) hx hb dX5_shorten_93 (by decide) (fun c93 => ?_) (fun c93 => ?_)
                    · skip
                      refine lv_iinc (v := nI (v + 1)) (lv' := [(5, .int (nI (v + 1))), (8, .int ((y_s1 (y_s2 μ a b mi u) u a b mi v) 10 ((8 * u) + v))), (7, .int ((y_s1 (y_s2 μ a b mi u) u a b mi v) 10 ((8 * b) + v))), (6, .int ((y_s1 (y_s2 μ a b mi u) u a b mi v) 10 ((8 * u) + a))), (0, .ref (am 0)), (1, .int (nI a)), (2, .int (nI b)), (3, .int mi), (4, .int (nI u))]) hx hb dX5_shorten_116 hl (k := 8) rfl (z_inc _) (by decide) rfl (fun ls hl => ?_)
                      refine lv_goto (tgt := 13) hx hb dX5_shorten_119 (by decide) ?_
                      -- back to 13
                      have hP : va_P (z_DD G) vwCl (z_wM G am (y_s1 (y_s2 μ a b mi u) u a b mi (v + 1)) ν) H := by first | (rw [y_s1, y_sx, if_pos c51]; exact hP) | (rw [y_s1, y_sx, if_neg c51, if_pos c57]; exact hP) | (rw [y_s1, y_sx, if_neg c51, if_neg c57, if_pos c81]; exact hP) | (rw [y_s1, y_sx, if_neg c51, if_neg c57, if_neg c81, if_pos c93]; exact hP) | (rw [y_s1, y_sx, if_neg c51, if_neg c57, if_neg c81, if_neg c93]; exact hP)
                      exact ih13 (v + 1) (by omega) (by omega) _ _ hP hS ls (lv_sub hl [4, 5, 6, 7, 8, 0] rfl)
                    · skip
                      refine lv_aload_n hx hb dX5_shorten_96 rfl (lv_at hl 3 rfl) ?_
                      refine va_get (D := z_DD G) (ci := 5) (v := .ref (am 4)) (C := RX5) (T := TX5) (N := 13) hx hb hts hi_RX5 hown hK hP 0 z_m0 rfl 6 (by decide) hf_RX5_19 (fun _ h9 => h9) rfl dX5_shorten_97 ?_
                      refine lv_bipush (v := nI 8) hx hb dX5_shorten_100 (by decide) ?_
                      refine lv_iload hx hb dX5_shorten_102 (lv_at hl 7 rfl) ?_
                      refine lv_imul hx hb dX5_shorten_104 ?_
                      refine z_top (show (.int ((nI 8) * (nI u)) : Value) = .int (nI (8 * u)) from by rw [pk_mul]) ?_
                      refine lv_iload hx hb dX5_shorten_105 (lv_at hl 8 rfl) ?_
                      refine lv_iadd hx hb dX5_shorten_107 ?_
                      refine z_top (show (.int ((nI (8 * u)) + (nI v)) : Value) = .int (nI ((8 * u) + v)) from by rw [nI_add]) ?_
                      refine lv_iload hx hb dX5_shorten_108 (lv_at hl 2 rfl) ?_
                      refine lv_iload_n hx hb dX5_shorten_110 rfl (lv_at hl 6 rfl) ?_
                      refine lv_iadd hx hb dX5_shorten_111 ?_
                      refine lv_iload hx hb dX5_shorten_112 (lv_at hl 1 rfl) ?_
                      refine lv_iadd hx hb dX5_shorten_114 ?_
                      refine va_iast (f := fun z9 => (y_s1 (y_s2 μ a b mi u) u a b mi v) 10 z9) hx hb hK hP hD hS 4 0 z_m4 rfl (vp_in_nI (by omega) (by omega)) dX5_shorten_115 (fun H locs hP hD hS => ?_)
                      have hP : va_P (z_DD G) vwCl (z_wM G am (z_up (y_s1 (y_s2 μ a b mi u) u a b mi v) 10 ((8 * u) + v) ((((y_s1 (y_s2 μ a b mi u) u a b mi v) 10 ((8 * u) + a)) + mi) + ((y_s1 (y_s2 μ a b mi u) u a b mi v) 10 ((8 * b) + v)))) ν) H := Eq.mp (congrArg (fun w => va_P (z_DD G) vwCl w H) (z_tB4 (by omega))) hP
                      have hD := z_Dm hinj (z_cM G am (z_up (y_s1 (y_s2 μ a b mi u) u a b mi v) 10 ((8 * u) + v) ((((y_s1 (y_s2 μ a b mi u) u a b mi v) 10 ((8 * u) + a)) + mi) + ((y_s1 (y_s2 μ a b mi u) u a b mi v) 10 ((8 * b) + v)))) ν)
                      refine lv_iinc (v := nI (v + 1)) (lv' := [(5, .int (nI (v + 1))), (8, .int ((y_s1 (y_s2 μ a b mi u) u a b mi v) 10 ((8 * u) + v))), (7, .int ((y_s1 (y_s2 μ a b mi u) u a b mi v) 10 ((8 * b) + v))), (6, .int ((y_s1 (y_s2 μ a b mi u) u a b mi v) 10 ((8 * u) + a))), (0, .ref (am 0)), (1, .int (nI a)), (2, .int (nI b)), (3, .int mi), (4, .int (nI u))]) hx hb dX5_shorten_116 hl (k := 8) rfl (z_inc _) (by decide) rfl (fun ls hl => ?_)
                      refine lv_goto (tgt := 13) hx hb dX5_shorten_119 (by decide) ?_
                      -- back to 13
                      have hP : va_P (z_DD G) vwCl (z_wM G am (y_s1 (y_s2 μ a b mi u) u a b mi (v + 1)) ν) H := by first | (rw [y_s1, y_sx, if_pos c51]; exact hP) | (rw [y_s1, y_sx, if_neg c51, if_pos c57]; exact hP) | (rw [y_s1, y_sx, if_neg c51, if_neg c57, if_pos c81]; exact hP) | (rw [y_s1, y_sx, if_neg c51, if_neg c57, if_neg c81, if_pos c93]; exact hP) | (rw [y_s1, y_sx, if_neg c51, if_neg c57, if_neg c81, if_neg c93]; exact hP)
                      exact ih13 (v + 1) (by omega) (by omega) _ _ hP hS ls (lv_sub hl [4, 5, 6, 7, 8, 0] rfl)
                · skip
                  refine lv_goto (tgt := 116) hx hb dX5_shorten_60 (by decide) ?_
                  refine lv_iinc (v := nI (v + 1)) (lv' := [(5, .int (nI (v + 1))), (7, .int ((y_s1 (y_s2 μ a b mi u) u a b mi v) 10 ((8 * b) + v))), (6, .int ((y_s1 (y_s2 μ a b mi u) u a b mi v) 10 ((8 * u) + a))), (0, .ref (am 0)), (1, .int (nI a)), (2, .int (nI b)), (3, .int mi), (4, .int (nI u))]) hx hb dX5_shorten_116 hl (k := 7) rfl (z_inc _) (by decide) rfl (fun ls hl => ?_)
                  refine lv_goto (tgt := 13) hx hb dX5_shorten_119 (by decide) ?_
                  -- back to 13
                  have hP : va_P (z_DD G) vwCl (z_wM G am (y_s1 (y_s2 μ a b mi u) u a b mi (v + 1)) ν) H := by first | (rw [y_s1, y_sx, if_pos c51]; exact hP) | (rw [y_s1, y_sx, if_neg c51, if_pos c57]; exact hP) | (rw [y_s1, y_sx, if_neg c51, if_neg c57, if_pos c81]; exact hP) | (rw [y_s1, y_sx, if_neg c51, if_neg c57, if_neg c81, if_pos c93]; exact hP) | (rw [y_s1, y_sx, if_neg c51, if_neg c57, if_neg c81, if_neg c93]; exact hP)
                  exact ih13 (v + 1) (by omega) (by omega) _ _ hP hS ls (lv_sub hl [3, 4, 5, 6, 7, 0] rfl)
        exact lp13 9 0 (by omega) (by omega) _ _ hP hS ls (lv_sub hl [1, 2, 3, 4, 5, 0] rfl)
  exact lp3 9 0 (by omega) (by omega) _ _ hP hS ls (lv_sub hl [1, 2, 3, 4, 0] rfl)

set_option maxHeartbeats 4000000 in
set_option maxRecDepth 100000 in
theorem c_X5_road (l : Launch) (G : z_GT) (am : Nat → Nat) (μ : Nat → Nat → Int32) (ν : Nat → Nat → Nat) (hinj : ∀ i j, i < 10 → j < 10 → am i = am j → i = j) (hn8 : ν 0 0 ≤ 8) (a b : Nat) (ha : a < ν 0 0) (hb8 : b < ν 0 0) (mi : Int32) (g1 : ¬ a = b) (g2 : ¬ z_wi mi 1 240 = 0) (g3 : ¬ μ 8 0 = 20) : Met l yX5_road wsX5_road ({ frames := 2, cells := 0, slots := 0, locals := 43 } : Room) (z_Pr G [.ref (am 0), .int (nI a), .int (nI b), .int mi] (z_wM G am μ ν)) (z_Qm G (some (.int (y_rd μ a b mi 8 0))) (z_wM G am (y_rd μ a b mi) ν) (z_A 10 am)) 0 0 (z_A 10 am) := by
  refine Met.ofW (cc := cX5_road) (maxL := 4) (ret := (some .int)) (by decide) rfl ?_
  intro p e s m args below meth c s₁ B hml hw0
  obtain ⟨rfl, hX, hP⟩ := hw0
  have hK := hX.1
  have hx := B.exec
  have hb := B.bytes
  have hr := B.returns
  have hts := atoms_spec (ws := wsX5_road) B.pre
  have hown : s.vm.findClass RX5 = some m.cls := findClass_of_methodNamed B.named
  have hlocks := B.notSynchronized
  have hl := lv_entry ([.ref (am 0), .int (nI a), .int (nI b), .int mi]) (n := 4) (Nat.le_of_ble_eq_true rfl)
  rw [lg_entry_eq]
  generalize (lg_sl ([.ref (am 0), .int (nI a), .int (nI b), .int mi]) ++ List.replicate (4 - (lg_sl ([.ref (am 0), .int (nI a), .int (nI b), .int mi])).length) Slot.unset).toArray = ls at hl ⊢
  have hl : lv_has ls 4 [(0, .ref (am 0)), (1, .int (nI a)), (2, .int (nI b)), (3, .int mi)] := hl
  have hf_RX5_37 : (Cond.fieldLink RX5 37 "BlossomToursModel" "thrown" "I").before ([.ref (am 0), .int (nI a), .int (nI b), .int mi] : List Value).toArray s = true := hts _ (by decide +kernel)
  have hf_RX5_59 : (Cond.fieldLink RX5 59 "BlossomToursModel" "roads" "I").before ([.ref (am 0), .int (nI a), .int (nI b), .int mi] : List Value).toArray s = true := hts _ (by decide +kernel)
  have hi_RX5 : ∀ w ∈ u_ws RX5 TX5 13, w ∈ wsX5_road := by decide +kernel
  have hS : va_S (z_A 10 am) s.heap s.heap [] := va_S.rf
  have hD := z_Dm hinj (z_cM G am μ ν)
  refine lv_aload_n hx hb dX5_road_0 rfl (lv_at hl 0 rfl) ?_
  refine lv_iconst (v := 0) hx hb dX5_road_1 (by decide) ?_
  refine va_put (D := z_DD G) (ci := 5) (v := .int 0) (ty := .int) (C := RX5) (T := TX5) (N := 13) hx hb hts hi_RX5 tyX5 tyX5_ok nmX5 hown hK hP hD hS 0 z_m0 rfl 0 (by decide) hf_RX5_37 (fun _ h9 => h9) rfl (by decide +kernel) rfl rfl (Nat.le_of_ble_eq_true rfl) dX5_road_2 (fun H locs hP hD hS => ?_)
  have hP : va_P (z_DD G) vwCl (z_wM G am (z_up μ 8 1 0) ν) H := Eq.mp (congrArg (fun w => va_P (z_DD G) vwCl w H) z_tM0) hP
  have hD := z_Dm hinj (z_cM G am (z_up μ 8 1 0) ν)
  refine lv_aload_n hx hb dX5_road_5 rfl (lv_at hl 0 rfl) ?_
  refine lv_iload_n hx hb dX5_road_6 rfl (lv_at hl 1 rfl) ?_
  refine z_call (va_runV (As := [.int (nI a)]) (rest := []) ⟨hx, hb, hml, hown, hts⟩ (c_X5_isValley l G am (am 9) (z_up μ 8 1 0) ν (nI a)) (cwV 1 hts gX5_road_X5_isValley rfl rfl rfl (by decide +kernel) ⟨Nat.le_of_ble_eq_true rfl, Nat.le_of_ble_eq_true rfl⟩) (z_prW (ci := 5) (k := 0) hX hP (z_NM hP) rfl z_m0) rfl rfl hl.1 rfl (lv_room (Nat.le_of_ble_eq_true rfl)) dX5_road_7 ⟨Nat.le_of_ble_eq_true rfl, Nat.le_of_ble_eq_true rfl⟩) (fun _ h9 => h9) ?_
  refine W.eq (g2 := F0 m 10 ls [.int (z_wi (nI a) 0 (nI (ν 0 0) - 1))]) rfl ?_
  refine lv_if_eq (tgt := 21) hx hb dX5_road_10 (by decide) (fun c10 => ?_) (fun c10 => ?_)
  · skip
    exact absurd c10 (z_iv_t ha (by omega))
  · skip
    refine lv_aload_n hx hb dX5_road_13 rfl (lv_at hl 0 rfl) ?_
    refine lv_iload_n hx hb dX5_road_14 rfl (lv_at hl 2 rfl) ?_
    refine z_call (va_runV (As := [.int (nI b)]) (rest := []) ⟨hx, hb, hml, hown, hts⟩ (c_X5_isValley l G am (am 9) (z_up μ 8 1 0) ν (nI b)) (cwV 1 hts gX5_road_X5_isValley rfl rfl rfl (by decide +kernel) ⟨Nat.le_of_ble_eq_true rfl, Nat.le_of_ble_eq_true rfl⟩) (z_prW (ci := 5) (k := 0) hX hP (z_NM hP) rfl z_m0) rfl rfl hl.1 rfl (lv_room (Nat.le_of_ble_eq_true rfl)) dX5_road_15 ⟨Nat.le_of_ble_eq_true rfl, Nat.le_of_ble_eq_true rfl⟩) (fun _ h9 => h9) ?_
    refine W.eq (g2 := F0 m 18 ls [.int (z_wi (nI b) 0 (nI (ν 0 0) - 1))]) rfl ?_
    refine lv_if_ne (tgt := 27) hx hb dX5_road_18 (by decide) (fun c18 => ?_) (fun c18 => ?_)
    · skip
      refine lv_iload_n hx hb dX5_road_27 rfl (lv_at hl 1 rfl) ?_
      refine lv_iload_n hx hb dX5_road_28 rfl (lv_at hl 2 rfl) ?_
      refine lv_icmp_eq (tgt := 43) hx hb dX5_road_29 (by decide) (fun c29 => ?_) (fun c29 => ?_)
      · skip
        exact absurd ((nI_eq (by omega) (by omega)).mp c29) g1
      · skip
        refine lv_iload_n hx hb dX5_road_32 rfl (lv_at hl 3 rfl) ?_
        refine lv_iconst (v := 1) hx hb dX5_road_33 (by decide) ?_
        refine lv_sipush (v := 240) hx hb dX5_road_34 (by decide) ?_
        refine z_call (va_runS (As := [.int mi, .int 1, .int 240]) (rest := []) ⟨hx, hb, hml, hown, hts⟩ (c_X5_isIn l G mi 1 240) (va_cwS 3 hts gX5_road_X5_isIn rfl rfl rfl (by decide +kernel) ⟨Nat.le_of_ble_eq_true rfl, Nat.le_of_ble_eq_true rfl⟩) (z_prS hX z_P0) rfl rfl hl.1 rfl (lv_room (Nat.le_of_ble_eq_true rfl)) dX5_road_37 ⟨Nat.le_of_ble_eq_true rfl, Nat.le_of_ble_eq_true rfl⟩) (fun _ h9 => h9) ?_
        refine W.eq (g2 := F0 m 40 ls [.int (z_wi mi 1 240)]) rfl ?_
        refine lv_if_ne (tgt := 49) hx hb dX5_road_40 (by decide) (fun c40 => ?_) (fun c40 => ?_)
        · skip
          refine lv_aload_n hx hb dX5_road_49 rfl (lv_at hl 0 rfl) ?_
          refine va_get (D := z_DD G) (ci := 5) (v := .int ((z_up μ 8 1 0) 8 0)) (C := RX5) (T := TX5) (N := 13) hx hb hts hi_RX5 hown hK hP 0 z_m0 rfl 5 (by decide) hf_RX5_59 (fun _ h9 => h9) rfl dX5_road_50 ?_
          refine lv_bipush (v := 20) hx hb dX5_road_53 (by decide) ?_
          refine lv_icmp_ne (tgt := 64) hx hb dX5_road_55 (by decide) (fun c55 => ?_) (fun c55 => ?_)
          · skip
            refine lv_aload_n hx hb dX5_road_64 rfl (lv_at hl 0 rfl) ?_
            refine lv_dup hx hb dX5_road_65 rfl ?_
            refine va_get (D := z_DD G) (ci := 5) (v := .int ((z_up μ 8 1 0) 8 0)) (C := RX5) (T := TX5) (N := 13) hx hb hts hi_RX5 hown hK hP 0 z_m0 rfl 5 (by decide) hf_RX5_59 (fun _ h9 => h9) rfl dX5_road_66 ?_
            refine lv_iconst (v := 1) hx hb dX5_road_69 (by decide) ?_
            refine lv_iadd hx hb dX5_road_70 ?_
            refine va_put (D := z_DD G) (ci := 5) (v := .int (((z_up μ 8 1 0) 8 0) + 1)) (ty := .int) (C := RX5) (T := TX5) (N := 13) hx hb hts hi_RX5 tyX5 tyX5_ok nmX5 hown hK hP hD hS 0 z_m0 rfl 5 (by decide) hf_RX5_59 (fun _ h9 => h9) rfl (by decide +kernel) rfl rfl (Nat.le_of_ble_eq_true rfl) dX5_road_71 (fun H locs hP hD hS => ?_)
            have hP : va_P (z_DD G) vwCl (z_wM G am (z_up (z_up μ 8 1 0) 8 0 (((z_up μ 8 1 0) 8 0) + 1)) ν) H := Eq.mp (congrArg (fun w => va_P (z_DD G) vwCl w H) z_tM5) hP
            have hD := z_Dm hinj (z_cM G am (z_up (z_up μ 8 1 0) 8 0 (((z_up μ 8 1 0) 8 0) + 1)) ν)
            refine lv_aload_n hx hb dX5_road_74 rfl (lv_at hl 0 rfl) ?_
            refine lv_iload_n hx hb dX5_road_75 rfl (lv_at hl 1 rfl) ?_
            refine lv_iload_n hx hb dX5_road_76 rfl (lv_at hl 2 rfl) ?_
            refine lv_iload_n hx hb dX5_road_77 rfl (lv_at hl 3 rfl) ?_
            refine z_callm (va_runV (As := [.int (nI a), .int (nI b), .int mi]) (rest := []) ⟨hx, hb, hml, hown, hts⟩ (c_X5_shorten l G am (z_up (z_up μ 8 1 0) 8 0 (((z_up μ 8 1 0) 8 0) + 1)) ν hinj a b mi (Nat.lt_of_lt_of_le ha hn8) (Nat.lt_of_lt_of_le hb8 hn8)) (cwV 3 hts gX5_road_X5_shorten rfl rfl rfl (by decide +kernel) ⟨Nat.le_of_ble_eq_true rfl, Nat.le_of_ble_eq_true rfl⟩) (z_prV (ci := 5) (k := 0) hX hP rfl z_m0) rfl rfl hl.1 rfl (lv_room (Nat.le_of_ble_eq_true rfl)) dX5_road_78 ⟨Nat.le_of_ble_eq_true rfl, Nat.le_of_ble_eq_true rfl⟩) hS (fun _ _ h9 => h9) (fun _ h9 => h9) (fun H locs hP hz9 hk9 hS => ?_)
            have hD := z_Dm hinj (z_cM G am (y_sh (z_up (z_up μ 8 1 0) 8 0 (((z_up μ 8 1 0) 8 0) + 1)) a b mi) ν)
            refine lv_aload_n hx hb dX5_road_81 rfl (lv_at hl 0 rfl) ?_
            refine lv_iload_n hx hb dX5_road_82 rfl (lv_at hl 2 rfl) ?_
            refine lv_iload_n hx hb dX5_road_83 rfl (lv_at hl 1 rfl) ?_
            refine lv_iload_n hx hb dX5_road_84 rfl (lv_at hl 3 rfl) ?_
            refine z_callm (va_runV (As := [.int (nI b), .int (nI a), .int mi]) (rest := []) ⟨hx, hb, hml, hown, hts⟩ (c_X5_shorten l G am (y_sh (z_up (z_up μ 8 1 0) 8 0 (((z_up μ 8 1 0) 8 0) + 1)) a b mi) ν hinj b a mi (Nat.lt_of_lt_of_le hb8 hn8) (Nat.lt_of_lt_of_le ha hn8)) (cwV 3 hts gX5_road_X5_shorten rfl rfl rfl (by decide +kernel) ⟨Nat.le_of_ble_eq_true rfl, Nat.le_of_ble_eq_true rfl⟩) (z_prV (ci := 5) (k := 0) hX hP rfl z_m0) rfl rfl hl.1 rfl (lv_room (Nat.le_of_ble_eq_true rfl)) dX5_road_85 ⟨Nat.le_of_ble_eq_true rfl, Nat.le_of_ble_eq_true rfl⟩) hS (fun _ _ h9 => h9) (fun _ h9 => h9) (fun H locs hP hz9 hk9 hS => ?_)
            have hD := z_Dm hinj (z_cM G am (y_sh (y_sh (z_up (z_up μ 8 1 0) 8 0 (((z_up μ 8 1 0) 8 0) + 1)) a b mi) b a mi) ν)
            refine lv_aload_n hx hb dX5_road_88 rfl (lv_at hl 0 rfl) ?_
            refine va_get (D := z_DD G) (ci := 5) (v := .int ((y_sh (y_sh (z_up (z_up μ 8 1 0) 8 0 (((z_up μ 8 1 0) 8 0) + 1)) a b mi) b a mi) 8 0)) (C := RX5) (T := TX5) (N := 13) hx hb hts hi_RX5 hown hK hP 0 z_m0 rfl 5 (by decide) hf_RX5_59 (fun _ h9 => h9) rfl dX5_road_89 ?_
            have hPf : va_P (z_DD G) vwCl (z_wM G am (y_rd μ a b mi) ν) H := by exact hP
            refine z_iret hx hb hr hlocks dX5_road_92 (fun t ht hW => ⟨rfl, by rw [ht]; exact hPf, hS.F ht⟩) hS.2.2 ?_
            rfl
          · skip
            exact absurd c55 g3
        · skip
          exact absurd c40 g2
    · skip
      exact absurd c18 (z_iv_t hb8 (by omega))

set_option maxHeartbeats 4000000 in
set_option maxRecDepth 100000 in
theorem x_X5_road_1 (l : Launch) (G : z_GT) (am : Nat → Nat) (μ : Nat → Nat → Int32) (ν : Nat → Nat → Nat) (hinj : ∀ i j, i < 10 → j < 10 → am i = am j → i = j) (hn8 : ν 0 0 ≤ 8) (v w mi : Int32) (h : v < 0 ∨ ¬ v < nI (ν 0 0)) : Met l yX5_road wsX5_road ({ frames := 2, cells := 0, slots := 0, locals := 43 } : Room) (z_Pr G [.ref (am 0), .int v, .int w, .int mi] (z_wM G am μ ν)) (z_Qm G (some (.int 0)) (z_wM G am (y_no μ 1) ν) (z_A 10 am)) 0 0 (z_A 10 am) := by
  refine Met.ofW (cc := cX5_road) (maxL := 4) (ret := (some .int)) (by decide) rfl ?_
  intro p e s m args below meth c s₁ B hml hw0
  obtain ⟨rfl, hX, hP⟩ := hw0
  have hK := hX.1
  have hx := B.exec
  have hb := B.bytes
  have hr := B.returns
  have hts := atoms_spec (ws := wsX5_road) B.pre
  have hown : s.vm.findClass RX5 = some m.cls := findClass_of_methodNamed B.named
  have hlocks := B.notSynchronized
  have hl := lv_entry ([.ref (am 0), .int v, .int w, .int mi]) (n := 4) (Nat.le_of_ble_eq_true rfl)
  rw [lg_entry_eq]
  generalize (lg_sl ([.ref (am 0), .int v, .int w, .int mi]) ++ List.replicate (4 - (lg_sl ([.ref (am 0), .int v, .int w, .int mi])).length) Slot.unset).toArray = ls at hl ⊢
  have hl : lv_has ls 4 [(0, .ref (am 0)), (1, .int v), (2, .int w), (3, .int mi)] := hl
  have hf_RX5_37 : (Cond.fieldLink RX5 37 "BlossomToursModel" "thrown" "I").before ([.ref (am 0), .int v, .int w, .int mi] : List Value).toArray s = true := hts _ (by decide +kernel)
  have hi_RX5 : ∀ w ∈ u_ws RX5 TX5 13, w ∈ wsX5_road := by decide +kernel
  have hS : va_S (z_A 10 am) s.heap s.heap [] := va_S.rf
  have hD := z_Dm hinj (z_cM G am μ ν)
  refine lv_aload_n hx hb dX5_road_0 rfl (lv_at hl 0 rfl) ?_
  refine lv_iconst (v := 0) hx hb dX5_road_1 (by decide) ?_
  refine va_put (D := z_DD G) (ci := 5) (v := .int 0) (ty := .int) (C := RX5) (T := TX5) (N := 13) hx hb hts hi_RX5 tyX5 tyX5_ok nmX5 hown hK hP hD hS 0 z_m0 rfl 0 (by decide) hf_RX5_37 (fun _ h9 => h9) rfl (by decide +kernel) rfl rfl (Nat.le_of_ble_eq_true rfl) dX5_road_2 (fun H locs hP hD hS => ?_)
  have hP : va_P (z_DD G) vwCl (z_wM G am (z_up μ 8 1 0) ν) H := Eq.mp (congrArg (fun w => va_P (z_DD G) vwCl w H) z_tM0) hP
  have hD := z_Dm hinj (z_cM G am (z_up μ 8 1 0) ν)
  refine lv_aload_n hx hb dX5_road_5 rfl (lv_at hl 0 rfl) ?_
  refine lv_iload_n hx hb dX5_road_6 rfl (lv_at hl 1 rfl) ?_
  refine z_call (va_runV (As := [.int v]) (rest := []) ⟨hx, hb, hml, hown, hts⟩ (c_X5_isValley l G am (am 9) (z_up μ 8 1 0) ν v) (cwV 1 hts gX5_road_X5_isValley rfl rfl rfl (by decide +kernel) ⟨Nat.le_of_ble_eq_true rfl, Nat.le_of_ble_eq_true rfl⟩) (z_prW (ci := 5) (k := 0) hX hP (z_NM hP) rfl z_m0) rfl rfl hl.1 rfl (lv_room (Nat.le_of_ble_eq_true rfl)) dX5_road_7 ⟨Nat.le_of_ble_eq_true rfl, Nat.le_of_ble_eq_true rfl⟩) (fun _ h9 => h9) ?_
  refine W.eq (g2 := F0 m 10 ls [.int (z_wi v 0 (nI (ν 0 0) - 1))]) rfl ?_
  refine lv_if_eq (tgt := 21) hx hb dX5_road_10 (by decide) (fun c10 => ?_) (fun c10 => ?_)
  · skip
    refine lv_aload_n hx hb dX5_road_21 rfl (lv_at hl 0 rfl) ?_
    refine lv_iconst (v := 1) hx hb dX5_road_22 (by decide) ?_
    refine z_callm (va_runV (As := [.int 1]) (rest := []) ⟨hx, hb, hml, hown, hts⟩ (c_X5_no l G am (z_up μ 8 1 0) ν hinj 1) (cwV 1 hts gX5_road_X5_no rfl rfl rfl (by decide +kernel) ⟨Nat.le_of_ble_eq_true rfl, Nat.le_of_ble_eq_true rfl⟩) (z_prV (ci := 5) (k := 0) hX hP rfl z_m0) rfl rfl hl.1 rfl (lv_room (Nat.le_of_ble_eq_true rfl)) dX5_road_23 ⟨Nat.le_of_ble_eq_true rfl, Nat.le_of_ble_eq_true rfl⟩) hS (fun _ _ h9 => h9) (fun _ h9 => h9) (fun H locs hP hz9 hk9 hS => ?_)
    have hD := z_Dm hinj (z_cM G am (z_up (z_up μ 8 1 0) 8 1 1) ν)
    refine W.eq (g2 := F0 m 26 ls [.int 0]) rfl ?_
    have hPf : va_P (z_DD G) vwCl (z_wM G am (y_no μ 1) ν) H := by exact hP
    refine z_iret hx hb hr hlocks dX5_road_26 (fun t ht hW => ⟨rfl, by rw [ht]; exact hPf, hS.F ht⟩) hS.2.2 ?_
    rfl
  · skip
    exact absurd (z_iv_f (by omega) h) c10

set_option maxHeartbeats 4000000 in
set_option maxRecDepth 100000 in
theorem x_X5_road_2 (l : Launch) (G : z_GT) (am : Nat → Nat) (μ : Nat → Nat → Int32) (ν : Nat → Nat → Nat) (hinj : ∀ i j, i < 10 → j < 10 → am i = am j → i = j) (hn8 : ν 0 0 ≤ 8) (a : Nat) (ha : a < ν 0 0) (w mi : Int32) (h : w < 0 ∨ ¬ w < nI (ν 0 0)) : Met l yX5_road wsX5_road ({ frames := 2, cells := 0, slots := 0, locals := 43 } : Room) (z_Pr G [.ref (am 0), .int (nI a), .int w, .int mi] (z_wM G am μ ν)) (z_Qm G (some (.int 0)) (z_wM G am (y_no μ 1) ν) (z_A 10 am)) 0 0 (z_A 10 am) := by
  refine Met.ofW (cc := cX5_road) (maxL := 4) (ret := (some .int)) (by decide) rfl ?_
  intro p e s m args below meth c s₁ B hml hw0
  obtain ⟨rfl, hX, hP⟩ := hw0
  have hK := hX.1
  have hx := B.exec
  have hb := B.bytes
  have hr := B.returns
  have hts := atoms_spec (ws := wsX5_road) B.pre
  have hown : s.vm.findClass RX5 = some m.cls := findClass_of_methodNamed B.named
  have hlocks := B.notSynchronized
  have hl := lv_entry ([.ref (am 0), .int (nI a), .int w, .int mi]) (n := 4) (Nat.le_of_ble_eq_true rfl)
  rw [lg_entry_eq]
  generalize (lg_sl ([.ref (am 0), .int (nI a), .int w, .int mi]) ++ List.replicate (4 - (lg_sl ([.ref (am 0), .int (nI a), .int w, .int mi])).length) Slot.unset).toArray = ls at hl ⊢
  have hl : lv_has ls 4 [(0, .ref (am 0)), (1, .int (nI a)), (2, .int w), (3, .int mi)] := hl
  have hf_RX5_37 : (Cond.fieldLink RX5 37 "BlossomToursModel" "thrown" "I").before ([.ref (am 0), .int (nI a), .int w, .int mi] : List Value).toArray s = true := hts _ (by decide +kernel)
  have hi_RX5 : ∀ w ∈ u_ws RX5 TX5 13, w ∈ wsX5_road := by decide +kernel
  have hS : va_S (z_A 10 am) s.heap s.heap [] := va_S.rf
  have hD := z_Dm hinj (z_cM G am μ ν)
  refine lv_aload_n hx hb dX5_road_0 rfl (lv_at hl 0 rfl) ?_
  refine lv_iconst (v := 0) hx hb dX5_road_1 (by decide) ?_
  refine va_put (D := z_DD G) (ci := 5) (v := .int 0) (ty := .int) (C := RX5) (T := TX5) (N := 13) hx hb hts hi_RX5 tyX5 tyX5_ok nmX5 hown hK hP hD hS 0 z_m0 rfl 0 (by decide) hf_RX5_37 (fun _ h9 => h9) rfl (by decide +kernel) rfl rfl (Nat.le_of_ble_eq_true rfl) dX5_road_2 (fun H locs hP hD hS => ?_)
  have hP : va_P (z_DD G) vwCl (z_wM G am (z_up μ 8 1 0) ν) H := Eq.mp (congrArg (fun w => va_P (z_DD G) vwCl w H) z_tM0) hP
  have hD := z_Dm hinj (z_cM G am (z_up μ 8 1 0) ν)
  refine lv_aload_n hx hb dX5_road_5 rfl (lv_at hl 0 rfl) ?_
  refine lv_iload_n hx hb dX5_road_6 rfl (lv_at hl 1 rfl) ?_
  refine z_call (va_runV (As := [.int (nI a)]) (rest := []) ⟨hx, hb, hml, hown, hts⟩ (c_X5_isValley l G am (am 9) (z_up μ 8 1 0) ν (nI a)) (cwV 1 hts gX5_road_X5_isValley rfl rfl rfl (by decide +kernel) ⟨Nat.le_of_ble_eq_true rfl, Nat.le_of_ble_eq_true rfl⟩) (z_prW (ci := 5) (k := 0) hX hP (z_NM hP) rfl z_m0) rfl rfl hl.1 rfl (lv_room (Nat.le_of_ble_eq_true rfl)) dX5_road_7 ⟨Nat.le_of_ble_eq_true rfl, Nat.le_of_ble_eq_true rfl⟩) (fun _ h9 => h9) ?_
  refine W.eq (g2 := F0 m 10 ls [.int (z_wi (nI a) 0 (nI (ν 0 0) - 1))]) rfl ?_
  refine lv_if_eq (tgt := 21) hx hb dX5_road_10 (by decide) (fun c10 => ?_) (fun c10 => ?_)
  · skip
    exact absurd c10 (z_iv_t ha (by omega))
  · skip
    refine lv_aload_n hx hb dX5_road_13 rfl (lv_at hl 0 rfl) ?_
    refine lv_iload_n hx hb dX5_road_14 rfl (lv_at hl 2 rfl) ?_
    refine z_call (va_runV (As := [.int w]) (rest := []) ⟨hx, hb, hml, hown, hts⟩ (c_X5_isValley l G am (am 9) (z_up μ 8 1 0) ν w) (cwV 1 hts gX5_road_X5_isValley rfl rfl rfl (by decide +kernel) ⟨Nat.le_of_ble_eq_true rfl, Nat.le_of_ble_eq_true rfl⟩) (z_prW (ci := 5) (k := 0) hX hP (z_NM hP) rfl z_m0) rfl rfl hl.1 rfl (lv_room (Nat.le_of_ble_eq_true rfl)) dX5_road_15 ⟨Nat.le_of_ble_eq_true rfl, Nat.le_of_ble_eq_true rfl⟩) (fun _ h9 => h9) ?_
    refine W.eq (g2 := F0 m 18 ls [.int (z_wi w 0 (nI (ν 0 0) - 1))]) rfl ?_
    refine lv_if_ne (tgt := 27) hx hb dX5_road_18 (by decide) (fun c18 => ?_) (fun c18 => ?_)
    · skip
      exact absurd (z_iv_f (by omega) h) c18
    · skip
      refine lv_aload_n hx hb dX5_road_21 rfl (lv_at hl 0 rfl) ?_
      refine lv_iconst (v := 1) hx hb dX5_road_22 (by decide) ?_
      refine z_callm (va_runV (As := [.int 1]) (rest := []) ⟨hx, hb, hml, hown, hts⟩ (c_X5_no l G am (z_up μ 8 1 0) ν hinj 1) (cwV 1 hts gX5_road_X5_no rfl rfl rfl (by decide +kernel) ⟨Nat.le_of_ble_eq_true rfl, Nat.le_of_ble_eq_true rfl⟩) (z_prV (ci := 5) (k := 0) hX hP rfl z_m0) rfl rfl hl.1 rfl (lv_room (Nat.le_of_ble_eq_true rfl)) dX5_road_23 ⟨Nat.le_of_ble_eq_true rfl, Nat.le_of_ble_eq_true rfl⟩) hS (fun _ _ h9 => h9) (fun _ h9 => h9) (fun H locs hP hz9 hk9 hS => ?_)
      have hD := z_Dm hinj (z_cM G am (z_up (z_up μ 8 1 0) 8 1 1) ν)
      refine W.eq (g2 := F0 m 26 ls [.int 0]) rfl ?_
      have hPf : va_P (z_DD G) vwCl (z_wM G am (y_no μ 1) ν) H := by exact hP
      refine z_iret hx hb hr hlocks dX5_road_26 (fun t ht hW => ⟨rfl, by rw [ht]; exact hPf, hS.F ht⟩) hS.2.2 ?_
      rfl

set_option maxHeartbeats 4000000 in
set_option maxRecDepth 100000 in
theorem x_X5_road_3 (l : Launch) (G : z_GT) (am : Nat → Nat) (μ : Nat → Nat → Int32) (ν : Nat → Nat → Nat) (hinj : ∀ i j, i < 10 → j < 10 → am i = am j → i = j) (hn8 : ν 0 0 ≤ 8) (a b : Nat) (ha : a < ν 0 0) (hb8 : b < ν 0 0) (mi : Int32) (h : a = b ∨ z_wi mi 1 240 = 0) : Met l yX5_road wsX5_road ({ frames := 2, cells := 0, slots := 0, locals := 43 } : Room) (z_Pr G [.ref (am 0), .int (nI a), .int (nI b), .int mi] (z_wM G am μ ν)) (z_Qm G (some (.int 0)) (z_wM G am (y_no μ 2) ν) (z_A 10 am)) 0 0 (z_A 10 am) := by
  refine Met.ofW (cc := cX5_road) (maxL := 4) (ret := (some .int)) (by decide) rfl ?_
  intro p e s m args below meth c s₁ B hml hw0
  obtain ⟨rfl, hX, hP⟩ := hw0
  have hK := hX.1
  have hx := B.exec
  have hb := B.bytes
  have hr := B.returns
  have hts := atoms_spec (ws := wsX5_road) B.pre
  have hown : s.vm.findClass RX5 = some m.cls := findClass_of_methodNamed B.named
  have hlocks := B.notSynchronized
  have hl := lv_entry ([.ref (am 0), .int (nI a), .int (nI b), .int mi]) (n := 4) (Nat.le_of_ble_eq_true rfl)
  rw [lg_entry_eq]
  generalize (lg_sl ([.ref (am 0), .int (nI a), .int (nI b), .int mi]) ++ List.replicate (4 - (lg_sl ([.ref (am 0), .int (nI a), .int (nI b), .int mi])).length) Slot.unset).toArray = ls at hl ⊢
  have hl : lv_has ls 4 [(0, .ref (am 0)), (1, .int (nI a)), (2, .int (nI b)), (3, .int mi)] := hl
  have hf_RX5_37 : (Cond.fieldLink RX5 37 "BlossomToursModel" "thrown" "I").before ([.ref (am 0), .int (nI a), .int (nI b), .int mi] : List Value).toArray s = true := hts _ (by decide +kernel)
  have hi_RX5 : ∀ w ∈ u_ws RX5 TX5 13, w ∈ wsX5_road := by decide +kernel
  have hS : va_S (z_A 10 am) s.heap s.heap [] := va_S.rf
  have hD := z_Dm hinj (z_cM G am μ ν)
  refine lv_aload_n hx hb dX5_road_0 rfl (lv_at hl 0 rfl) ?_
  refine lv_iconst (v := 0) hx hb dX5_road_1 (by decide) ?_
  refine va_put (D := z_DD G) (ci := 5) (v := .int 0) (ty := .int) (C := RX5) (T := TX5) (N := 13) hx hb hts hi_RX5 tyX5 tyX5_ok nmX5 hown hK hP hD hS 0 z_m0 rfl 0 (by decide) hf_RX5_37 (fun _ h9 => h9) rfl (by decide +kernel) rfl rfl (Nat.le_of_ble_eq_true rfl) dX5_road_2 (fun H locs hP hD hS => ?_)
  have hP : va_P (z_DD G) vwCl (z_wM G am (z_up μ 8 1 0) ν) H := Eq.mp (congrArg (fun w => va_P (z_DD G) vwCl w H) z_tM0) hP
  have hD := z_Dm hinj (z_cM G am (z_up μ 8 1 0) ν)
  refine lv_aload_n hx hb dX5_road_5 rfl (lv_at hl 0 rfl) ?_
  refine lv_iload_n hx hb dX5_road_6 rfl (lv_at hl 1 rfl) ?_
  refine z_call (va_runV (As := [.int (nI a)]) (rest := []) ⟨hx, hb, hml, hown, hts⟩ (c_X5_isValley l G am (am 9) (z_up μ 8 1 0) ν (nI a)) (cwV 1 hts gX5_road_X5_isValley rfl rfl rfl (by decide +kernel) ⟨Nat.le_of_ble_eq_true rfl, Nat.le_of_ble_eq_true rfl⟩) (z_prW (ci := 5) (k := 0) hX hP (z_NM hP) rfl z_m0) rfl rfl hl.1 rfl (lv_room (Nat.le_of_ble_eq_true rfl)) dX5_road_7 ⟨Nat.le_of_ble_eq_true rfl, Nat.le_of_ble_eq_true rfl⟩) (fun _ h9 => h9) ?_
  refine W.eq (g2 := F0 m 10 ls [.int (z_wi (nI a) 0 (nI (ν 0 0) - 1))]) rfl ?_
  refine lv_if_eq (tgt := 21) hx hb dX5_road_10 (by decide) (fun c10 => ?_) (fun c10 => ?_)
  · skip
    exact absurd c10 (z_iv_t ha (by omega))
  · skip
    refine lv_aload_n hx hb dX5_road_13 rfl (lv_at hl 0 rfl) ?_
    refine lv_iload_n hx hb dX5_road_14 rfl (lv_at hl 2 rfl) ?_
    refine z_call (va_runV (As := [.int (nI b)]) (rest := []) ⟨hx, hb, hml, hown, hts⟩ (c_X5_isValley l G am (am 9) (z_up μ 8 1 0) ν (nI b)) (cwV 1 hts gX5_road_X5_isValley rfl rfl rfl (by decide +kernel) ⟨Nat.le_of_ble_eq_true rfl, Nat.le_of_ble_eq_true rfl⟩) (z_prW (ci := 5) (k := 0) hX hP (z_NM hP) rfl z_m0) rfl rfl hl.1 rfl (lv_room (Nat.le_of_ble_eq_true rfl)) dX5_road_15 ⟨Nat.le_of_ble_eq_true rfl, Nat.le_of_ble_eq_true rfl⟩) (fun _ h9 => h9) ?_
    refine W.eq (g2 := F0 m 18 ls [.int (z_wi (nI b) 0 (nI (ν 0 0) - 1))]) rfl ?_
    refine lv_if_ne (tgt := 27) hx hb dX5_road_18 (by decide) (fun c18 => ?_) (fun c18 => ?_)
    · skip
      refine lv_iload_n hx hb dX5_road_27 rfl (lv_at hl 1 rfl) ?_
      refine lv_iload_n hx hb dX5_road_28 rfl (lv_at hl 2 rfl) ?_
      refine lv_icmp_eq (tgt := 43) hx hb dX5_road_29 (by decide) (fun c29 => ?_) (fun c29 => ?_)
      · skip
        refine lv_aload_n hx hb dX5_road_43 rfl (lv_at hl 0 rfl) ?_
        refine lv_iconst (v := 2) hx hb dX5_road_44 (by decide) ?_
        refine z_callm (va_runV (As := [.int 2]) (rest := []) ⟨hx, hb, hml, hown, hts⟩ (c_X5_no l G am (z_up μ 8 1 0) ν hinj 2) (cwV 1 hts gX5_road_X5_no rfl rfl rfl (by decide +kernel) ⟨Nat.le_of_ble_eq_true rfl, Nat.le_of_ble_eq_true rfl⟩) (z_prV (ci := 5) (k := 0) hX hP rfl z_m0) rfl rfl hl.1 rfl (lv_room (Nat.le_of_ble_eq_true rfl)) dX5_road_45 ⟨Nat.le_of_ble_eq_true rfl, Nat.le_of_ble_eq_true rfl⟩) hS (fun _ _ h9 => h9) (fun _ h9 => h9) (fun H locs hP hz9 hk9 hS => ?_)
        have hD := z_Dm hinj (z_cM G am (z_up (z_up μ 8 1 0) 8 1 2) ν)
        refine W.eq (g2 := F0 m 48 ls [.int 0]) rfl ?_
        have hPf : va_P (z_DD G) vwCl (z_wM G am (y_no μ 2) ν) H := by exact hP
        refine z_iret hx hb hr hlocks dX5_road_48 (fun t ht hW => ⟨rfl, by rw [ht]; exact hPf, hS.F ht⟩) hS.2.2 ?_
        rfl
      · skip
        refine lv_iload_n hx hb dX5_road_32 rfl (lv_at hl 3 rfl) ?_
        refine lv_iconst (v := 1) hx hb dX5_road_33 (by decide) ?_
        refine lv_sipush (v := 240) hx hb dX5_road_34 (by decide) ?_
        refine z_call (va_runS (As := [.int mi, .int 1, .int 240]) (rest := []) ⟨hx, hb, hml, hown, hts⟩ (c_X5_isIn l G mi 1 240) (va_cwS 3 hts gX5_road_X5_isIn rfl rfl rfl (by decide +kernel) ⟨Nat.le_of_ble_eq_true rfl, Nat.le_of_ble_eq_true rfl⟩) (z_prS hX z_P0) rfl rfl hl.1 rfl (lv_room (Nat.le_of_ble_eq_true rfl)) dX5_road_37 ⟨Nat.le_of_ble_eq_true rfl, Nat.le_of_ble_eq_true rfl⟩) (fun _ h9 => h9) ?_
        refine W.eq (g2 := F0 m 40 ls [.int (z_wi mi 1 240)]) rfl ?_
        refine lv_if_ne (tgt := 49) hx hb dX5_road_40 (by decide) (fun c40 => ?_) (fun c40 => ?_)
        · skip
          exact absurd (h.resolve_left (fun q => c29 (by rw [q]))) c40
        · skip
          refine lv_aload_n hx hb dX5_road_43 rfl (lv_at hl 0 rfl) ?_
          refine lv_iconst (v := 2) hx hb dX5_road_44 (by decide) ?_
          refine z_callm (va_runV (As := [.int 2]) (rest := []) ⟨hx, hb, hml, hown, hts⟩ (c_X5_no l G am (z_up μ 8 1 0) ν hinj 2) (cwV 1 hts gX5_road_X5_no rfl rfl rfl (by decide +kernel) ⟨Nat.le_of_ble_eq_true rfl, Nat.le_of_ble_eq_true rfl⟩) (z_prV (ci := 5) (k := 0) hX hP rfl z_m0) rfl rfl hl.1 rfl (lv_room (Nat.le_of_ble_eq_true rfl)) dX5_road_45 ⟨Nat.le_of_ble_eq_true rfl, Nat.le_of_ble_eq_true rfl⟩) hS (fun _ _ h9 => h9) (fun _ h9 => h9) (fun H locs hP hz9 hk9 hS => ?_)
          have hD := z_Dm hinj (z_cM G am (z_up (z_up μ 8 1 0) 8 1 2) ν)
          refine W.eq (g2 := F0 m 48 ls [.int 0]) rfl ?_
          have hPf : va_P (z_DD G) vwCl (z_wM G am (y_no μ 2) ν) H := by exact hP
          refine z_iret hx hb hr hlocks dX5_road_48 (fun t ht hW => ⟨rfl, by rw [ht]; exact hPf, hS.F ht⟩) hS.2.2 ?_
          rfl
    · skip
      exact absurd c18 (z_iv_t hb8 (by omega))

set_option maxHeartbeats 4000000 in
set_option maxRecDepth 100000 in
theorem x_X5_road_4 (l : Launch) (G : z_GT) (am : Nat → Nat) (μ : Nat → Nat → Int32) (ν : Nat → Nat → Nat) (hinj : ∀ i j, i < 10 → j < 10 → am i = am j → i = j) (hn8 : ν 0 0 ≤ 8) (a b : Nat) (ha : a < ν 0 0) (hb8 : b < ν 0 0) (mi : Int32) (g1 : ¬ a = b) (g2 : ¬ z_wi mi 1 240 = 0) (g3 : μ 8 0 = 20) : Met l yX5_road wsX5_road ({ frames := 2, cells := 0, slots := 0, locals := 43 } : Room) (z_Pr G [.ref (am 0), .int (nI a), .int (nI b), .int mi] (z_wM G am μ ν)) (z_Qm G (some (.int 0)) (z_wM G am (y_no μ 3) ν) (z_A 10 am)) 0 0 (z_A 10 am) := by
  refine Met.ofW (cc := cX5_road) (maxL := 4) (ret := (some .int)) (by decide) rfl ?_
  intro p e s m args below meth c s₁ B hml hw0
  obtain ⟨rfl, hX, hP⟩ := hw0
  have hK := hX.1
  have hx := B.exec
  have hb := B.bytes
  have hr := B.returns
  have hts := atoms_spec (ws := wsX5_road) B.pre
  have hown : s.vm.findClass RX5 = some m.cls := findClass_of_methodNamed B.named
  have hlocks := B.notSynchronized
  have hl := lv_entry ([.ref (am 0), .int (nI a), .int (nI b), .int mi]) (n := 4) (Nat.le_of_ble_eq_true rfl)
  rw [lg_entry_eq]
  generalize (lg_sl ([.ref (am 0), .int (nI a), .int (nI b), .int mi]) ++ List.replicate (4 - (lg_sl ([.ref (am 0), .int (nI a), .int (nI b), .int mi])).length) Slot.unset).toArray = ls at hl ⊢
  have hl : lv_has ls 4 [(0, .ref (am 0)), (1, .int (nI a)), (2, .int (nI b)), (3, .int mi)] := hl
  have hf_RX5_37 : (Cond.fieldLink RX5 37 "BlossomToursModel" "thrown" "I").before ([.ref (am 0), .int (nI a), .int (nI b), .int mi] : List Value).toArray s = true := hts _ (by decide +kernel)
  have hf_RX5_59 : (Cond.fieldLink RX5 59 "BlossomToursModel" "roads" "I").before ([.ref (am 0), .int (nI a), .int (nI b), .int mi] : List Value).toArray s = true := hts _ (by decide +kernel)
  have hi_RX5 : ∀ w ∈ u_ws RX5 TX5 13, w ∈ wsX5_road := by decide +kernel
  have hS : va_S (z_A 10 am) s.heap s.heap [] := va_S.rf
  have hD := z_Dm hinj (z_cM G am μ ν)
  refine lv_aload_n hx hb dX5_road_0 rfl (lv_at hl 0 rfl) ?_
  refine lv_iconst (v := 0) hx hb dX5_road_1 (by decide) ?_
  refine va_put (D := z_DD G) (ci := 5) (v := .int 0) (ty := .int) (C := RX5) (T := TX5) (N := 13) hx hb hts hi_RX5 tyX5 tyX5_ok nmX5 hown hK hP hD hS 0 z_m0 rfl 0 (by decide) hf_RX5_37 (fun _ h9 => h9) rfl (by decide +kernel) rfl rfl (Nat.le_of_ble_eq_true rfl) dX5_road_2 (fun H locs hP hD hS => ?_)
  have hP : va_P (z_DD G) vwCl (z_wM G am (z_up μ 8 1 0) ν) H := Eq.mp (congrArg (fun w => va_P (z_DD G) vwCl w H) z_tM0) hP
  have hD := z_Dm hinj (z_cM G am (z_up μ 8 1 0) ν)
  refine lv_aload_n hx hb dX5_road_5 rfl (lv_at hl 0 rfl) ?_
  refine lv_iload_n hx hb dX5_road_6 rfl (lv_at hl 1 rfl) ?_
  refine z_call (va_runV (As := [.int (nI a)]) (rest := []) ⟨hx, hb, hml, hown, hts⟩ (c_X5_isValley l G am (am 9) (z_up μ 8 1 0) ν (nI a)) (cwV 1 hts gX5_road_X5_isValley rfl rfl rfl (by decide +kernel) ⟨Nat.le_of_ble_eq_true rfl, Nat.le_of_ble_eq_true rfl⟩) (z_prW (ci := 5) (k := 0) hX hP (z_NM hP) rfl z_m0) rfl rfl hl.1 rfl (lv_room (Nat.le_of_ble_eq_true rfl)) dX5_road_7 ⟨Nat.le_of_ble_eq_true rfl, Nat.le_of_ble_eq_true rfl⟩) (fun _ h9 => h9) ?_
  refine W.eq (g2 := F0 m 10 ls [.int (z_wi (nI a) 0 (nI (ν 0 0) - 1))]) rfl ?_
  refine lv_if_eq (tgt := 21) hx hb dX5_road_10 (by decide) (fun c10 => ?_) (fun c10 => ?_)
  · skip
    exact absurd c10 (z_iv_t ha (by omega))
  · skip
    refine lv_aload_n hx hb dX5_road_13 rfl (lv_at hl 0 rfl) ?_
    refine lv_iload_n hx hb dX5_road_14 rfl (lv_at hl 2 rfl) ?_
    refine z_call (va_runV (As := [.int (nI b)]) (rest := []) ⟨hx, hb, hml, hown, hts⟩ (c_X5_isValley l G am (am 9) (z_up μ 8 1 0) ν (nI b)) (cwV 1 hts gX5_road_X5_isValley rfl rfl rfl (by decide +kernel) ⟨Nat.le_of_ble_eq_true rfl, Nat.le_of_ble_eq_true rfl⟩) (z_prW (ci := 5) (k := 0) hX hP (z_NM hP) rfl z_m0) rfl rfl hl.1 rfl (lv_room (Nat.le_of_ble_eq_true rfl)) dX5_road_15 ⟨Nat.le_of_ble_eq_true rfl, Nat.le_of_ble_eq_true rfl⟩) (fun _ h9 => h9) ?_
    refine W.eq (g2 := F0 m 18 ls [.int (z_wi (nI b) 0 (nI (ν 0 0) - 1))]) rfl ?_
    refine lv_if_ne (tgt := 27) hx hb dX5_road_18 (by decide) (fun c18 => ?_) (fun c18 => ?_)
    · skip
      refine lv_iload_n hx hb dX5_road_27 rfl (lv_at hl 1 rfl) ?_
      refine lv_iload_n hx hb dX5_road_28 rfl (lv_at hl 2 rfl) ?_
      refine lv_icmp_eq (tgt := 43) hx hb dX5_road_29 (by decide) (fun c29 => ?_) (fun c29 => ?_)
      · skip
        exact absurd ((nI_eq (by omega) (by omega)).mp c29) g1
      · skip
        refine lv_iload_n hx hb dX5_road_32 rfl (lv_at hl 3 rfl) ?_
        refine lv_iconst (v := 1) hx hb dX5_road_33 (by decide) ?_
        refine lv_sipush (v := 240) hx hb dX5_road_34 (by decide) ?_
        refine z_call (va_runS (As := [.int mi, .int 1, .int 240]) (rest := []) ⟨hx, hb, hml, hown, hts⟩ (c_X5_isIn l G mi 1 240) (va_cwS 3 hts gX5_road_X5_isIn rfl rfl rfl (by decide +kernel) ⟨Nat.le_of_ble_eq_true rfl, Nat.le_of_ble_eq_true rfl⟩) (z_prS hX z_P0) rfl rfl hl.1 rfl (lv_room (Nat.le_of_ble_eq_true rfl)) dX5_road_37 ⟨Nat.le_of_ble_eq_true rfl, Nat.le_of_ble_eq_true rfl⟩) (fun _ h9 => h9) ?_
        refine W.eq (g2 := F0 m 40 ls [.int (z_wi mi 1 240)]) rfl ?_
        refine lv_if_ne (tgt := 49) hx hb dX5_road_40 (by decide) (fun c40 => ?_) (fun c40 => ?_)
        · skip
          refine lv_aload_n hx hb dX5_road_49 rfl (lv_at hl 0 rfl) ?_
          refine va_get (D := z_DD G) (ci := 5) (v := .int ((z_up μ 8 1 0) 8 0)) (C := RX5) (T := TX5) (N := 13) hx hb hts hi_RX5 hown hK hP 0 z_m0 rfl 5 (by decide) hf_RX5_59 (fun _ h9 => h9) rfl dX5_road_50 ?_
          refine lv_bipush (v := 20) hx hb dX5_road_53 (by decide) ?_
          refine lv_icmp_ne (tgt := 64) hx hb dX5_road_55 (by decide) (fun c55 => ?_) (fun c55 => ?_)
          · skip
            exact absurd g3 c55
          · skip
            refine lv_aload_n hx hb dX5_road_58 rfl (lv_at hl 0 rfl) ?_
            refine lv_iconst (v := 3) hx hb dX5_road_59 (by decide) ?_
            refine z_callm (va_runV (As := [.int 3]) (rest := []) ⟨hx, hb, hml, hown, hts⟩ (c_X5_no l G am (z_up μ 8 1 0) ν hinj 3) (cwV 1 hts gX5_road_X5_no rfl rfl rfl (by decide +kernel) ⟨Nat.le_of_ble_eq_true rfl, Nat.le_of_ble_eq_true rfl⟩) (z_prV (ci := 5) (k := 0) hX hP rfl z_m0) rfl rfl hl.1 rfl (lv_room (Nat.le_of_ble_eq_true rfl)) dX5_road_60 ⟨Nat.le_of_ble_eq_true rfl, Nat.le_of_ble_eq_true rfl⟩) hS (fun _ _ h9 => h9) (fun _ h9 => h9) (fun H locs hP hz9 hk9 hS => ?_)
            have hD := z_Dm hinj (z_cM G am (z_up (z_up μ 8 1 0) 8 1 3) ν)
            refine W.eq (g2 := F0 m 63 ls [.int 0]) rfl ?_
            have hPf : va_P (z_DD G) vwCl (z_wM G am (y_no μ 3) ν) H := by exact hP
            refine z_iret hx hb hr hlocks dX5_road_63 (fun t ht hW => ⟨rfl, by rw [ht]; exact hPf, hS.F ht⟩) hS.2.2 ?_
            rfl
        · skip
          exact absurd c40 g2
    · skip
      exact absurd c18 (z_iv_t hb8 (by omega))

set_option maxHeartbeats 4000000 in
set_option maxRecDepth 100000 in
theorem c_X5_setHeat (l : Launch) (G : z_GT) (am : Nat → Nat) (μ : Nat → Nat → Int32) (ν : Nat → Nat → Nat) (hinj : ∀ i j, i < 10 → j < 10 → am i = am j → i = j) (d : Nat) (hd : d < 10) (h : Int32) (g : ¬ z_wi h 0 40 = 0) : Met l yX5_setHeat wsX5_setHeat ({ frames := 1, cells := 0, slots := 0, locals := 22 } : Room) (z_Pr G [.ref (am 0), .int (nI d), .int h] (z_wM G am μ ν)) (z_Qm G (some (.int (μ 7 d))) (z_wM G am (z_up (z_up μ 8 1 0) 7 d h) ν) (z_A 10 am)) 0 0 (z_A 10 am) := by
  refine Met.ofW (cc := cX5_setHeat) (maxL := 4) (ret := (some .int)) (by decide) rfl ?_
  intro p e s m args below meth c s₁ B hml hw0
  obtain ⟨rfl, hX, hP⟩ := hw0
  have hK := hX.1
  have hx := B.exec
  have hb := B.bytes
  have hr := B.returns
  have hts := atoms_spec (ws := wsX5_setHeat) B.pre
  have hown : s.vm.findClass RX5 = some m.cls := findClass_of_methodNamed B.named
  have hlocks := B.notSynchronized
  have hl := lv_entry ([.ref (am 0), .int (nI d), .int h]) (n := 4) (Nat.le_of_ble_eq_true rfl)
  rw [lg_entry_eq]
  generalize (lg_sl ([.ref (am 0), .int (nI d), .int h]) ++ List.replicate (4 - (lg_sl ([.ref (am 0), .int (nI d), .int h])).length) Slot.unset).toArray = ls at hl ⊢
  have hl : lv_has ls 4 [(0, .ref (am 0)), (1, .int (nI d)), (2, .int h)] := hl
  have hf_RX5_22 : (Cond.fieldLink RX5 22 "BlossomToursModel" "heat" "[I").before ([.ref (am 0), .int (nI d), .int h] : List Value).toArray s = true := hts _ (by decide +kernel)
  have hf_RX5_37 : (Cond.fieldLink RX5 37 "BlossomToursModel" "thrown" "I").before ([.ref (am 0), .int (nI d), .int h] : List Value).toArray s = true := hts _ (by decide +kernel)
  have hi_RX5 : ∀ w ∈ u_ws RX5 TX5 13, w ∈ wsX5_setHeat := by decide +kernel
  have hS : va_S (z_A 10 am) s.heap s.heap [] := va_S.rf
  have hD := z_Dm hinj (z_cM G am μ ν)
  refine lv_aload_n hx hb dX5_setHeat_0 rfl (lv_at hl 0 rfl) ?_
  refine lv_iconst (v := 0) hx hb dX5_setHeat_1 (by decide) ?_
  refine va_put (D := z_DD G) (ci := 5) (v := .int 0) (ty := .int) (C := RX5) (T := TX5) (N := 13) hx hb hts hi_RX5 tyX5 tyX5_ok nmX5 hown hK hP hD hS 0 z_m0 rfl 0 (by decide) hf_RX5_37 (fun _ h9 => h9) rfl (by decide +kernel) rfl rfl (Nat.le_of_ble_eq_true rfl) dX5_setHeat_2 (fun H locs hP hD hS => ?_)
  have hP : va_P (z_DD G) vwCl (z_wM G am (z_up μ 8 1 0) ν) H := Eq.mp (congrArg (fun w => va_P (z_DD G) vwCl w H) z_tM0) hP
  have hD := z_Dm hinj (z_cM G am (z_up μ 8 1 0) ν)
  refine lv_iload_n hx hb dX5_setHeat_5 rfl (lv_at hl 1 rfl) ?_
  refine lv_iconst (v := 0) hx hb dX5_setHeat_6 (by decide) ?_
  refine lv_bipush (v := nI 10 - 1) hx hb dX5_setHeat_7 (by decide) ?_
  refine z_call (va_runS (As := [.int (nI d), .int 0, .int (nI 10 - 1)]) (rest := []) ⟨hx, hb, hml, hown, hts⟩ (c_X5_isIn l G (nI d) 0 (nI 10 - 1)) (va_cwS 3 hts gX5_setHeat_X5_isIn rfl rfl rfl (by decide +kernel) ⟨Nat.le_of_ble_eq_true rfl, Nat.le_of_ble_eq_true rfl⟩) (z_prS hX z_P0) rfl rfl hl.1 rfl (lv_room (Nat.le_of_ble_eq_true rfl)) dX5_setHeat_9 ⟨Nat.le_of_ble_eq_true rfl, Nat.le_of_ble_eq_true rfl⟩) (fun _ h9 => h9) ?_
  refine W.eq (g2 := F0 m 12 ls [.int (z_wi (nI d) 0 (nI 10 - 1))]) rfl ?_
  refine lv_if_ne (tgt := 21) hx hb dX5_setHeat_12 (by decide) (fun c12 => ?_) (fun c12 => ?_)
  · skip
    refine lv_iload_n hx hb dX5_setHeat_21 rfl (lv_at hl 2 rfl) ?_
    refine lv_iconst (v := 0) hx hb dX5_setHeat_22 (by decide) ?_
    refine lv_bipush (v := 40) hx hb dX5_setHeat_23 (by decide) ?_
    refine z_call (va_runS (As := [.int h, .int 0, .int 40]) (rest := []) ⟨hx, hb, hml, hown, hts⟩ (c_X5_isIn l G h 0 40) (va_cwS 3 hts gX5_setHeat_X5_isIn rfl rfl rfl (by decide +kernel) ⟨Nat.le_of_ble_eq_true rfl, Nat.le_of_ble_eq_true rfl⟩) (z_prS hX z_P0) rfl rfl hl.1 rfl (lv_room (Nat.le_of_ble_eq_true rfl)) dX5_setHeat_25 ⟨Nat.le_of_ble_eq_true rfl, Nat.le_of_ble_eq_true rfl⟩) (fun _ h9 => h9) ?_
    refine W.eq (g2 := F0 m 28 ls [.int (z_wi h 0 40)]) rfl ?_
    refine lv_if_ne (tgt := 37) hx hb dX5_setHeat_28 (by decide) (fun c28 => ?_) (fun c28 => ?_)
    · skip
      refine lv_aload_n hx hb dX5_setHeat_37 rfl (lv_at hl 0 rfl) ?_
      refine va_get (D := z_DD G) (ci := 5) (v := .ref (am 5)) (C := RX5) (T := TX5) (N := 13) hx hb hts hi_RX5 hown hK hP 0 z_m0 rfl 7 (by decide) hf_RX5_22 (fun _ h9 => h9) rfl dX5_setHeat_38 ?_
      refine lv_iload_n hx hb dX5_setHeat_41 rfl (lv_at hl 1 rfl) ?_
      refine z_iald (k := d) (f := fun z9 => (z_up μ 8 1 0) 7 z9) hx hb hK hP 5 0 z_m5 rfl hd (by decide) dX5_setHeat_42 ?_
      refine lv_istore_n (lv' := [(3, .int ((z_up μ 8 1 0) 7 d)), (0, .ref (am 0)), (1, .int (nI d)), (2, .int h)]) hx hb dX5_setHeat_43 rfl hl (by decide) rfl (fun ls hl => ?_)
      refine lv_aload_n hx hb dX5_setHeat_44 rfl (lv_at hl 1 rfl) ?_
      refine va_get (D := z_DD G) (ci := 5) (v := .ref (am 5)) (C := RX5) (T := TX5) (N := 13) hx hb hts hi_RX5 hown hK hP 0 z_m0 rfl 7 (by decide) hf_RX5_22 (fun _ h9 => h9) rfl dX5_setHeat_45 ?_
      refine lv_iload_n hx hb dX5_setHeat_48 rfl (lv_at hl 2 rfl) ?_
      refine lv_iload_n hx hb dX5_setHeat_49 rfl (lv_at hl 3 rfl) ?_
      refine va_iast (f := fun z9 => (z_up μ 8 1 0) 7 z9) hx hb hK hP hD hS 5 0 z_m5 rfl (vp_in_nI hd (by omega)) dX5_setHeat_50 (fun H locs hP hD hS => ?_)
      have hP : va_P (z_DD G) vwCl (z_wM G am (z_up (z_up μ 8 1 0) 7 d h) ν) H := Eq.mp (congrArg (fun w => va_P (z_DD G) vwCl w H) (z_tB5 (by omega))) hP
      have hD := z_Dm hinj (z_cM G am (z_up (z_up μ 8 1 0) 7 d h) ν)
      refine lv_iload_n hx hb dX5_setHeat_51 rfl (lv_at hl 0 rfl) ?_
      have hPf : va_P (z_DD G) vwCl (z_wM G am (z_up (z_up μ 8 1 0) 7 d h) ν) H := by exact hP
      refine z_iret hx hb hr hlocks dX5_setHeat_52 (fun t ht hW => ⟨rfl, by rw [ht]; exact hPf, hS.F ht⟩) hS.2.2 ?_
      rfl
    · skip
      exact absurd c28 g
  · skip
    exact absurd c12 (z_iv_t hd (by omega))

set_option maxHeartbeats 4000000 in
set_option maxRecDepth 100000 in
theorem x_X5_setHeat_1 (l : Launch) (G : z_GT) (am : Nat → Nat) (μ : Nat → Nat → Int32) (ν : Nat → Nat → Nat) (hinj : ∀ i j, i < 10 → j < 10 → am i = am j → i = j) (d h : Int32) (g : d < 0 ∨ ¬ d < nI 10) : Met l yX5_setHeat wsX5_setHeat ({ frames := 1, cells := 0, slots := 0, locals := 22 } : Room) (z_Pr G [.ref (am 0), .int d, .int h] (z_wM G am μ ν)) (z_Qm G (some (.int 0)) (z_wM G am (y_no μ 1) ν) (z_A 10 am)) 0 0 (z_A 10 am) := by
  refine Met.ofW (cc := cX5_setHeat) (maxL := 4) (ret := (some .int)) (by decide) rfl ?_
  intro p e s m args below meth c s₁ B hml hw0
  obtain ⟨rfl, hX, hP⟩ := hw0
  have hK := hX.1
  have hx := B.exec
  have hb := B.bytes
  have hr := B.returns
  have hts := atoms_spec (ws := wsX5_setHeat) B.pre
  have hown : s.vm.findClass RX5 = some m.cls := findClass_of_methodNamed B.named
  have hlocks := B.notSynchronized
  have hl := lv_entry ([.ref (am 0), .int d, .int h]) (n := 4) (Nat.le_of_ble_eq_true rfl)
  rw [lg_entry_eq]
  generalize (lg_sl ([.ref (am 0), .int d, .int h]) ++ List.replicate (4 - (lg_sl ([.ref (am 0), .int d, .int h])).length) Slot.unset).toArray = ls at hl ⊢
  have hl : lv_has ls 4 [(0, .ref (am 0)), (1, .int d), (2, .int h)] := hl
  have hf_RX5_37 : (Cond.fieldLink RX5 37 "BlossomToursModel" "thrown" "I").before ([.ref (am 0), .int d, .int h] : List Value).toArray s = true := hts _ (by decide +kernel)
  have hi_RX5 : ∀ w ∈ u_ws RX5 TX5 13, w ∈ wsX5_setHeat := by decide +kernel
  have hS : va_S (z_A 10 am) s.heap s.heap [] := va_S.rf
  have hD := z_Dm hinj (z_cM G am μ ν)
  refine lv_aload_n hx hb dX5_setHeat_0 rfl (lv_at hl 0 rfl) ?_
  refine lv_iconst (v := 0) hx hb dX5_setHeat_1 (by decide) ?_
  refine va_put (D := z_DD G) (ci := 5) (v := .int 0) (ty := .int) (C := RX5) (T := TX5) (N := 13) hx hb hts hi_RX5 tyX5 tyX5_ok nmX5 hown hK hP hD hS 0 z_m0 rfl 0 (by decide) hf_RX5_37 (fun _ h9 => h9) rfl (by decide +kernel) rfl rfl (Nat.le_of_ble_eq_true rfl) dX5_setHeat_2 (fun H locs hP hD hS => ?_)
  have hP : va_P (z_DD G) vwCl (z_wM G am (z_up μ 8 1 0) ν) H := Eq.mp (congrArg (fun w => va_P (z_DD G) vwCl w H) z_tM0) hP
  have hD := z_Dm hinj (z_cM G am (z_up μ 8 1 0) ν)
  refine lv_iload_n hx hb dX5_setHeat_5 rfl (lv_at hl 1 rfl) ?_
  refine lv_iconst (v := 0) hx hb dX5_setHeat_6 (by decide) ?_
  refine lv_bipush (v := nI 10 - 1) hx hb dX5_setHeat_7 (by decide) ?_
  refine z_call (va_runS (As := [.int d, .int 0, .int (nI 10 - 1)]) (rest := []) ⟨hx, hb, hml, hown, hts⟩ (c_X5_isIn l G d 0 (nI 10 - 1)) (va_cwS 3 hts gX5_setHeat_X5_isIn rfl rfl rfl (by decide +kernel) ⟨Nat.le_of_ble_eq_true rfl, Nat.le_of_ble_eq_true rfl⟩) (z_prS hX z_P0) rfl rfl hl.1 rfl (lv_room (Nat.le_of_ble_eq_true rfl)) dX5_setHeat_9 ⟨Nat.le_of_ble_eq_true rfl, Nat.le_of_ble_eq_true rfl⟩) (fun _ h9 => h9) ?_
  refine W.eq (g2 := F0 m 12 ls [.int (z_wi d 0 (nI 10 - 1))]) rfl ?_
  refine lv_if_ne (tgt := 21) hx hb dX5_setHeat_12 (by decide) (fun c12 => ?_) (fun c12 => ?_)
  · skip
    exact absurd (z_iv_f (by omega) g) c12
  · skip
    refine lv_aload_n hx hb dX5_setHeat_15 rfl (lv_at hl 0 rfl) ?_
    refine lv_iconst (v := 1) hx hb dX5_setHeat_16 (by decide) ?_
    refine z_callm (va_runV (As := [.int 1]) (rest := []) ⟨hx, hb, hml, hown, hts⟩ (c_X5_no l G am (z_up μ 8 1 0) ν hinj 1) (cwV 1 hts gX5_setHeat_X5_no rfl rfl rfl (by decide +kernel) ⟨Nat.le_of_ble_eq_true rfl, Nat.le_of_ble_eq_true rfl⟩) (z_prV (ci := 5) (k := 0) hX hP rfl z_m0) rfl rfl hl.1 rfl (lv_room (Nat.le_of_ble_eq_true rfl)) dX5_setHeat_17 ⟨Nat.le_of_ble_eq_true rfl, Nat.le_of_ble_eq_true rfl⟩) hS (fun _ _ h9 => h9) (fun _ h9 => h9) (fun H locs hP hz9 hk9 hS => ?_)
    have hD := z_Dm hinj (z_cM G am (z_up (z_up μ 8 1 0) 8 1 1) ν)
    refine W.eq (g2 := F0 m 20 ls [.int 0]) rfl ?_
    have hPf : va_P (z_DD G) vwCl (z_wM G am (y_no μ 1) ν) H := by exact hP
    refine z_iret hx hb hr hlocks dX5_setHeat_20 (fun t ht hW => ⟨rfl, by rw [ht]; exact hPf, hS.F ht⟩) hS.2.2 ?_
    rfl

set_option maxHeartbeats 4000000 in
set_option maxRecDepth 100000 in
theorem x_X5_setHeat_2 (l : Launch) (G : z_GT) (am : Nat → Nat) (μ : Nat → Nat → Int32) (ν : Nat → Nat → Nat) (hinj : ∀ i j, i < 10 → j < 10 → am i = am j → i = j) (d : Nat) (hd : d < 10) (h : Int32) (g : z_wi h 0 40 = 0) : Met l yX5_setHeat wsX5_setHeat ({ frames := 1, cells := 0, slots := 0, locals := 22 } : Room) (z_Pr G [.ref (am 0), .int (nI d), .int h] (z_wM G am μ ν)) (z_Qm G (some (.int 0)) (z_wM G am (y_no μ 2) ν) (z_A 10 am)) 0 0 (z_A 10 am) := by
  refine Met.ofW (cc := cX5_setHeat) (maxL := 4) (ret := (some .int)) (by decide) rfl ?_
  intro p e s m args below meth c s₁ B hml hw0
  obtain ⟨rfl, hX, hP⟩ := hw0
  have hK := hX.1
  have hx := B.exec
  have hb := B.bytes
  have hr := B.returns
  have hts := atoms_spec (ws := wsX5_setHeat) B.pre
  have hown : s.vm.findClass RX5 = some m.cls := findClass_of_methodNamed B.named
  have hlocks := B.notSynchronized
  have hl := lv_entry ([.ref (am 0), .int (nI d), .int h]) (n := 4) (Nat.le_of_ble_eq_true rfl)
  rw [lg_entry_eq]
  generalize (lg_sl ([.ref (am 0), .int (nI d), .int h]) ++ List.replicate (4 - (lg_sl ([.ref (am 0), .int (nI d), .int h])).length) Slot.unset).toArray = ls at hl ⊢
  have hl : lv_has ls 4 [(0, .ref (am 0)), (1, .int (nI d)), (2, .int h)] := hl
  have hf_RX5_37 : (Cond.fieldLink RX5 37 "BlossomToursModel" "thrown" "I").before ([.ref (am 0), .int (nI d), .int h] : List Value).toArray s = true := hts _ (by decide +kernel)
  have hi_RX5 : ∀ w ∈ u_ws RX5 TX5 13, w ∈ wsX5_setHeat := by decide +kernel
  have hS : va_S (z_A 10 am) s.heap s.heap [] := va_S.rf
  have hD := z_Dm hinj (z_cM G am μ ν)
  refine lv_aload_n hx hb dX5_setHeat_0 rfl (lv_at hl 0 rfl) ?_
  refine lv_iconst (v := 0) hx hb dX5_setHeat_1 (by decide) ?_
  refine va_put (D := z_DD G) (ci := 5) (v := .int 0) (ty := .int) (C := RX5) (T := TX5) (N := 13) hx hb hts hi_RX5 tyX5 tyX5_ok nmX5 hown hK hP hD hS 0 z_m0 rfl 0 (by decide) hf_RX5_37 (fun _ h9 => h9) rfl (by decide +kernel) rfl rfl (Nat.le_of_ble_eq_true rfl) dX5_setHeat_2 (fun H locs hP hD hS => ?_)
  have hP : va_P (z_DD G) vwCl (z_wM G am (z_up μ 8 1 0) ν) H := Eq.mp (congrArg (fun w => va_P (z_DD G) vwCl w H) z_tM0) hP
  have hD := z_Dm hinj (z_cM G am (z_up μ 8 1 0) ν)
  refine lv_iload_n hx hb dX5_setHeat_5 rfl (lv_at hl 1 rfl) ?_
  refine lv_iconst (v := 0) hx hb dX5_setHeat_6 (by decide) ?_
  refine lv_bipush (v := nI 10 - 1) hx hb dX5_setHeat_7 (by decide) ?_
  refine z_call (va_runS (As := [.int (nI d), .int 0, .int (nI 10 - 1)]) (rest := []) ⟨hx, hb, hml, hown, hts⟩ (c_X5_isIn l G (nI d) 0 (nI 10 - 1)) (va_cwS 3 hts gX5_setHeat_X5_isIn rfl rfl rfl (by decide +kernel) ⟨Nat.le_of_ble_eq_true rfl, Nat.le_of_ble_eq_true rfl⟩) (z_prS hX z_P0) rfl rfl hl.1 rfl (lv_room (Nat.le_of_ble_eq_true rfl)) dX5_setHeat_9 ⟨Nat.le_of_ble_eq_true rfl, Nat.le_of_ble_eq_true rfl⟩) (fun _ h9 => h9) ?_
  refine W.eq (g2 := F0 m 12 ls [.int (z_wi (nI d) 0 (nI 10 - 1))]) rfl ?_
  refine lv_if_ne (tgt := 21) hx hb dX5_setHeat_12 (by decide) (fun c12 => ?_) (fun c12 => ?_)
  · skip
    refine lv_iload_n hx hb dX5_setHeat_21 rfl (lv_at hl 2 rfl) ?_
    refine lv_iconst (v := 0) hx hb dX5_setHeat_22 (by decide) ?_
    refine lv_bipush (v := 40) hx hb dX5_setHeat_23 (by decide) ?_
    refine z_call (va_runS (As := [.int h, .int 0, .int 40]) (rest := []) ⟨hx, hb, hml, hown, hts⟩ (c_X5_isIn l G h 0 40) (va_cwS 3 hts gX5_setHeat_X5_isIn rfl rfl rfl (by decide +kernel) ⟨Nat.le_of_ble_eq_true rfl, Nat.le_of_ble_eq_true rfl⟩) (z_prS hX z_P0) rfl rfl hl.1 rfl (lv_room (Nat.le_of_ble_eq_true rfl)) dX5_setHeat_25 ⟨Nat.le_of_ble_eq_true rfl, Nat.le_of_ble_eq_true rfl⟩) (fun _ h9 => h9) ?_
    refine W.eq (g2 := F0 m 28 ls [.int (z_wi h 0 40)]) rfl ?_
    refine lv_if_ne (tgt := 37) hx hb dX5_setHeat_28 (by decide) (fun c28 => ?_) (fun c28 => ?_)
    · skip
      exact absurd g c28
    · skip
      refine lv_aload_n hx hb dX5_setHeat_31 rfl (lv_at hl 0 rfl) ?_
      refine lv_iconst (v := 2) hx hb dX5_setHeat_32 (by decide) ?_
      refine z_callm (va_runV (As := [.int 2]) (rest := []) ⟨hx, hb, hml, hown, hts⟩ (c_X5_no l G am (z_up μ 8 1 0) ν hinj 2) (cwV 1 hts gX5_setHeat_X5_no rfl rfl rfl (by decide +kernel) ⟨Nat.le_of_ble_eq_true rfl, Nat.le_of_ble_eq_true rfl⟩) (z_prV (ci := 5) (k := 0) hX hP rfl z_m0) rfl rfl hl.1 rfl (lv_room (Nat.le_of_ble_eq_true rfl)) dX5_setHeat_33 ⟨Nat.le_of_ble_eq_true rfl, Nat.le_of_ble_eq_true rfl⟩) hS (fun _ _ h9 => h9) (fun _ h9 => h9) (fun H locs hP hz9 hk9 hS => ?_)
      have hD := z_Dm hinj (z_cM G am (z_up (z_up μ 8 1 0) 8 1 2) ν)
      refine W.eq (g2 := F0 m 36 ls [.int 0]) rfl ?_
      have hPf : va_P (z_DD G) vwCl (z_wM G am (y_no μ 2) ν) H := by exact hP
      refine z_iret hx hb hr hlocks dX5_setHeat_36 (fun t ht hW => ⟨rfl, by rw [ht]; exact hPf, hS.F ht⟩) hS.2.2 ?_
      rfl
  · skip
    exact absurd c12 (z_iv_t hd (by omega))

set_option maxHeartbeats 4000000 in
set_option maxRecDepth 100000 in
theorem c_X5_bloom (l : Launch) (G : z_GT) (am : Nat → Nat) (μ : Nat → Nat → Int32) (ν : Nat → Nat → Nat) (hinj : ∀ i j, i < 10 → j < 10 → am i = am j → i = j) (hy : y_wf μ ν) (v : Nat) (hv : v < ν 0 0) (d : Int32) (h : ¬ d < 0) : Met l yX5_bloom wsX5_bloom ({ frames := 2, cells := 0, slots := 0, locals := 44 } : Room) (z_Pr G [.ref (am 0), .int (nI v), .int d] (z_wM G am μ ν)) (z_Qm G (some (.int (y_bl (μ 0 v) (μ 1 v) d))) (z_wM G am (z_up μ 8 1 0) ν) (z_A 10 am)) 0 0 (z_A 10 am) := by
  refine Met.ofW (cc := cX5_bloom) (maxL := 3) (ret := (some .int)) (by decide) rfl ?_
  intro p e s m args below meth c s₁ B hml hw0
  obtain ⟨rfl, hX, hP⟩ := hw0
  have hK := hX.1
  have hx := B.exec
  have hb := B.bytes
  have hr := B.returns
  have hts := atoms_spec (ws := wsX5_bloom) B.pre
  have hown : s.vm.findClass RX5 = some m.cls := findClass_of_methodNamed B.named
  have hlocks := B.notSynchronized
  have hl := lv_entry ([.ref (am 0), .int (nI v), .int d]) (n := 3) (Nat.le_of_ble_eq_true rfl)
  rw [lg_entry_eq]
  generalize (lg_sl ([.ref (am 0), .int (nI v), .int d]) ++ List.replicate (3 - (lg_sl ([.ref (am 0), .int (nI v), .int d])).length) Slot.unset).toArray = ls at hl ⊢
  have hl : lv_has ls 3 [(0, .ref (am 0)), (1, .int (nI v)), (2, .int d)] := hl
  have hf_RX5_37 : (Cond.fieldLink RX5 37 "BlossomToursModel" "thrown" "I").before ([.ref (am 0), .int (nI v), .int d] : List Value).toArray s = true := hts _ (by decide +kernel)
  have hi_RX5 : ∀ w ∈ u_ws RX5 TX5 13, w ∈ wsX5_bloom := by decide +kernel
  have hn8 := hy.1
  have hS : va_S (z_A 10 am) s.heap s.heap [] := va_S.rf
  have hD := z_Dm hinj (z_cM G am μ ν)
  refine lv_aload_n hx hb dX5_bloom_0 rfl (lv_at hl 0 rfl) ?_
  refine lv_iconst (v := 0) hx hb dX5_bloom_1 (by decide) ?_
  refine va_put (D := z_DD G) (ci := 5) (v := .int 0) (ty := .int) (C := RX5) (T := TX5) (N := 13) hx hb hts hi_RX5 tyX5 tyX5_ok nmX5 hown hK hP hD hS 0 z_m0 rfl 0 (by decide) hf_RX5_37 (fun _ h9 => h9) rfl (by decide +kernel) rfl rfl (Nat.le_of_ble_eq_true rfl) dX5_bloom_2 (fun H locs hP hD hS => ?_)
  have hP : va_P (z_DD G) vwCl (z_wM G am (z_up μ 8 1 0) ν) H := Eq.mp (congrArg (fun w => va_P (z_DD G) vwCl w H) z_tM0) hP
  have hD := z_Dm hinj (z_cM G am (z_up μ 8 1 0) ν)
  refine lv_aload_n hx hb dX5_bloom_5 rfl (lv_at hl 0 rfl) ?_
  refine lv_iload_n hx hb dX5_bloom_6 rfl (lv_at hl 1 rfl) ?_
  refine z_call (va_runV (As := [.int (nI v)]) (rest := []) ⟨hx, hb, hml, hown, hts⟩ (c_X5_isValley l G am (am 9) (z_up μ 8 1 0) ν (nI v)) (cwV 1 hts gX5_bloom_X5_isValley rfl rfl rfl (by decide +kernel) ⟨Nat.le_of_ble_eq_true rfl, Nat.le_of_ble_eq_true rfl⟩) (z_prW (ci := 5) (k := 0) hX hP (z_NM hP) rfl z_m0) rfl rfl hl.1 rfl (lv_room (Nat.le_of_ble_eq_true rfl)) dX5_bloom_7 ⟨Nat.le_of_ble_eq_true rfl, Nat.le_of_ble_eq_true rfl⟩) (fun _ h9 => h9) ?_
  refine W.eq (g2 := F0 m 10 ls [.int (z_wi (nI v) 0 (nI (ν 0 0) - 1))]) rfl ?_
  refine lv_if_ne (tgt := 19) hx hb dX5_bloom_10 (by decide) (fun c10 => ?_) (fun c10 => ?_)
  · skip
    refine lv_iload_n hx hb dX5_bloom_19 rfl (lv_at hl 2 rfl) ?_
    refine lv_if_ge (tgt := 31) hx hb dX5_bloom_20 (by decide) (fun c20 => ?_) (fun c20 => ?_)
    · skip
      refine lv_aload_n hx hb dX5_bloom_31 rfl (lv_at hl 0 rfl) ?_
      refine lv_iload_n hx hb dX5_bloom_32 rfl (lv_at hl 1 rfl) ?_
      refine lv_iload_n hx hb dX5_bloom_33 rfl (lv_at hl 2 rfl) ?_
      refine z_call (va_runV (As := [.int (nI v), .int d]) (rest := []) ⟨hx, hb, hml, hown, hts⟩ (c_X5_blooms l G am (am 9) (z_up μ 8 1 0) ν v d (Nat.lt_of_lt_of_le hv hy.1) (hy.2.2.2.2.1 v hv)) (cwV 2 hts gX5_bloom_X5_blooms rfl rfl rfl (by decide +kernel) ⟨Nat.le_of_ble_eq_true rfl, Nat.le_of_ble_eq_true rfl⟩) (z_prW (ci := 5) (k := 0) hX hP (z_NM hP) rfl z_m0) rfl rfl hl.1 rfl (lv_room (Nat.le_of_ble_eq_true rfl)) dX5_bloom_34 ⟨Nat.le_of_ble_eq_true rfl, Nat.le_of_ble_eq_true rfl⟩) (fun _ h9 => h9) ?_
      refine W.eq (g2 := F0 m 37 ls [.int (y_bl ((z_up μ 8 1 0) 0 v) ((z_up μ 8 1 0) 1 v) d)]) rfl ?_
      have hPf : va_P (z_DD G) vwCl (z_wM G am (z_up μ 8 1 0) ν) H := by exact hP
      refine z_iret hx hb hr hlocks dX5_bloom_37 (fun t ht hW => ⟨rfl, by rw [ht]; exact hPf, hS.F ht⟩) hS.2.2 ?_
      rfl
    · skip
      exact absurd (Int32.not_lt.mp h) c20
  · skip
    exact absurd c10 (z_iv_t hv (by omega))

set_option maxHeartbeats 4000000 in
set_option maxRecDepth 100000 in
theorem x_X5_bloom_1 (l : Launch) (G : z_GT) (am : Nat → Nat) (μ : Nat → Nat → Int32) (ν : Nat → Nat → Nat) (hinj : ∀ i j, i < 10 → j < 10 → am i = am j → i = j) (hn8 : ν 0 0 ≤ 8) (v d : Int32) (h : v < 0 ∨ ¬ v < nI (ν 0 0)) : Met l yX5_bloom wsX5_bloom ({ frames := 2, cells := 0, slots := 0, locals := 44 } : Room) (z_Pr G [.ref (am 0), .int v, .int d] (z_wM G am μ ν)) (z_Qm G (some (.int 0)) (z_wM G am (y_no μ 1) ν) (z_A 10 am)) 0 0 (z_A 10 am) := by
  refine Met.ofW (cc := cX5_bloom) (maxL := 3) (ret := (some .int)) (by decide) rfl ?_
  intro p e s m args below meth c s₁ B hml hw0
  obtain ⟨rfl, hX, hP⟩ := hw0
  have hK := hX.1
  have hx := B.exec
  have hb := B.bytes
  have hr := B.returns
  have hts := atoms_spec (ws := wsX5_bloom) B.pre
  have hown : s.vm.findClass RX5 = some m.cls := findClass_of_methodNamed B.named
  have hlocks := B.notSynchronized
  have hl := lv_entry ([.ref (am 0), .int v, .int d]) (n := 3) (Nat.le_of_ble_eq_true rfl)
  rw [lg_entry_eq]
  generalize (lg_sl ([.ref (am 0), .int v, .int d]) ++ List.replicate (3 - (lg_sl ([.ref (am 0), .int v, .int d])).length) Slot.unset).toArray = ls at hl ⊢
  have hl : lv_has ls 3 [(0, .ref (am 0)), (1, .int v), (2, .int d)] := hl
  have hf_RX5_37 : (Cond.fieldLink RX5 37 "BlossomToursModel" "thrown" "I").before ([.ref (am 0), .int v, .int d] : List Value).toArray s = true := hts _ (by decide +kernel)
  have hi_RX5 : ∀ w ∈ u_ws RX5 TX5 13, w ∈ wsX5_bloom := by decide +kernel
  have hS : va_S (z_A 10 am) s.heap s.heap [] := va_S.rf
  have hD := z_Dm hinj (z_cM G am μ ν)
  refine lv_aload_n hx hb dX5_bloom_0 rfl (lv_at hl 0 rfl) ?_
  refine lv_iconst (v := 0) hx hb dX5_bloom_1 (by decide) ?_
  refine va_put (D := z_DD G) (ci := 5) (v := .int 0) (ty := .int) (C := RX5) (T := TX5) (N := 13) hx hb hts hi_RX5 tyX5 tyX5_ok nmX5 hown hK hP hD hS 0 z_m0 rfl 0 (by decide) hf_RX5_37 (fun _ h9 => h9) rfl (by decide +kernel) rfl rfl (Nat.le_of_ble_eq_true rfl) dX5_bloom_2 (fun H locs hP hD hS => ?_)
  have hP : va_P (z_DD G) vwCl (z_wM G am (z_up μ 8 1 0) ν) H := Eq.mp (congrArg (fun w => va_P (z_DD G) vwCl w H) z_tM0) hP
  have hD := z_Dm hinj (z_cM G am (z_up μ 8 1 0) ν)
  refine lv_aload_n hx hb dX5_bloom_5 rfl (lv_at hl 0 rfl) ?_
  refine lv_iload_n hx hb dX5_bloom_6 rfl (lv_at hl 1 rfl) ?_
  refine z_call (va_runV (As := [.int v]) (rest := []) ⟨hx, hb, hml, hown, hts⟩ (c_X5_isValley l G am (am 9) (z_up μ 8 1 0) ν v) (cwV 1 hts gX5_bloom_X5_isValley rfl rfl rfl (by decide +kernel) ⟨Nat.le_of_ble_eq_true rfl, Nat.le_of_ble_eq_true rfl⟩) (z_prW (ci := 5) (k := 0) hX hP (z_NM hP) rfl z_m0) rfl rfl hl.1 rfl (lv_room (Nat.le_of_ble_eq_true rfl)) dX5_bloom_7 ⟨Nat.le_of_ble_eq_true rfl, Nat.le_of_ble_eq_true rfl⟩) (fun _ h9 => h9) ?_
  refine W.eq (g2 := F0 m 10 ls [.int (z_wi v 0 (nI (ν 0 0) - 1))]) rfl ?_
  refine lv_if_ne (tgt := 19) hx hb dX5_bloom_10 (by decide) (fun c10 => ?_) (fun c10 => ?_)
  · skip
    exact absurd (z_iv_f (by omega) h) c10
  · skip
    refine lv_aload_n hx hb dX5_bloom_13 rfl (lv_at hl 0 rfl) ?_
    refine lv_iconst (v := 1) hx hb dX5_bloom_14 (by decide) ?_
    refine z_callm (va_runV (As := [.int 1]) (rest := []) ⟨hx, hb, hml, hown, hts⟩ (c_X5_no l G am (z_up μ 8 1 0) ν hinj 1) (cwV 1 hts gX5_bloom_X5_no rfl rfl rfl (by decide +kernel) ⟨Nat.le_of_ble_eq_true rfl, Nat.le_of_ble_eq_true rfl⟩) (z_prV (ci := 5) (k := 0) hX hP rfl z_m0) rfl rfl hl.1 rfl (lv_room (Nat.le_of_ble_eq_true rfl)) dX5_bloom_15 ⟨Nat.le_of_ble_eq_true rfl, Nat.le_of_ble_eq_true rfl⟩) hS (fun _ _ h9 => h9) (fun _ h9 => h9) (fun H locs hP hz9 hk9 hS => ?_)
    have hD := z_Dm hinj (z_cM G am (z_up (z_up μ 8 1 0) 8 1 1) ν)
    refine W.eq (g2 := F0 m 18 ls [.int 0]) rfl ?_
    have hPf : va_P (z_DD G) vwCl (z_wM G am (y_no μ 1) ν) H := by exact hP
    refine z_iret hx hb hr hlocks dX5_bloom_18 (fun t ht hW => ⟨rfl, by rw [ht]; exact hPf, hS.F ht⟩) hS.2.2 ?_
    rfl

set_option maxHeartbeats 4000000 in
set_option maxRecDepth 100000 in
theorem x_X5_bloom_2 (l : Launch) (G : z_GT) (am : Nat → Nat) (μ : Nat → Nat → Int32) (ν : Nat → Nat → Nat) (hinj : ∀ i j, i < 10 → j < 10 → am i = am j → i = j) (hn8 : ν 0 0 ≤ 8) (v : Nat) (hv : v < ν 0 0) (d : Int32) (h : d < 0) : Met l yX5_bloom wsX5_bloom ({ frames := 2, cells := 0, slots := 0, locals := 44 } : Room) (z_Pr G [.ref (am 0), .int (nI v), .int d] (z_wM G am μ ν)) (z_Qm G (some (.int 0)) (z_wM G am (y_no μ 2) ν) (z_A 10 am)) 0 0 (z_A 10 am) := by
  refine Met.ofW (cc := cX5_bloom) (maxL := 3) (ret := (some .int)) (by decide) rfl ?_
  intro p e s m args below meth c s₁ B hml hw0
  obtain ⟨rfl, hX, hP⟩ := hw0
  have hK := hX.1
  have hx := B.exec
  have hb := B.bytes
  have hr := B.returns
  have hts := atoms_spec (ws := wsX5_bloom) B.pre
  have hown : s.vm.findClass RX5 = some m.cls := findClass_of_methodNamed B.named
  have hlocks := B.notSynchronized
  have hl := lv_entry ([.ref (am 0), .int (nI v), .int d]) (n := 3) (Nat.le_of_ble_eq_true rfl)
  rw [lg_entry_eq]
  generalize (lg_sl ([.ref (am 0), .int (nI v), .int d]) ++ List.replicate (3 - (lg_sl ([.ref (am 0), .int (nI v), .int d])).length) Slot.unset).toArray = ls at hl ⊢
  have hl : lv_has ls 3 [(0, .ref (am 0)), (1, .int (nI v)), (2, .int d)] := hl
  have hf_RX5_37 : (Cond.fieldLink RX5 37 "BlossomToursModel" "thrown" "I").before ([.ref (am 0), .int (nI v), .int d] : List Value).toArray s = true := hts _ (by decide +kernel)
  have hi_RX5 : ∀ w ∈ u_ws RX5 TX5 13, w ∈ wsX5_bloom := by decide +kernel
  have hS : va_S (z_A 10 am) s.heap s.heap [] := va_S.rf
  have hD := z_Dm hinj (z_cM G am μ ν)
  refine lv_aload_n hx hb dX5_bloom_0 rfl (lv_at hl 0 rfl) ?_
  refine lv_iconst (v := 0) hx hb dX5_bloom_1 (by decide) ?_
  refine va_put (D := z_DD G) (ci := 5) (v := .int 0) (ty := .int) (C := RX5) (T := TX5) (N := 13) hx hb hts hi_RX5 tyX5 tyX5_ok nmX5 hown hK hP hD hS 0 z_m0 rfl 0 (by decide) hf_RX5_37 (fun _ h9 => h9) rfl (by decide +kernel) rfl rfl (Nat.le_of_ble_eq_true rfl) dX5_bloom_2 (fun H locs hP hD hS => ?_)
  have hP : va_P (z_DD G) vwCl (z_wM G am (z_up μ 8 1 0) ν) H := Eq.mp (congrArg (fun w => va_P (z_DD G) vwCl w H) z_tM0) hP
  have hD := z_Dm hinj (z_cM G am (z_up μ 8 1 0) ν)
  refine lv_aload_n hx hb dX5_bloom_5 rfl (lv_at hl 0 rfl) ?_
  refine lv_iload_n hx hb dX5_bloom_6 rfl (lv_at hl 1 rfl) ?_
  refine z_call (va_runV (As := [.int (nI v)]) (rest := []) ⟨hx, hb, hml, hown, hts⟩ (c_X5_isValley l G am (am 9) (z_up μ 8 1 0) ν (nI v)) (cwV 1 hts gX5_bloom_X5_isValley rfl rfl rfl (by decide +kernel) ⟨Nat.le_of_ble_eq_true rfl, Nat.le_of_ble_eq_true rfl⟩) (z_prW (ci := 5) (k := 0) hX hP (z_NM hP) rfl z_m0) rfl rfl hl.1 rfl (lv_room (Nat.le_of_ble_eq_true rfl)) dX5_bloom_7 ⟨Nat.le_of_ble_eq_true rfl, Nat.le_of_ble_eq_true rfl⟩) (fun _ h9 => h9) ?_
  refine W.eq (g2 := F0 m 10 ls [.int (z_wi (nI v) 0 (nI (ν 0 0) - 1))]) rfl ?_
  refine lv_if_ne (tgt := 19) hx hb dX5_bloom_10 (by decide) (fun c10 => ?_) (fun c10 => ?_)
  · skip
    refine lv_iload_n hx hb dX5_bloom_19 rfl (lv_at hl 2 rfl) ?_
    refine lv_if_ge (tgt := 31) hx hb dX5_bloom_20 (by decide) (fun c20 => ?_) (fun c20 => ?_)
    · skip
      exact absurd h (Int32.not_lt.mpr c20)
    · skip
      refine lv_aload_n hx hb dX5_bloom_23 rfl (lv_at hl 0 rfl) ?_
      refine lv_iconst (v := 2) hx hb dX5_bloom_24 (by decide) ?_
      refine z_callm (va_runV (As := [.int 2]) (rest := []) ⟨hx, hb, hml, hown, hts⟩ (c_X5_no l G am (z_up μ 8 1 0) ν hinj 2) (cwV 1 hts gX5_bloom_X5_no rfl rfl rfl (by decide +kernel) ⟨Nat.le_of_ble_eq_true rfl, Nat.le_of_ble_eq_true rfl⟩) (z_prV (ci := 5) (k := 0) hX hP rfl z_m0) rfl rfl hl.1 rfl (lv_room (Nat.le_of_ble_eq_true rfl)) dX5_bloom_25 ⟨Nat.le_of_ble_eq_true rfl, Nat.le_of_ble_eq_true rfl⟩) hS (fun _ _ h9 => h9) (fun _ h9 => h9) (fun H locs hP hz9 hk9 hS => ?_)
      have hD := z_Dm hinj (z_cM G am (z_up (z_up μ 8 1 0) 8 1 2) ν)
      refine W.eq (g2 := F0 m 28 ls [.int 0]) rfl ?_
      refine lv_goto (tgt := 37) hx hb dX5_bloom_28 (by decide) ?_
      have hPf : va_P (z_DD G) vwCl (z_wM G am (y_no μ 2) ν) H := by exact hP
      refine z_iret hx hb hr hlocks dX5_bloom_37 (fun t ht hW => ⟨rfl, by rw [ht]; exact hPf, hS.F ht⟩) hS.2.2 ?_
      rfl
  · skip
    exact absurd c10 (z_iv_t hv (by omega))

set_option maxHeartbeats 4000000 in
set_option maxRecDepth 100000 in
theorem c_X5_way (l : Launch) (G : z_GT) (am : Nat → Nat) (μ : Nat → Nat → Int32) (ν : Nat → Nat → Nat) (hinj : ∀ i j, i < 10 → j < 10 → am i = am j → i = j) (hn8 : ν 0 0 ≤ 8) (a b : Nat) (ha : a < ν 0 0) (hb8 : b < ν 0 0) : Met l yX5_way wsX5_way ({ frames := 2, cells := 0, slots := 0, locals := 43 } : Room) (z_Pr G [.ref (am 0), .int (nI a), .int (nI b)] (z_wM G am μ ν)) (z_Qm G (some (.int (μ 10 (8 * a + b)))) (z_wM G am (z_up μ 8 1 0) ν) (z_A 10 am)) 0 0 (z_A 10 am) := by
  refine Met.ofW (cc := cX5_way) (maxL := 3) (ret := (some .int)) (by decide) rfl ?_
  intro p e s m args below meth c s₁ B hml hw0
  obtain ⟨rfl, hX, hP⟩ := hw0
  have hK := hX.1
  have hx := B.exec
  have hb := B.bytes
  have hr := B.returns
  have hts := atoms_spec (ws := wsX5_way) B.pre
  have hown : s.vm.findClass RX5 = some m.cls := findClass_of_methodNamed B.named
  have hlocks := B.notSynchronized
  have hl := lv_entry ([.ref (am 0), .int (nI a), .int (nI b)]) (n := 3) (Nat.le_of_ble_eq_true rfl)
  rw [lg_entry_eq]
  generalize (lg_sl ([.ref (am 0), .int (nI a), .int (nI b)]) ++ List.replicate (3 - (lg_sl ([.ref (am 0), .int (nI a), .int (nI b)])).length) Slot.unset).toArray = ls at hl ⊢
  have hl : lv_has ls 3 [(0, .ref (am 0)), (1, .int (nI a)), (2, .int (nI b))] := hl
  have hf_RX5_19 : (Cond.fieldLink RX5 19 "BlossomToursModel" "ways" "[I").before ([.ref (am 0), .int (nI a), .int (nI b)] : List Value).toArray s = true := hts _ (by decide +kernel)
  have hf_RX5_37 : (Cond.fieldLink RX5 37 "BlossomToursModel" "thrown" "I").before ([.ref (am 0), .int (nI a), .int (nI b)] : List Value).toArray s = true := hts _ (by decide +kernel)
  have hi_RX5 : ∀ w ∈ u_ws RX5 TX5 13, w ∈ wsX5_way := by decide +kernel
  have hS : va_S (z_A 10 am) s.heap s.heap [] := va_S.rf
  have hD := z_Dm hinj (z_cM G am μ ν)
  refine lv_aload_n hx hb dX5_way_0 rfl (lv_at hl 0 rfl) ?_
  refine lv_iconst (v := 0) hx hb dX5_way_1 (by decide) ?_
  refine va_put (D := z_DD G) (ci := 5) (v := .int 0) (ty := .int) (C := RX5) (T := TX5) (N := 13) hx hb hts hi_RX5 tyX5 tyX5_ok nmX5 hown hK hP hD hS 0 z_m0 rfl 0 (by decide) hf_RX5_37 (fun _ h9 => h9) rfl (by decide +kernel) rfl rfl (Nat.le_of_ble_eq_true rfl) dX5_way_2 (fun H locs hP hD hS => ?_)
  have hP : va_P (z_DD G) vwCl (z_wM G am (z_up μ 8 1 0) ν) H := Eq.mp (congrArg (fun w => va_P (z_DD G) vwCl w H) z_tM0) hP
  have hD := z_Dm hinj (z_cM G am (z_up μ 8 1 0) ν)
  refine lv_aload_n hx hb dX5_way_5 rfl (lv_at hl 0 rfl) ?_
  refine lv_iload_n hx hb dX5_way_6 rfl (lv_at hl 1 rfl) ?_
  refine z_call (va_runV (As := [.int (nI a)]) (rest := []) ⟨hx, hb, hml, hown, hts⟩ (c_X5_isValley l G am (am 9) (z_up μ 8 1 0) ν (nI a)) (cwV 1 hts gX5_way_X5_isValley rfl rfl rfl (by decide +kernel) ⟨Nat.le_of_ble_eq_true rfl, Nat.le_of_ble_eq_true rfl⟩) (z_prW (ci := 5) (k := 0) hX hP (z_NM hP) rfl z_m0) rfl rfl hl.1 rfl (lv_room (Nat.le_of_ble_eq_true rfl)) dX5_way_7 ⟨Nat.le_of_ble_eq_true rfl, Nat.le_of_ble_eq_true rfl⟩) (fun _ h9 => h9) ?_
  refine W.eq (g2 := F0 m 10 ls [.int (z_wi (nI a) 0 (nI (ν 0 0) - 1))]) rfl ?_
  refine lv_if_eq (tgt := 35) hx hb dX5_way_10 (by decide) (fun c10 => ?_) (fun c10 => ?_)
  · skip
    exact absurd c10 (z_iv_t ha (by omega))
  · skip
    refine lv_aload_n hx hb dX5_way_13 rfl (lv_at hl 0 rfl) ?_
    refine lv_iload_n hx hb dX5_way_14 rfl (lv_at hl 2 rfl) ?_
    refine z_call (va_runV (As := [.int (nI b)]) (rest := []) ⟨hx, hb, hml, hown, hts⟩ (c_X5_isValley l G am (am 9) (z_up μ 8 1 0) ν (nI b)) (cwV 1 hts gX5_way_X5_isValley rfl rfl rfl (by decide +kernel) ⟨Nat.le_of_ble_eq_true rfl, Nat.le_of_ble_eq_true rfl⟩) (z_prW (ci := 5) (k := 0) hX hP (z_NM hP) rfl z_m0) rfl rfl hl.1 rfl (lv_room (Nat.le_of_ble_eq_true rfl)) dX5_way_15 ⟨Nat.le_of_ble_eq_true rfl, Nat.le_of_ble_eq_true rfl⟩) (fun _ h9 => h9) ?_
    refine W.eq (g2 := F0 m 18 ls [.int (z_wi (nI b) 0 (nI (ν 0 0) - 1))]) rfl ?_
    refine lv_if_eq (tgt := 35) hx hb dX5_way_18 (by decide) (fun c18 => ?_) (fun c18 => ?_)
    · skip
      exact absurd c18 (z_iv_t hb8 (by omega))
    · skip
      refine lv_aload_n hx hb dX5_way_21 rfl (lv_at hl 0 rfl) ?_
      refine va_get (D := z_DD G) (ci := 5) (v := .ref (am 4)) (C := RX5) (T := TX5) (N := 13) hx hb hts hi_RX5 hown hK hP 0 z_m0 rfl 6 (by decide) hf_RX5_19 (fun _ h9 => h9) rfl dX5_way_22 ?_
      refine lv_bipush (v := nI 8) hx hb dX5_way_25 (by decide) ?_
      refine lv_iload_n hx hb dX5_way_27 rfl (lv_at hl 1 rfl) ?_
      refine lv_imul hx hb dX5_way_28 ?_
      refine z_top (show (.int ((nI 8) * (nI a)) : Value) = .int (nI (8 * a)) from by rw [pk_mul]) ?_
      refine lv_iload_n hx hb dX5_way_29 rfl (lv_at hl 2 rfl) ?_
      refine lv_iadd hx hb dX5_way_30 ?_
      refine z_top (show (.int ((nI (8 * a)) + (nI b)) : Value) = .int (nI ((8 * a) + b)) from by rw [nI_add]) ?_
      refine z_iald (k := ((8 * a) + b)) (f := fun z9 => (z_up μ 8 1 0) 10 z9) hx hb hK hP 4 0 z_m4 rfl (by omega) (by decide) dX5_way_31 ?_
      refine lv_goto (tgt := 40) hx hb dX5_way_32 (by decide) ?_
      have hPf : va_P (z_DD G) vwCl (z_wM G am (z_up μ 8 1 0) ν) H := by exact hP
      refine z_iret hx hb hr hlocks dX5_way_40 (fun t ht hW => ⟨rfl, by rw [ht]; exact hPf, hS.F ht⟩) hS.2.2 ?_
      rfl

set_option maxHeartbeats 4000000 in
set_option maxRecDepth 100000 in
theorem x_X5_way_1 (l : Launch) (G : z_GT) (am : Nat → Nat) (μ : Nat → Nat → Int32) (ν : Nat → Nat → Nat) (hinj : ∀ i j, i < 10 → j < 10 → am i = am j → i = j) (hn8 : ν 0 0 ≤ 8) (v w : Int32) (h : v < 0 ∨ ¬ v < nI (ν 0 0)) : Met l yX5_way wsX5_way ({ frames := 2, cells := 0, slots := 0, locals := 43 } : Room) (z_Pr G [.ref (am 0), .int v, .int w] (z_wM G am μ ν)) (z_Qm G (some (.int 0)) (z_wM G am (y_no μ 1) ν) (z_A 10 am)) 0 0 (z_A 10 am) := by
  refine Met.ofW (cc := cX5_way) (maxL := 3) (ret := (some .int)) (by decide) rfl ?_
  intro p e s m args below meth c s₁ B hml hw0
  obtain ⟨rfl, hX, hP⟩ := hw0
  have hK := hX.1
  have hx := B.exec
  have hb := B.bytes
  have hr := B.returns
  have hts := atoms_spec (ws := wsX5_way) B.pre
  have hown : s.vm.findClass RX5 = some m.cls := findClass_of_methodNamed B.named
  have hlocks := B.notSynchronized
  have hl := lv_entry ([.ref (am 0), .int v, .int w]) (n := 3) (Nat.le_of_ble_eq_true rfl)
  rw [lg_entry_eq]
  generalize (lg_sl ([.ref (am 0), .int v, .int w]) ++ List.replicate (3 - (lg_sl ([.ref (am 0), .int v, .int w])).length) Slot.unset).toArray = ls at hl ⊢
  have hl : lv_has ls 3 [(0, .ref (am 0)), (1, .int v), (2, .int w)] := hl
  have hf_RX5_37 : (Cond.fieldLink RX5 37 "BlossomToursModel" "thrown" "I").before ([.ref (am 0), .int v, .int w] : List Value).toArray s = true := hts _ (by decide +kernel)
  have hi_RX5 : ∀ w ∈ u_ws RX5 TX5 13, w ∈ wsX5_way := by decide +kernel
  have hS : va_S (z_A 10 am) s.heap s.heap [] := va_S.rf
  have hD := z_Dm hinj (z_cM G am μ ν)
  refine lv_aload_n hx hb dX5_way_0 rfl (lv_at hl 0 rfl) ?_
  refine lv_iconst (v := 0) hx hb dX5_way_1 (by decide) ?_
  refine va_put (D := z_DD G) (ci := 5) (v := .int 0) (ty := .int) (C := RX5) (T := TX5) (N := 13) hx hb hts hi_RX5 tyX5 tyX5_ok nmX5 hown hK hP hD hS 0 z_m0 rfl 0 (by decide) hf_RX5_37 (fun _ h9 => h9) rfl (by decide +kernel) rfl rfl (Nat.le_of_ble_eq_true rfl) dX5_way_2 (fun H locs hP hD hS => ?_)
  have hP : va_P (z_DD G) vwCl (z_wM G am (z_up μ 8 1 0) ν) H := Eq.mp (congrArg (fun w => va_P (z_DD G) vwCl w H) z_tM0) hP
  have hD := z_Dm hinj (z_cM G am (z_up μ 8 1 0) ν)
  refine lv_aload_n hx hb dX5_way_5 rfl (lv_at hl 0 rfl) ?_
  refine lv_iload_n hx hb dX5_way_6 rfl (lv_at hl 1 rfl) ?_
  refine z_call (va_runV (As := [.int v]) (rest := []) ⟨hx, hb, hml, hown, hts⟩ (c_X5_isValley l G am (am 9) (z_up μ 8 1 0) ν v) (cwV 1 hts gX5_way_X5_isValley rfl rfl rfl (by decide +kernel) ⟨Nat.le_of_ble_eq_true rfl, Nat.le_of_ble_eq_true rfl⟩) (z_prW (ci := 5) (k := 0) hX hP (z_NM hP) rfl z_m0) rfl rfl hl.1 rfl (lv_room (Nat.le_of_ble_eq_true rfl)) dX5_way_7 ⟨Nat.le_of_ble_eq_true rfl, Nat.le_of_ble_eq_true rfl⟩) (fun _ h9 => h9) ?_
  refine W.eq (g2 := F0 m 10 ls [.int (z_wi v 0 (nI (ν 0 0) - 1))]) rfl ?_
  refine lv_if_eq (tgt := 35) hx hb dX5_way_10 (by decide) (fun c10 => ?_) (fun c10 => ?_)
  · skip
    refine lv_aload_n hx hb dX5_way_35 rfl (lv_at hl 0 rfl) ?_
    refine lv_iconst (v := 1) hx hb dX5_way_36 (by decide) ?_
    refine z_callm (va_runV (As := [.int 1]) (rest := []) ⟨hx, hb, hml, hown, hts⟩ (c_X5_no l G am (z_up μ 8 1 0) ν hinj 1) (cwV 1 hts gX5_way_X5_no rfl rfl rfl (by decide +kernel) ⟨Nat.le_of_ble_eq_true rfl, Nat.le_of_ble_eq_true rfl⟩) (z_prV (ci := 5) (k := 0) hX hP rfl z_m0) rfl rfl hl.1 rfl (lv_room (Nat.le_of_ble_eq_true rfl)) dX5_way_37 ⟨Nat.le_of_ble_eq_true rfl, Nat.le_of_ble_eq_true rfl⟩) hS (fun _ _ h9 => h9) (fun _ h9 => h9) (fun H locs hP hz9 hk9 hS => ?_)
    have hD := z_Dm hinj (z_cM G am (z_up (z_up μ 8 1 0) 8 1 1) ν)
    refine W.eq (g2 := F0 m 40 ls [.int 0]) rfl ?_
    have hPf : va_P (z_DD G) vwCl (z_wM G am (y_no μ 1) ν) H := by exact hP
    refine z_iret hx hb hr hlocks dX5_way_40 (fun t ht hW => ⟨rfl, by rw [ht]; exact hPf, hS.F ht⟩) hS.2.2 ?_
    rfl
  · skip
    exact absurd (z_iv_f (by omega) h) c10

set_option maxHeartbeats 4000000 in
set_option maxRecDepth 100000 in
theorem x_X5_way_2 (l : Launch) (G : z_GT) (am : Nat → Nat) (μ : Nat → Nat → Int32) (ν : Nat → Nat → Nat) (hinj : ∀ i j, i < 10 → j < 10 → am i = am j → i = j) (hn8 : ν 0 0 ≤ 8) (a : Nat) (ha : a < ν 0 0) (w : Int32) (h : w < 0 ∨ ¬ w < nI (ν 0 0)) : Met l yX5_way wsX5_way ({ frames := 2, cells := 0, slots := 0, locals := 43 } : Room) (z_Pr G [.ref (am 0), .int (nI a), .int w] (z_wM G am μ ν)) (z_Qm G (some (.int 0)) (z_wM G am (y_no μ 1) ν) (z_A 10 am)) 0 0 (z_A 10 am) := by
  refine Met.ofW (cc := cX5_way) (maxL := 3) (ret := (some .int)) (by decide) rfl ?_
  intro p e s m args below meth c s₁ B hml hw0
  obtain ⟨rfl, hX, hP⟩ := hw0
  have hK := hX.1
  have hx := B.exec
  have hb := B.bytes
  have hr := B.returns
  have hts := atoms_spec (ws := wsX5_way) B.pre
  have hown : s.vm.findClass RX5 = some m.cls := findClass_of_methodNamed B.named
  have hlocks := B.notSynchronized
  have hl := lv_entry ([.ref (am 0), .int (nI a), .int w]) (n := 3) (Nat.le_of_ble_eq_true rfl)
  rw [lg_entry_eq]
  generalize (lg_sl ([.ref (am 0), .int (nI a), .int w]) ++ List.replicate (3 - (lg_sl ([.ref (am 0), .int (nI a), .int w])).length) Slot.unset).toArray = ls at hl ⊢
  have hl : lv_has ls 3 [(0, .ref (am 0)), (1, .int (nI a)), (2, .int w)] := hl
  have hf_RX5_37 : (Cond.fieldLink RX5 37 "BlossomToursModel" "thrown" "I").before ([.ref (am 0), .int (nI a), .int w] : List Value).toArray s = true := hts _ (by decide +kernel)
  have hi_RX5 : ∀ w ∈ u_ws RX5 TX5 13, w ∈ wsX5_way := by decide +kernel
  have hS : va_S (z_A 10 am) s.heap s.heap [] := va_S.rf
  have hD := z_Dm hinj (z_cM G am μ ν)
  refine lv_aload_n hx hb dX5_way_0 rfl (lv_at hl 0 rfl) ?_
  refine lv_iconst (v := 0) hx hb dX5_way_1 (by decide) ?_
  refine va_put (D := z_DD G) (ci := 5) (v := .int 0) (ty := .int) (C := RX5) (T := TX5) (N := 13) hx hb hts hi_RX5 tyX5 tyX5_ok nmX5 hown hK hP hD hS 0 z_m0 rfl 0 (by decide) hf_RX5_37 (fun _ h9 => h9) rfl (by decide +kernel) rfl rfl (Nat.le_of_ble_eq_true rfl) dX5_way_2 (fun H locs hP hD hS => ?_)
  have hP : va_P (z_DD G) vwCl (z_wM G am (z_up μ 8 1 0) ν) H := Eq.mp (congrArg (fun w => va_P (z_DD G) vwCl w H) z_tM0) hP
  have hD := z_Dm hinj (z_cM G am (z_up μ 8 1 0) ν)
  refine lv_aload_n hx hb dX5_way_5 rfl (lv_at hl 0 rfl) ?_
  refine lv_iload_n hx hb dX5_way_6 rfl (lv_at hl 1 rfl) ?_
  refine z_call (va_runV (As := [.int (nI a)]) (rest := []) ⟨hx, hb, hml, hown, hts⟩ (c_X5_isValley l G am (am 9) (z_up μ 8 1 0) ν (nI a)) (cwV 1 hts gX5_way_X5_isValley rfl rfl rfl (by decide +kernel) ⟨Nat.le_of_ble_eq_true rfl, Nat.le_of_ble_eq_true rfl⟩) (z_prW (ci := 5) (k := 0) hX hP (z_NM hP) rfl z_m0) rfl rfl hl.1 rfl (lv_room (Nat.le_of_ble_eq_true rfl)) dX5_way_7 ⟨Nat.le_of_ble_eq_true rfl, Nat.le_of_ble_eq_true rfl⟩) (fun _ h9 => h9) ?_
  refine W.eq (g2 := F0 m 10 ls [.int (z_wi (nI a) 0 (nI (ν 0 0) - 1))]) rfl ?_
  refine lv_if_eq (tgt := 35) hx hb dX5_way_10 (by decide) (fun c10 => ?_) (fun c10 => ?_)
  · skip
    exact absurd c10 (z_iv_t ha (by omega))
  · skip
    refine lv_aload_n hx hb dX5_way_13 rfl (lv_at hl 0 rfl) ?_
    refine lv_iload_n hx hb dX5_way_14 rfl (lv_at hl 2 rfl) ?_
    refine z_call (va_runV (As := [.int w]) (rest := []) ⟨hx, hb, hml, hown, hts⟩ (c_X5_isValley l G am (am 9) (z_up μ 8 1 0) ν w) (cwV 1 hts gX5_way_X5_isValley rfl rfl rfl (by decide +kernel) ⟨Nat.le_of_ble_eq_true rfl, Nat.le_of_ble_eq_true rfl⟩) (z_prW (ci := 5) (k := 0) hX hP (z_NM hP) rfl z_m0) rfl rfl hl.1 rfl (lv_room (Nat.le_of_ble_eq_true rfl)) dX5_way_15 ⟨Nat.le_of_ble_eq_true rfl, Nat.le_of_ble_eq_true rfl⟩) (fun _ h9 => h9) ?_
    refine W.eq (g2 := F0 m 18 ls [.int (z_wi w 0 (nI (ν 0 0) - 1))]) rfl ?_
    refine lv_if_eq (tgt := 35) hx hb dX5_way_18 (by decide) (fun c18 => ?_) (fun c18 => ?_)
    · skip
      refine lv_aload_n hx hb dX5_way_35 rfl (lv_at hl 0 rfl) ?_
      refine lv_iconst (v := 1) hx hb dX5_way_36 (by decide) ?_
      refine z_callm (va_runV (As := [.int 1]) (rest := []) ⟨hx, hb, hml, hown, hts⟩ (c_X5_no l G am (z_up μ 8 1 0) ν hinj 1) (cwV 1 hts gX5_way_X5_no rfl rfl rfl (by decide +kernel) ⟨Nat.le_of_ble_eq_true rfl, Nat.le_of_ble_eq_true rfl⟩) (z_prV (ci := 5) (k := 0) hX hP rfl z_m0) rfl rfl hl.1 rfl (lv_room (Nat.le_of_ble_eq_true rfl)) dX5_way_37 ⟨Nat.le_of_ble_eq_true rfl, Nat.le_of_ble_eq_true rfl⟩) hS (fun _ _ h9 => h9) (fun _ h9 => h9) (fun H locs hP hz9 hk9 hS => ?_)
      have hD := z_Dm hinj (z_cM G am (z_up (z_up μ 8 1 0) 8 1 1) ν)
      refine W.eq (g2 := F0 m 40 ls [.int 0]) rfl ?_
      have hPf : va_P (z_DD G) vwCl (z_wM G am (y_no μ 1) ν) H := by exact hP
      refine z_iret hx hb hr hlocks dX5_way_40 (fun t ht hW => ⟨rfl, by rw [ht]; exact hPf, hS.F ht⟩) hS.2.2 ?_
      rfl
    · skip
      exact absurd (z_iv_f (by omega) h) c18

set_option maxHeartbeats 4000000 in
set_option maxRecDepth 100000 in
theorem c_X5_tour (l : Launch) (G : z_GT) (am : Nat → Nat) (μ : Nat → Nat → Int32) (ν : Nat → Nat → Nat) (hinj : ∀ i j, i < 10 → j < 10 → am i = am j → i = j) (x : Int32) (g1 : ¬ z_wi x 1 60 = 0) (g2 : ν 0 1 < 6) : Met l yX5_tour wsX5_tour ({ frames := 1, cells := 0, slots := 0, locals := 22 } : Room) (z_Pr G [.ref (am 0), .int x] (z_wM G am μ ν)) (z_Qm G (some (.int (nI (ν 0 1)))) (z_wM G am (z_up (z_up μ 8 1 0) 5 (ν 0 1) x) (z_up ν 0 1 (ν 0 1 + 1))) (z_A 10 am)) 0 0 (z_A 10 am) := by
  refine Met.ofW (cc := cX5_tour) (maxL := 2) (ret := (some .int)) (by decide) rfl ?_
  intro p e s m args below meth c s₁ B hml hw0
  obtain ⟨rfl, hX, hP⟩ := hw0
  have hK := hX.1
  have hx := B.exec
  have hb := B.bytes
  have hr := B.returns
  have hts := atoms_spec (ws := wsX5_tour) B.pre
  have hown : s.vm.findClass RX5 = some m.cls := findClass_of_methodNamed B.named
  have hlocks := B.notSynchronized
  have hl := lv_entry ([.ref (am 0), .int x]) (n := 2) (Nat.le_of_ble_eq_true rfl)
  rw [lg_entry_eq]
  generalize (lg_sl ([.ref (am 0), .int x]) ++ List.replicate (2 - (lg_sl ([.ref (am 0), .int x])).length) Slot.unset).toArray = ls at hl ⊢
  have hl : lv_has ls 2 [(0, .ref (am 0)), (1, .int x)] := hl
  have hf_RX5_25 : (Cond.fieldLink RX5 25 "BlossomToursModel" "tourists" "[I").before ([.ref (am 0), .int x] : List Value).toArray s = true := hts _ (by decide +kernel)
  have hf_RX5_37 : (Cond.fieldLink RX5 37 "BlossomToursModel" "thrown" "I").before ([.ref (am 0), .int x] : List Value).toArray s = true := hts _ (by decide +kernel)
  have hf_RX5_48 : (Cond.fieldLink RX5 48 "BlossomToursModel" "tours" "I").before ([.ref (am 0), .int x] : List Value).toArray s = true := hts _ (by decide +kernel)
  have hi_RX5 : ∀ w ∈ u_ws RX5 TX5 13, w ∈ wsX5_tour := by decide +kernel
  have hS : va_S (z_A 10 am) s.heap s.heap [] := va_S.rf
  have hD := z_Dm hinj (z_cM G am μ ν)
  refine lv_aload_n hx hb dX5_tour_0 rfl (lv_at hl 0 rfl) ?_
  refine lv_iconst (v := 0) hx hb dX5_tour_1 (by decide) ?_
  refine va_put (D := z_DD G) (ci := 5) (v := .int 0) (ty := .int) (C := RX5) (T := TX5) (N := 13) hx hb hts hi_RX5 tyX5 tyX5_ok nmX5 hown hK hP hD hS 0 z_m0 rfl 0 (by decide) hf_RX5_37 (fun _ h9 => h9) rfl (by decide +kernel) rfl rfl (Nat.le_of_ble_eq_true rfl) dX5_tour_2 (fun H locs hP hD hS => ?_)
  have hP : va_P (z_DD G) vwCl (z_wM G am (z_up μ 8 1 0) ν) H := Eq.mp (congrArg (fun w => va_P (z_DD G) vwCl w H) z_tM0) hP
  have hD := z_Dm hinj (z_cM G am (z_up μ 8 1 0) ν)
  refine lv_iload_n hx hb dX5_tour_5 rfl (lv_at hl 1 rfl) ?_
  refine lv_iconst (v := 1) hx hb dX5_tour_6 (by decide) ?_
  refine lv_bipush (v := 60) hx hb dX5_tour_7 (by decide) ?_
  refine z_call (va_runS (As := [.int x, .int 1, .int 60]) (rest := []) ⟨hx, hb, hml, hown, hts⟩ (c_X5_isIn l G x 1 60) (va_cwS 3 hts gX5_tour_X5_isIn rfl rfl rfl (by decide +kernel) ⟨Nat.le_of_ble_eq_true rfl, Nat.le_of_ble_eq_true rfl⟩) (z_prS hX z_P0) rfl rfl hl.1 rfl (lv_room (Nat.le_of_ble_eq_true rfl)) dX5_tour_9 ⟨Nat.le_of_ble_eq_true rfl, Nat.le_of_ble_eq_true rfl⟩) (fun _ h9 => h9) ?_
  refine W.eq (g2 := F0 m 12 ls [.int (z_wi x 1 60)]) rfl ?_
  refine lv_if_ne (tgt := 21) hx hb dX5_tour_12 (by decide) (fun c12 => ?_) (fun c12 => ?_)
  · skip
    refine lv_aload_n hx hb dX5_tour_21 rfl (lv_at hl 0 rfl) ?_
    refine va_get (D := z_DD G) (ci := 5) (v := .int (nI (ν 0 1))) (C := RX5) (T := TX5) (N := 13) hx hb hts hi_RX5 hown hK hP 0 z_m0 rfl 8 (by decide) hf_RX5_48 (fun _ h9 => h9) rfl dX5_tour_22 ?_
    refine lv_bipush (v := nI 6) hx hb dX5_tour_25 (by decide) ?_
    refine lv_icmp_ne (tgt := 36) hx hb dX5_tour_27 (by decide) (fun c27 => ?_) (fun c27 => ?_)
    · skip
      refine lv_aload_n hx hb dX5_tour_36 rfl (lv_at hl 0 rfl) ?_
      refine va_get (D := z_DD G) (ci := 5) (v := .ref (am 6)) (C := RX5) (T := TX5) (N := 13) hx hb hts hi_RX5 hown hK hP 0 z_m0 rfl 9 (by decide) hf_RX5_25 (fun _ h9 => h9) rfl dX5_tour_37 ?_
      refine lv_aload_n hx hb dX5_tour_40 rfl (lv_at hl 0 rfl) ?_
      refine va_get (D := z_DD G) (ci := 5) (v := .int (nI (ν 0 1))) (C := RX5) (T := TX5) (N := 13) hx hb hts hi_RX5 hown hK hP 0 z_m0 rfl 8 (by decide) hf_RX5_48 (fun _ h9 => h9) rfl dX5_tour_41 ?_
      refine lv_iload_n hx hb dX5_tour_44 rfl (lv_at hl 1 rfl) ?_
      refine va_iast (f := fun z9 => (z_up μ 8 1 0) 5 z9) hx hb hK hP hD hS 6 0 z_m6 rfl (vp_in_nI g2 (by omega)) dX5_tour_45 (fun H locs hP hD hS => ?_)
      have hP : va_P (z_DD G) vwCl (z_wM G am (z_up (z_up μ 8 1 0) 5 (ν 0 1) x) ν) H := Eq.mp (congrArg (fun w => va_P (z_DD G) vwCl w H) (z_tB6 (by omega))) hP
      have hD := z_Dm hinj (z_cM G am (z_up (z_up μ 8 1 0) 5 (ν 0 1) x) ν)
      refine lv_aload_n hx hb dX5_tour_46 rfl (lv_at hl 0 rfl) ?_
      refine lv_dup hx hb dX5_tour_47 rfl ?_
      refine va_get (D := z_DD G) (ci := 5) (v := .int (nI (ν 0 1))) (C := RX5) (T := TX5) (N := 13) hx hb hts hi_RX5 hown hK hP 0 z_m0 rfl 8 (by decide) hf_RX5_48 (fun _ h9 => h9) rfl dX5_tour_48 ?_
      refine lv_iconst (v := 1) hx hb dX5_tour_51 (by decide) ?_
      refine lv_iadd hx hb dX5_tour_52 ?_
      refine z_top (show (.int ((nI (ν 0 1)) + 1) : Value) = .int (nI (ν 0 1 + 1)) from by (show Value.int (nI (ν 0 1) + 1) = _; rw [nI_1])) ?_
      refine va_put (D := z_DD G) (ci := 5) (v := .int (nI (ν 0 1 + 1))) (ty := .int) (C := RX5) (T := TX5) (N := 13) hx hb hts hi_RX5 tyX5 tyX5_ok nmX5 hown hK hP hD hS 0 z_m0 rfl 8 (by decide) hf_RX5_48 (fun _ h9 => h9) rfl (by decide +kernel) rfl rfl (Nat.le_of_ble_eq_true rfl) dX5_tour_53 (fun H locs hP hD hS => ?_)
      have hP : va_P (z_DD G) vwCl (z_wM G am (z_up (z_up μ 8 1 0) 5 (ν 0 1) x) (z_up ν 0 1 (ν 0 1 + 1))) H := Eq.mp (congrArg (fun w => va_P (z_DD G) vwCl w H) z_tM8) hP
      have hD := z_Dm hinj (z_cM G am (z_up (z_up μ 8 1 0) 5 (ν 0 1) x) (z_up ν 0 1 (ν 0 1 + 1)))
      refine lv_aload_n hx hb dX5_tour_56 rfl (lv_at hl 0 rfl) ?_
      refine va_get (D := z_DD G) (ci := 5) (v := .int (nI ((z_up ν 0 1 (ν 0 1 + 1)) 0 1))) (C := RX5) (T := TX5) (N := 13) hx hb hts hi_RX5 hown hK hP 0 z_m0 rfl 8 (by decide) hf_RX5_48 (fun _ h9 => h9) rfl dX5_tour_57 ?_
      refine lv_iconst (v := 1) hx hb dX5_tour_60 (by decide) ?_
      refine lv_isub hx hb dX5_tour_61 ?_
      refine z_top (show (.int ((nI ((z_up ν 0 1 (ν 0 1 + 1)) 0 1)) - 1) : Value) = .int (nI (ν 0 1)) from by (show Value.int (nI (ν 0 1 + 1) - 1) = _; rw [nI_pred])) ?_
      have hPf : va_P (z_DD G) vwCl (z_wM G am (z_up (z_up μ 8 1 0) 5 (ν 0 1) x) (z_up ν 0 1 (ν 0 1 + 1))) H := by exact hP
      refine z_iret hx hb hr hlocks dX5_tour_62 (fun t ht hW => ⟨rfl, by rw [ht]; exact hPf, hS.F ht⟩) hS.2.2 ?_
      rfl
    · skip
      exact absurd ((nI_eq (by omega) (by decide)).mp c27) (by omega)
  · skip
    exact absurd c12 g1

set_option maxHeartbeats 4000000 in
set_option maxRecDepth 100000 in
theorem x_X5_tour_1 (l : Launch) (G : z_GT) (am : Nat → Nat) (μ : Nat → Nat → Int32) (ν : Nat → Nat → Nat) (hinj : ∀ i j, i < 10 → j < 10 → am i = am j → i = j) (x : Int32) (h : z_wi x 1 60 = 0) : Met l yX5_tour wsX5_tour ({ frames := 1, cells := 0, slots := 0, locals := 22 } : Room) (z_Pr G [.ref (am 0), .int x] (z_wM G am μ ν)) (z_Qm G (some (.int 0)) (z_wM G am (y_no μ 1) ν) (z_A 10 am)) 0 0 (z_A 10 am) := by
  refine Met.ofW (cc := cX5_tour) (maxL := 2) (ret := (some .int)) (by decide) rfl ?_
  intro p e s m args below meth c s₁ B hml hw0
  obtain ⟨rfl, hX, hP⟩ := hw0
  have hK := hX.1
  have hx := B.exec
  have hb := B.bytes
  have hr := B.returns
  have hts := atoms_spec (ws := wsX5_tour) B.pre
  have hown : s.vm.findClass RX5 = some m.cls := findClass_of_methodNamed B.named
  have hlocks := B.notSynchronized
  have hl := lv_entry ([.ref (am 0), .int x]) (n := 2) (Nat.le_of_ble_eq_true rfl)
  rw [lg_entry_eq]
  generalize (lg_sl ([.ref (am 0), .int x]) ++ List.replicate (2 - (lg_sl ([.ref (am 0), .int x])).length) Slot.unset).toArray = ls at hl ⊢
  have hl : lv_has ls 2 [(0, .ref (am 0)), (1, .int x)] := hl
  have hf_RX5_37 : (Cond.fieldLink RX5 37 "BlossomToursModel" "thrown" "I").before ([.ref (am 0), .int x] : List Value).toArray s = true := hts _ (by decide +kernel)
  have hi_RX5 : ∀ w ∈ u_ws RX5 TX5 13, w ∈ wsX5_tour := by decide +kernel
  have hS : va_S (z_A 10 am) s.heap s.heap [] := va_S.rf
  have hD := z_Dm hinj (z_cM G am μ ν)
  refine lv_aload_n hx hb dX5_tour_0 rfl (lv_at hl 0 rfl) ?_
  refine lv_iconst (v := 0) hx hb dX5_tour_1 (by decide) ?_
  refine va_put (D := z_DD G) (ci := 5) (v := .int 0) (ty := .int) (C := RX5) (T := TX5) (N := 13) hx hb hts hi_RX5 tyX5 tyX5_ok nmX5 hown hK hP hD hS 0 z_m0 rfl 0 (by decide) hf_RX5_37 (fun _ h9 => h9) rfl (by decide +kernel) rfl rfl (Nat.le_of_ble_eq_true rfl) dX5_tour_2 (fun H locs hP hD hS => ?_)
  have hP : va_P (z_DD G) vwCl (z_wM G am (z_up μ 8 1 0) ν) H := Eq.mp (congrArg (fun w => va_P (z_DD G) vwCl w H) z_tM0) hP
  have hD := z_Dm hinj (z_cM G am (z_up μ 8 1 0) ν)
  refine lv_iload_n hx hb dX5_tour_5 rfl (lv_at hl 1 rfl) ?_
  refine lv_iconst (v := 1) hx hb dX5_tour_6 (by decide) ?_
  refine lv_bipush (v := 60) hx hb dX5_tour_7 (by decide) ?_
  refine z_call (va_runS (As := [.int x, .int 1, .int 60]) (rest := []) ⟨hx, hb, hml, hown, hts⟩ (c_X5_isIn l G x 1 60) (va_cwS 3 hts gX5_tour_X5_isIn rfl rfl rfl (by decide +kernel) ⟨Nat.le_of_ble_eq_true rfl, Nat.le_of_ble_eq_true rfl⟩) (z_prS hX z_P0) rfl rfl hl.1 rfl (lv_room (Nat.le_of_ble_eq_true rfl)) dX5_tour_9 ⟨Nat.le_of_ble_eq_true rfl, Nat.le_of_ble_eq_true rfl⟩) (fun _ h9 => h9) ?_
  refine W.eq (g2 := F0 m 12 ls [.int (z_wi x 1 60)]) rfl ?_
  refine lv_if_ne (tgt := 21) hx hb dX5_tour_12 (by decide) (fun c12 => ?_) (fun c12 => ?_)
  · skip
    exact absurd h c12
  · skip
    refine lv_aload_n hx hb dX5_tour_15 rfl (lv_at hl 0 rfl) ?_
    refine lv_iconst (v := 1) hx hb dX5_tour_16 (by decide) ?_
    refine z_callm (va_runV (As := [.int 1]) (rest := []) ⟨hx, hb, hml, hown, hts⟩ (c_X5_no l G am (z_up μ 8 1 0) ν hinj 1) (cwV 1 hts gX5_tour_X5_no rfl rfl rfl (by decide +kernel) ⟨Nat.le_of_ble_eq_true rfl, Nat.le_of_ble_eq_true rfl⟩) (z_prV (ci := 5) (k := 0) hX hP rfl z_m0) rfl rfl hl.1 rfl (lv_room (Nat.le_of_ble_eq_true rfl)) dX5_tour_17 ⟨Nat.le_of_ble_eq_true rfl, Nat.le_of_ble_eq_true rfl⟩) hS (fun _ _ h9 => h9) (fun _ h9 => h9) (fun H locs hP hz9 hk9 hS => ?_)
    have hD := z_Dm hinj (z_cM G am (z_up (z_up μ 8 1 0) 8 1 1) ν)
    refine W.eq (g2 := F0 m 20 ls [.int 0]) rfl ?_
    have hPf : va_P (z_DD G) vwCl (z_wM G am (y_no μ 1) ν) H := by exact hP
    refine z_iret hx hb hr hlocks dX5_tour_20 (fun t ht hW => ⟨rfl, by rw [ht]; exact hPf, hS.F ht⟩) hS.2.2 ?_
    rfl

set_option maxHeartbeats 4000000 in
set_option maxRecDepth 100000 in
theorem x_X5_tour_2 (l : Launch) (G : z_GT) (am : Nat → Nat) (μ : Nat → Nat → Int32) (ν : Nat → Nat → Nat) (hinj : ∀ i j, i < 10 → j < 10 → am i = am j → i = j) (x : Int32) (g1 : ¬ z_wi x 1 60 = 0) (g2 : ν 0 1 = 6) : Met l yX5_tour wsX5_tour ({ frames := 1, cells := 0, slots := 0, locals := 22 } : Room) (z_Pr G [.ref (am 0), .int x] (z_wM G am μ ν)) (z_Qm G (some (.int 0)) (z_wM G am (y_no μ 2) ν) (z_A 10 am)) 0 0 (z_A 10 am) := by
  refine Met.ofW (cc := cX5_tour) (maxL := 2) (ret := (some .int)) (by decide) rfl ?_
  intro p e s m args below meth c s₁ B hml hw0
  obtain ⟨rfl, hX, hP⟩ := hw0
  have hK := hX.1
  have hx := B.exec
  have hb := B.bytes
  have hr := B.returns
  have hts := atoms_spec (ws := wsX5_tour) B.pre
  have hown : s.vm.findClass RX5 = some m.cls := findClass_of_methodNamed B.named
  have hlocks := B.notSynchronized
  have hl := lv_entry ([.ref (am 0), .int x]) (n := 2) (Nat.le_of_ble_eq_true rfl)
  rw [lg_entry_eq]
  generalize (lg_sl ([.ref (am 0), .int x]) ++ List.replicate (2 - (lg_sl ([.ref (am 0), .int x])).length) Slot.unset).toArray = ls at hl ⊢
  have hl : lv_has ls 2 [(0, .ref (am 0)), (1, .int x)] := hl
  have hf_RX5_37 : (Cond.fieldLink RX5 37 "BlossomToursModel" "thrown" "I").before ([.ref (am 0), .int x] : List Value).toArray s = true := hts _ (by decide +kernel)
  have hf_RX5_48 : (Cond.fieldLink RX5 48 "BlossomToursModel" "tours" "I").before ([.ref (am 0), .int x] : List Value).toArray s = true := hts _ (by decide +kernel)
  have hi_RX5 : ∀ w ∈ u_ws RX5 TX5 13, w ∈ wsX5_tour := by decide +kernel
  have hS : va_S (z_A 10 am) s.heap s.heap [] := va_S.rf
  have hD := z_Dm hinj (z_cM G am μ ν)
  refine lv_aload_n hx hb dX5_tour_0 rfl (lv_at hl 0 rfl) ?_
  refine lv_iconst (v := 0) hx hb dX5_tour_1 (by decide) ?_
  refine va_put (D := z_DD G) (ci := 5) (v := .int 0) (ty := .int) (C := RX5) (T := TX5) (N := 13) hx hb hts hi_RX5 tyX5 tyX5_ok nmX5 hown hK hP hD hS 0 z_m0 rfl 0 (by decide) hf_RX5_37 (fun _ h9 => h9) rfl (by decide +kernel) rfl rfl (Nat.le_of_ble_eq_true rfl) dX5_tour_2 (fun H locs hP hD hS => ?_)
  have hP : va_P (z_DD G) vwCl (z_wM G am (z_up μ 8 1 0) ν) H := Eq.mp (congrArg (fun w => va_P (z_DD G) vwCl w H) z_tM0) hP
  have hD := z_Dm hinj (z_cM G am (z_up μ 8 1 0) ν)
  refine lv_iload_n hx hb dX5_tour_5 rfl (lv_at hl 1 rfl) ?_
  refine lv_iconst (v := 1) hx hb dX5_tour_6 (by decide) ?_
  refine lv_bipush (v := 60) hx hb dX5_tour_7 (by decide) ?_
  refine z_call (va_runS (As := [.int x, .int 1, .int 60]) (rest := []) ⟨hx, hb, hml, hown, hts⟩ (c_X5_isIn l G x 1 60) (va_cwS 3 hts gX5_tour_X5_isIn rfl rfl rfl (by decide +kernel) ⟨Nat.le_of_ble_eq_true rfl, Nat.le_of_ble_eq_true rfl⟩) (z_prS hX z_P0) rfl rfl hl.1 rfl (lv_room (Nat.le_of_ble_eq_true rfl)) dX5_tour_9 ⟨Nat.le_of_ble_eq_true rfl, Nat.le_of_ble_eq_true rfl⟩) (fun _ h9 => h9) ?_
  refine W.eq (g2 := F0 m 12 ls [.int (z_wi x 1 60)]) rfl ?_
  refine lv_if_ne (tgt := 21) hx hb dX5_tour_12 (by decide) (fun c12 => ?_) (fun c12 => ?_)
  · skip
    refine lv_aload_n hx hb dX5_tour_21 rfl (lv_at hl 0 rfl) ?_
    refine va_get (D := z_DD G) (ci := 5) (v := .int (nI (ν 0 1))) (C := RX5) (T := TX5) (N := 13) hx hb hts hi_RX5 hown hK hP 0 z_m0 rfl 8 (by decide) hf_RX5_48 (fun _ h9 => h9) rfl dX5_tour_22 ?_
    refine lv_bipush (v := nI 6) hx hb dX5_tour_25 (by decide) ?_
    refine lv_icmp_ne (tgt := 36) hx hb dX5_tour_27 (by decide) (fun c27 => ?_) (fun c27 => ?_)
    · skip
      exact absurd (show nI (ν 0 1) = nI 6 by rw [g2]) c27
    · skip
      refine lv_aload_n hx hb dX5_tour_30 rfl (lv_at hl 0 rfl) ?_
      refine lv_iconst (v := 2) hx hb dX5_tour_31 (by decide) ?_
      refine z_callm (va_runV (As := [.int 2]) (rest := []) ⟨hx, hb, hml, hown, hts⟩ (c_X5_no l G am (z_up μ 8 1 0) ν hinj 2) (cwV 1 hts gX5_tour_X5_no rfl rfl rfl (by decide +kernel) ⟨Nat.le_of_ble_eq_true rfl, Nat.le_of_ble_eq_true rfl⟩) (z_prV (ci := 5) (k := 0) hX hP rfl z_m0) rfl rfl hl.1 rfl (lv_room (Nat.le_of_ble_eq_true rfl)) dX5_tour_32 ⟨Nat.le_of_ble_eq_true rfl, Nat.le_of_ble_eq_true rfl⟩) hS (fun _ _ h9 => h9) (fun _ h9 => h9) (fun H locs hP hz9 hk9 hS => ?_)
      have hD := z_Dm hinj (z_cM G am (z_up (z_up μ 8 1 0) 8 1 2) ν)
      refine W.eq (g2 := F0 m 35 ls [.int 0]) rfl ?_
      have hPf : va_P (z_DD G) vwCl (z_wM G am (y_no μ 2) ν) H := by exact hP
      refine z_iret hx hb hr hlocks dX5_tour_35 (fun t ht hW => ⟨rfl, by rw [ht]; exact hPf, hS.F ht⟩) hS.2.2 ?_
      rfl
  · skip
    exact absurd c12 g1

set_option maxHeartbeats 4000000 in
set_option maxRecDepth 100000 in
theorem c_X5_add (l : Launch) (G : z_GT) (am : Nat → Nat) (μ : Nat → Nat → Int32) (ν : Nat → Nat → Nat) (hinj : ∀ i j, i < 10 → j < 10 → am i = am j → i = j) (hy : y_wf μ ν) (t : Nat) (ht : t < ν 0 1) (v : Nat) (hv : v < ν 0 0) (g1 : ν 1 t < 5) (g2 : y_has ν t v = false) : Met l yX5_add wsX5_add ({ frames := 2, cells := 0, slots := 0, locals := 45 } : Room) (z_Pr G [.ref (am 0), .int (nI t), .int (nI v)] (z_wM G am μ ν)) (z_Qm G (some (.int (nI (ν 1 t + 1)))) (z_wM G am (z_up μ 8 1 0) (y_ap ν t v)) (z_A 10 am)) 0 0 (z_A 10 am) := by
  refine Met.ofW (cc := cX5_add) (maxL := 3) (ret := (some .int)) (by decide) rfl ?_
  intro p e s m args below meth c s₁ B hml hw0
  obtain ⟨rfl, hX, hP⟩ := hw0
  have hK := hX.1
  have hx := B.exec
  have hb := B.bytes
  have hr := B.returns
  have hts := atoms_spec (ws := wsX5_add) B.pre
  have hown : s.vm.findClass RX5 = some m.cls := findClass_of_methodNamed B.named
  have hlocks := B.notSynchronized
  have hl := lv_entry ([.ref (am 0), .int (nI t), .int (nI v)]) (n := 3) (Nat.le_of_ble_eq_true rfl)
  rw [lg_entry_eq]
  generalize (lg_sl ([.ref (am 0), .int (nI t), .int (nI v)]) ++ List.replicate (3 - (lg_sl ([.ref (am 0), .int (nI t), .int (nI v)])).length) Slot.unset).toArray = ls at hl ⊢
  have hl : lv_has ls 3 [(0, .ref (am 0)), (1, .int (nI t)), (2, .int (nI v))] := hl
  have hf_RX5_28 : (Cond.fieldLink RX5 28 "BlossomToursModel" "many" "[I").before ([.ref (am 0), .int (nI t), .int (nI v)] : List Value).toArray s = true := hts _ (by decide +kernel)
  have hf_RX5_31 : (Cond.fieldLink RX5 31 "BlossomToursModel" "list" "[I").before ([.ref (am 0), .int (nI t), .int (nI v)] : List Value).toArray s = true := hts _ (by decide +kernel)
  have hf_RX5_37 : (Cond.fieldLink RX5 37 "BlossomToursModel" "thrown" "I").before ([.ref (am 0), .int (nI t), .int (nI v)] : List Value).toArray s = true := hts _ (by decide +kernel)
  have hi_RX5 : ∀ w ∈ u_ws RX5 TX5 13, w ∈ wsX5_add := by decide +kernel
  have hn8 := hy.1
  have hm6 := hy.2.1
  have hk5 := hy.2.2.1 t (Nat.lt_of_lt_of_le ht hy.2.1)
  have hS : va_S (z_A 10 am) s.heap s.heap [] := va_S.rf
  have hD := z_Dm hinj (z_cM G am μ ν)
  refine lv_aload_n hx hb dX5_add_0 rfl (lv_at hl 0 rfl) ?_
  refine lv_iconst (v := 0) hx hb dX5_add_1 (by decide) ?_
  refine va_put (D := z_DD G) (ci := 5) (v := .int 0) (ty := .int) (C := RX5) (T := TX5) (N := 13) hx hb hts hi_RX5 tyX5 tyX5_ok nmX5 hown hK hP hD hS 0 z_m0 rfl 0 (by decide) hf_RX5_37 (fun _ h9 => h9) rfl (by decide +kernel) rfl rfl (Nat.le_of_ble_eq_true rfl) dX5_add_2 (fun H locs hP hD hS => ?_)
  have hP : va_P (z_DD G) vwCl (z_wM G am (z_up μ 8 1 0) ν) H := Eq.mp (congrArg (fun w => va_P (z_DD G) vwCl w H) z_tM0) hP
  have hD := z_Dm hinj (z_cM G am (z_up μ 8 1 0) ν)
  refine lv_aload_n hx hb dX5_add_5 rfl (lv_at hl 0 rfl) ?_
  refine lv_iload_n hx hb dX5_add_6 rfl (lv_at hl 1 rfl) ?_
  refine z_call (va_runV (As := [.int (nI t)]) (rest := []) ⟨hx, hb, hml, hown, hts⟩ (c_X5_isTour l G am (am 9) (z_up μ 8 1 0) ν (nI t)) (cwV 1 hts gX5_add_X5_isTour rfl rfl rfl (by decide +kernel) ⟨Nat.le_of_ble_eq_true rfl, Nat.le_of_ble_eq_true rfl⟩) (z_prW (ci := 5) (k := 0) hX hP (z_NM hP) rfl z_m0) rfl rfl hl.1 rfl (lv_room (Nat.le_of_ble_eq_true rfl)) dX5_add_7 ⟨Nat.le_of_ble_eq_true rfl, Nat.le_of_ble_eq_true rfl⟩) (fun _ h9 => h9) ?_
  refine W.eq (g2 := F0 m 10 ls [.int (z_wi (nI t) 0 (nI (ν 0 1) - 1))]) rfl ?_
  refine lv_if_eq (tgt := 21) hx hb dX5_add_10 (by decide) (fun c10 => ?_) (fun c10 => ?_)
  · skip
    exact absurd c10 (z_iv_t ht (by omega))
  · skip
    refine lv_aload_n hx hb dX5_add_13 rfl (lv_at hl 0 rfl) ?_
    refine lv_iload_n hx hb dX5_add_14 rfl (lv_at hl 2 rfl) ?_
    refine z_call (va_runV (As := [.int (nI v)]) (rest := []) ⟨hx, hb, hml, hown, hts⟩ (c_X5_isValley l G am (am 9) (z_up μ 8 1 0) ν (nI v)) (cwV 1 hts gX5_add_X5_isValley rfl rfl rfl (by decide +kernel) ⟨Nat.le_of_ble_eq_true rfl, Nat.le_of_ble_eq_true rfl⟩) (z_prW (ci := 5) (k := 0) hX hP (z_NM hP) rfl z_m0) rfl rfl hl.1 rfl (lv_room (Nat.le_of_ble_eq_true rfl)) dX5_add_15 ⟨Nat.le_of_ble_eq_true rfl, Nat.le_of_ble_eq_true rfl⟩) (fun _ h9 => h9) ?_
    refine W.eq (g2 := F0 m 18 ls [.int (z_wi (nI v) 0 (nI (ν 0 0) - 1))]) rfl ?_
    refine lv_if_ne (tgt := 27) hx hb dX5_add_18 (by decide) (fun c18 => ?_) (fun c18 => ?_)
    · skip
      refine lv_aload_n hx hb dX5_add_27 rfl (lv_at hl 0 rfl) ?_
      refine va_get (D := z_DD G) (ci := 5) (v := .ref (am 7)) (C := RX5) (T := TX5) (N := 13) hx hb hts hi_RX5 hown hK hP 0 z_m0 rfl 10 (by decide) hf_RX5_28 (fun _ h9 => h9) rfl dX5_add_28 ?_
      refine lv_iload_n hx hb dX5_add_31 rfl (lv_at hl 1 rfl) ?_
      refine z_iald (k := t) (f := fun z9 => nI (ν 1 z9)) hx hb hK hP 7 0 z_m7 rfl (Nat.lt_of_lt_of_le ht hy.2.1) (by decide) dX5_add_32 ?_
      refine lv_iconst (v := nI 5) hx hb dX5_add_33 (by decide) ?_
      refine lv_icmp_eq (tgt := 46) hx hb dX5_add_34 (by decide) (fun c34 => ?_) (fun c34 => ?_)
      · skip
        exact absurd ((nI_eq (by omega) (by decide)).mp c34) (by omega)
      · skip
        refine lv_aload_n hx hb dX5_add_37 rfl (lv_at hl 0 rfl) ?_
        refine lv_iload_n hx hb dX5_add_38 rfl (lv_at hl 1 rfl) ?_
        refine lv_iload_n hx hb dX5_add_39 rfl (lv_at hl 2 rfl) ?_
        refine z_call (va_runV (As := [.int (nI t), .int (nI v)]) (rest := []) ⟨hx, hb, hml, hown, hts⟩ (c_X5_has l G am (am 9) (z_up μ 8 1 0) ν hy t v (Nat.lt_of_lt_of_le ht hy.2.1) (Nat.lt_of_lt_of_le hv hy.1)) (cwV 2 hts gX5_add_X5_has rfl rfl rfl (by decide +kernel) ⟨Nat.le_of_ble_eq_true rfl, Nat.le_of_ble_eq_true rfl⟩) (z_prW (ci := 5) (k := 0) hX hP (z_NM hP) rfl z_m0) rfl rfl hl.1 rfl (lv_room (Nat.le_of_ble_eq_true rfl)) dX5_add_40 ⟨Nat.le_of_ble_eq_true rfl, Nat.le_of_ble_eq_true rfl⟩) (fun _ h9 => h9) ?_
        refine W.eq (g2 := F0 m 43 ls [.int (z_bi (y_has ν t v))]) rfl ?_
        refine lv_if_eq (tgt := 52) hx hb dX5_add_43 (by decide) (fun c43 => ?_) (fun c43 => ?_)
        · skip
          refine lv_aload_n hx hb dX5_add_52 rfl (lv_at hl 0 rfl) ?_
          refine va_get (D := z_DD G) (ci := 5) (v := .ref (am 8)) (C := RX5) (T := TX5) (N := 13) hx hb hts hi_RX5 hown hK hP 0 z_m0 rfl 11 (by decide) hf_RX5_31 (fun _ h9 => h9) rfl dX5_add_53 ?_
          refine lv_iconst (v := nI 5) hx hb dX5_add_56 (by decide) ?_
          refine lv_iload_n hx hb dX5_add_57 rfl (lv_at hl 1 rfl) ?_
          refine lv_imul hx hb dX5_add_58 ?_
          refine z_top (show (.int ((nI 5) * (nI t)) : Value) = .int (nI (5 * t)) from by rw [pk_mul]) ?_
          refine lv_aload_n hx hb dX5_add_59 rfl (lv_at hl 0 rfl) ?_
          refine va_get (D := z_DD G) (ci := 5) (v := .ref (am 7)) (C := RX5) (T := TX5) (N := 13) hx hb hts hi_RX5 hown hK hP 0 z_m0 rfl 10 (by decide) hf_RX5_28 (fun _ h9 => h9) rfl dX5_add_60 ?_
          refine lv_iload_n hx hb dX5_add_63 rfl (lv_at hl 1 rfl) ?_
          refine z_iald (k := t) (f := fun z9 => nI (ν 1 z9)) hx hb hK hP 7 0 z_m7 rfl (Nat.lt_of_lt_of_le ht hy.2.1) (by decide) dX5_add_64 ?_
          refine lv_iadd hx hb dX5_add_65 ?_
          refine z_top (show (.int ((nI (5 * t)) + (nI (ν 1 t))) : Value) = .int (nI ((5 * t) + (ν 1 t))) from by rw [nI_add]) ?_
          refine lv_iload_n hx hb dX5_add_66 rfl (lv_at hl 2 rfl) ?_
          refine va_iast (f := fun z9 => nI (ν 2 z9)) hx hb hK hP hD hS 8 0 z_m8 rfl (vp_in_nI (by omega) (by omega)) dX5_add_67 (fun H locs hP hD hS => ?_)
          have hP : va_P (z_DD G) vwCl (z_wM G am (z_up μ 8 1 0) (z_up ν 2 ((5 * t) + (ν 1 t)) v)) H := Eq.mp (congrArg (fun w => va_P (z_DD G) vwCl w H) (z_tA8 (by omega))) hP
          have hD := z_Dm hinj (z_cM G am (z_up μ 8 1 0) (z_up ν 2 ((5 * t) + (ν 1 t)) v))
          refine lv_aload_n hx hb dX5_add_68 rfl (lv_at hl 0 rfl) ?_
          refine va_get (D := z_DD G) (ci := 5) (v := .ref (am 7)) (C := RX5) (T := TX5) (N := 13) hx hb hts hi_RX5 hown hK hP 0 z_m0 rfl 10 (by decide) hf_RX5_28 (fun _ h9 => h9) rfl dX5_add_69 ?_
          refine lv_iload_n hx hb dX5_add_72 rfl (lv_at hl 1 rfl) ?_
          refine lv_dup2_11 hx hb dX5_add_73 rfl rfl ?_
          refine z_iald (k := t) (f := fun z9 => nI ((z_up ν 2 ((5 * t) + (ν 1 t)) v) 1 z9)) hx hb hK hP 7 0 z_m7 rfl (Nat.lt_of_lt_of_le ht hy.2.1) (by decide) dX5_add_74 ?_
          refine lv_iconst (v := 1) hx hb dX5_add_75 (by decide) ?_
          refine lv_iadd hx hb dX5_add_76 ?_
          refine z_top (show (.int ((nI ((z_up ν 2 ((5 * t) + (ν 1 t)) v) 1 t)) + 1) : Value) = .int (nI (ν 1 t + 1)) from by (show Value.int (nI (ν 1 t) + 1) = _; rw [nI_1])) ?_
          refine va_iast (f := fun z9 => nI ((z_up ν 2 ((5 * t) + (ν 1 t)) v) 1 z9)) hx hb hK hP hD hS 7 0 z_m7 rfl (vp_in_nI (Nat.lt_of_lt_of_le ht hy.2.1) (by omega)) dX5_add_77 (fun H locs hP hD hS => ?_)
          have hP : va_P (z_DD G) vwCl (z_wM G am (z_up μ 8 1 0) (z_up (z_up ν 2 ((5 * t) + (ν 1 t)) v) 1 t (ν 1 t + 1))) H := Eq.mp (congrArg (fun w => va_P (z_DD G) vwCl w H) (z_tA7 (by omega))) hP
          have hD := z_Dm hinj (z_cM G am (z_up μ 8 1 0) (z_up (z_up ν 2 ((5 * t) + (ν 1 t)) v) 1 t (ν 1 t + 1)))
          refine lv_aload_n hx hb dX5_add_78 rfl (lv_at hl 0 rfl) ?_
          refine va_get (D := z_DD G) (ci := 5) (v := .ref (am 7)) (C := RX5) (T := TX5) (N := 13) hx hb hts hi_RX5 hown hK hP 0 z_m0 rfl 10 (by decide) hf_RX5_28 (fun _ h9 => h9) rfl dX5_add_79 ?_
          refine lv_iload_n hx hb dX5_add_82 rfl (lv_at hl 1 rfl) ?_
          refine z_iald (k := t) (f := fun z9 => nI ((z_up (z_up ν 2 ((5 * t) + (ν 1 t)) v) 1 t (ν 1 t + 1)) 1 z9)) hx hb hK hP 7 0 z_m7 rfl (Nat.lt_of_lt_of_le ht hy.2.1) (by decide) dX5_add_83 ?_
          have hPf : va_P (z_DD G) vwCl (z_wM G am (z_up μ 8 1 0) (y_ap ν t v)) H := by exact hP
          refine z_iret hx hb hr hlocks dX5_add_84 (fun t ht hW => ⟨rfl, by rw [ht]; exact hPf, hS.F ht⟩) hS.2.2 ?_
          rw [z_up_s]
        · skip
          exact absurd (z_bi_t c43) (by rw [g2]; decide)
    · skip
      exact absurd c18 (z_iv_t hv (by omega))

set_option maxHeartbeats 4000000 in
set_option maxRecDepth 100000 in
theorem x_X5_add_1 (l : Launch) (G : z_GT) (am : Nat → Nat) (μ : Nat → Nat → Int32) (ν : Nat → Nat → Nat) (hinj : ∀ i j, i < 10 → j < 10 → am i = am j → i = j) (hm6 : ν 0 1 ≤ 6) (v w : Int32) (h : v < 0 ∨ ¬ v < nI (ν 0 1)) : Met l yX5_add wsX5_add ({ frames := 2, cells := 0, slots := 0, locals := 45 } : Room) (z_Pr G [.ref (am 0), .int v, .int w] (z_wM G am μ ν)) (z_Qm G (some (.int 0)) (z_wM G am (y_no μ 1) ν) (z_A 10 am)) 0 0 (z_A 10 am) := by
  refine Met.ofW (cc := cX5_add) (maxL := 3) (ret := (some .int)) (by decide) rfl ?_
  intro p e s m args below meth c s₁ B hml hw0
  obtain ⟨rfl, hX, hP⟩ := hw0
  have hK := hX.1
  have hx := B.exec
  have hb := B.bytes
  have hr := B.returns
  have hts := atoms_spec (ws := wsX5_add) B.pre
  have hown : s.vm.findClass RX5 = some m.cls := findClass_of_methodNamed B.named
  have hlocks := B.notSynchronized
  have hl := lv_entry ([.ref (am 0), .int v, .int w]) (n := 3) (Nat.le_of_ble_eq_true rfl)
  rw [lg_entry_eq]
  generalize (lg_sl ([.ref (am 0), .int v, .int w]) ++ List.replicate (3 - (lg_sl ([.ref (am 0), .int v, .int w])).length) Slot.unset).toArray = ls at hl ⊢
  have hl : lv_has ls 3 [(0, .ref (am 0)), (1, .int v), (2, .int w)] := hl
  have hf_RX5_37 : (Cond.fieldLink RX5 37 "BlossomToursModel" "thrown" "I").before ([.ref (am 0), .int v, .int w] : List Value).toArray s = true := hts _ (by decide +kernel)
  have hi_RX5 : ∀ w ∈ u_ws RX5 TX5 13, w ∈ wsX5_add := by decide +kernel
  have hS : va_S (z_A 10 am) s.heap s.heap [] := va_S.rf
  have hD := z_Dm hinj (z_cM G am μ ν)
  refine lv_aload_n hx hb dX5_add_0 rfl (lv_at hl 0 rfl) ?_
  refine lv_iconst (v := 0) hx hb dX5_add_1 (by decide) ?_
  refine va_put (D := z_DD G) (ci := 5) (v := .int 0) (ty := .int) (C := RX5) (T := TX5) (N := 13) hx hb hts hi_RX5 tyX5 tyX5_ok nmX5 hown hK hP hD hS 0 z_m0 rfl 0 (by decide) hf_RX5_37 (fun _ h9 => h9) rfl (by decide +kernel) rfl rfl (Nat.le_of_ble_eq_true rfl) dX5_add_2 (fun H locs hP hD hS => ?_)
  have hP : va_P (z_DD G) vwCl (z_wM G am (z_up μ 8 1 0) ν) H := Eq.mp (congrArg (fun w => va_P (z_DD G) vwCl w H) z_tM0) hP
  have hD := z_Dm hinj (z_cM G am (z_up μ 8 1 0) ν)
  refine lv_aload_n hx hb dX5_add_5 rfl (lv_at hl 0 rfl) ?_
  refine lv_iload_n hx hb dX5_add_6 rfl (lv_at hl 1 rfl) ?_
  refine z_call (va_runV (As := [.int v]) (rest := []) ⟨hx, hb, hml, hown, hts⟩ (c_X5_isTour l G am (am 9) (z_up μ 8 1 0) ν v) (cwV 1 hts gX5_add_X5_isTour rfl rfl rfl (by decide +kernel) ⟨Nat.le_of_ble_eq_true rfl, Nat.le_of_ble_eq_true rfl⟩) (z_prW (ci := 5) (k := 0) hX hP (z_NM hP) rfl z_m0) rfl rfl hl.1 rfl (lv_room (Nat.le_of_ble_eq_true rfl)) dX5_add_7 ⟨Nat.le_of_ble_eq_true rfl, Nat.le_of_ble_eq_true rfl⟩) (fun _ h9 => h9) ?_
  refine W.eq (g2 := F0 m 10 ls [.int (z_wi v 0 (nI (ν 0 1) - 1))]) rfl ?_
  refine lv_if_eq (tgt := 21) hx hb dX5_add_10 (by decide) (fun c10 => ?_) (fun c10 => ?_)
  · skip
    refine lv_aload_n hx hb dX5_add_21 rfl (lv_at hl 0 rfl) ?_
    refine lv_iconst (v := 1) hx hb dX5_add_22 (by decide) ?_
    refine z_callm (va_runV (As := [.int 1]) (rest := []) ⟨hx, hb, hml, hown, hts⟩ (c_X5_no l G am (z_up μ 8 1 0) ν hinj 1) (cwV 1 hts gX5_add_X5_no rfl rfl rfl (by decide +kernel) ⟨Nat.le_of_ble_eq_true rfl, Nat.le_of_ble_eq_true rfl⟩) (z_prV (ci := 5) (k := 0) hX hP rfl z_m0) rfl rfl hl.1 rfl (lv_room (Nat.le_of_ble_eq_true rfl)) dX5_add_23 ⟨Nat.le_of_ble_eq_true rfl, Nat.le_of_ble_eq_true rfl⟩) hS (fun _ _ h9 => h9) (fun _ h9 => h9) (fun H locs hP hz9 hk9 hS => ?_)
    have hD := z_Dm hinj (z_cM G am (z_up (z_up μ 8 1 0) 8 1 1) ν)
    refine W.eq (g2 := F0 m 26 ls [.int 0]) rfl ?_
    have hPf : va_P (z_DD G) vwCl (z_wM G am (y_no μ 1) ν) H := by exact hP
    refine z_iret hx hb hr hlocks dX5_add_26 (fun t ht hW => ⟨rfl, by rw [ht]; exact hPf, hS.F ht⟩) hS.2.2 ?_
    rfl
  · skip
    exact absurd (z_iv_f (by omega) h) c10

set_option maxHeartbeats 4000000 in
set_option maxRecDepth 100000 in
theorem x_X5_add_2 (l : Launch) (G : z_GT) (am : Nat → Nat) (μ : Nat → Nat → Int32) (ν : Nat → Nat → Nat) (hinj : ∀ i j, i < 10 → j < 10 → am i = am j → i = j) (hn8 : ν 0 0 ≤ 8) (hm6 : ν 0 1 ≤ 6) (t : Nat) (ht : t < ν 0 1) (w : Int32) (h : w < 0 ∨ ¬ w < nI (ν 0 0)) : Met l yX5_add wsX5_add ({ frames := 2, cells := 0, slots := 0, locals := 45 } : Room) (z_Pr G [.ref (am 0), .int (nI t), .int w] (z_wM G am μ ν)) (z_Qm G (some (.int 0)) (z_wM G am (y_no μ 1) ν) (z_A 10 am)) 0 0 (z_A 10 am) := by
  refine Met.ofW (cc := cX5_add) (maxL := 3) (ret := (some .int)) (by decide) rfl ?_
  intro p e s m args below meth c s₁ B hml hw0
  obtain ⟨rfl, hX, hP⟩ := hw0
  have hK := hX.1
  have hx := B.exec
  have hb := B.bytes
  have hr := B.returns
  have hts := atoms_spec (ws := wsX5_add) B.pre
  have hown : s.vm.findClass RX5 = some m.cls := findClass_of_methodNamed B.named
  have hlocks := B.notSynchronized
  have hl := lv_entry ([.ref (am 0), .int (nI t), .int w]) (n := 3) (Nat.le_of_ble_eq_true rfl)
  rw [lg_entry_eq]
  generalize (lg_sl ([.ref (am 0), .int (nI t), .int w]) ++ List.replicate (3 - (lg_sl ([.ref (am 0), .int (nI t), .int w])).length) Slot.unset).toArray = ls at hl ⊢
  have hl : lv_has ls 3 [(0, .ref (am 0)), (1, .int (nI t)), (2, .int w)] := hl
  have hf_RX5_37 : (Cond.fieldLink RX5 37 "BlossomToursModel" "thrown" "I").before ([.ref (am 0), .int (nI t), .int w] : List Value).toArray s = true := hts _ (by decide +kernel)
  have hi_RX5 : ∀ w ∈ u_ws RX5 TX5 13, w ∈ wsX5_add := by decide +kernel
  have hS : va_S (z_A 10 am) s.heap s.heap [] := va_S.rf
  have hD := z_Dm hinj (z_cM G am μ ν)
  refine lv_aload_n hx hb dX5_add_0 rfl (lv_at hl 0 rfl) ?_
  refine lv_iconst (v := 0) hx hb dX5_add_1 (by decide) ?_
  refine va_put (D := z_DD G) (ci := 5) (v := .int 0) (ty := .int) (C := RX5) (T := TX5) (N := 13) hx hb hts hi_RX5 tyX5 tyX5_ok nmX5 hown hK hP hD hS 0 z_m0 rfl 0 (by decide) hf_RX5_37 (fun _ h9 => h9) rfl (by decide +kernel) rfl rfl (Nat.le_of_ble_eq_true rfl) dX5_add_2 (fun H locs hP hD hS => ?_)
  have hP : va_P (z_DD G) vwCl (z_wM G am (z_up μ 8 1 0) ν) H := Eq.mp (congrArg (fun w => va_P (z_DD G) vwCl w H) z_tM0) hP
  have hD := z_Dm hinj (z_cM G am (z_up μ 8 1 0) ν)
  refine lv_aload_n hx hb dX5_add_5 rfl (lv_at hl 0 rfl) ?_
  refine lv_iload_n hx hb dX5_add_6 rfl (lv_at hl 1 rfl) ?_
  refine z_call (va_runV (As := [.int (nI t)]) (rest := []) ⟨hx, hb, hml, hown, hts⟩ (c_X5_isTour l G am (am 9) (z_up μ 8 1 0) ν (nI t)) (cwV 1 hts gX5_add_X5_isTour rfl rfl rfl (by decide +kernel) ⟨Nat.le_of_ble_eq_true rfl, Nat.le_of_ble_eq_true rfl⟩) (z_prW (ci := 5) (k := 0) hX hP (z_NM hP) rfl z_m0) rfl rfl hl.1 rfl (lv_room (Nat.le_of_ble_eq_true rfl)) dX5_add_7 ⟨Nat.le_of_ble_eq_true rfl, Nat.le_of_ble_eq_true rfl⟩) (fun _ h9 => h9) ?_
  refine W.eq (g2 := F0 m 10 ls [.int (z_wi (nI t) 0 (nI (ν 0 1) - 1))]) rfl ?_
  refine lv_if_eq (tgt := 21) hx hb dX5_add_10 (by decide) (fun c10 => ?_) (fun c10 => ?_)
  · skip
    exact absurd c10 (z_iv_t ht (by omega))
  · skip
    refine lv_aload_n hx hb dX5_add_13 rfl (lv_at hl 0 rfl) ?_
    refine lv_iload_n hx hb dX5_add_14 rfl (lv_at hl 2 rfl) ?_
    refine z_call (va_runV (As := [.int w]) (rest := []) ⟨hx, hb, hml, hown, hts⟩ (c_X5_isValley l G am (am 9) (z_up μ 8 1 0) ν w) (cwV 1 hts gX5_add_X5_isValley rfl rfl rfl (by decide +kernel) ⟨Nat.le_of_ble_eq_true rfl, Nat.le_of_ble_eq_true rfl⟩) (z_prW (ci := 5) (k := 0) hX hP (z_NM hP) rfl z_m0) rfl rfl hl.1 rfl (lv_room (Nat.le_of_ble_eq_true rfl)) dX5_add_15 ⟨Nat.le_of_ble_eq_true rfl, Nat.le_of_ble_eq_true rfl⟩) (fun _ h9 => h9) ?_
    refine W.eq (g2 := F0 m 18 ls [.int (z_wi w 0 (nI (ν 0 0) - 1))]) rfl ?_
    refine lv_if_ne (tgt := 27) hx hb dX5_add_18 (by decide) (fun c18 => ?_) (fun c18 => ?_)
    · skip
      exact absurd (z_iv_f (by omega) h) c18
    · skip
      refine lv_aload_n hx hb dX5_add_21 rfl (lv_at hl 0 rfl) ?_
      refine lv_iconst (v := 1) hx hb dX5_add_22 (by decide) ?_
      refine z_callm (va_runV (As := [.int 1]) (rest := []) ⟨hx, hb, hml, hown, hts⟩ (c_X5_no l G am (z_up μ 8 1 0) ν hinj 1) (cwV 1 hts gX5_add_X5_no rfl rfl rfl (by decide +kernel) ⟨Nat.le_of_ble_eq_true rfl, Nat.le_of_ble_eq_true rfl⟩) (z_prV (ci := 5) (k := 0) hX hP rfl z_m0) rfl rfl hl.1 rfl (lv_room (Nat.le_of_ble_eq_true rfl)) dX5_add_23 ⟨Nat.le_of_ble_eq_true rfl, Nat.le_of_ble_eq_true rfl⟩) hS (fun _ _ h9 => h9) (fun _ h9 => h9) (fun H locs hP hz9 hk9 hS => ?_)
      have hD := z_Dm hinj (z_cM G am (z_up (z_up μ 8 1 0) 8 1 1) ν)
      refine W.eq (g2 := F0 m 26 ls [.int 0]) rfl ?_
      have hPf : va_P (z_DD G) vwCl (z_wM G am (y_no μ 1) ν) H := by exact hP
      refine z_iret hx hb hr hlocks dX5_add_26 (fun t ht hW => ⟨rfl, by rw [ht]; exact hPf, hS.F ht⟩) hS.2.2 ?_
      rfl

set_option maxHeartbeats 4000000 in
set_option maxRecDepth 100000 in
theorem x_X5_add_3 (l : Launch) (G : z_GT) (am : Nat → Nat) (μ : Nat → Nat → Int32) (ν : Nat → Nat → Nat) (hinj : ∀ i j, i < 10 → j < 10 → am i = am j → i = j) (hy : y_wf μ ν) (t : Nat) (ht : t < ν 0 1) (v : Nat) (hv : v < ν 0 0) (g1 : ν 1 t = 5) : Met l yX5_add wsX5_add ({ frames := 2, cells := 0, slots := 0, locals := 45 } : Room) (z_Pr G [.ref (am 0), .int (nI t), .int (nI v)] (z_wM G am μ ν)) (z_Qm G (some (.int 0)) (z_wM G am (y_no μ 2) ν) (z_A 10 am)) 0 0 (z_A 10 am) := by
  refine Met.ofW (cc := cX5_add) (maxL := 3) (ret := (some .int)) (by decide) rfl ?_
  intro p e s m args below meth c s₁ B hml hw0
  obtain ⟨rfl, hX, hP⟩ := hw0
  have hK := hX.1
  have hx := B.exec
  have hb := B.bytes
  have hr := B.returns
  have hts := atoms_spec (ws := wsX5_add) B.pre
  have hown : s.vm.findClass RX5 = some m.cls := findClass_of_methodNamed B.named
  have hlocks := B.notSynchronized
  have hl := lv_entry ([.ref (am 0), .int (nI t), .int (nI v)]) (n := 3) (Nat.le_of_ble_eq_true rfl)
  rw [lg_entry_eq]
  generalize (lg_sl ([.ref (am 0), .int (nI t), .int (nI v)]) ++ List.replicate (3 - (lg_sl ([.ref (am 0), .int (nI t), .int (nI v)])).length) Slot.unset).toArray = ls at hl ⊢
  have hl : lv_has ls 3 [(0, .ref (am 0)), (1, .int (nI t)), (2, .int (nI v))] := hl
  have hf_RX5_28 : (Cond.fieldLink RX5 28 "BlossomToursModel" "many" "[I").before ([.ref (am 0), .int (nI t), .int (nI v)] : List Value).toArray s = true := hts _ (by decide +kernel)
  have hf_RX5_37 : (Cond.fieldLink RX5 37 "BlossomToursModel" "thrown" "I").before ([.ref (am 0), .int (nI t), .int (nI v)] : List Value).toArray s = true := hts _ (by decide +kernel)
  have hi_RX5 : ∀ w ∈ u_ws RX5 TX5 13, w ∈ wsX5_add := by decide +kernel
  have hn8 := hy.1
  have hm6 := hy.2.1
  have hk5 := hy.2.2.1 t (Nat.lt_of_lt_of_le ht hy.2.1)
  have hS : va_S (z_A 10 am) s.heap s.heap [] := va_S.rf
  have hD := z_Dm hinj (z_cM G am μ ν)
  refine lv_aload_n hx hb dX5_add_0 rfl (lv_at hl 0 rfl) ?_
  refine lv_iconst (v := 0) hx hb dX5_add_1 (by decide) ?_
  refine va_put (D := z_DD G) (ci := 5) (v := .int 0) (ty := .int) (C := RX5) (T := TX5) (N := 13) hx hb hts hi_RX5 tyX5 tyX5_ok nmX5 hown hK hP hD hS 0 z_m0 rfl 0 (by decide) hf_RX5_37 (fun _ h9 => h9) rfl (by decide +kernel) rfl rfl (Nat.le_of_ble_eq_true rfl) dX5_add_2 (fun H locs hP hD hS => ?_)
  have hP : va_P (z_DD G) vwCl (z_wM G am (z_up μ 8 1 0) ν) H := Eq.mp (congrArg (fun w => va_P (z_DD G) vwCl w H) z_tM0) hP
  have hD := z_Dm hinj (z_cM G am (z_up μ 8 1 0) ν)
  refine lv_aload_n hx hb dX5_add_5 rfl (lv_at hl 0 rfl) ?_
  refine lv_iload_n hx hb dX5_add_6 rfl (lv_at hl 1 rfl) ?_
  refine z_call (va_runV (As := [.int (nI t)]) (rest := []) ⟨hx, hb, hml, hown, hts⟩ (c_X5_isTour l G am (am 9) (z_up μ 8 1 0) ν (nI t)) (cwV 1 hts gX5_add_X5_isTour rfl rfl rfl (by decide +kernel) ⟨Nat.le_of_ble_eq_true rfl, Nat.le_of_ble_eq_true rfl⟩) (z_prW (ci := 5) (k := 0) hX hP (z_NM hP) rfl z_m0) rfl rfl hl.1 rfl (lv_room (Nat.le_of_ble_eq_true rfl)) dX5_add_7 ⟨Nat.le_of_ble_eq_true rfl, Nat.le_of_ble_eq_true rfl⟩) (fun _ h9 => h9) ?_
  refine W.eq (g2 := F0 m 10 ls [.int (z_wi (nI t) 0 (nI (ν 0 1) - 1))]) rfl ?_
  refine lv_if_eq (tgt := 21) hx hb dX5_add_10 (by decide) (fun c10 => ?_) (fun c10 => ?_)
  · skip
    exact absurd c10 (z_iv_t ht (by omega))
  · skip
    refine lv_aload_n hx hb dX5_add_13 rfl (lv_at hl 0 rfl) ?_
    refine lv_iload_n hx hb dX5_add_14 rfl (lv_at hl 2 rfl) ?_
    refine z_call (va_runV (As := [.int (nI v)]) (rest := []) ⟨hx, hb, hml, hown, hts⟩ (c_X5_isValley l G am (am 9) (z_up μ 8 1 0) ν (nI v)) (cwV 1 hts gX5_add_X5_isValley rfl rfl rfl (by decide +kernel) ⟨Nat.le_of_ble_eq_true rfl, Nat.le_of_ble_eq_true rfl⟩) (z_prW (ci := 5) (k := 0) hX hP (z_NM hP) rfl z_m0) rfl rfl hl.1 rfl (lv_room (Nat.le_of_ble_eq_true rfl)) dX5_add_15 ⟨Nat.le_of_ble_eq_true rfl, Nat.le_of_ble_eq_true rfl⟩) (fun _ h9 => h9) ?_
    refine W.eq (g2 := F0 m 18 ls [.int (z_wi (nI v) 0 (nI (ν 0 0) - 1))]) rfl ?_
    refine lv_if_ne (tgt := 27) hx hb dX5_add_18 (by decide) (fun c18 => ?_) (fun c18 => ?_)
    · skip
      refine lv_aload_n hx hb dX5_add_27 rfl (lv_at hl 0 rfl) ?_
      refine va_get (D := z_DD G) (ci := 5) (v := .ref (am 7)) (C := RX5) (T := TX5) (N := 13) hx hb hts hi_RX5 hown hK hP 0 z_m0 rfl 10 (by decide) hf_RX5_28 (fun _ h9 => h9) rfl dX5_add_28 ?_
      refine lv_iload_n hx hb dX5_add_31 rfl (lv_at hl 1 rfl) ?_
      refine z_iald (k := t) (f := fun z9 => nI (ν 1 z9)) hx hb hK hP 7 0 z_m7 rfl (Nat.lt_of_lt_of_le ht hy.2.1) (by decide) dX5_add_32 ?_
      refine lv_iconst (v := nI 5) hx hb dX5_add_33 (by decide) ?_
      refine lv_icmp_eq (tgt := 46) hx hb dX5_add_34 (by decide) (fun c34 => ?_) (fun c34 => ?_)
      · skip
        refine lv_aload_n hx hb dX5_add_46 rfl (lv_at hl 0 rfl) ?_
        refine lv_iconst (v := 2) hx hb dX5_add_47 (by decide) ?_
        refine z_callm (va_runV (As := [.int 2]) (rest := []) ⟨hx, hb, hml, hown, hts⟩ (c_X5_no l G am (z_up μ 8 1 0) ν hinj 2) (cwV 1 hts gX5_add_X5_no rfl rfl rfl (by decide +kernel) ⟨Nat.le_of_ble_eq_true rfl, Nat.le_of_ble_eq_true rfl⟩) (z_prV (ci := 5) (k := 0) hX hP rfl z_m0) rfl rfl hl.1 rfl (lv_room (Nat.le_of_ble_eq_true rfl)) dX5_add_48 ⟨Nat.le_of_ble_eq_true rfl, Nat.le_of_ble_eq_true rfl⟩) hS (fun _ _ h9 => h9) (fun _ h9 => h9) (fun H locs hP hz9 hk9 hS => ?_)
        have hD := z_Dm hinj (z_cM G am (z_up (z_up μ 8 1 0) 8 1 2) ν)
        refine W.eq (g2 := F0 m 51 ls [.int 0]) rfl ?_
        have hPf : va_P (z_DD G) vwCl (z_wM G am (y_no μ 2) ν) H := by exact hP
        refine z_iret hx hb hr hlocks dX5_add_51 (fun t ht hW => ⟨rfl, by rw [ht]; exact hPf, hS.F ht⟩) hS.2.2 ?_
        rfl
      · skip
        exact absurd (show nI (ν 1 t) = nI 5 by rw [g1]) c34
    · skip
      exact absurd c18 (z_iv_t hv (by omega))

set_option maxHeartbeats 4000000 in
set_option maxRecDepth 100000 in
theorem x_X5_add_4 (l : Launch) (G : z_GT) (am : Nat → Nat) (μ : Nat → Nat → Int32) (ν : Nat → Nat → Nat) (hinj : ∀ i j, i < 10 → j < 10 → am i = am j → i = j) (hy : y_wf μ ν) (t : Nat) (ht : t < ν 0 1) (v : Nat) (hv : v < ν 0 0) (g1 : ν 1 t < 5) (g2 : y_has ν t v = true) : Met l yX5_add wsX5_add ({ frames := 2, cells := 0, slots := 0, locals := 45 } : Room) (z_Pr G [.ref (am 0), .int (nI t), .int (nI v)] (z_wM G am μ ν)) (z_Qm G (some (.int 0)) (z_wM G am (y_no μ 2) ν) (z_A 10 am)) 0 0 (z_A 10 am) := by
  refine Met.ofW (cc := cX5_add) (maxL := 3) (ret := (some .int)) (by decide) rfl ?_
  intro p e s m args below meth c s₁ B hml hw0
  obtain ⟨rfl, hX, hP⟩ := hw0
  have hK := hX.1
  have hx := B.exec
  have hb := B.bytes
  have hr := B.returns
  have hts := atoms_spec (ws := wsX5_add) B.pre
  have hown : s.vm.findClass RX5 = some m.cls := findClass_of_methodNamed B.named
  have hlocks := B.notSynchronized
  have hl := lv_entry ([.ref (am 0), .int (nI t), .int (nI v)]) (n := 3) (Nat.le_of_ble_eq_true rfl)
  rw [lg_entry_eq]
  generalize (lg_sl ([.ref (am 0), .int (nI t), .int (nI v)]) ++ List.replicate (3 - (lg_sl ([.ref (am 0), .int (nI t), .int (nI v)])).length) Slot.unset).toArray = ls at hl ⊢
  have hl : lv_has ls 3 [(0, .ref (am 0)), (1, .int (nI t)), (2, .int (nI v))] := hl
  have hf_RX5_28 : (Cond.fieldLink RX5 28 "BlossomToursModel" "many" "[I").before ([.ref (am 0), .int (nI t), .int (nI v)] : List Value).toArray s = true := hts _ (by decide +kernel)
  have hf_RX5_37 : (Cond.fieldLink RX5 37 "BlossomToursModel" "thrown" "I").before ([.ref (am 0), .int (nI t), .int (nI v)] : List Value).toArray s = true := hts _ (by decide +kernel)
  have hi_RX5 : ∀ w ∈ u_ws RX5 TX5 13, w ∈ wsX5_add := by decide +kernel
  have hn8 := hy.1
  have hm6 := hy.2.1
  have hk5 := hy.2.2.1 t (Nat.lt_of_lt_of_le ht hy.2.1)
  have hS : va_S (z_A 10 am) s.heap s.heap [] := va_S.rf
  have hD := z_Dm hinj (z_cM G am μ ν)
  refine lv_aload_n hx hb dX5_add_0 rfl (lv_at hl 0 rfl) ?_
  refine lv_iconst (v := 0) hx hb dX5_add_1 (by decide) ?_
  refine va_put (D := z_DD G) (ci := 5) (v := .int 0) (ty := .int) (C := RX5) (T := TX5) (N := 13) hx hb hts hi_RX5 tyX5 tyX5_ok nmX5 hown hK hP hD hS 0 z_m0 rfl 0 (by decide) hf_RX5_37 (fun _ h9 => h9) rfl (by decide +kernel) rfl rfl (Nat.le_of_ble_eq_true rfl) dX5_add_2 (fun H locs hP hD hS => ?_)
  have hP : va_P (z_DD G) vwCl (z_wM G am (z_up μ 8 1 0) ν) H := Eq.mp (congrArg (fun w => va_P (z_DD G) vwCl w H) z_tM0) hP
  have hD := z_Dm hinj (z_cM G am (z_up μ 8 1 0) ν)
  refine lv_aload_n hx hb dX5_add_5 rfl (lv_at hl 0 rfl) ?_
  refine lv_iload_n hx hb dX5_add_6 rfl (lv_at hl 1 rfl) ?_
  refine z_call (va_runV (As := [.int (nI t)]) (rest := []) ⟨hx, hb, hml, hown, hts⟩ (c_X5_isTour l G am (am 9) (z_up μ 8 1 0) ν (nI t)) (cwV 1 hts gX5_add_X5_isTour rfl rfl rfl (by decide +kernel) ⟨Nat.le_of_ble_eq_true rfl, Nat.le_of_ble_eq_true rfl⟩) (z_prW (ci := 5) (k := 0) hX hP (z_NM hP) rfl z_m0) rfl rfl hl.1 rfl (lv_room (Nat.le_of_ble_eq_true rfl)) dX5_add_7 ⟨Nat.le_of_ble_eq_true rfl, Nat.le_of_ble_eq_true rfl⟩) (fun _ h9 => h9) ?_
  refine W.eq (g2 := F0 m 10 ls [.int (z_wi (nI t) 0 (nI (ν 0 1) - 1))]) rfl ?_
  refine lv_if_eq (tgt := 21) hx hb dX5_add_10 (by decide) (fun c10 => ?_) (fun c10 => ?_)
  · skip
    exact absurd c10 (z_iv_t ht (by omega))
  · skip
    refine lv_aload_n hx hb dX5_add_13 rfl (lv_at hl 0 rfl) ?_
    refine lv_iload_n hx hb dX5_add_14 rfl (lv_at hl 2 rfl) ?_
    refine z_call (va_runV (As := [.int (nI v)]) (rest := []) ⟨hx, hb, hml, hown, hts⟩ (c_X5_isValley l G am (am 9) (z_up μ 8 1 0) ν (nI v)) (cwV 1 hts gX5_add_X5_isValley rfl rfl rfl (by decide +kernel) ⟨Nat.le_of_ble_eq_true rfl, Nat.le_of_ble_eq_true rfl⟩) (z_prW (ci := 5) (k := 0) hX hP (z_NM hP) rfl z_m0) rfl rfl hl.1 rfl (lv_room (Nat.le_of_ble_eq_true rfl)) dX5_add_15 ⟨Nat.le_of_ble_eq_true rfl, Nat.le_of_ble_eq_true rfl⟩) (fun _ h9 => h9) ?_
    refine W.eq (g2 := F0 m 18 ls [.int (z_wi (nI v) 0 (nI (ν 0 0) - 1))]) rfl ?_
    refine lv_if_ne (tgt := 27) hx hb dX5_add_18 (by decide) (fun c18 => ?_) (fun c18 => ?_)
    · skip
      refine lv_aload_n hx hb dX5_add_27 rfl (lv_at hl 0 rfl) ?_
      refine va_get (D := z_DD G) (ci := 5) (v := .ref (am 7)) (C := RX5) (T := TX5) (N := 13) hx hb hts hi_RX5 hown hK hP 0 z_m0 rfl 10 (by decide) hf_RX5_28 (fun _ h9 => h9) rfl dX5_add_28 ?_
      refine lv_iload_n hx hb dX5_add_31 rfl (lv_at hl 1 rfl) ?_
      refine z_iald (k := t) (f := fun z9 => nI (ν 1 z9)) hx hb hK hP 7 0 z_m7 rfl (Nat.lt_of_lt_of_le ht hy.2.1) (by decide) dX5_add_32 ?_
      refine lv_iconst (v := nI 5) hx hb dX5_add_33 (by decide) ?_
      refine lv_icmp_eq (tgt := 46) hx hb dX5_add_34 (by decide) (fun c34 => ?_) (fun c34 => ?_)
      · skip
        exact absurd ((nI_eq (by omega) (by decide)).mp c34) (by omega)
      · skip
        refine lv_aload_n hx hb dX5_add_37 rfl (lv_at hl 0 rfl) ?_
        refine lv_iload_n hx hb dX5_add_38 rfl (lv_at hl 1 rfl) ?_
        refine lv_iload_n hx hb dX5_add_39 rfl (lv_at hl 2 rfl) ?_
        refine z_call (va_runV (As := [.int (nI t), .int (nI v)]) (rest := []) ⟨hx, hb, hml, hown, hts⟩ (c_X5_has l G am (am 9) (z_up μ 8 1 0) ν hy t v (Nat.lt_of_lt_of_le ht hy.2.1) (Nat.lt_of_lt_of_le hv hy.1)) (cwV 2 hts gX5_add_X5_has rfl rfl rfl (by decide +kernel) ⟨Nat.le_of_ble_eq_true rfl, Nat.le_of_ble_eq_true rfl⟩) (z_prW (ci := 5) (k := 0) hX hP (z_NM hP) rfl z_m0) rfl rfl hl.1 rfl (lv_room (Nat.le_of_ble_eq_true rfl)) dX5_add_40 ⟨Nat.le_of_ble_eq_true rfl, Nat.le_of_ble_eq_true rfl⟩) (fun _ h9 => h9) ?_
        refine W.eq (g2 := F0 m 43 ls [.int (z_bi (y_has ν t v))]) rfl ?_
        refine lv_if_eq (tgt := 52) hx hb dX5_add_43 (by decide) (fun c43 => ?_) (fun c43 => ?_)
        · skip
          exact absurd (z_bi_f c43) (by rw [g2]; decide)
        · skip
          refine lv_aload_n hx hb dX5_add_46 rfl (lv_at hl 0 rfl) ?_
          refine lv_iconst (v := 2) hx hb dX5_add_47 (by decide) ?_
          refine z_callm (va_runV (As := [.int 2]) (rest := []) ⟨hx, hb, hml, hown, hts⟩ (c_X5_no l G am (z_up μ 8 1 0) ν hinj 2) (cwV 1 hts gX5_add_X5_no rfl rfl rfl (by decide +kernel) ⟨Nat.le_of_ble_eq_true rfl, Nat.le_of_ble_eq_true rfl⟩) (z_prV (ci := 5) (k := 0) hX hP rfl z_m0) rfl rfl hl.1 rfl (lv_room (Nat.le_of_ble_eq_true rfl)) dX5_add_48 ⟨Nat.le_of_ble_eq_true rfl, Nat.le_of_ble_eq_true rfl⟩) hS (fun _ _ h9 => h9) (fun _ h9 => h9) (fun H locs hP hz9 hk9 hS => ?_)
          have hD := z_Dm hinj (z_cM G am (z_up (z_up μ 8 1 0) 8 1 2) ν)
          refine W.eq (g2 := F0 m 51 ls [.int 0]) rfl ?_
          have hPf : va_P (z_DD G) vwCl (z_wM G am (y_no μ 2) ν) H := by exact hP
          refine z_iret hx hb hr hlocks dX5_add_51 (fun t ht hW => ⟨rfl, by rw [ht]; exact hPf, hS.F ht⟩) hS.2.2 ?_
          rfl
    · skip
      exact absurd c18 (z_iv_t hv (by omega))

set_option maxHeartbeats 4000000 in
set_option maxRecDepth 100000 in
theorem c_X5_cut (l : Launch) (G : z_GT) (am : Nat → Nat) (μ : Nat → Nat → Int32) (ν : Nat → Nat → Nat) (hinj : ∀ i j, i < 10 → j < 10 → am i = am j → i = j) (hy : y_wf μ ν) (t : Nat) (ht : t < ν 0 1) (g1 : 0 < ν 1 t) : Met l yX5_cut wsX5_cut ({ frames := 2, cells := 0, slots := 0, locals := 43 } : Room) (z_Pr G [.ref (am 0), .int (nI t)] (z_wM G am μ ν)) (z_Qm G (some (.int (nI (ν 2 (5 * t + (ν 1 t - 1)))))) (z_wM G am (z_up μ 8 1 0) (y_ct ν t)) (z_A 10 am)) 0 0 (z_A 10 am) := by
  refine Met.ofW (cc := cX5_cut) (maxL := 2) (ret := (some .int)) (by decide) rfl ?_
  intro p e s m args below meth c s₁ B hml hw0
  obtain ⟨rfl, hX, hP⟩ := hw0
  have hK := hX.1
  have hx := B.exec
  have hb := B.bytes
  have hr := B.returns
  have hts := atoms_spec (ws := wsX5_cut) B.pre
  have hown : s.vm.findClass RX5 = some m.cls := findClass_of_methodNamed B.named
  have hlocks := B.notSynchronized
  have hl := lv_entry ([.ref (am 0), .int (nI t)]) (n := 2) (Nat.le_of_ble_eq_true rfl)
  rw [lg_entry_eq]
  generalize (lg_sl ([.ref (am 0), .int (nI t)]) ++ List.replicate (2 - (lg_sl ([.ref (am 0), .int (nI t)])).length) Slot.unset).toArray = ls at hl ⊢
  have hl : lv_has ls 2 [(0, .ref (am 0)), (1, .int (nI t))] := hl
  have hf_RX5_28 : (Cond.fieldLink RX5 28 "BlossomToursModel" "many" "[I").before ([.ref (am 0), .int (nI t)] : List Value).toArray s = true := hts _ (by decide +kernel)
  have hf_RX5_37 : (Cond.fieldLink RX5 37 "BlossomToursModel" "thrown" "I").before ([.ref (am 0), .int (nI t)] : List Value).toArray s = true := hts _ (by decide +kernel)
  have hi_RX5 : ∀ w ∈ u_ws RX5 TX5 13, w ∈ wsX5_cut := by decide +kernel
  have hm6 := hy.2.1
  have hk5 := hy.2.2.1 t (Nat.lt_of_lt_of_le ht hy.2.1)
  have hS : va_S (z_A 10 am) s.heap s.heap [] := va_S.rf
  have hD := z_Dm hinj (z_cM G am μ ν)
  refine lv_aload_n hx hb dX5_cut_0 rfl (lv_at hl 0 rfl) ?_
  refine lv_iconst (v := 0) hx hb dX5_cut_1 (by decide) ?_
  refine va_put (D := z_DD G) (ci := 5) (v := .int 0) (ty := .int) (C := RX5) (T := TX5) (N := 13) hx hb hts hi_RX5 tyX5 tyX5_ok nmX5 hown hK hP hD hS 0 z_m0 rfl 0 (by decide) hf_RX5_37 (fun _ h9 => h9) rfl (by decide +kernel) rfl rfl (Nat.le_of_ble_eq_true rfl) dX5_cut_2 (fun H locs hP hD hS => ?_)
  have hP : va_P (z_DD G) vwCl (z_wM G am (z_up μ 8 1 0) ν) H := Eq.mp (congrArg (fun w => va_P (z_DD G) vwCl w H) z_tM0) hP
  have hD := z_Dm hinj (z_cM G am (z_up μ 8 1 0) ν)
  refine lv_aload_n hx hb dX5_cut_5 rfl (lv_at hl 0 rfl) ?_
  refine lv_iload_n hx hb dX5_cut_6 rfl (lv_at hl 1 rfl) ?_
  refine z_call (va_runV (As := [.int (nI t)]) (rest := []) ⟨hx, hb, hml, hown, hts⟩ (c_X5_isTour l G am (am 9) (z_up μ 8 1 0) ν (nI t)) (cwV 1 hts gX5_cut_X5_isTour rfl rfl rfl (by decide +kernel) ⟨Nat.le_of_ble_eq_true rfl, Nat.le_of_ble_eq_true rfl⟩) (z_prW (ci := 5) (k := 0) hX hP (z_NM hP) rfl z_m0) rfl rfl hl.1 rfl (lv_room (Nat.le_of_ble_eq_true rfl)) dX5_cut_7 ⟨Nat.le_of_ble_eq_true rfl, Nat.le_of_ble_eq_true rfl⟩) (fun _ h9 => h9) ?_
  refine W.eq (g2 := F0 m 10 ls [.int (z_wi (nI t) 0 (nI (ν 0 1) - 1))]) rfl ?_
  refine lv_if_ne (tgt := 19) hx hb dX5_cut_10 (by decide) (fun c10 => ?_) (fun c10 => ?_)
  · skip
    refine lv_aload_n hx hb dX5_cut_19 rfl (lv_at hl 0 rfl) ?_
    refine va_get (D := z_DD G) (ci := 5) (v := .ref (am 7)) (C := RX5) (T := TX5) (N := 13) hx hb hts hi_RX5 hown hK hP 0 z_m0 rfl 10 (by decide) hf_RX5_28 (fun _ h9 => h9) rfl dX5_cut_20 ?_
    refine lv_iload_n hx hb dX5_cut_23 rfl (lv_at hl 1 rfl) ?_
    refine z_iald (k := t) (f := fun z9 => nI (ν 1 z9)) hx hb hK hP 7 0 z_m7 rfl (Nat.lt_of_lt_of_le ht hy.2.1) (by decide) dX5_cut_24 ?_
    refine lv_if_ne (tgt := 34) hx hb dX5_cut_25 (by decide) (fun c25 => ?_) (fun c25 => ?_)
    · skip
      refine lv_aload_n hx hb dX5_cut_34 rfl (lv_at hl 0 rfl) ?_
      refine va_get (D := z_DD G) (ci := 5) (v := .ref (am 7)) (C := RX5) (T := TX5) (N := 13) hx hb hts hi_RX5 hown hK hP 0 z_m0 rfl 10 (by decide) hf_RX5_28 (fun _ h9 => h9) rfl dX5_cut_35 ?_
      refine lv_iload_n hx hb dX5_cut_38 rfl (lv_at hl 1 rfl) ?_
      refine lv_dup2_11 hx hb dX5_cut_39 rfl rfl ?_
      refine z_iald (k := t) (f := fun z9 => nI (ν 1 z9)) hx hb hK hP 7 0 z_m7 rfl (Nat.lt_of_lt_of_le ht hy.2.1) (by decide) dX5_cut_40 ?_
      refine lv_iconst (v := 1) hx hb dX5_cut_41 (by decide) ?_
      refine lv_isub hx hb dX5_cut_42 ?_
      refine z_top (show (.int ((nI (ν 1 t)) - 1) : Value) = .int (nI (ν 1 t - 1)) from by obtain ⟨q, hq⟩ : ∃ q, ν 1 t = q + 1 := ⟨ν 1 t - 1, by omega⟩; rw [hq, nI_pred]; rfl) ?_
      refine va_iast (f := fun z9 => nI (ν 1 z9)) hx hb hK hP hD hS 7 0 z_m7 rfl (vp_in_nI (Nat.lt_of_lt_of_le ht hy.2.1) (by omega)) dX5_cut_43 (fun H locs hP hD hS => ?_)
      have hP : va_P (z_DD G) vwCl (z_wM G am (z_up μ 8 1 0) (z_up ν 1 t (ν 1 t - 1))) H := Eq.mp (congrArg (fun w => va_P (z_DD G) vwCl w H) (z_tA7 (by omega))) hP
      have hD := z_Dm hinj (z_cM G am (z_up μ 8 1 0) (z_up ν 1 t (ν 1 t - 1)))
      refine lv_aload_n hx hb dX5_cut_44 rfl (lv_at hl 0 rfl) ?_
      refine lv_iload_n hx hb dX5_cut_45 rfl (lv_at hl 1 rfl) ?_
      refine lv_aload_n hx hb dX5_cut_46 rfl (lv_at hl 0 rfl) ?_
      refine va_get (D := z_DD G) (ci := 5) (v := .ref (am 7)) (C := RX5) (T := TX5) (N := 13) hx hb hts hi_RX5 hown hK hP 0 z_m0 rfl 10 (by decide) hf_RX5_28 (fun _ h9 => h9) rfl dX5_cut_47 ?_
      refine lv_iload_n hx hb dX5_cut_50 rfl (lv_at hl 1 rfl) ?_
      refine z_iald (k := t) (f := fun z9 => nI ((z_up ν 1 t (ν 1 t - 1)) 1 z9)) hx hb hK hP 7 0 z_m7 rfl (Nat.lt_of_lt_of_le ht hy.2.1) (by decide) dX5_cut_51 ?_
      refine z_top (show (.int (nI ((z_up ν 1 t (ν 1 t - 1)) 1 t)) : Value) = .int (nI (ν 1 t - 1)) from by rw [z_up_s]) ?_
      refine z_call (va_runV (As := [.int (nI t), .int (nI (ν 1 t - 1))]) (rest := []) ⟨hx, hb, hml, hown, hts⟩ (c_X5_at l G am (am 9) (z_up μ 8 1 0) (z_up ν 1 t (ν 1 t - 1)) t (ν 1 t - 1) (Nat.lt_of_lt_of_le ht hy.2.1) (by omega)) (cwV 2 hts gX5_cut_X5_at rfl rfl rfl (by decide +kernel) ⟨Nat.le_of_ble_eq_true rfl, Nat.le_of_ble_eq_true rfl⟩) (z_prW (ci := 5) (k := 0) hX hP (z_NM hP) rfl z_m0) rfl rfl hl.1 rfl (lv_room (Nat.le_of_ble_eq_true rfl)) dX5_cut_52 ⟨Nat.le_of_ble_eq_true rfl, Nat.le_of_ble_eq_true rfl⟩) (fun _ h9 => h9) ?_
      refine W.eq (g2 := F0 m 55 ls [.int (nI ((z_up ν 1 t (ν 1 t - 1)) 2 (5 * t + (ν 1 t - 1))))]) rfl ?_
      have hPf : va_P (z_DD G) vwCl (z_wM G am (z_up μ 8 1 0) (y_ct ν t)) H := by exact hP
      refine z_iret hx hb hr hlocks dX5_cut_55 (fun t ht hW => ⟨rfl, by rw [ht]; exact hPf, hS.F ht⟩) hS.2.2 ?_
      rfl
    · skip
      exact absurd c25 (nI_ne0 g1 (by omega))
  · skip
    exact absurd c10 (z_iv_t ht (by omega))

set_option maxHeartbeats 4000000 in
set_option maxRecDepth 100000 in
theorem x_X5_cut_1 (l : Launch) (G : z_GT) (am : Nat → Nat) (μ : Nat → Nat → Int32) (ν : Nat → Nat → Nat) (hinj : ∀ i j, i < 10 → j < 10 → am i = am j → i = j) (hm6 : ν 0 1 ≤ 6) (v : Int32) (h : v < 0 ∨ ¬ v < nI (ν 0 1)) : Met l yX5_cut wsX5_cut ({ frames := 2, cells := 0, slots := 0, locals := 43 } : Room) (z_Pr G [.ref (am 0), .int v] (z_wM G am μ ν)) (z_Qm G (some (.int 0)) (z_wM G am (y_no μ 1) ν) (z_A 10 am)) 0 0 (z_A 10 am) := by
  refine Met.ofW (cc := cX5_cut) (maxL := 2) (ret := (some .int)) (by decide) rfl ?_
  intro p e s m args below meth c s₁ B hml hw0
  obtain ⟨rfl, hX, hP⟩ := hw0
  have hK := hX.1
  have hx := B.exec
  have hb := B.bytes
  have hr := B.returns
  have hts := atoms_spec (ws := wsX5_cut) B.pre
  have hown : s.vm.findClass RX5 = some m.cls := findClass_of_methodNamed B.named
  have hlocks := B.notSynchronized
  have hl := lv_entry ([.ref (am 0), .int v]) (n := 2) (Nat.le_of_ble_eq_true rfl)
  rw [lg_entry_eq]
  generalize (lg_sl ([.ref (am 0), .int v]) ++ List.replicate (2 - (lg_sl ([.ref (am 0), .int v])).length) Slot.unset).toArray = ls at hl ⊢
  have hl : lv_has ls 2 [(0, .ref (am 0)), (1, .int v)] := hl
  have hf_RX5_37 : (Cond.fieldLink RX5 37 "BlossomToursModel" "thrown" "I").before ([.ref (am 0), .int v] : List Value).toArray s = true := hts _ (by decide +kernel)
  have hi_RX5 : ∀ w ∈ u_ws RX5 TX5 13, w ∈ wsX5_cut := by decide +kernel
  have hS : va_S (z_A 10 am) s.heap s.heap [] := va_S.rf
  have hD := z_Dm hinj (z_cM G am μ ν)
  refine lv_aload_n hx hb dX5_cut_0 rfl (lv_at hl 0 rfl) ?_
  refine lv_iconst (v := 0) hx hb dX5_cut_1 (by decide) ?_
  refine va_put (D := z_DD G) (ci := 5) (v := .int 0) (ty := .int) (C := RX5) (T := TX5) (N := 13) hx hb hts hi_RX5 tyX5 tyX5_ok nmX5 hown hK hP hD hS 0 z_m0 rfl 0 (by decide) hf_RX5_37 (fun _ h9 => h9) rfl (by decide +kernel) rfl rfl (Nat.le_of_ble_eq_true rfl) dX5_cut_2 (fun H locs hP hD hS => ?_)
  have hP : va_P (z_DD G) vwCl (z_wM G am (z_up μ 8 1 0) ν) H := Eq.mp (congrArg (fun w => va_P (z_DD G) vwCl w H) z_tM0) hP
  have hD := z_Dm hinj (z_cM G am (z_up μ 8 1 0) ν)
  refine lv_aload_n hx hb dX5_cut_5 rfl (lv_at hl 0 rfl) ?_
  refine lv_iload_n hx hb dX5_cut_6 rfl (lv_at hl 1 rfl) ?_
  refine z_call (va_runV (As := [.int v]) (rest := []) ⟨hx, hb, hml, hown, hts⟩ (c_X5_isTour l G am (am 9) (z_up μ 8 1 0) ν v) (cwV 1 hts gX5_cut_X5_isTour rfl rfl rfl (by decide +kernel) ⟨Nat.le_of_ble_eq_true rfl, Nat.le_of_ble_eq_true rfl⟩) (z_prW (ci := 5) (k := 0) hX hP (z_NM hP) rfl z_m0) rfl rfl hl.1 rfl (lv_room (Nat.le_of_ble_eq_true rfl)) dX5_cut_7 ⟨Nat.le_of_ble_eq_true rfl, Nat.le_of_ble_eq_true rfl⟩) (fun _ h9 => h9) ?_
  refine W.eq (g2 := F0 m 10 ls [.int (z_wi v 0 (nI (ν 0 1) - 1))]) rfl ?_
  refine lv_if_ne (tgt := 19) hx hb dX5_cut_10 (by decide) (fun c10 => ?_) (fun c10 => ?_)
  · skip
    exact absurd (z_iv_f (by omega) h) c10
  · skip
    refine lv_aload_n hx hb dX5_cut_13 rfl (lv_at hl 0 rfl) ?_
    refine lv_iconst (v := 1) hx hb dX5_cut_14 (by decide) ?_
    refine z_callm (va_runV (As := [.int 1]) (rest := []) ⟨hx, hb, hml, hown, hts⟩ (c_X5_no l G am (z_up μ 8 1 0) ν hinj 1) (cwV 1 hts gX5_cut_X5_no rfl rfl rfl (by decide +kernel) ⟨Nat.le_of_ble_eq_true rfl, Nat.le_of_ble_eq_true rfl⟩) (z_prV (ci := 5) (k := 0) hX hP rfl z_m0) rfl rfl hl.1 rfl (lv_room (Nat.le_of_ble_eq_true rfl)) dX5_cut_15 ⟨Nat.le_of_ble_eq_true rfl, Nat.le_of_ble_eq_true rfl⟩) hS (fun _ _ h9 => h9) (fun _ h9 => h9) (fun H locs hP hz9 hk9 hS => ?_)
    have hD := z_Dm hinj (z_cM G am (z_up (z_up μ 8 1 0) 8 1 1) ν)
    refine W.eq (g2 := F0 m 18 ls [.int 0]) rfl ?_
    have hPf : va_P (z_DD G) vwCl (z_wM G am (y_no μ 1) ν) H := by exact hP
    refine z_iret hx hb hr hlocks dX5_cut_18 (fun t ht hW => ⟨rfl, by rw [ht]; exact hPf, hS.F ht⟩) hS.2.2 ?_
    rfl

set_option maxHeartbeats 4000000 in
set_option maxRecDepth 100000 in
theorem x_X5_cut_2 (l : Launch) (G : z_GT) (am : Nat → Nat) (μ : Nat → Nat → Int32) (ν : Nat → Nat → Nat) (hinj : ∀ i j, i < 10 → j < 10 → am i = am j → i = j) (hm6 : ν 0 1 ≤ 6) (t : Nat) (ht : t < ν 0 1) (g1 : ν 1 t = 0) : Met l yX5_cut wsX5_cut ({ frames := 2, cells := 0, slots := 0, locals := 43 } : Room) (z_Pr G [.ref (am 0), .int (nI t)] (z_wM G am μ ν)) (z_Qm G (some (.int 0)) (z_wM G am (y_no μ 2) ν) (z_A 10 am)) 0 0 (z_A 10 am) := by
  refine Met.ofW (cc := cX5_cut) (maxL := 2) (ret := (some .int)) (by decide) rfl ?_
  intro p e s m args below meth c s₁ B hml hw0
  obtain ⟨rfl, hX, hP⟩ := hw0
  have hK := hX.1
  have hx := B.exec
  have hb := B.bytes
  have hr := B.returns
  have hts := atoms_spec (ws := wsX5_cut) B.pre
  have hown : s.vm.findClass RX5 = some m.cls := findClass_of_methodNamed B.named
  have hlocks := B.notSynchronized
  have hl := lv_entry ([.ref (am 0), .int (nI t)]) (n := 2) (Nat.le_of_ble_eq_true rfl)
  rw [lg_entry_eq]
  generalize (lg_sl ([.ref (am 0), .int (nI t)]) ++ List.replicate (2 - (lg_sl ([.ref (am 0), .int (nI t)])).length) Slot.unset).toArray = ls at hl ⊢
  have hl : lv_has ls 2 [(0, .ref (am 0)), (1, .int (nI t))] := hl
  have hf_RX5_28 : (Cond.fieldLink RX5 28 "BlossomToursModel" "many" "[I").before ([.ref (am 0), .int (nI t)] : List Value).toArray s = true := hts _ (by decide +kernel)
  have hf_RX5_37 : (Cond.fieldLink RX5 37 "BlossomToursModel" "thrown" "I").before ([.ref (am 0), .int (nI t)] : List Value).toArray s = true := hts _ (by decide +kernel)
  have hi_RX5 : ∀ w ∈ u_ws RX5 TX5 13, w ∈ wsX5_cut := by decide +kernel
  have hS : va_S (z_A 10 am) s.heap s.heap [] := va_S.rf
  have hD := z_Dm hinj (z_cM G am μ ν)
  refine lv_aload_n hx hb dX5_cut_0 rfl (lv_at hl 0 rfl) ?_
  refine lv_iconst (v := 0) hx hb dX5_cut_1 (by decide) ?_
  refine va_put (D := z_DD G) (ci := 5) (v := .int 0) (ty := .int) (C := RX5) (T := TX5) (N := 13) hx hb hts hi_RX5 tyX5 tyX5_ok nmX5 hown hK hP hD hS 0 z_m0 rfl 0 (by decide) hf_RX5_37 (fun _ h9 => h9) rfl (by decide +kernel) rfl rfl (Nat.le_of_ble_eq_true rfl) dX5_cut_2 (fun H locs hP hD hS => ?_)
  have hP : va_P (z_DD G) vwCl (z_wM G am (z_up μ 8 1 0) ν) H := Eq.mp (congrArg (fun w => va_P (z_DD G) vwCl w H) z_tM0) hP
  have hD := z_Dm hinj (z_cM G am (z_up μ 8 1 0) ν)
  refine lv_aload_n hx hb dX5_cut_5 rfl (lv_at hl 0 rfl) ?_
  refine lv_iload_n hx hb dX5_cut_6 rfl (lv_at hl 1 rfl) ?_
  refine z_call (va_runV (As := [.int (nI t)]) (rest := []) ⟨hx, hb, hml, hown, hts⟩ (c_X5_isTour l G am (am 9) (z_up μ 8 1 0) ν (nI t)) (cwV 1 hts gX5_cut_X5_isTour rfl rfl rfl (by decide +kernel) ⟨Nat.le_of_ble_eq_true rfl, Nat.le_of_ble_eq_true rfl⟩) (z_prW (ci := 5) (k := 0) hX hP (z_NM hP) rfl z_m0) rfl rfl hl.1 rfl (lv_room (Nat.le_of_ble_eq_true rfl)) dX5_cut_7 ⟨Nat.le_of_ble_eq_true rfl, Nat.le_of_ble_eq_true rfl⟩) (fun _ h9 => h9) ?_
  refine W.eq (g2 := F0 m 10 ls [.int (z_wi (nI t) 0 (nI (ν 0 1) - 1))]) rfl ?_
  refine lv_if_ne (tgt := 19) hx hb dX5_cut_10 (by decide) (fun c10 => ?_) (fun c10 => ?_)
  · skip
    refine lv_aload_n hx hb dX5_cut_19 rfl (lv_at hl 0 rfl) ?_
    refine va_get (D := z_DD G) (ci := 5) (v := .ref (am 7)) (C := RX5) (T := TX5) (N := 13) hx hb hts hi_RX5 hown hK hP 0 z_m0 rfl 10 (by decide) hf_RX5_28 (fun _ h9 => h9) rfl dX5_cut_20 ?_
    refine lv_iload_n hx hb dX5_cut_23 rfl (lv_at hl 1 rfl) ?_
    refine z_iald (k := t) (f := fun z9 => nI (ν 1 z9)) hx hb hK hP 7 0 z_m7 rfl (Nat.lt_of_lt_of_le ht hm6) (by decide) dX5_cut_24 ?_
    refine lv_if_ne (tgt := 34) hx hb dX5_cut_25 (by decide) (fun c25 => ?_) (fun c25 => ?_)
    · skip
      exact absurd (show nI (ν 1 t) = 0 by rw [g1]; decide) c25
    · skip
      refine lv_aload_n hx hb dX5_cut_28 rfl (lv_at hl 0 rfl) ?_
      refine lv_iconst (v := 2) hx hb dX5_cut_29 (by decide) ?_
      refine z_callm (va_runV (As := [.int 2]) (rest := []) ⟨hx, hb, hml, hown, hts⟩ (c_X5_no l G am (z_up μ 8 1 0) ν hinj 2) (cwV 1 hts gX5_cut_X5_no rfl rfl rfl (by decide +kernel) ⟨Nat.le_of_ble_eq_true rfl, Nat.le_of_ble_eq_true rfl⟩) (z_prV (ci := 5) (k := 0) hX hP rfl z_m0) rfl rfl hl.1 rfl (lv_room (Nat.le_of_ble_eq_true rfl)) dX5_cut_30 ⟨Nat.le_of_ble_eq_true rfl, Nat.le_of_ble_eq_true rfl⟩) hS (fun _ _ h9 => h9) (fun _ h9 => h9) (fun H locs hP hz9 hk9 hS => ?_)
      have hD := z_Dm hinj (z_cM G am (z_up (z_up μ 8 1 0) 8 1 2) ν)
      refine W.eq (g2 := F0 m 33 ls [.int 0]) rfl ?_
      have hPf : va_P (z_DD G) vwCl (z_wM G am (y_no μ 2) ν) H := by exact hP
      refine z_iret hx hb hr hlocks dX5_cut_33 (fun t ht hW => ⟨rfl, by rw [ht]; exact hPf, hS.F ht⟩) hS.2.2 ?_
      rfl
  · skip
    exact absurd c10 (z_iv_t ht (by omega))

set_option maxHeartbeats 4000000 in
set_option maxRecDepth 100000 in
theorem c_X5_tourTold (l : Launch) (G : z_GT) (am : Nat → Nat) (μ : Nat → Nat → Int32) (ν : Nat → Nat → Nat) (hy : y_wf μ ν) (t w9 : Nat) (ht : t < 6) (h9 : w9 < 6) : Met l yX5_tourTold wsX5_tourTold ({ frames := 5, cells := 0, slots := 0, locals := 114 } : Room) (z_Pr G [.ref (am 0), .int (nI t), .int (nI w9)] (z_wM G am μ ν)) (z_Qo (some (.int (y_tld μ ν t w9)))) 0 0 (fun _ => False) := by
  refine Met.ofW (cc := cX5_tourTold) (maxL := 3) (ret := (some .int)) (by decide) rfl ?_
  intro p e s m args below meth c s₁ B hml hw0
  obtain ⟨rfl, hX, hP⟩ := hw0
  have hK := hX.1
  have hx := B.exec
  have hb := B.bytes
  have hr := B.returns
  have hts := atoms_spec (ws := wsX5_tourTold) B.pre
  have hown : s.vm.findClass RX5 = some m.cls := findClass_of_methodNamed B.named
  have hlocks := B.notSynchronized
  have hl := lv_entry ([.ref (am 0), .int (nI t), .int (nI w9)]) (n := 3) (Nat.le_of_ble_eq_true rfl)
  rw [lg_entry_eq]
  generalize (lg_sl ([.ref (am 0), .int (nI t), .int (nI w9)]) ++ List.replicate (3 - (lg_sl ([.ref (am 0), .int (nI t), .int (nI w9)])).length) Slot.unset).toArray = ls at hl ⊢
  have hl : lv_has ls 3 [(0, .ref (am 0)), (1, .int (nI t)), (2, .int (nI w9))] := hl
  have hf_RX5_25 : (Cond.fieldLink RX5 25 "BlossomToursModel" "tourists" "[I").before ([.ref (am 0), .int (nI t), .int (nI w9)] : List Value).toArray s = true := hts _ (by decide +kernel)
  have hf_RX5_28 : (Cond.fieldLink RX5 28 "BlossomToursModel" "many" "[I").before ([.ref (am 0), .int (nI t), .int (nI w9)] : List Value).toArray s = true := hts _ (by decide +kernel)
  have hf_RX5_34 : (Cond.fieldLink RX5 34 "BlossomToursModel" "numbers" "[I").before ([.ref (am 0), .int (nI t), .int (nI w9)] : List Value).toArray s = true := hts _ (by decide +kernel)
  have hi_RX5 : ∀ w ∈ u_ws RX5 TX5 13, w ∈ wsX5_tourTold := by decide +kernel
  refine lv_iload_n hx hb dX5_tourTold_0 rfl (lv_at hl 2 rfl) ?_
  rcases (show w9 = 0 ∨ w9 = 1 ∨ w9 = 2 ∨ w9 = 3 ∨ w9 = 4 ∨ w9 = 5 by omega) with rfl | rfl | rfl | rfl | rfl | rfl
  · skip
    refine lv_tableIn (x := nI 0) (off := 35) (tgt := 36) hx hb dX5_tourTold_1 (by decide) (by decide) rfl (by decide) ?_
    refine lv_aload_n hx hb dX5_tourTold_36 rfl (lv_at hl 0 rfl) ?_
    refine va_get (D := z_DD G) (ci := 5) (v := .ref (am 6)) (C := RX5) (T := TX5) (N := 13) hx hb hts hi_RX5 hown hK hP 0 z_m0 rfl 9 (by decide) hf_RX5_25 (fun _ h9 => h9) rfl dX5_tourTold_37 ?_
    refine lv_iload_n hx hb dX5_tourTold_40 rfl (lv_at hl 1 rfl) ?_
    refine z_iald (k := t) (f := fun z9 => μ 5 z9) hx hb hK hP 6 0 z_m6 rfl ht (by decide) dX5_tourTold_41 ?_
    refine z_iret hx hb hr hlocks dX5_tourTold_42 (fun t ht hW => ⟨rfl, ht⟩) (fun _ h9 => nomatch h9) ?_
    rfl
  · skip
    refine lv_tableIn (x := nI 1) (off := 42) (tgt := 43) hx hb dX5_tourTold_1 (by decide) (by decide) rfl (by decide) ?_
    refine lv_aload_n hx hb dX5_tourTold_43 rfl (lv_at hl 0 rfl) ?_
    refine va_get (D := z_DD G) (ci := 5) (v := .ref (am 7)) (C := RX5) (T := TX5) (N := 13) hx hb hts hi_RX5 hown hK hP 0 z_m0 rfl 10 (by decide) hf_RX5_28 (fun _ h9 => h9) rfl dX5_tourTold_44 ?_
    refine lv_iload_n hx hb dX5_tourTold_47 rfl (lv_at hl 1 rfl) ?_
    refine z_iald (k := t) (f := fun z9 => nI (ν 1 z9)) hx hb hK hP 7 0 z_m7 rfl ht (by decide) dX5_tourTold_48 ?_
    refine z_iret hx hb hr hlocks dX5_tourTold_49 (fun t ht hW => ⟨rfl, ht⟩) (fun _ h9 => nomatch h9) ?_
    rfl
  · skip
    refine lv_tableIn (x := nI 2) (off := 49) (tgt := 50) hx hb dX5_tourTold_1 (by decide) (by decide) rfl (by decide) ?_
    refine lv_aload_n hx hb dX5_tourTold_50 rfl (lv_at hl 0 rfl) ?_
    refine lv_iload_n hx hb dX5_tourTold_51 rfl (lv_at hl 1 rfl) ?_
    refine z_call (va_runV (As := [.int (nI t)]) (rest := []) ⟨hx, hb, hml, hown, hts⟩ (c_X5_minutes l G am (am 9) μ ν hy t ht) (cwV 1 hts gX5_tourTold_X5_minutes rfl rfl rfl (by decide +kernel) ⟨Nat.le_of_ble_eq_true rfl, Nat.le_of_ble_eq_true rfl⟩) (z_prW (ci := 5) (k := 0) hX hP (z_NM hP) rfl z_m0) rfl rfl hl.1 rfl (lv_room (Nat.le_of_ble_eq_true rfl)) dX5_tourTold_52 ⟨Nat.le_of_ble_eq_true rfl, Nat.le_of_ble_eq_true rfl⟩) (fun _ h9 => h9) ?_
    refine W.eq (g2 := F0 m 55 ls [.int (y_mns μ ν t)]) rfl ?_
    refine z_iret hx hb hr hlocks dX5_tourTold_55 (fun t ht hW => ⟨rfl, ht⟩) (fun _ h9 => nomatch h9) ?_
    rfl
  · skip
    refine lv_tableIn (x := nI 3) (off := 55) (tgt := 56) hx hb dX5_tourTold_1 (by decide) (by decide) rfl (by decide) ?_
    refine lv_aload_n hx hb dX5_tourTold_56 rfl (lv_at hl 0 rfl) ?_
    refine lv_iload_n hx hb dX5_tourTold_57 rfl (lv_at hl 1 rfl) ?_
    refine z_call (va_runV (As := [.int (nI t)]) (rest := []) ⟨hx, hb, hml, hown, hts⟩ (c_X5_goes l G am (am 9) μ ν hy t ht) (cwV 1 hts gX5_tourTold_X5_goes rfl rfl rfl (by decide +kernel) ⟨Nat.le_of_ble_eq_true rfl, Nat.le_of_ble_eq_true rfl⟩) (z_prW (ci := 5) (k := 0) hX hP (z_NM hP) rfl z_m0) rfl rfl hl.1 rfl (lv_room (Nat.le_of_ble_eq_true rfl)) dX5_tourTold_58 ⟨Nat.le_of_ble_eq_true rfl, Nat.le_of_ble_eq_true rfl⟩) (fun _ h9 => h9) ?_
    refine W.eq (g2 := F0 m 61 ls [.int (y_go μ ν t)]) rfl ?_
    refine lv_if_eq (tgt := 68) hx hb dX5_tourTold_61 (by decide) (fun c61 => ?_) (fun c61 => ?_)
    · skip
      refine lv_iconst (v := 0) hx hb dX5_tourTold_68 (by decide) ?_
      refine z_iret hx hb hr hlocks dX5_tourTold_69 (fun t ht hW => ⟨rfl, ht⟩) (fun _ h9 => nomatch h9) ?_
      first | (show _ = (if y_go μ ν t = 0 then (0 : Int32) else 1); rw [if_neg c61]; done) | (show _ = (if y_go μ ν t = 0 then (0 : Int32) else 1); rw [if_pos c61])
    · skip
      refine lv_iconst (v := 1) hx hb dX5_tourTold_64 (by decide) ?_
      refine lv_goto (tgt := 69) hx hb dX5_tourTold_65 (by decide) ?_
      refine z_iret hx hb hr hlocks dX5_tourTold_69 (fun t ht hW => ⟨rfl, ht⟩) (fun _ h9 => nomatch h9) ?_
      first | (show _ = (if y_go μ ν t = 0 then (0 : Int32) else 1); rw [if_neg c61]; done) | (show _ = (if y_go μ ν t = 0 then (0 : Int32) else 1); rw [if_pos c61])
  · skip
    refine lv_tableIn (x := nI 4) (off := 69) (tgt := 70) hx hb dX5_tourTold_1 (by decide) (by decide) rfl (by decide) ?_
    refine lv_aload_n hx hb dX5_tourTold_70 rfl (lv_at hl 0 rfl) ?_
    refine lv_iload_n hx hb dX5_tourTold_71 rfl (lv_at hl 1 rfl) ?_
    refine lv_aload_n hx hb dX5_tourTold_72 rfl (lv_at hl 0 rfl) ?_
    refine va_get (D := z_DD G) (ci := 5) (v := .ref (am 9)) (C := RX5) (T := TX5) (N := 13) hx hb hts hi_RX5 hown hK hP 0 z_m0 rfl 12 (by decide) hf_RX5_34 (fun _ h9 => h9) rfl dX5_tourTold_73 ?_
    refine lv_iconst (v := 0) hx hb dX5_tourTold_76 (by decide) ?_
    refine z_iald (k := 0) (f := fun z9 => μ 9 z9) hx hb hK hP 9 0 z_m9 rfl (by decide) (by decide) dX5_tourTold_77 ?_
    refine z_call (va_runV (As := [.int (nI t), .int (μ 9 0)]) (rest := []) ⟨hx, hb, hml, hown, hts⟩ (c_X5_joyOf l G am (am 9) μ ν hy t ht (μ 9 0)) (cwV 2 hts gX5_tourTold_X5_joyOf rfl rfl rfl (by decide +kernel) ⟨Nat.le_of_ble_eq_true rfl, Nat.le_of_ble_eq_true rfl⟩) (z_prW (ci := 5) (k := 0) hX hP (z_NM hP) rfl z_m0) rfl rfl hl.1 rfl (lv_room (Nat.le_of_ble_eq_true rfl)) dX5_tourTold_78 ⟨Nat.le_of_ble_eq_true rfl, Nat.le_of_ble_eq_true rfl⟩) (fun _ h9 => h9) ?_
    refine W.eq (g2 := F0 m 81 ls [.int (y_joy μ ν t (μ 9 0))]) rfl ?_
    refine z_iret hx hb hr hlocks dX5_tourTold_81 (fun t ht hW => ⟨rfl, ht⟩) (fun _ h9 => nomatch h9) ?_
    rfl
  · skip
    refine lv_tableOut (x := nI 5) (tgt := 82) hx hb dX5_tourTold_1 (by decide) (by decide) ?_
    refine lv_aload_n hx hb dX5_tourTold_82 rfl (lv_at hl 0 rfl) ?_
    refine lv_iload_n hx hb dX5_tourTold_83 rfl (lv_at hl 1 rfl) ?_
    refine lv_aload_n hx hb dX5_tourTold_84 rfl (lv_at hl 0 rfl) ?_
    refine va_get (D := z_DD G) (ci := 5) (v := .ref (am 9)) (C := RX5) (T := TX5) (N := 13) hx hb hts hi_RX5 hown hK hP 0 z_m0 rfl 12 (by decide) hf_RX5_34 (fun _ h9 => h9) rfl dX5_tourTold_85 ?_
    refine lv_iconst (v := 0) hx hb dX5_tourTold_88 (by decide) ?_
    refine z_iald (k := 0) (f := fun z9 => μ 9 z9) hx hb hK hP 9 0 z_m9 rfl (by decide) (by decide) dX5_tourTold_89 ?_
    refine z_call (va_runV (As := [.int (nI t), .int (μ 9 0)]) (rest := []) ⟨hx, hb, hml, hown, hts⟩ (c_X5_stingsOf l G am (am 9) μ ν hy t ht (μ 9 0)) (cwV 2 hts gX5_tourTold_X5_stingsOf rfl rfl rfl (by decide +kernel) ⟨Nat.le_of_ble_eq_true rfl, Nat.le_of_ble_eq_true rfl⟩) (z_prW (ci := 5) (k := 0) hX hP (z_NM hP) rfl z_m0) rfl rfl hl.1 rfl (lv_room (Nat.le_of_ble_eq_true rfl)) dX5_tourTold_90 ⟨Nat.le_of_ble_eq_true rfl, Nat.le_of_ble_eq_true rfl⟩) (fun _ h9 => h9) ?_
    refine W.eq (g2 := F0 m 93 ls [.int (y_stg μ ν t (μ 9 0))]) rfl ?_
    refine z_iret hx hb hr hlocks dX5_tourTold_93 (fun t ht hW => ⟨rfl, ht⟩) (fun _ h9 => nomatch h9) ?_
    rfl

set_option maxHeartbeats 4000000 in
set_option maxRecDepth 100000 in
theorem c_X5_told (l : Launch) (G : z_GT) (am : Nat → Nat) (μ : Nat → Nat → Int32) (ν : Nat → Nat → Nat) (hinj : ∀ i j, i < 10 → j < 10 → am i = am j → i = j) (hy : y_wf μ ν) (t : Nat) (ht : t < ν 0 1) (w9 : Nat) (h9 : w9 < 6) : Met l yX5_told wsX5_told ({ frames := 6, cells := 0, slots := 0, locals := 136 } : Room) (z_Pr G [.ref (am 0), .int (nI t), .int (nI w9)] (z_wM G am μ ν)) (z_Qm G (some (.int (y_tld μ ν t w9))) (z_wM G am (z_up μ 8 1 0) ν) (z_A 10 am)) 0 0 (z_A 10 am) := by
  refine Met.ofW (cc := cX5_told) (maxL := 3) (ret := (some .int)) (by decide) rfl ?_
  intro p e s m args below meth c s₁ B hml hw0
  obtain ⟨rfl, hX, hP⟩ := hw0
  have hK := hX.1
  have hx := B.exec
  have hb := B.bytes
  have hr := B.returns
  have hts := atoms_spec (ws := wsX5_told) B.pre
  have hown : s.vm.findClass RX5 = some m.cls := findClass_of_methodNamed B.named
  have hlocks := B.notSynchronized
  have hl := lv_entry ([.ref (am 0), .int (nI t), .int (nI w9)]) (n := 3) (Nat.le_of_ble_eq_true rfl)
  rw [lg_entry_eq]
  generalize (lg_sl ([.ref (am 0), .int (nI t), .int (nI w9)]) ++ List.replicate (3 - (lg_sl ([.ref (am 0), .int (nI t), .int (nI w9)])).length) Slot.unset).toArray = ls at hl ⊢
  have hl : lv_has ls 3 [(0, .ref (am 0)), (1, .int (nI t)), (2, .int (nI w9))] := hl
  have hf_RX5_37 : (Cond.fieldLink RX5 37 "BlossomToursModel" "thrown" "I").before ([.ref (am 0), .int (nI t), .int (nI w9)] : List Value).toArray s = true := hts _ (by decide +kernel)
  have hi_RX5 : ∀ w ∈ u_ws RX5 TX5 13, w ∈ wsX5_told := by decide +kernel
  have hm6 := hy.2.1
  have hS : va_S (z_A 10 am) s.heap s.heap [] := va_S.rf
  have hD := z_Dm hinj (z_cM G am μ ν)
  refine lv_aload_n hx hb dX5_told_0 rfl (lv_at hl 0 rfl) ?_
  refine lv_iconst (v := 0) hx hb dX5_told_1 (by decide) ?_
  refine va_put (D := z_DD G) (ci := 5) (v := .int 0) (ty := .int) (C := RX5) (T := TX5) (N := 13) hx hb hts hi_RX5 tyX5 tyX5_ok nmX5 hown hK hP hD hS 0 z_m0 rfl 0 (by decide) hf_RX5_37 (fun _ h9 => h9) rfl (by decide +kernel) rfl rfl (Nat.le_of_ble_eq_true rfl) dX5_told_2 (fun H locs hP hD hS => ?_)
  have hP : va_P (z_DD G) vwCl (z_wM G am (z_up μ 8 1 0) ν) H := Eq.mp (congrArg (fun w => va_P (z_DD G) vwCl w H) z_tM0) hP
  have hD := z_Dm hinj (z_cM G am (z_up μ 8 1 0) ν)
  refine lv_aload_n hx hb dX5_told_5 rfl (lv_at hl 0 rfl) ?_
  refine lv_iload_n hx hb dX5_told_6 rfl (lv_at hl 1 rfl) ?_
  refine z_call (va_runV (As := [.int (nI t)]) (rest := []) ⟨hx, hb, hml, hown, hts⟩ (c_X5_isTour l G am (am 9) (z_up μ 8 1 0) ν (nI t)) (cwV 1 hts gX5_told_X5_isTour rfl rfl rfl (by decide +kernel) ⟨Nat.le_of_ble_eq_true rfl, Nat.le_of_ble_eq_true rfl⟩) (z_prW (ci := 5) (k := 0) hX hP (z_NM hP) rfl z_m0) rfl rfl hl.1 rfl (lv_room (Nat.le_of_ble_eq_true rfl)) dX5_told_7 ⟨Nat.le_of_ble_eq_true rfl, Nat.le_of_ble_eq_true rfl⟩) (fun _ h9 => h9) ?_
  refine W.eq (g2 := F0 m 10 ls [.int (z_wi (nI t) 0 (nI (ν 0 1) - 1))]) rfl ?_
  refine lv_if_eq (tgt := 31) hx hb dX5_told_10 (by decide) (fun c10 => ?_) (fun c10 => ?_)
  · skip
    exact absurd c10 (z_iv_t ht (by omega))
  · skip
    refine lv_iload_n hx hb dX5_told_13 rfl (lv_at hl 2 rfl) ?_
    refine lv_iconst (v := 0) hx hb dX5_told_14 (by decide) ?_
    refine lv_iconst (v := nI 6 - 1) hx hb dX5_told_15 (by decide) ?_
    refine z_call (va_runS (As := [.int (nI w9), .int 0, .int (nI 6 - 1)]) (rest := []) ⟨hx, hb, hml, hown, hts⟩ (c_X5_isIn l G (nI w9) 0 (nI 6 - 1)) (va_cwS 3 hts gX5_told_X5_isIn rfl rfl rfl (by decide +kernel) ⟨Nat.le_of_ble_eq_true rfl, Nat.le_of_ble_eq_true rfl⟩) (z_prS hX z_P0) rfl rfl hl.1 rfl (lv_room (Nat.le_of_ble_eq_true rfl)) dX5_told_16 ⟨Nat.le_of_ble_eq_true rfl, Nat.le_of_ble_eq_true rfl⟩) (fun _ h9 => h9) ?_
    refine W.eq (g2 := F0 m 19 ls [.int (z_wi (nI w9) 0 (nI 6 - 1))]) rfl ?_
    refine lv_if_eq (tgt := 31) hx hb dX5_told_19 (by decide) (fun c19 => ?_) (fun c19 => ?_)
    · skip
      exact absurd c19 (z_iv_t h9 (by omega))
    · skip
      refine lv_aload_n hx hb dX5_told_22 rfl (lv_at hl 0 rfl) ?_
      refine lv_iload_n hx hb dX5_told_23 rfl (lv_at hl 1 rfl) ?_
      refine lv_iload_n hx hb dX5_told_24 rfl (lv_at hl 2 rfl) ?_
      refine z_call (va_runV (As := [.int (nI t), .int (nI w9)]) (rest := []) ⟨hx, hb, hml, hown, hts⟩ (c_X5_tourTold l G am (z_up μ 8 1 0) ν hy t w9 (Nat.lt_of_lt_of_le ht hy.2.1) (by omega)) (cwV 2 hts gX5_told_X5_tourTold rfl rfl rfl (by decide +kernel) ⟨Nat.le_of_ble_eq_true rfl, Nat.le_of_ble_eq_true rfl⟩) (z_prV (ci := 5) (k := 0) hX hP rfl z_m0) rfl rfl hl.1 rfl (lv_room (Nat.le_of_ble_eq_true rfl)) dX5_told_25 ⟨Nat.le_of_ble_eq_true rfl, Nat.le_of_ble_eq_true rfl⟩) (fun _ h9 => h9) ?_
      refine W.eq (g2 := F0 m 28 ls [.int (y_tld (z_up μ 8 1 0) ν t w9)]) rfl ?_
      refine lv_goto (tgt := 36) hx hb dX5_told_28 (by decide) ?_
      have hPf : va_P (z_DD G) vwCl (z_wM G am (z_up μ 8 1 0) ν) H := by exact hP
      refine z_iret hx hb hr hlocks dX5_told_36 (fun t ht hW => ⟨rfl, by rw [ht]; exact hPf, hS.F ht⟩) hS.2.2 ?_
      rcases (show w9 = 0 ∨ w9 = 1 ∨ w9 = 2 ∨ w9 = 3 ∨ w9 = 4 ∨ w9 = 5 by omega) with rfl | rfl | rfl | rfl | rfl | rfl <;> rfl

set_option maxHeartbeats 4000000 in
set_option maxRecDepth 100000 in
theorem x_X5_told_1 (l : Launch) (G : z_GT) (am : Nat → Nat) (μ : Nat → Nat → Int32) (ν : Nat → Nat → Nat) (hinj : ∀ i j, i < 10 → j < 10 → am i = am j → i = j) (hm6 : ν 0 1 ≤ 6) (v w : Int32) (h : v < 0 ∨ ¬ v < nI (ν 0 1)) : Met l yX5_told wsX5_told ({ frames := 6, cells := 0, slots := 0, locals := 136 } : Room) (z_Pr G [.ref (am 0), .int v, .int w] (z_wM G am μ ν)) (z_Qm G (some (.int 0)) (z_wM G am (y_no μ 1) ν) (z_A 10 am)) 0 0 (z_A 10 am) := by
  refine Met.ofW (cc := cX5_told) (maxL := 3) (ret := (some .int)) (by decide) rfl ?_
  intro p e s m args below meth c s₁ B hml hw0
  obtain ⟨rfl, hX, hP⟩ := hw0
  have hK := hX.1
  have hx := B.exec
  have hb := B.bytes
  have hr := B.returns
  have hts := atoms_spec (ws := wsX5_told) B.pre
  have hown : s.vm.findClass RX5 = some m.cls := findClass_of_methodNamed B.named
  have hlocks := B.notSynchronized
  have hl := lv_entry ([.ref (am 0), .int v, .int w]) (n := 3) (Nat.le_of_ble_eq_true rfl)
  rw [lg_entry_eq]
  generalize (lg_sl ([.ref (am 0), .int v, .int w]) ++ List.replicate (3 - (lg_sl ([.ref (am 0), .int v, .int w])).length) Slot.unset).toArray = ls at hl ⊢
  have hl : lv_has ls 3 [(0, .ref (am 0)), (1, .int v), (2, .int w)] := hl
  have hf_RX5_37 : (Cond.fieldLink RX5 37 "BlossomToursModel" "thrown" "I").before ([.ref (am 0), .int v, .int w] : List Value).toArray s = true := hts _ (by decide +kernel)
  have hi_RX5 : ∀ w ∈ u_ws RX5 TX5 13, w ∈ wsX5_told := by decide +kernel
  have hS : va_S (z_A 10 am) s.heap s.heap [] := va_S.rf
  have hD := z_Dm hinj (z_cM G am μ ν)
  refine lv_aload_n hx hb dX5_told_0 rfl (lv_at hl 0 rfl) ?_
  refine lv_iconst (v := 0) hx hb dX5_told_1 (by decide) ?_
  refine va_put (D := z_DD G) (ci := 5) (v := .int 0) (ty := .int) (C := RX5) (T := TX5) (N := 13) hx hb hts hi_RX5 tyX5 tyX5_ok nmX5 hown hK hP hD hS 0 z_m0 rfl 0 (by decide) hf_RX5_37 (fun _ h9 => h9) rfl (by decide +kernel) rfl rfl (Nat.le_of_ble_eq_true rfl) dX5_told_2 (fun H locs hP hD hS => ?_)
  have hP : va_P (z_DD G) vwCl (z_wM G am (z_up μ 8 1 0) ν) H := Eq.mp (congrArg (fun w => va_P (z_DD G) vwCl w H) z_tM0) hP
  have hD := z_Dm hinj (z_cM G am (z_up μ 8 1 0) ν)
  refine lv_aload_n hx hb dX5_told_5 rfl (lv_at hl 0 rfl) ?_
  refine lv_iload_n hx hb dX5_told_6 rfl (lv_at hl 1 rfl) ?_
  refine z_call (va_runV (As := [.int v]) (rest := []) ⟨hx, hb, hml, hown, hts⟩ (c_X5_isTour l G am (am 9) (z_up μ 8 1 0) ν v) (cwV 1 hts gX5_told_X5_isTour rfl rfl rfl (by decide +kernel) ⟨Nat.le_of_ble_eq_true rfl, Nat.le_of_ble_eq_true rfl⟩) (z_prW (ci := 5) (k := 0) hX hP (z_NM hP) rfl z_m0) rfl rfl hl.1 rfl (lv_room (Nat.le_of_ble_eq_true rfl)) dX5_told_7 ⟨Nat.le_of_ble_eq_true rfl, Nat.le_of_ble_eq_true rfl⟩) (fun _ h9 => h9) ?_
  refine W.eq (g2 := F0 m 10 ls [.int (z_wi v 0 (nI (ν 0 1) - 1))]) rfl ?_
  refine lv_if_eq (tgt := 31) hx hb dX5_told_10 (by decide) (fun c10 => ?_) (fun c10 => ?_)
  · skip
    refine lv_aload_n hx hb dX5_told_31 rfl (lv_at hl 0 rfl) ?_
    refine lv_iconst (v := 1) hx hb dX5_told_32 (by decide) ?_
    refine z_callm (va_runV (As := [.int 1]) (rest := []) ⟨hx, hb, hml, hown, hts⟩ (c_X5_no l G am (z_up μ 8 1 0) ν hinj 1) (cwV 1 hts gX5_told_X5_no rfl rfl rfl (by decide +kernel) ⟨Nat.le_of_ble_eq_true rfl, Nat.le_of_ble_eq_true rfl⟩) (z_prV (ci := 5) (k := 0) hX hP rfl z_m0) rfl rfl hl.1 rfl (lv_room (Nat.le_of_ble_eq_true rfl)) dX5_told_33 ⟨Nat.le_of_ble_eq_true rfl, Nat.le_of_ble_eq_true rfl⟩) hS (fun _ _ h9 => h9) (fun _ h9 => h9) (fun H locs hP hz9 hk9 hS => ?_)
    have hD := z_Dm hinj (z_cM G am (z_up (z_up μ 8 1 0) 8 1 1) ν)
    refine W.eq (g2 := F0 m 36 ls [.int 0]) rfl ?_
    have hPf : va_P (z_DD G) vwCl (z_wM G am (y_no μ 1) ν) H := by exact hP
    refine z_iret hx hb hr hlocks dX5_told_36 (fun t ht hW => ⟨rfl, by rw [ht]; exact hPf, hS.F ht⟩) hS.2.2 ?_
    rfl
  · skip
    exact absurd (z_iv_f (by omega) h) c10

set_option maxHeartbeats 4000000 in
set_option maxRecDepth 100000 in
theorem x_X5_told_2 (l : Launch) (G : z_GT) (am : Nat → Nat) (μ : Nat → Nat → Int32) (ν : Nat → Nat → Nat) (hinj : ∀ i j, i < 10 → j < 10 → am i = am j → i = j) (hm6 : ν 0 1 ≤ 6) (t : Nat) (ht : t < ν 0 1) (w : Int32) (h : w < 0 ∨ ¬ w < nI 6) : Met l yX5_told wsX5_told ({ frames := 6, cells := 0, slots := 0, locals := 136 } : Room) (z_Pr G [.ref (am 0), .int (nI t), .int w] (z_wM G am μ ν)) (z_Qm G (some (.int 0)) (z_wM G am (y_no μ 1) ν) (z_A 10 am)) 0 0 (z_A 10 am) := by
  refine Met.ofW (cc := cX5_told) (maxL := 3) (ret := (some .int)) (by decide) rfl ?_
  intro p e s m args below meth c s₁ B hml hw0
  obtain ⟨rfl, hX, hP⟩ := hw0
  have hK := hX.1
  have hx := B.exec
  have hb := B.bytes
  have hr := B.returns
  have hts := atoms_spec (ws := wsX5_told) B.pre
  have hown : s.vm.findClass RX5 = some m.cls := findClass_of_methodNamed B.named
  have hlocks := B.notSynchronized
  have hl := lv_entry ([.ref (am 0), .int (nI t), .int w]) (n := 3) (Nat.le_of_ble_eq_true rfl)
  rw [lg_entry_eq]
  generalize (lg_sl ([.ref (am 0), .int (nI t), .int w]) ++ List.replicate (3 - (lg_sl ([.ref (am 0), .int (nI t), .int w])).length) Slot.unset).toArray = ls at hl ⊢
  have hl : lv_has ls 3 [(0, .ref (am 0)), (1, .int (nI t)), (2, .int w)] := hl
  have hf_RX5_37 : (Cond.fieldLink RX5 37 "BlossomToursModel" "thrown" "I").before ([.ref (am 0), .int (nI t), .int w] : List Value).toArray s = true := hts _ (by decide +kernel)
  have hi_RX5 : ∀ w ∈ u_ws RX5 TX5 13, w ∈ wsX5_told := by decide +kernel
  have hS : va_S (z_A 10 am) s.heap s.heap [] := va_S.rf
  have hD := z_Dm hinj (z_cM G am μ ν)
  refine lv_aload_n hx hb dX5_told_0 rfl (lv_at hl 0 rfl) ?_
  refine lv_iconst (v := 0) hx hb dX5_told_1 (by decide) ?_
  refine va_put (D := z_DD G) (ci := 5) (v := .int 0) (ty := .int) (C := RX5) (T := TX5) (N := 13) hx hb hts hi_RX5 tyX5 tyX5_ok nmX5 hown hK hP hD hS 0 z_m0 rfl 0 (by decide) hf_RX5_37 (fun _ h9 => h9) rfl (by decide +kernel) rfl rfl (Nat.le_of_ble_eq_true rfl) dX5_told_2 (fun H locs hP hD hS => ?_)
  have hP : va_P (z_DD G) vwCl (z_wM G am (z_up μ 8 1 0) ν) H := Eq.mp (congrArg (fun w => va_P (z_DD G) vwCl w H) z_tM0) hP
  have hD := z_Dm hinj (z_cM G am (z_up μ 8 1 0) ν)
  refine lv_aload_n hx hb dX5_told_5 rfl (lv_at hl 0 rfl) ?_
  refine lv_iload_n hx hb dX5_told_6 rfl (lv_at hl 1 rfl) ?_
  refine z_call (va_runV (As := [.int (nI t)]) (rest := []) ⟨hx, hb, hml, hown, hts⟩ (c_X5_isTour l G am (am 9) (z_up μ 8 1 0) ν (nI t)) (cwV 1 hts gX5_told_X5_isTour rfl rfl rfl (by decide +kernel) ⟨Nat.le_of_ble_eq_true rfl, Nat.le_of_ble_eq_true rfl⟩) (z_prW (ci := 5) (k := 0) hX hP (z_NM hP) rfl z_m0) rfl rfl hl.1 rfl (lv_room (Nat.le_of_ble_eq_true rfl)) dX5_told_7 ⟨Nat.le_of_ble_eq_true rfl, Nat.le_of_ble_eq_true rfl⟩) (fun _ h9 => h9) ?_
  refine W.eq (g2 := F0 m 10 ls [.int (z_wi (nI t) 0 (nI (ν 0 1) - 1))]) rfl ?_
  refine lv_if_eq (tgt := 31) hx hb dX5_told_10 (by decide) (fun c10 => ?_) (fun c10 => ?_)
  · skip
    exact absurd c10 (z_iv_t ht (by omega))
  · skip
    refine lv_iload_n hx hb dX5_told_13 rfl (lv_at hl 2 rfl) ?_
    refine lv_iconst (v := 0) hx hb dX5_told_14 (by decide) ?_
    refine lv_iconst (v := nI 6 - 1) hx hb dX5_told_15 (by decide) ?_
    refine z_call (va_runS (As := [.int w, .int 0, .int (nI 6 - 1)]) (rest := []) ⟨hx, hb, hml, hown, hts⟩ (c_X5_isIn l G w 0 (nI 6 - 1)) (va_cwS 3 hts gX5_told_X5_isIn rfl rfl rfl (by decide +kernel) ⟨Nat.le_of_ble_eq_true rfl, Nat.le_of_ble_eq_true rfl⟩) (z_prS hX z_P0) rfl rfl hl.1 rfl (lv_room (Nat.le_of_ble_eq_true rfl)) dX5_told_16 ⟨Nat.le_of_ble_eq_true rfl, Nat.le_of_ble_eq_true rfl⟩) (fun _ h9 => h9) ?_
    refine W.eq (g2 := F0 m 19 ls [.int (z_wi w 0 (nI 6 - 1))]) rfl ?_
    refine lv_if_eq (tgt := 31) hx hb dX5_told_19 (by decide) (fun c19 => ?_) (fun c19 => ?_)
    · skip
      refine lv_aload_n hx hb dX5_told_31 rfl (lv_at hl 0 rfl) ?_
      refine lv_iconst (v := 1) hx hb dX5_told_32 (by decide) ?_
      refine z_callm (va_runV (As := [.int 1]) (rest := []) ⟨hx, hb, hml, hown, hts⟩ (c_X5_no l G am (z_up μ 8 1 0) ν hinj 1) (cwV 1 hts gX5_told_X5_no rfl rfl rfl (by decide +kernel) ⟨Nat.le_of_ble_eq_true rfl, Nat.le_of_ble_eq_true rfl⟩) (z_prV (ci := 5) (k := 0) hX hP rfl z_m0) rfl rfl hl.1 rfl (lv_room (Nat.le_of_ble_eq_true rfl)) dX5_told_33 ⟨Nat.le_of_ble_eq_true rfl, Nat.le_of_ble_eq_true rfl⟩) hS (fun _ _ h9 => h9) (fun _ h9 => h9) (fun H locs hP hz9 hk9 hS => ?_)
      have hD := z_Dm hinj (z_cM G am (z_up (z_up μ 8 1 0) 8 1 1) ν)
      refine W.eq (g2 := F0 m 36 ls [.int 0]) rfl ?_
      have hPf : va_P (z_DD G) vwCl (z_wM G am (y_no μ 1) ν) H := by exact hP
      refine z_iret hx hb hr hlocks dX5_told_36 (fun t ht hW => ⟨rfl, by rw [ht]; exact hPf, hS.F ht⟩) hS.2.2 ?_
      rfl
    · skip
      exact absurd (z_iv_f (by omega) h) c19

set_option maxHeartbeats 4000000 in
set_option maxRecDepth 100000 in
theorem c_X5_valleyTold (l : Launch) (G : z_GT) (am : Nat → Nat) (μ : Nat → Nat → Int32) (ν : Nat → Nat → Nat) (hy : y_wf μ ν) (v w9 : Nat) (hv : v < ν 0 0) (h9 : w9 < 6) : Met l yX5_valleyTold wsX5_valleyTold ({ frames := 4, cells := 0, slots := 0, locals := 90 } : Room) (z_Pr G [.ref (am 0), .int (nI v), .int (nI w9)] (z_wM G am μ ν)) (z_Qo (some (.int (y_abt μ ν v w9)))) 0 0 (fun _ => False) := by
  refine Met.ofW (cc := cX5_valleyTold) (maxL := 5) (ret := (some .int)) (by decide) rfl ?_
  intro p e s m args below meth c s₁ B hml hw0
  obtain ⟨rfl, hX, hP⟩ := hw0
  have hK := hX.1
  have hx := B.exec
  have hb := B.bytes
  have hr := B.returns
  have hts := atoms_spec (ws := wsX5_valleyTold) B.pre
  have hown : s.vm.findClass RX5 = some m.cls := findClass_of_methodNamed B.named
  have hlocks := B.notSynchronized
  have hl := lv_entry ([.ref (am 0), .int (nI v), .int (nI w9)]) (n := 5) (Nat.le_of_ble_eq_true rfl)
  rw [lg_entry_eq]
  generalize (lg_sl ([.ref (am 0), .int (nI v), .int (nI w9)]) ++ List.replicate (5 - (lg_sl ([.ref (am 0), .int (nI v), .int (nI w9)])).length) Slot.unset).toArray = ls at hl ⊢
  have hl : lv_has ls 5 [(0, .ref (am 0)), (1, .int (nI v)), (2, .int (nI w9))] := hl
  have hf_RX5_13 : (Cond.fieldLink RX5 13 "BlossomToursModel" "length" "[I").before ([.ref (am 0), .int (nI v), .int (nI w9)] : List Value).toArray s = true := hts _ (by decide +kernel)
  have hf_RX5_16 : (Cond.fieldLink RX5 16 "BlossomToursModel" "bees" "[I").before ([.ref (am 0), .int (nI v), .int (nI w9)] : List Value).toArray s = true := hts _ (by decide +kernel)
  have hf_RX5_34 : (Cond.fieldLink RX5 34 "BlossomToursModel" "numbers" "[I").before ([.ref (am 0), .int (nI v), .int (nI w9)] : List Value).toArray s = true := hts _ (by decide +kernel)
  have hf_RX5_48 : (Cond.fieldLink RX5 48 "BlossomToursModel" "tours" "I").before ([.ref (am 0), .int (nI v), .int (nI w9)] : List Value).toArray s = true := hts _ (by decide +kernel)
  have hf_RX5_9 : (Cond.fieldLink RX5 9 "BlossomToursModel" "from" "[I").before ([.ref (am 0), .int (nI v), .int (nI w9)] : List Value).toArray s = true := hts _ (by decide +kernel)
  have hi_RX5 : ∀ w ∈ u_ws RX5 TX5 13, w ∈ wsX5_valleyTold := by decide +kernel
  have hm6 := hy.2.1
  have hn8 := hy.1
  refine lv_iconst (v := 0) hx hb dX5_valleyTold_0 (by decide) ?_
  refine lv_istore_n (lv' := [(3, .int 0), (0, .ref (am 0)), (1, .int (nI v)), (2, .int (nI w9))]) hx hb dX5_valleyTold_1 rfl hl (by decide) rfl (fun ls hl => ?_)
  refine lv_iconst (v := nI 0) hx hb dX5_valleyTold_2 (by decide) ?_
  refine lv_istore (lv' := [(4, .int (nI 0)), (3, .int 0), (0, .ref (am 0)), (1, .int (nI v)), (2, .int (nI w9))]) hx hb dX5_valleyTold_3 hl (by decide) rfl (fun ls hl => ?_)
  have lp5 : ∀ (fu5 : Nat) (t : Nat), t ≤ ν 0 1 → ν 0 1 < t + fu5 → ∀ (ls : Array Slot), lv_has ls 5 [(0, .ref (am 0)), (1, .int (nI v)), (2, .int (nI w9)), (3, .int (z_sm (y_vf μ ν v) t)), (4, .int (nI t))] → W p l e (headSpec wsX5_valleyTold ({ frames := 4, cells := 0, slots := 0, locals := 90 } : Room)).room s m ([.ref (am 0), .int (nI v), .int (nI w9)] : List Value).toArray below meth c s.heap [] 0 0 (MQ below (z_Qo (some (.int (y_abt μ ν v w9)))) ([.ref (am 0), .int (nI v), .int (nI w9)] : List Value).toArray s 0 0 (fun _ => False)) (F0 m 5 ls []) := by
    intro fu5
    induction fu5 with
    | zero =>
      intro t h1 h2
      exfalso; omega
    | succ fu5 ih5 =>
      intro t h1 h2 ls hl
      refine lv_iload hx hb dX5_valleyTold_5 (lv_at hl 4 rfl) ?_
      refine lv_aload_n hx hb dX5_valleyTold_7 rfl (lv_at hl 0 rfl) ?_
      refine va_get (D := z_DD G) (ci := 5) (v := .int (nI (ν 0 1))) (C := RX5) (T := TX5) (N := 13) hx hb hts hi_RX5 hown hK hP 0 z_m0 rfl 8 (by decide) hf_RX5_48 (fun _ h9 => h9) rfl dX5_valleyTold_8 ?_
      refine lv_icmp_ge (tgt := 47) hx hb dX5_valleyTold_11 (by decide) (fun c11 => ?_) (fun c11 => ?_)
      · skip
        have hi : t = ν 0 1 := Nat.le_antisymm h1 (z_ge (by omega) (by omega) c11)
        rw [show (z_sm (y_vf μ ν v) t : Int32) = z_sm (y_vf μ ν v) (ν 0 1) from by rw [hi]] at hl
        refine lv_iload_n hx hb dX5_valleyTold_47 rfl (lv_at hl 2 rfl) ?_
        rcases (show w9 = 0 ∨ w9 = 1 ∨ w9 = 2 ∨ w9 = 3 ∨ w9 = 4 ∨ w9 = 5 by omega) with rfl | rfl | rfl | rfl | rfl | rfl
        · skip
          refine lv_tableIn (x := nI 0) (off := 36) (tgt := 84) hx hb dX5_valleyTold_48 (by decide) (by decide) rfl (by decide) ?_
          refine lv_aload_n hx hb dX5_valleyTold_84 rfl (lv_at hl 0 rfl) ?_
          refine va_get (D := z_DD G) (ci := 5) (v := .ref (am 1)) (C := RX5) (T := TX5) (N := 13) hx hb hts hi_RX5 hown hK hP 0 z_m0 rfl 2 (by decide) hf_RX5_9 (fun _ h9 => h9) rfl dX5_valleyTold_85 ?_
          refine lv_iload_n hx hb dX5_valleyTold_88 rfl (lv_at hl 1 rfl) ?_
          refine z_iald (k := v) (f := fun z9 => μ 0 z9) hx hb hK hP 1 0 z_m1 rfl (by omega) (by decide) dX5_valleyTold_89 ?_
          refine z_iret hx hb hr hlocks dX5_valleyTold_90 (fun t ht hW => ⟨rfl, ht⟩) (fun _ h9 => nomatch h9) ?_
          rfl
        · skip
          refine lv_tableIn (x := nI 1) (off := 43) (tgt := 91) hx hb dX5_valleyTold_48 (by decide) (by decide) rfl (by decide) ?_
          refine lv_aload_n hx hb dX5_valleyTold_91 rfl (lv_at hl 0 rfl) ?_
          refine va_get (D := z_DD G) (ci := 5) (v := .ref (am 2)) (C := RX5) (T := TX5) (N := 13) hx hb hts hi_RX5 hown hK hP 0 z_m0 rfl 3 (by decide) hf_RX5_13 (fun _ h9 => h9) rfl dX5_valleyTold_92 ?_
          refine lv_iload_n hx hb dX5_valleyTold_95 rfl (lv_at hl 1 rfl) ?_
          refine z_iald (k := v) (f := fun z9 => μ 1 z9) hx hb hK hP 2 0 z_m2 rfl (by omega) (by decide) dX5_valleyTold_96 ?_
          refine z_iret hx hb hr hlocks dX5_valleyTold_97 (fun t ht hW => ⟨rfl, ht⟩) (fun _ h9 => nomatch h9) ?_
          rfl
        · skip
          refine lv_tableIn (x := nI 2) (off := 50) (tgt := 98) hx hb dX5_valleyTold_48 (by decide) (by decide) rfl (by decide) ?_
          refine lv_aload_n hx hb dX5_valleyTold_98 rfl (lv_at hl 0 rfl) ?_
          refine va_get (D := z_DD G) (ci := 5) (v := .ref (am 3)) (C := RX5) (T := TX5) (N := 13) hx hb hts hi_RX5 hown hK hP 0 z_m0 rfl 4 (by decide) hf_RX5_16 (fun _ h9 => h9) rfl dX5_valleyTold_99 ?_
          refine lv_iload_n hx hb dX5_valleyTold_102 rfl (lv_at hl 1 rfl) ?_
          refine z_iald (k := v) (f := fun z9 => μ 2 z9) hx hb hK hP 3 0 z_m3 rfl (by omega) (by decide) dX5_valleyTold_103 ?_
          refine z_iret hx hb hr hlocks dX5_valleyTold_104 (fun t ht hW => ⟨rfl, ht⟩) (fun _ h9 => nomatch h9) ?_
          rfl
        · skip
          refine lv_tableIn (x := nI 3) (off := 57) (tgt := 105) hx hb dX5_valleyTold_48 (by decide) (by decide) rfl (by decide) ?_
          refine lv_aload_n hx hb dX5_valleyTold_105 rfl (lv_at hl 0 rfl) ?_
          refine lv_iload_n hx hb dX5_valleyTold_106 rfl (lv_at hl 1 rfl) ?_
          refine lv_aload_n hx hb dX5_valleyTold_107 rfl (lv_at hl 0 rfl) ?_
          refine va_get (D := z_DD G) (ci := 5) (v := .ref (am 9)) (C := RX5) (T := TX5) (N := 13) hx hb hts hi_RX5 hown hK hP 0 z_m0 rfl 12 (by decide) hf_RX5_34 (fun _ h9 => h9) rfl dX5_valleyTold_108 ?_
          refine lv_iconst (v := 0) hx hb dX5_valleyTold_111 (by decide) ?_
          refine z_iald (k := 0) (f := fun z9 => μ 9 z9) hx hb hK hP 9 0 z_m9 rfl (by decide) (by decide) dX5_valleyTold_112 ?_
          refine z_call (va_runV (As := [.int (nI v), .int (μ 9 0)]) (rest := []) ⟨hx, hb, hml, hown, hts⟩ (c_X5_blooms l G am (am 9) μ ν v (μ 9 0) (Nat.lt_of_lt_of_le hv hy.1) (hy.2.2.2.2.1 v hv)) (cwV 2 hts gX5_valleyTold_X5_blooms rfl rfl rfl (by decide +kernel) ⟨Nat.le_of_ble_eq_true rfl, Nat.le_of_ble_eq_true rfl⟩) (z_prW (ci := 5) (k := 0) hX hP (z_NM hP) rfl z_m0) rfl rfl hl.1 rfl (lv_room (Nat.le_of_ble_eq_true rfl)) dX5_valleyTold_113 ⟨Nat.le_of_ble_eq_true rfl, Nat.le_of_ble_eq_true rfl⟩) (fun _ h9 => h9) ?_
          refine W.eq (g2 := F0 m 116 ls [.int (y_bl (μ 0 v) (μ 1 v) (μ 9 0))]) rfl ?_
          refine z_iret hx hb hr hlocks dX5_valleyTold_116 (fun t ht hW => ⟨rfl, ht⟩) (fun _ h9 => nomatch h9) ?_
          rfl
        · skip
          refine lv_tableIn (x := nI 4) (off := 69) (tgt := 117) hx hb dX5_valleyTold_48 (by decide) (by decide) rfl (by decide) ?_
          refine lv_aload_n hx hb dX5_valleyTold_117 rfl (lv_at hl 0 rfl) ?_
          refine lv_iload_n hx hb dX5_valleyTold_118 rfl (lv_at hl 1 rfl) ?_
          refine z_call (va_runV (As := [.int (nI v)]) (rest := []) ⟨hx, hb, hml, hown, hts⟩ (c_X5_crowd l G am (am 9) μ ν hy v (Nat.lt_of_lt_of_le hv hy.1)) (cwV 1 hts gX5_valleyTold_X5_crowd rfl rfl rfl (by decide +kernel) ⟨Nat.le_of_ble_eq_true rfl, Nat.le_of_ble_eq_true rfl⟩) (z_prW (ci := 5) (k := 0) hX hP (z_NM hP) rfl z_m0) rfl rfl hl.1 rfl (lv_room (Nat.le_of_ble_eq_true rfl)) dX5_valleyTold_119 ⟨Nat.le_of_ble_eq_true rfl, Nat.le_of_ble_eq_true rfl⟩) (fun _ h9 => h9) ?_
          refine W.eq (g2 := F0 m 122 ls [.int (y_cr μ ν v)]) rfl ?_
          refine z_iret hx hb hr hlocks dX5_valleyTold_122 (fun t ht hW => ⟨rfl, ht⟩) (fun _ h9 => nomatch h9) ?_
          rfl
        · skip
          refine lv_tableOut (x := nI 5) (tgt := 123) hx hb dX5_valleyTold_48 (by decide) (by decide) ?_
          refine lv_iload_n hx hb dX5_valleyTold_123 rfl (lv_at hl 3 rfl) ?_
          refine z_iret hx hb hr hlocks dX5_valleyTold_124 (fun t ht hW => ⟨rfl, ht⟩) (fun _ h9 => nomatch h9) ?_
          rfl
      · skip
        have hi := z_ng (by omega) (by omega) c11
        refine lv_iload_n hx hb dX5_valleyTold_14 rfl (lv_at hl 3 rfl) ?_
        refine lv_aload_n hx hb dX5_valleyTold_15 rfl (lv_at hl 0 rfl) ?_
        refine lv_iload hx hb dX5_valleyTold_16 (lv_at hl 4 rfl) ?_
        refine lv_iload_n hx hb dX5_valleyTold_18 rfl (lv_at hl 1 rfl) ?_
        refine z_call (va_runV (As := [.int (nI t), .int (nI v)]) (rest := [.int (z_sm (y_vf μ ν v) t)]) ⟨hx, hb, hml, hown, hts⟩ (c_X5_has l G am (am 9) μ ν hy t v (by omega) (by omega)) (cwV 2 hts gX5_valleyTold_X5_has rfl rfl rfl (by decide +kernel) ⟨Nat.le_of_ble_eq_true rfl, Nat.le_of_ble_eq_true rfl⟩) (z_prW (ci := 5) (k := 0) hX hP (z_NM hP) rfl z_m0) rfl rfl hl.1 rfl (lv_room (Nat.le_of_ble_eq_true rfl)) dX5_valleyTold_19 ⟨Nat.le_of_ble_eq_true rfl, Nat.le_of_ble_eq_true rfl⟩) (fun _ h9 => h9) ?_
        refine W.eq (g2 := F0 m 22 ls [.int (z_bi (y_has ν t v)), .int (z_sm (y_vf μ ν v) t)]) rfl ?_
        refine lv_if_eq (tgt := 38) hx hb dX5_valleyTold_22 (by decide) (fun c22 => ?_) (fun c22 => ?_)
        · skip
          refine lv_iconst (v := 0) hx hb dX5_valleyTold_38 (by decide) ?_
          refine lv_iadd hx hb dX5_valleyTold_39 ?_
          refine lv_istore_n (lv' := [(3, .int ((z_sm (y_vf μ ν v) t) + 0)), (0, .ref (am 0)), (1, .int (nI v)), (2, .int (nI w9)), (4, .int (nI t))]) hx hb dX5_valleyTold_40 rfl hl (by decide) rfl (fun ls hl => ?_)
          refine lv_iinc (v := nI (t + 1)) (lv' := [(4, .int (nI (t + 1))), (3, .int ((z_sm (y_vf μ ν v) t) + 0)), (0, .ref (am 0)), (1, .int (nI v)), (2, .int (nI w9))]) hx hb dX5_valleyTold_41 hl (k := 4) rfl (z_inc _) (by decide) rfl (fun ls hl => ?_)
          refine lv_goto (tgt := 5) hx hb dX5_valleyTold_44 (by decide) ?_
          -- back to 5
          rw [show ((z_sm (y_vf μ ν v) t) + 0 : Int32) = z_sm (y_vf μ ν v) (t + 1) from by first | (show _ = z_sm (y_vf μ ν v) t + y_vf μ ν v t; rw [y_vf, if_neg (by rw [z_bi_f c22]; decide)]; done) | (show _ = z_sm (y_vf μ ν v) t + y_vf μ ν v t; rw [y_vf, if_pos (z_bi_t c22), if_pos c31]; done) | (show _ = z_sm (y_vf μ ν v) t + y_vf μ ν v t; rw [y_vf, if_pos (z_bi_t c22), if_neg c31]; done)] at hl
          exact ih5 (t + 1) (by omega) (by omega) ls (lv_sub hl [2, 3, 4, 1, 0] rfl)
        · skip
          refine lv_aload_n hx hb dX5_valleyTold_25 rfl (lv_at hl 0 rfl) ?_
          refine lv_iload hx hb dX5_valleyTold_26 (lv_at hl 4 rfl) ?_
          refine z_call (va_runV (As := [.int (nI t)]) (rest := [.int (z_sm (y_vf μ ν v) t)]) ⟨hx, hb, hml, hown, hts⟩ (c_X5_goes l G am (am 9) μ ν hy t (by omega)) (cwV 1 hts gX5_valleyTold_X5_goes rfl rfl rfl (by decide +kernel) ⟨Nat.le_of_ble_eq_true rfl, Nat.le_of_ble_eq_true rfl⟩) (z_prW (ci := 5) (k := 0) hX hP (z_NM hP) rfl z_m0) rfl rfl hl.1 rfl (lv_room (Nat.le_of_ble_eq_true rfl)) dX5_valleyTold_28 ⟨Nat.le_of_ble_eq_true rfl, Nat.le_of_ble_eq_true rfl⟩) (fun _ h9 => h9) ?_
          refine W.eq (g2 := F0 m 31 ls [.int (y_go μ ν t), .int (z_sm (y_vf μ ν v) t)]) rfl ?_
          refine lv_if_eq (tgt := 38) hx hb dX5_valleyTold_31 (by decide) (fun c31 => ?_) (fun c31 => ?_)
          · skip
            refine lv_iconst (v := 0) hx hb dX5_valleyTold_38 (by decide) ?_
            refine lv_iadd hx hb dX5_valleyTold_39 ?_
            refine lv_istore_n (lv' := [(3, .int ((z_sm (y_vf μ ν v) t) + 0)), (0, .ref (am 0)), (1, .int (nI v)), (2, .int (nI w9)), (4, .int (nI t))]) hx hb dX5_valleyTold_40 rfl hl (by decide) rfl (fun ls hl => ?_)
            refine lv_iinc (v := nI (t + 1)) (lv' := [(4, .int (nI (t + 1))), (3, .int ((z_sm (y_vf μ ν v) t) + 0)), (0, .ref (am 0)), (1, .int (nI v)), (2, .int (nI w9))]) hx hb dX5_valleyTold_41 hl (k := 4) rfl (z_inc _) (by decide) rfl (fun ls hl => ?_)
            refine lv_goto (tgt := 5) hx hb dX5_valleyTold_44 (by decide) ?_
            -- back to 5
            rw [show ((z_sm (y_vf μ ν v) t) + 0 : Int32) = z_sm (y_vf μ ν v) (t + 1) from by first | (show _ = z_sm (y_vf μ ν v) t + y_vf μ ν v t; rw [y_vf, if_neg (by rw [z_bi_f c22]; decide)]; done) | (show _ = z_sm (y_vf μ ν v) t + y_vf μ ν v t; rw [y_vf, if_pos (z_bi_t c22), if_pos c31]; done) | (show _ = z_sm (y_vf μ ν v) t + y_vf μ ν v t; rw [y_vf, if_pos (z_bi_t c22), if_neg c31]; done)] at hl
            exact ih5 (t + 1) (by omega) (by omega) ls (lv_sub hl [2, 3, 4, 1, 0] rfl)
          · skip
            refine lv_iconst (v := 1) hx hb dX5_valleyTold_34 (by decide) ?_
            refine lv_goto (tgt := 39) hx hb dX5_valleyTold_35 (by decide) ?_
            refine lv_iadd hx hb dX5_valleyTold_39 ?_
            refine lv_istore_n (lv' := [(3, .int ((z_sm (y_vf μ ν v) t) + 1)), (0, .ref (am 0)), (1, .int (nI v)), (2, .int (nI w9)), (4, .int (nI t))]) hx hb dX5_valleyTold_40 rfl hl (by decide) rfl (fun ls hl => ?_)
            refine lv_iinc (v := nI (t + 1)) (lv' := [(4, .int (nI (t + 1))), (3, .int ((z_sm (y_vf μ ν v) t) + 1)), (0, .ref (am 0)), (1, .int (nI v)), (2, .int (nI w9))]) hx hb dX5_valleyTold_41 hl (k := 4) rfl (z_inc _) (by decide) rfl (fun ls hl => ?_)
            refine lv_goto (tgt := 5) hx hb dX5_valleyTold_44 (by decide) ?_
            -- back to 5
            rw [show ((z_sm (y_vf μ ν v) t) + 1 : Int32) = z_sm (y_vf μ ν v) (t + 1) from by first | (show _ = z_sm (y_vf μ ν v) t + y_vf μ ν v t; rw [y_vf, if_neg (by rw [z_bi_f c22]; decide)]; done) | (show _ = z_sm (y_vf μ ν v) t + y_vf μ ν v t; rw [y_vf, if_pos (z_bi_t c22), if_pos c31]; done) | (show _ = z_sm (y_vf μ ν v) t + y_vf μ ν v t; rw [y_vf, if_pos (z_bi_t c22), if_neg c31]; done)] at hl
            exact ih5 (t + 1) (by omega) (by omega) ls (lv_sub hl [2, 3, 4, 1, 0] rfl)
  rw [show (0 : Int32) = z_sm (y_vf μ ν v) 0 from by rfl] at hl
  exact lp5 (ν 0 1 + 1) 0 (by omega) (by omega) ls (lv_sub hl [2, 3, 4, 1, 0] rfl)

set_option maxHeartbeats 4000000 in
set_option maxRecDepth 100000 in
theorem c_X5_about (l : Launch) (G : z_GT) (am : Nat → Nat) (μ : Nat → Nat → Int32) (ν : Nat → Nat → Nat) (hinj : ∀ i j, i < 10 → j < 10 → am i = am j → i = j) (hy : y_wf μ ν) (v : Nat) (hv : v < ν 0 0) (w9 : Nat) (h9 : w9 < 6) : Met l yX5_about wsX5_about ({ frames := 5, cells := 0, slots := 0, locals := 114 } : Room) (z_Pr G [.ref (am 0), .int (nI v), .int (nI w9)] (z_wM G am μ ν)) (z_Qm G (some (.int (y_abt μ ν v w9))) (z_wM G am (z_up μ 8 1 0) ν) (z_A 10 am)) 0 0 (z_A 10 am) := by
  refine Met.ofW (cc := cX5_about) (maxL := 3) (ret := (some .int)) (by decide) rfl ?_
  intro p e s m args below meth c s₁ B hml hw0
  obtain ⟨rfl, hX, hP⟩ := hw0
  have hK := hX.1
  have hx := B.exec
  have hb := B.bytes
  have hr := B.returns
  have hts := atoms_spec (ws := wsX5_about) B.pre
  have hown : s.vm.findClass RX5 = some m.cls := findClass_of_methodNamed B.named
  have hlocks := B.notSynchronized
  have hl := lv_entry ([.ref (am 0), .int (nI v), .int (nI w9)]) (n := 3) (Nat.le_of_ble_eq_true rfl)
  rw [lg_entry_eq]
  generalize (lg_sl ([.ref (am 0), .int (nI v), .int (nI w9)]) ++ List.replicate (3 - (lg_sl ([.ref (am 0), .int (nI v), .int (nI w9)])).length) Slot.unset).toArray = ls at hl ⊢
  have hl : lv_has ls 3 [(0, .ref (am 0)), (1, .int (nI v)), (2, .int (nI w9))] := hl
  have hf_RX5_37 : (Cond.fieldLink RX5 37 "BlossomToursModel" "thrown" "I").before ([.ref (am 0), .int (nI v), .int (nI w9)] : List Value).toArray s = true := hts _ (by decide +kernel)
  have hi_RX5 : ∀ w ∈ u_ws RX5 TX5 13, w ∈ wsX5_about := by decide +kernel
  have hn8 := hy.1
  have hS : va_S (z_A 10 am) s.heap s.heap [] := va_S.rf
  have hD := z_Dm hinj (z_cM G am μ ν)
  refine lv_aload_n hx hb dX5_about_0 rfl (lv_at hl 0 rfl) ?_
  refine lv_iconst (v := 0) hx hb dX5_about_1 (by decide) ?_
  refine va_put (D := z_DD G) (ci := 5) (v := .int 0) (ty := .int) (C := RX5) (T := TX5) (N := 13) hx hb hts hi_RX5 tyX5 tyX5_ok nmX5 hown hK hP hD hS 0 z_m0 rfl 0 (by decide) hf_RX5_37 (fun _ h9 => h9) rfl (by decide +kernel) rfl rfl (Nat.le_of_ble_eq_true rfl) dX5_about_2 (fun H locs hP hD hS => ?_)
  have hP : va_P (z_DD G) vwCl (z_wM G am (z_up μ 8 1 0) ν) H := Eq.mp (congrArg (fun w => va_P (z_DD G) vwCl w H) z_tM0) hP
  have hD := z_Dm hinj (z_cM G am (z_up μ 8 1 0) ν)
  refine lv_aload_n hx hb dX5_about_5 rfl (lv_at hl 0 rfl) ?_
  refine lv_iload_n hx hb dX5_about_6 rfl (lv_at hl 1 rfl) ?_
  refine z_call (va_runV (As := [.int (nI v)]) (rest := []) ⟨hx, hb, hml, hown, hts⟩ (c_X5_isValley l G am (am 9) (z_up μ 8 1 0) ν (nI v)) (cwV 1 hts gX5_about_X5_isValley rfl rfl rfl (by decide +kernel) ⟨Nat.le_of_ble_eq_true rfl, Nat.le_of_ble_eq_true rfl⟩) (z_prW (ci := 5) (k := 0) hX hP (z_NM hP) rfl z_m0) rfl rfl hl.1 rfl (lv_room (Nat.le_of_ble_eq_true rfl)) dX5_about_7 ⟨Nat.le_of_ble_eq_true rfl, Nat.le_of_ble_eq_true rfl⟩) (fun _ h9 => h9) ?_
  refine W.eq (g2 := F0 m 10 ls [.int (z_wi (nI v) 0 (nI (ν 0 0) - 1))]) rfl ?_
  refine lv_if_eq (tgt := 31) hx hb dX5_about_10 (by decide) (fun c10 => ?_) (fun c10 => ?_)
  · skip
    exact absurd c10 (z_iv_t hv (by omega))
  · skip
    refine lv_iload_n hx hb dX5_about_13 rfl (lv_at hl 2 rfl) ?_
    refine lv_iconst (v := 0) hx hb dX5_about_14 (by decide) ?_
    refine lv_iconst (v := nI 6 - 1) hx hb dX5_about_15 (by decide) ?_
    refine z_call (va_runS (As := [.int (nI w9), .int 0, .int (nI 6 - 1)]) (rest := []) ⟨hx, hb, hml, hown, hts⟩ (c_X5_isIn l G (nI w9) 0 (nI 6 - 1)) (va_cwS 3 hts gX5_about_X5_isIn rfl rfl rfl (by decide +kernel) ⟨Nat.le_of_ble_eq_true rfl, Nat.le_of_ble_eq_true rfl⟩) (z_prS hX z_P0) rfl rfl hl.1 rfl (lv_room (Nat.le_of_ble_eq_true rfl)) dX5_about_16 ⟨Nat.le_of_ble_eq_true rfl, Nat.le_of_ble_eq_true rfl⟩) (fun _ h9 => h9) ?_
    refine W.eq (g2 := F0 m 19 ls [.int (z_wi (nI w9) 0 (nI 6 - 1))]) rfl ?_
    refine lv_if_eq (tgt := 31) hx hb dX5_about_19 (by decide) (fun c19 => ?_) (fun c19 => ?_)
    · skip
      exact absurd c19 (z_iv_t h9 (by omega))
    · skip
      refine lv_aload_n hx hb dX5_about_22 rfl (lv_at hl 0 rfl) ?_
      refine lv_iload_n hx hb dX5_about_23 rfl (lv_at hl 1 rfl) ?_
      refine lv_iload_n hx hb dX5_about_24 rfl (lv_at hl 2 rfl) ?_
      refine z_call (va_runV (As := [.int (nI v), .int (nI w9)]) (rest := []) ⟨hx, hb, hml, hown, hts⟩ (c_X5_valleyTold l G am (z_up μ 8 1 0) ν hy v w9 hv (by omega)) (cwV 2 hts gX5_about_X5_valleyTold rfl rfl rfl (by decide +kernel) ⟨Nat.le_of_ble_eq_true rfl, Nat.le_of_ble_eq_true rfl⟩) (z_prV (ci := 5) (k := 0) hX hP rfl z_m0) rfl rfl hl.1 rfl (lv_room (Nat.le_of_ble_eq_true rfl)) dX5_about_25 ⟨Nat.le_of_ble_eq_true rfl, Nat.le_of_ble_eq_true rfl⟩) (fun _ h9 => h9) ?_
      refine W.eq (g2 := F0 m 28 ls [.int (y_abt (z_up μ 8 1 0) ν v w9)]) rfl ?_
      refine lv_goto (tgt := 36) hx hb dX5_about_28 (by decide) ?_
      have hPf : va_P (z_DD G) vwCl (z_wM G am (z_up μ 8 1 0) ν) H := by exact hP
      refine z_iret hx hb hr hlocks dX5_about_36 (fun t ht hW => ⟨rfl, by rw [ht]; exact hPf, hS.F ht⟩) hS.2.2 ?_
      rcases (show w9 = 0 ∨ w9 = 1 ∨ w9 = 2 ∨ w9 = 3 ∨ w9 = 4 ∨ w9 = 5 by omega) with rfl | rfl | rfl | rfl | rfl | rfl <;> rfl

set_option maxHeartbeats 4000000 in
set_option maxRecDepth 100000 in
theorem x_X5_about_1 (l : Launch) (G : z_GT) (am : Nat → Nat) (μ : Nat → Nat → Int32) (ν : Nat → Nat → Nat) (hinj : ∀ i j, i < 10 → j < 10 → am i = am j → i = j) (hn8 : ν 0 0 ≤ 8) (v w : Int32) (h : v < 0 ∨ ¬ v < nI (ν 0 0)) : Met l yX5_about wsX5_about ({ frames := 5, cells := 0, slots := 0, locals := 114 } : Room) (z_Pr G [.ref (am 0), .int v, .int w] (z_wM G am μ ν)) (z_Qm G (some (.int 0)) (z_wM G am (y_no μ 1) ν) (z_A 10 am)) 0 0 (z_A 10 am) := by
  refine Met.ofW (cc := cX5_about) (maxL := 3) (ret := (some .int)) (by decide) rfl ?_
  intro p e s m args below meth c s₁ B hml hw0
  obtain ⟨rfl, hX, hP⟩ := hw0
  have hK := hX.1
  have hx := B.exec
  have hb := B.bytes
  have hr := B.returns
  have hts := atoms_spec (ws := wsX5_about) B.pre
  have hown : s.vm.findClass RX5 = some m.cls := findClass_of_methodNamed B.named
  have hlocks := B.notSynchronized
  have hl := lv_entry ([.ref (am 0), .int v, .int w]) (n := 3) (Nat.le_of_ble_eq_true rfl)
  rw [lg_entry_eq]
  generalize (lg_sl ([.ref (am 0), .int v, .int w]) ++ List.replicate (3 - (lg_sl ([.ref (am 0), .int v, .int w])).length) Slot.unset).toArray = ls at hl ⊢
  have hl : lv_has ls 3 [(0, .ref (am 0)), (1, .int v), (2, .int w)] := hl
  have hf_RX5_37 : (Cond.fieldLink RX5 37 "BlossomToursModel" "thrown" "I").before ([.ref (am 0), .int v, .int w] : List Value).toArray s = true := hts _ (by decide +kernel)
  have hi_RX5 : ∀ w ∈ u_ws RX5 TX5 13, w ∈ wsX5_about := by decide +kernel
  have hS : va_S (z_A 10 am) s.heap s.heap [] := va_S.rf
  have hD := z_Dm hinj (z_cM G am μ ν)
  refine lv_aload_n hx hb dX5_about_0 rfl (lv_at hl 0 rfl) ?_
  refine lv_iconst (v := 0) hx hb dX5_about_1 (by decide) ?_
  refine va_put (D := z_DD G) (ci := 5) (v := .int 0) (ty := .int) (C := RX5) (T := TX5) (N := 13) hx hb hts hi_RX5 tyX5 tyX5_ok nmX5 hown hK hP hD hS 0 z_m0 rfl 0 (by decide) hf_RX5_37 (fun _ h9 => h9) rfl (by decide +kernel) rfl rfl (Nat.le_of_ble_eq_true rfl) dX5_about_2 (fun H locs hP hD hS => ?_)
  have hP : va_P (z_DD G) vwCl (z_wM G am (z_up μ 8 1 0) ν) H := Eq.mp (congrArg (fun w => va_P (z_DD G) vwCl w H) z_tM0) hP
  have hD := z_Dm hinj (z_cM G am (z_up μ 8 1 0) ν)
  refine lv_aload_n hx hb dX5_about_5 rfl (lv_at hl 0 rfl) ?_
  refine lv_iload_n hx hb dX5_about_6 rfl (lv_at hl 1 rfl) ?_
  refine z_call (va_runV (As := [.int v]) (rest := []) ⟨hx, hb, hml, hown, hts⟩ (c_X5_isValley l G am (am 9) (z_up μ 8 1 0) ν v) (cwV 1 hts gX5_about_X5_isValley rfl rfl rfl (by decide +kernel) ⟨Nat.le_of_ble_eq_true rfl, Nat.le_of_ble_eq_true rfl⟩) (z_prW (ci := 5) (k := 0) hX hP (z_NM hP) rfl z_m0) rfl rfl hl.1 rfl (lv_room (Nat.le_of_ble_eq_true rfl)) dX5_about_7 ⟨Nat.le_of_ble_eq_true rfl, Nat.le_of_ble_eq_true rfl⟩) (fun _ h9 => h9) ?_
  refine W.eq (g2 := F0 m 10 ls [.int (z_wi v 0 (nI (ν 0 0) - 1))]) rfl ?_
  refine lv_if_eq (tgt := 31) hx hb dX5_about_10 (by decide) (fun c10 => ?_) (fun c10 => ?_)
  · skip
    refine lv_aload_n hx hb dX5_about_31 rfl (lv_at hl 0 rfl) ?_
    refine lv_iconst (v := 1) hx hb dX5_about_32 (by decide) ?_
    refine z_callm (va_runV (As := [.int 1]) (rest := []) ⟨hx, hb, hml, hown, hts⟩ (c_X5_no l G am (z_up μ 8 1 0) ν hinj 1) (cwV 1 hts gX5_about_X5_no rfl rfl rfl (by decide +kernel) ⟨Nat.le_of_ble_eq_true rfl, Nat.le_of_ble_eq_true rfl⟩) (z_prV (ci := 5) (k := 0) hX hP rfl z_m0) rfl rfl hl.1 rfl (lv_room (Nat.le_of_ble_eq_true rfl)) dX5_about_33 ⟨Nat.le_of_ble_eq_true rfl, Nat.le_of_ble_eq_true rfl⟩) hS (fun _ _ h9 => h9) (fun _ h9 => h9) (fun H locs hP hz9 hk9 hS => ?_)
    have hD := z_Dm hinj (z_cM G am (z_up (z_up μ 8 1 0) 8 1 1) ν)
    refine W.eq (g2 := F0 m 36 ls [.int 0]) rfl ?_
    have hPf : va_P (z_DD G) vwCl (z_wM G am (y_no μ 1) ν) H := by exact hP
    refine z_iret hx hb hr hlocks dX5_about_36 (fun t ht hW => ⟨rfl, by rw [ht]; exact hPf, hS.F ht⟩) hS.2.2 ?_
    rfl
  · skip
    exact absurd (z_iv_f (by omega) h) c10

set_option maxHeartbeats 4000000 in
set_option maxRecDepth 100000 in
theorem x_X5_about_2 (l : Launch) (G : z_GT) (am : Nat → Nat) (μ : Nat → Nat → Int32) (ν : Nat → Nat → Nat) (hinj : ∀ i j, i < 10 → j < 10 → am i = am j → i = j) (hn8 : ν 0 0 ≤ 8) (v : Nat) (hv : v < ν 0 0) (w : Int32) (h : w < 0 ∨ ¬ w < nI 6) : Met l yX5_about wsX5_about ({ frames := 5, cells := 0, slots := 0, locals := 114 } : Room) (z_Pr G [.ref (am 0), .int (nI v), .int w] (z_wM G am μ ν)) (z_Qm G (some (.int 0)) (z_wM G am (y_no μ 1) ν) (z_A 10 am)) 0 0 (z_A 10 am) := by
  refine Met.ofW (cc := cX5_about) (maxL := 3) (ret := (some .int)) (by decide) rfl ?_
  intro p e s m args below meth c s₁ B hml hw0
  obtain ⟨rfl, hX, hP⟩ := hw0
  have hK := hX.1
  have hx := B.exec
  have hb := B.bytes
  have hr := B.returns
  have hts := atoms_spec (ws := wsX5_about) B.pre
  have hown : s.vm.findClass RX5 = some m.cls := findClass_of_methodNamed B.named
  have hlocks := B.notSynchronized
  have hl := lv_entry ([.ref (am 0), .int (nI v), .int w]) (n := 3) (Nat.le_of_ble_eq_true rfl)
  rw [lg_entry_eq]
  generalize (lg_sl ([.ref (am 0), .int (nI v), .int w]) ++ List.replicate (3 - (lg_sl ([.ref (am 0), .int (nI v), .int w])).length) Slot.unset).toArray = ls at hl ⊢
  have hl : lv_has ls 3 [(0, .ref (am 0)), (1, .int (nI v)), (2, .int w)] := hl
  have hf_RX5_37 : (Cond.fieldLink RX5 37 "BlossomToursModel" "thrown" "I").before ([.ref (am 0), .int (nI v), .int w] : List Value).toArray s = true := hts _ (by decide +kernel)
  have hi_RX5 : ∀ w ∈ u_ws RX5 TX5 13, w ∈ wsX5_about := by decide +kernel
  have hS : va_S (z_A 10 am) s.heap s.heap [] := va_S.rf
  have hD := z_Dm hinj (z_cM G am μ ν)
  refine lv_aload_n hx hb dX5_about_0 rfl (lv_at hl 0 rfl) ?_
  refine lv_iconst (v := 0) hx hb dX5_about_1 (by decide) ?_
  refine va_put (D := z_DD G) (ci := 5) (v := .int 0) (ty := .int) (C := RX5) (T := TX5) (N := 13) hx hb hts hi_RX5 tyX5 tyX5_ok nmX5 hown hK hP hD hS 0 z_m0 rfl 0 (by decide) hf_RX5_37 (fun _ h9 => h9) rfl (by decide +kernel) rfl rfl (Nat.le_of_ble_eq_true rfl) dX5_about_2 (fun H locs hP hD hS => ?_)
  have hP : va_P (z_DD G) vwCl (z_wM G am (z_up μ 8 1 0) ν) H := Eq.mp (congrArg (fun w => va_P (z_DD G) vwCl w H) z_tM0) hP
  have hD := z_Dm hinj (z_cM G am (z_up μ 8 1 0) ν)
  refine lv_aload_n hx hb dX5_about_5 rfl (lv_at hl 0 rfl) ?_
  refine lv_iload_n hx hb dX5_about_6 rfl (lv_at hl 1 rfl) ?_
  refine z_call (va_runV (As := [.int (nI v)]) (rest := []) ⟨hx, hb, hml, hown, hts⟩ (c_X5_isValley l G am (am 9) (z_up μ 8 1 0) ν (nI v)) (cwV 1 hts gX5_about_X5_isValley rfl rfl rfl (by decide +kernel) ⟨Nat.le_of_ble_eq_true rfl, Nat.le_of_ble_eq_true rfl⟩) (z_prW (ci := 5) (k := 0) hX hP (z_NM hP) rfl z_m0) rfl rfl hl.1 rfl (lv_room (Nat.le_of_ble_eq_true rfl)) dX5_about_7 ⟨Nat.le_of_ble_eq_true rfl, Nat.le_of_ble_eq_true rfl⟩) (fun _ h9 => h9) ?_
  refine W.eq (g2 := F0 m 10 ls [.int (z_wi (nI v) 0 (nI (ν 0 0) - 1))]) rfl ?_
  refine lv_if_eq (tgt := 31) hx hb dX5_about_10 (by decide) (fun c10 => ?_) (fun c10 => ?_)
  · skip
    exact absurd c10 (z_iv_t hv (by omega))
  · skip
    refine lv_iload_n hx hb dX5_about_13 rfl (lv_at hl 2 rfl) ?_
    refine lv_iconst (v := 0) hx hb dX5_about_14 (by decide) ?_
    refine lv_iconst (v := nI 6 - 1) hx hb dX5_about_15 (by decide) ?_
    refine z_call (va_runS (As := [.int w, .int 0, .int (nI 6 - 1)]) (rest := []) ⟨hx, hb, hml, hown, hts⟩ (c_X5_isIn l G w 0 (nI 6 - 1)) (va_cwS 3 hts gX5_about_X5_isIn rfl rfl rfl (by decide +kernel) ⟨Nat.le_of_ble_eq_true rfl, Nat.le_of_ble_eq_true rfl⟩) (z_prS hX z_P0) rfl rfl hl.1 rfl (lv_room (Nat.le_of_ble_eq_true rfl)) dX5_about_16 ⟨Nat.le_of_ble_eq_true rfl, Nat.le_of_ble_eq_true rfl⟩) (fun _ h9 => h9) ?_
    refine W.eq (g2 := F0 m 19 ls [.int (z_wi w 0 (nI 6 - 1))]) rfl ?_
    refine lv_if_eq (tgt := 31) hx hb dX5_about_19 (by decide) (fun c19 => ?_) (fun c19 => ?_)
    · skip
      refine lv_aload_n hx hb dX5_about_31 rfl (lv_at hl 0 rfl) ?_
      refine lv_iconst (v := 1) hx hb dX5_about_32 (by decide) ?_
      refine z_callm (va_runV (As := [.int 1]) (rest := []) ⟨hx, hb, hml, hown, hts⟩ (c_X5_no l G am (z_up μ 8 1 0) ν hinj 1) (cwV 1 hts gX5_about_X5_no rfl rfl rfl (by decide +kernel) ⟨Nat.le_of_ble_eq_true rfl, Nat.le_of_ble_eq_true rfl⟩) (z_prV (ci := 5) (k := 0) hX hP rfl z_m0) rfl rfl hl.1 rfl (lv_room (Nat.le_of_ble_eq_true rfl)) dX5_about_33 ⟨Nat.le_of_ble_eq_true rfl, Nat.le_of_ble_eq_true rfl⟩) hS (fun _ _ h9 => h9) (fun _ h9 => h9) (fun H locs hP hz9 hk9 hS => ?_)
      have hD := z_Dm hinj (z_cM G am (z_up (z_up μ 8 1 0) 8 1 1) ν)
      refine W.eq (g2 := F0 m 36 ls [.int 0]) rfl ?_
      have hPf : va_P (z_DD G) vwCl (z_wM G am (y_no μ 1) ν) H := by exact hP
      refine z_iret hx hb hr hlocks dX5_about_36 (fun t ht hW => ⟨rfl, by rw [ht]; exact hPf, hS.F ht⟩) hS.2.2 ?_
      rfl
    · skip
      exact absurd (z_iv_f (by omega) h) c19

set_option maxHeartbeats 4000000 in
set_option maxRecDepth 100000 in
theorem c_X5_joy (l : Launch) (G : z_GT) (am : Nat → Nat) (μ : Nat → Nat → Int32) (ν : Nat → Nat → Nat) (hinj : ∀ i j, i < 10 → j < 10 → am i = am j → i = j) (hy : y_wf μ ν) (t : Nat) (ht : t < ν 0 1) (d : Int32) (h : ¬ d < 0) : Met l yX5_joy wsX5_joy ({ frames := 5, cells := 0, slots := 0, locals := 114 } : Room) (z_Pr G [.ref (am 0), .int (nI t), .int d] (z_wM G am μ ν)) (z_Qm G (some (.int (y_joy μ ν t d))) (z_wM G am (z_up μ 8 1 0) ν) (z_A 10 am)) 0 0 (z_A 10 am) := by
  refine Met.ofW (cc := cX5_joy) (maxL := 3) (ret := (some .int)) (by decide) rfl ?_
  intro p e s m args below meth c s₁ B hml hw0
  obtain ⟨rfl, hX, hP⟩ := hw0
  have hK := hX.1
  have hx := B.exec
  have hb := B.bytes
  have hr := B.returns
  have hts := atoms_spec (ws := wsX5_joy) B.pre
  have hown : s.vm.findClass RX5 = some m.cls := findClass_of_methodNamed B.named
  have hlocks := B.notSynchronized
  have hl := lv_entry ([.ref (am 0), .int (nI t), .int d]) (n := 3) (Nat.le_of_ble_eq_true rfl)
  rw [lg_entry_eq]
  generalize (lg_sl ([.ref (am 0), .int (nI t), .int d]) ++ List.replicate (3 - (lg_sl ([.ref (am 0), .int (nI t), .int d])).length) Slot.unset).toArray = ls at hl ⊢
  have hl : lv_has ls 3 [(0, .ref (am 0)), (1, .int (nI t)), (2, .int d)] := hl
  have hf_RX5_37 : (Cond.fieldLink RX5 37 "BlossomToursModel" "thrown" "I").before ([.ref (am 0), .int (nI t), .int d] : List Value).toArray s = true := hts _ (by decide +kernel)
  have hi_RX5 : ∀ w ∈ u_ws RX5 TX5 13, w ∈ wsX5_joy := by decide +kernel
  have hm6 := hy.2.1
  have hS : va_S (z_A 10 am) s.heap s.heap [] := va_S.rf
  have hD := z_Dm hinj (z_cM G am μ ν)
  refine lv_aload_n hx hb dX5_joy_0 rfl (lv_at hl 0 rfl) ?_
  refine lv_iconst (v := 0) hx hb dX5_joy_1 (by decide) ?_
  refine va_put (D := z_DD G) (ci := 5) (v := .int 0) (ty := .int) (C := RX5) (T := TX5) (N := 13) hx hb hts hi_RX5 tyX5 tyX5_ok nmX5 hown hK hP hD hS 0 z_m0 rfl 0 (by decide) hf_RX5_37 (fun _ h9 => h9) rfl (by decide +kernel) rfl rfl (Nat.le_of_ble_eq_true rfl) dX5_joy_2 (fun H locs hP hD hS => ?_)
  have hP : va_P (z_DD G) vwCl (z_wM G am (z_up μ 8 1 0) ν) H := Eq.mp (congrArg (fun w => va_P (z_DD G) vwCl w H) z_tM0) hP
  have hD := z_Dm hinj (z_cM G am (z_up μ 8 1 0) ν)
  refine lv_aload_n hx hb dX5_joy_5 rfl (lv_at hl 0 rfl) ?_
  refine lv_iload_n hx hb dX5_joy_6 rfl (lv_at hl 1 rfl) ?_
  refine z_call (va_runV (As := [.int (nI t)]) (rest := []) ⟨hx, hb, hml, hown, hts⟩ (c_X5_isTour l G am (am 9) (z_up μ 8 1 0) ν (nI t)) (cwV 1 hts gX5_joy_X5_isTour rfl rfl rfl (by decide +kernel) ⟨Nat.le_of_ble_eq_true rfl, Nat.le_of_ble_eq_true rfl⟩) (z_prW (ci := 5) (k := 0) hX hP (z_NM hP) rfl z_m0) rfl rfl hl.1 rfl (lv_room (Nat.le_of_ble_eq_true rfl)) dX5_joy_7 ⟨Nat.le_of_ble_eq_true rfl, Nat.le_of_ble_eq_true rfl⟩) (fun _ h9 => h9) ?_
  refine W.eq (g2 := F0 m 10 ls [.int (z_wi (nI t) 0 (nI (ν 0 1) - 1))]) rfl ?_
  refine lv_if_ne (tgt := 19) hx hb dX5_joy_10 (by decide) (fun c10 => ?_) (fun c10 => ?_)
  · skip
    refine lv_iload_n hx hb dX5_joy_19 rfl (lv_at hl 2 rfl) ?_
    refine lv_if_ge (tgt := 31) hx hb dX5_joy_20 (by decide) (fun c20 => ?_) (fun c20 => ?_)
    · skip
      refine lv_aload_n hx hb dX5_joy_31 rfl (lv_at hl 0 rfl) ?_
      refine lv_iload_n hx hb dX5_joy_32 rfl (lv_at hl 1 rfl) ?_
      refine lv_iload_n hx hb dX5_joy_33 rfl (lv_at hl 2 rfl) ?_
      refine z_call (va_runV (As := [.int (nI t), .int d]) (rest := []) ⟨hx, hb, hml, hown, hts⟩ (c_X5_joyOf l G am (am 9) (z_up μ 8 1 0) ν hy t (Nat.lt_of_lt_of_le ht hy.2.1) d) (cwV 2 hts gX5_joy_X5_joyOf rfl rfl rfl (by decide +kernel) ⟨Nat.le_of_ble_eq_true rfl, Nat.le_of_ble_eq_true rfl⟩) (z_prW (ci := 5) (k := 0) hX hP (z_NM hP) rfl z_m0) rfl rfl hl.1 rfl (lv_room (Nat.le_of_ble_eq_true rfl)) dX5_joy_34 ⟨Nat.le_of_ble_eq_true rfl, Nat.le_of_ble_eq_true rfl⟩) (fun _ h9 => h9) ?_
      refine W.eq (g2 := F0 m 37 ls [.int (y_joy (z_up μ 8 1 0) ν t d)]) rfl ?_
      have hPf : va_P (z_DD G) vwCl (z_wM G am (z_up μ 8 1 0) ν) H := by exact hP
      refine z_iret hx hb hr hlocks dX5_joy_37 (fun t ht hW => ⟨rfl, by rw [ht]; exact hPf, hS.F ht⟩) hS.2.2 ?_
      rfl
    · skip
      exact absurd (Int32.not_lt.mp h) c20
  · skip
    exact absurd c10 (z_iv_t ht (by omega))

set_option maxHeartbeats 4000000 in
set_option maxRecDepth 100000 in
theorem x_X5_joy_1 (l : Launch) (G : z_GT) (am : Nat → Nat) (μ : Nat → Nat → Int32) (ν : Nat → Nat → Nat) (hinj : ∀ i j, i < 10 → j < 10 → am i = am j → i = j) (hm6 : ν 0 1 ≤ 6) (v d : Int32) (h : v < 0 ∨ ¬ v < nI (ν 0 1)) : Met l yX5_joy wsX5_joy ({ frames := 5, cells := 0, slots := 0, locals := 114 } : Room) (z_Pr G [.ref (am 0), .int v, .int d] (z_wM G am μ ν)) (z_Qm G (some (.int 0)) (z_wM G am (y_no μ 1) ν) (z_A 10 am)) 0 0 (z_A 10 am) := by
  refine Met.ofW (cc := cX5_joy) (maxL := 3) (ret := (some .int)) (by decide) rfl ?_
  intro p e s m args below meth c s₁ B hml hw0
  obtain ⟨rfl, hX, hP⟩ := hw0
  have hK := hX.1
  have hx := B.exec
  have hb := B.bytes
  have hr := B.returns
  have hts := atoms_spec (ws := wsX5_joy) B.pre
  have hown : s.vm.findClass RX5 = some m.cls := findClass_of_methodNamed B.named
  have hlocks := B.notSynchronized
  have hl := lv_entry ([.ref (am 0), .int v, .int d]) (n := 3) (Nat.le_of_ble_eq_true rfl)
  rw [lg_entry_eq]
  generalize (lg_sl ([.ref (am 0), .int v, .int d]) ++ List.replicate (3 - (lg_sl ([.ref (am 0), .int v, .int d])).length) Slot.unset).toArray = ls at hl ⊢
  have hl : lv_has ls 3 [(0, .ref (am 0)), (1, .int v), (2, .int d)] := hl
  have hf_RX5_37 : (Cond.fieldLink RX5 37 "BlossomToursModel" "thrown" "I").before ([.ref (am 0), .int v, .int d] : List Value).toArray s = true := hts _ (by decide +kernel)
  have hi_RX5 : ∀ w ∈ u_ws RX5 TX5 13, w ∈ wsX5_joy := by decide +kernel
  have hS : va_S (z_A 10 am) s.heap s.heap [] := va_S.rf
  have hD := z_Dm hinj (z_cM G am μ ν)
  refine lv_aload_n hx hb dX5_joy_0 rfl (lv_at hl 0 rfl) ?_
  refine lv_iconst (v := 0) hx hb dX5_joy_1 (by decide) ?_
  refine va_put (D := z_DD G) (ci := 5) (v := .int 0) (ty := .int) (C := RX5) (T := TX5) (N := 13) hx hb hts hi_RX5 tyX5 tyX5_ok nmX5 hown hK hP hD hS 0 z_m0 rfl 0 (by decide) hf_RX5_37 (fun _ h9 => h9) rfl (by decide +kernel) rfl rfl (Nat.le_of_ble_eq_true rfl) dX5_joy_2 (fun H locs hP hD hS => ?_)
  have hP : va_P (z_DD G) vwCl (z_wM G am (z_up μ 8 1 0) ν) H := Eq.mp (congrArg (fun w => va_P (z_DD G) vwCl w H) z_tM0) hP
  have hD := z_Dm hinj (z_cM G am (z_up μ 8 1 0) ν)
  refine lv_aload_n hx hb dX5_joy_5 rfl (lv_at hl 0 rfl) ?_
  refine lv_iload_n hx hb dX5_joy_6 rfl (lv_at hl 1 rfl) ?_
  refine z_call (va_runV (As := [.int v]) (rest := []) ⟨hx, hb, hml, hown, hts⟩ (c_X5_isTour l G am (am 9) (z_up μ 8 1 0) ν v) (cwV 1 hts gX5_joy_X5_isTour rfl rfl rfl (by decide +kernel) ⟨Nat.le_of_ble_eq_true rfl, Nat.le_of_ble_eq_true rfl⟩) (z_prW (ci := 5) (k := 0) hX hP (z_NM hP) rfl z_m0) rfl rfl hl.1 rfl (lv_room (Nat.le_of_ble_eq_true rfl)) dX5_joy_7 ⟨Nat.le_of_ble_eq_true rfl, Nat.le_of_ble_eq_true rfl⟩) (fun _ h9 => h9) ?_
  refine W.eq (g2 := F0 m 10 ls [.int (z_wi v 0 (nI (ν 0 1) - 1))]) rfl ?_
  refine lv_if_ne (tgt := 19) hx hb dX5_joy_10 (by decide) (fun c10 => ?_) (fun c10 => ?_)
  · skip
    exact absurd (z_iv_f (by omega) h) c10
  · skip
    refine lv_aload_n hx hb dX5_joy_13 rfl (lv_at hl 0 rfl) ?_
    refine lv_iconst (v := 1) hx hb dX5_joy_14 (by decide) ?_
    refine z_callm (va_runV (As := [.int 1]) (rest := []) ⟨hx, hb, hml, hown, hts⟩ (c_X5_no l G am (z_up μ 8 1 0) ν hinj 1) (cwV 1 hts gX5_joy_X5_no rfl rfl rfl (by decide +kernel) ⟨Nat.le_of_ble_eq_true rfl, Nat.le_of_ble_eq_true rfl⟩) (z_prV (ci := 5) (k := 0) hX hP rfl z_m0) rfl rfl hl.1 rfl (lv_room (Nat.le_of_ble_eq_true rfl)) dX5_joy_15 ⟨Nat.le_of_ble_eq_true rfl, Nat.le_of_ble_eq_true rfl⟩) hS (fun _ _ h9 => h9) (fun _ h9 => h9) (fun H locs hP hz9 hk9 hS => ?_)
    have hD := z_Dm hinj (z_cM G am (z_up (z_up μ 8 1 0) 8 1 1) ν)
    refine W.eq (g2 := F0 m 18 ls [.int 0]) rfl ?_
    have hPf : va_P (z_DD G) vwCl (z_wM G am (y_no μ 1) ν) H := by exact hP
    refine z_iret hx hb hr hlocks dX5_joy_18 (fun t ht hW => ⟨rfl, by rw [ht]; exact hPf, hS.F ht⟩) hS.2.2 ?_
    rfl

set_option maxHeartbeats 4000000 in
set_option maxRecDepth 100000 in
theorem x_X5_joy_2 (l : Launch) (G : z_GT) (am : Nat → Nat) (μ : Nat → Nat → Int32) (ν : Nat → Nat → Nat) (hinj : ∀ i j, i < 10 → j < 10 → am i = am j → i = j) (hm6 : ν 0 1 ≤ 6) (t : Nat) (ht : t < ν 0 1) (d : Int32) (h : d < 0) : Met l yX5_joy wsX5_joy ({ frames := 5, cells := 0, slots := 0, locals := 114 } : Room) (z_Pr G [.ref (am 0), .int (nI t), .int d] (z_wM G am μ ν)) (z_Qm G (some (.int 0)) (z_wM G am (y_no μ 2) ν) (z_A 10 am)) 0 0 (z_A 10 am) := by
  refine Met.ofW (cc := cX5_joy) (maxL := 3) (ret := (some .int)) (by decide) rfl ?_
  intro p e s m args below meth c s₁ B hml hw0
  obtain ⟨rfl, hX, hP⟩ := hw0
  have hK := hX.1
  have hx := B.exec
  have hb := B.bytes
  have hr := B.returns
  have hts := atoms_spec (ws := wsX5_joy) B.pre
  have hown : s.vm.findClass RX5 = some m.cls := findClass_of_methodNamed B.named
  have hlocks := B.notSynchronized
  have hl := lv_entry ([.ref (am 0), .int (nI t), .int d]) (n := 3) (Nat.le_of_ble_eq_true rfl)
  rw [lg_entry_eq]
  generalize (lg_sl ([.ref (am 0), .int (nI t), .int d]) ++ List.replicate (3 - (lg_sl ([.ref (am 0), .int (nI t), .int d])).length) Slot.unset).toArray = ls at hl ⊢
  have hl : lv_has ls 3 [(0, .ref (am 0)), (1, .int (nI t)), (2, .int d)] := hl
  have hf_RX5_37 : (Cond.fieldLink RX5 37 "BlossomToursModel" "thrown" "I").before ([.ref (am 0), .int (nI t), .int d] : List Value).toArray s = true := hts _ (by decide +kernel)
  have hi_RX5 : ∀ w ∈ u_ws RX5 TX5 13, w ∈ wsX5_joy := by decide +kernel
  have hS : va_S (z_A 10 am) s.heap s.heap [] := va_S.rf
  have hD := z_Dm hinj (z_cM G am μ ν)
  refine lv_aload_n hx hb dX5_joy_0 rfl (lv_at hl 0 rfl) ?_
  refine lv_iconst (v := 0) hx hb dX5_joy_1 (by decide) ?_
  refine va_put (D := z_DD G) (ci := 5) (v := .int 0) (ty := .int) (C := RX5) (T := TX5) (N := 13) hx hb hts hi_RX5 tyX5 tyX5_ok nmX5 hown hK hP hD hS 0 z_m0 rfl 0 (by decide) hf_RX5_37 (fun _ h9 => h9) rfl (by decide +kernel) rfl rfl (Nat.le_of_ble_eq_true rfl) dX5_joy_2 (fun H locs hP hD hS => ?_)
  have hP : va_P (z_DD G) vwCl (z_wM G am (z_up μ 8 1 0) ν) H := Eq.mp (congrArg (fun w => va_P (z_DD G) vwCl w H) z_tM0) hP
  have hD := z_Dm hinj (z_cM G am (z_up μ 8 1 0) ν)
  refine lv_aload_n hx hb dX5_joy_5 rfl (lv_at hl 0 rfl) ?_
  refine lv_iload_n hx hb dX5_joy_6 rfl (lv_at hl 1 rfl) ?_
  refine z_call (va_runV (As := [.int (nI t)]) (rest := []) ⟨hx, hb, hml, hown, hts⟩ (c_X5_isTour l G am (am 9) (z_up μ 8 1 0) ν (nI t)) (cwV 1 hts gX5_joy_X5_isTour rfl rfl rfl (by decide +kernel) ⟨Nat.le_of_ble_eq_true rfl, Nat.le_of_ble_eq_true rfl⟩) (z_prW (ci := 5) (k := 0) hX hP (z_NM hP) rfl z_m0) rfl rfl hl.1 rfl (lv_room (Nat.le_of_ble_eq_true rfl)) dX5_joy_7 ⟨Nat.le_of_ble_eq_true rfl, Nat.le_of_ble_eq_true rfl⟩) (fun _ h9 => h9) ?_
  refine W.eq (g2 := F0 m 10 ls [.int (z_wi (nI t) 0 (nI (ν 0 1) - 1))]) rfl ?_
  refine lv_if_ne (tgt := 19) hx hb dX5_joy_10 (by decide) (fun c10 => ?_) (fun c10 => ?_)
  · skip
    refine lv_iload_n hx hb dX5_joy_19 rfl (lv_at hl 2 rfl) ?_
    refine lv_if_ge (tgt := 31) hx hb dX5_joy_20 (by decide) (fun c20 => ?_) (fun c20 => ?_)
    · skip
      exact absurd h (Int32.not_lt.mpr c20)
    · skip
      refine lv_aload_n hx hb dX5_joy_23 rfl (lv_at hl 0 rfl) ?_
      refine lv_iconst (v := 2) hx hb dX5_joy_24 (by decide) ?_
      refine z_callm (va_runV (As := [.int 2]) (rest := []) ⟨hx, hb, hml, hown, hts⟩ (c_X5_no l G am (z_up μ 8 1 0) ν hinj 2) (cwV 1 hts gX5_joy_X5_no rfl rfl rfl (by decide +kernel) ⟨Nat.le_of_ble_eq_true rfl, Nat.le_of_ble_eq_true rfl⟩) (z_prV (ci := 5) (k := 0) hX hP rfl z_m0) rfl rfl hl.1 rfl (lv_room (Nat.le_of_ble_eq_true rfl)) dX5_joy_25 ⟨Nat.le_of_ble_eq_true rfl, Nat.le_of_ble_eq_true rfl⟩) hS (fun _ _ h9 => h9) (fun _ h9 => h9) (fun H locs hP hz9 hk9 hS => ?_)
      have hD := z_Dm hinj (z_cM G am (z_up (z_up μ 8 1 0) 8 1 2) ν)
      refine W.eq (g2 := F0 m 28 ls [.int 0]) rfl ?_
      refine lv_goto (tgt := 37) hx hb dX5_joy_28 (by decide) ?_
      have hPf : va_P (z_DD G) vwCl (z_wM G am (y_no μ 2) ν) H := by exact hP
      refine z_iret hx hb hr hlocks dX5_joy_37 (fun t ht hW => ⟨rfl, by rw [ht]; exact hPf, hS.F ht⟩) hS.2.2 ?_
      rfl
  · skip
    exact absurd c10 (z_iv_t ht (by omega))

set_option maxHeartbeats 4000000 in
set_option maxRecDepth 100000 in
theorem c_X5_best (l : Launch) (G : z_GT) (am : Nat → Nat) (μ : Nat → Nat → Int32) (ν : Nat → Nat → Nat) (hinj : ∀ i j, i < 10 → j < 10 → am i = am j → i = j) (hy : y_wf μ ν) (t : Nat) (ht : t < ν 0 1) (T : Nat) (hT9 : μ 9 0 = nI T) (hT2 : T + 120 < 2 ^ 31) : Met l yX5_best wsX5_best ({ frames := 5, cells := 0, slots := 0, locals := 114 } : Room) (z_Pr G [.ref (am 0), .int (nI t)] (z_wM G am μ ν)) (z_Qm G (some (.int (y_bs μ ν t T 120).1)) (z_wM G am (z_up μ 8 1 0) ν) (z_A 10 am)) 0 0 (z_A 10 am) := by
  refine Met.ofW (cc := cX5_best) (maxL := 6) (ret := (some .int)) (by decide) rfl ?_
  intro p e s m args below meth c s₁ B hml hw0
  obtain ⟨rfl, hX, hP⟩ := hw0
  have hK := hX.1
  have hx := B.exec
  have hb := B.bytes
  have hr := B.returns
  have hts := atoms_spec (ws := wsX5_best) B.pre
  have hown : s.vm.findClass RX5 = some m.cls := findClass_of_methodNamed B.named
  have hlocks := B.notSynchronized
  have hl := lv_entry ([.ref (am 0), .int (nI t)]) (n := 6) (Nat.le_of_ble_eq_true rfl)
  rw [lg_entry_eq]
  generalize (lg_sl ([.ref (am 0), .int (nI t)]) ++ List.replicate (6 - (lg_sl ([.ref (am 0), .int (nI t)])).length) Slot.unset).toArray = ls at hl ⊢
  have hl : lv_has ls 6 [(0, .ref (am 0)), (1, .int (nI t))] := hl
  have hf_RX5_34 : (Cond.fieldLink RX5 34 "BlossomToursModel" "numbers" "[I").before ([.ref (am 0), .int (nI t)] : List Value).toArray s = true := hts _ (by decide +kernel)
  have hf_RX5_37 : (Cond.fieldLink RX5 37 "BlossomToursModel" "thrown" "I").before ([.ref (am 0), .int (nI t)] : List Value).toArray s = true := hts _ (by decide +kernel)
  have hi_RX5 : ∀ w ∈ u_ws RX5 TX5 13, w ∈ wsX5_best := by decide +kernel
  have hm6 := hy.2.1
  have hS : va_S (z_A 10 am) s.heap s.heap [] := va_S.rf
  have hD := z_Dm hinj (z_cM G am μ ν)
  refine lv_aload_n hx hb dX5_best_0 rfl (lv_at hl 0 rfl) ?_
  refine lv_iconst (v := 0) hx hb dX5_best_1 (by decide) ?_
  refine va_put (D := z_DD G) (ci := 5) (v := .int 0) (ty := .int) (C := RX5) (T := TX5) (N := 13) hx hb hts hi_RX5 tyX5 tyX5_ok nmX5 hown hK hP hD hS 0 z_m0 rfl 0 (by decide) hf_RX5_37 (fun _ h9 => h9) rfl (by decide +kernel) rfl rfl (Nat.le_of_ble_eq_true rfl) dX5_best_2 (fun H locs hP hD hS => ?_)
  have hP : va_P (z_DD G) vwCl (z_wM G am (z_up μ 8 1 0) ν) H := Eq.mp (congrArg (fun w => va_P (z_DD G) vwCl w H) z_tM0) hP
  have hD := z_Dm hinj (z_cM G am (z_up μ 8 1 0) ν)
  refine lv_aload_n hx hb dX5_best_5 rfl (lv_at hl 0 rfl) ?_
  refine lv_iload_n hx hb dX5_best_6 rfl (lv_at hl 1 rfl) ?_
  refine z_call (va_runV (As := [.int (nI t)]) (rest := []) ⟨hx, hb, hml, hown, hts⟩ (c_X5_isTour l G am (am 9) (z_up μ 8 1 0) ν (nI t)) (cwV 1 hts gX5_best_X5_isTour rfl rfl rfl (by decide +kernel) ⟨Nat.le_of_ble_eq_true rfl, Nat.le_of_ble_eq_true rfl⟩) (z_prW (ci := 5) (k := 0) hX hP (z_NM hP) rfl z_m0) rfl rfl hl.1 rfl (lv_room (Nat.le_of_ble_eq_true rfl)) dX5_best_7 ⟨Nat.le_of_ble_eq_true rfl, Nat.le_of_ble_eq_true rfl⟩) (fun _ h9 => h9) ?_
  refine W.eq (g2 := F0 m 10 ls [.int (z_wi (nI t) 0 (nI (ν 0 1) - 1))]) rfl ?_
  refine lv_if_ne (tgt := 19) hx hb dX5_best_10 (by decide) (fun c10 => ?_) (fun c10 => ?_)
  · skip
    refine lv_iconst (v := (-1)) hx hb dX5_best_19 (by decide) ?_
    refine lv_istore_n (lv' := [(2, .int (-1)), (0, .ref (am 0)), (1, .int (nI t))]) hx hb dX5_best_20 rfl hl (by decide) rfl (fun ls hl => ?_)
    refine lv_iconst (v := 0) hx hb dX5_best_21 (by decide) ?_
    refine lv_istore_n (lv' := [(3, .int 0), (2, .int (-1)), (0, .ref (am 0)), (1, .int (nI t))]) hx hb dX5_best_22 rfl hl (by decide) rfl (fun ls hl => ?_)
    refine lv_aload_n hx hb dX5_best_23 rfl (lv_at hl 2 rfl) ?_
    refine va_get (D := z_DD G) (ci := 5) (v := .ref (am 9)) (C := RX5) (T := TX5) (N := 13) hx hb hts hi_RX5 hown hK hP 0 z_m0 rfl 12 (by decide) hf_RX5_34 (fun _ h9 => h9) rfl dX5_best_24 ?_
    refine lv_iconst (v := 0) hx hb dX5_best_27 (by decide) ?_
    refine z_iald (k := 0) (f := fun z9 => (z_up μ 8 1 0) 9 z9) hx hb hK hP 9 0 z_m9 rfl (by decide) (by decide) dX5_best_28 ?_
    refine z_top (show (.int ((z_up μ 8 1 0) 9 0) : Value) = .int (nI T) from by (show Value.int (μ 9 0) = _; rw [hT9])) ?_
    refine lv_istore (lv' := [(4, .int (nI T)), (3, .int 0), (2, .int (-1)), (0, .ref (am 0)), (1, .int (nI t))]) hx hb dX5_best_29 hl (by decide) rfl (fun ls hl => ?_)
    have lp31 : ∀ (fu31 : Nat) (i : Nat), i ≤ 120 → 120 < i + fu31 → ∀ (ls : Array Slot), lv_has ls 6 [(0, .ref (am 0)), (1, .int (nI t)), (2, .int ((y_bs (z_up μ 8 1 0) ν t T i).1)), (3, .int ((y_bs (z_up μ 8 1 0) ν t T i).2)), (4, .int (nI (T + i)))] → W p l e (headSpec wsX5_best ({ frames := 5, cells := 0, slots := 0, locals := 114 } : Room)).room s m ([.ref (am 0), .int (nI t)] : List Value).toArray below meth c H locs 0 0 (MQ below (z_Qm G (some (.int (y_bs μ ν t T 120).1)) (z_wM G am (z_up μ 8 1 0) ν) (z_A 10 am)) ([.ref (am 0), .int (nI t)] : List Value).toArray s 0 0 (z_A 10 am)) (F0 m 31 ls []) := by
      intro fu31
      induction fu31 with
      | zero =>
        intro i h1 h2
        exfalso; omega
      | succ fu31 ih31 =>
        intro i h1 h2 ls hl
        refine lv_iload hx hb dX5_best_31 (lv_at hl 4 rfl) ?_
        refine lv_aload_n hx hb dX5_best_33 rfl (lv_at hl 0 rfl) ?_
        refine va_get (D := z_DD G) (ci := 5) (v := .ref (am 9)) (C := RX5) (T := TX5) (N := 13) hx hb hts hi_RX5 hown hK hP 0 z_m0 rfl 12 (by decide) hf_RX5_34 (fun _ h9 => h9) rfl dX5_best_34 ?_
        refine lv_iconst (v := 0) hx hb dX5_best_37 (by decide) ?_
        refine z_iald (k := 0) (f := fun z9 => (z_up μ 8 1 0) 9 z9) hx hb hK hP 9 0 z_m9 rfl (by decide) (by decide) dX5_best_38 ?_
        refine z_top (show (.int ((z_up μ 8 1 0) 9 0) : Value) = .int (nI T) from by (show Value.int (μ 9 0) = _; rw [hT9])) ?_
        refine lv_bipush (v := nI 120) hx hb dX5_best_39 (by decide) ?_
        refine lv_iadd hx hb dX5_best_41 ?_
        refine z_top (show (.int ((nI T) + (nI 120)) : Value) = .int (nI (T + 120)) from by rw [nI_add]) ?_
        refine lv_icmp_ge (tgt := 75) hx hb dX5_best_42 (by decide) (fun c42 => ?_) (fun c42 => ?_)
        · skip
          have hi : i = 120 := by have := z_ge (by omega) (by omega) c42; omega
          rw [show ((y_bs (z_up μ 8 1 0) ν t T i).1 : Int32) = (y_bs (z_up μ 8 1 0) ν t T 120).1 from by rw [hi]] at hl
          refine lv_iload_n hx hb dX5_best_75 rfl (lv_at hl 2 rfl) ?_
          have hPf : va_P (z_DD G) vwCl (z_wM G am (z_up μ 8 1 0) ν) H := by exact hP
          refine z_iret hx hb hr hlocks dX5_best_76 (fun t ht hW => ⟨rfl, by rw [ht]; exact hPf, hS.F ht⟩) hS.2.2 ?_
          exact congrArg Prod.fst (y_bs_th μ ν t T 0 120)
        · skip
          have hi := z_ng (by omega) (by omega) c42
          refine lv_aload_n hx hb dX5_best_45 rfl (lv_at hl 0 rfl) ?_
          refine lv_iload_n hx hb dX5_best_46 rfl (lv_at hl 1 rfl) ?_
          refine lv_iload hx hb dX5_best_47 (lv_at hl 4 rfl) ?_
          refine z_call (va_runV (As := [.int (nI t), .int (nI (T + i))]) (rest := []) ⟨hx, hb, hml, hown, hts⟩ (c_X5_joyOf l G am (am 9) (z_up μ 8 1 0) ν hy t (Nat.lt_of_lt_of_le ht hy.2.1) (nI (T + i))) (cwV 2 hts gX5_best_X5_joyOf rfl rfl rfl (by decide +kernel) ⟨Nat.le_of_ble_eq_true rfl, Nat.le_of_ble_eq_true rfl⟩) (z_prW (ci := 5) (k := 0) hX hP (z_NM hP) rfl z_m0) rfl rfl hl.1 rfl (lv_room (Nat.le_of_ble_eq_true rfl)) dX5_best_49 ⟨Nat.le_of_ble_eq_true rfl, Nat.le_of_ble_eq_true rfl⟩) (fun _ h9 => h9) ?_
          refine W.eq (g2 := F0 m 52 ls [.int (y_joy (z_up μ 8 1 0) ν t (nI (T + i)))]) rfl ?_
          refine lv_istore (lv' := [(5, .int (y_joy (z_up μ 8 1 0) ν t (nI (T + i)))), (0, .ref (am 0)), (1, .int (nI t)), (2, .int ((y_bs (z_up μ 8 1 0) ν t T i).1)), (3, .int ((y_bs (z_up μ 8 1 0) ν t T i).2)), (4, .int (nI (T + i)))]) hx hb dX5_best_52 hl (by decide) rfl (fun ls hl => ?_)
          refine lv_iload hx hb dX5_best_54 (lv_at hl 0 rfl) ?_
          refine lv_iload_n hx hb dX5_best_56 rfl (lv_at hl 4 rfl) ?_
          refine lv_icmp_gt (tgt := 63) hx hb dX5_best_57 (by decide) (fun c57 => ?_) (fun c57 => ?_)
          · skip
            refine lv_iload hx hb dX5_best_63 (lv_at hl 0 rfl) ?_
            refine lv_istore_n (lv' := [(3, .int (y_joy (z_up μ 8 1 0) ν t (nI (T + i)))), (5, .int (y_joy (z_up μ 8 1 0) ν t (nI (T + i)))), (0, .ref (am 0)), (1, .int (nI t)), (2, .int ((y_bs (z_up μ 8 1 0) ν t T i).1)), (4, .int (nI (T + i)))]) hx hb dX5_best_65 rfl hl (by decide) rfl (fun ls hl => ?_)
            refine lv_iload hx hb dX5_best_66 (lv_at hl 5 rfl) ?_
            refine lv_istore_n (lv' := [(2, .int (nI (T + i))), (3, .int (y_joy (z_up μ 8 1 0) ν t (nI (T + i)))), (5, .int (y_joy (z_up μ 8 1 0) ν t (nI (T + i)))), (0, .ref (am 0)), (1, .int (nI t)), (4, .int (nI (T + i)))]) hx hb dX5_best_68 rfl hl (by decide) rfl (fun ls hl => ?_)
            refine lv_iinc (v := nI ((T + i) + 1)) (lv' := [(4, .int (nI ((T + i) + 1))), (2, .int (nI (T + i))), (3, .int (y_joy (z_up μ 8 1 0) ν t (nI (T + i)))), (5, .int (y_joy (z_up μ 8 1 0) ν t (nI (T + i)))), (0, .ref (am 0)), (1, .int (nI t))]) hx hb dX5_best_69 hl (k := 5) rfl (z_inc _) (by decide) rfl (fun ls hl => ?_)
            refine lv_goto (tgt := 31) hx hb dX5_best_72 (by decide) ?_
            -- back to 31
            rw [show (y_joy (z_up μ 8 1 0) ν t (nI (T + i)) : Int32) = (y_bs (z_up μ 8 1 0) ν t T (i + 1)).2 from by first | (rw [y_bs, if_pos c57]; done) | (rw [y_bs, if_neg c57])] at hl
            rw [show (nI (T + i) : Int32) = (y_bs (z_up μ 8 1 0) ν t T (i + 1)).1 from by first | (rw [y_bs, if_pos c57]; done) | (rw [y_bs, if_neg c57])] at hl
            rw [show (nI ((T + i) + 1) : Int32) = nI (T + (i + 1)) from by rfl] at hl
            exact ih31 (i + 1) (by omega) (by omega) ls (lv_sub hl [4, 5, 1, 2, 0] rfl)
          · skip
            refine lv_goto (tgt := 69) hx hb dX5_best_60 (by decide) ?_
            refine lv_iinc (v := nI ((T + i) + 1)) (lv' := [(4, .int (nI ((T + i) + 1))), (5, .int (y_joy (z_up μ 8 1 0) ν t (nI (T + i)))), (0, .ref (am 0)), (1, .int (nI t)), (2, .int ((y_bs (z_up μ 8 1 0) ν t T i).1)), (3, .int ((y_bs (z_up μ 8 1 0) ν t T i).2))]) hx hb dX5_best_69 hl (k := 5) rfl (z_inc _) (by decide) rfl (fun ls hl => ?_)
            refine lv_goto (tgt := 31) hx hb dX5_best_72 (by decide) ?_
            -- back to 31
            rw [show ((y_bs (z_up μ 8 1 0) ν t T i).2 : Int32) = (y_bs (z_up μ 8 1 0) ν t T (i + 1)).2 from by first | (rw [y_bs, if_pos c57]; done) | (rw [y_bs, if_neg c57])] at hl
            rw [show ((y_bs (z_up μ 8 1 0) ν t T i).1 : Int32) = (y_bs (z_up μ 8 1 0) ν t T (i + 1)).1 from by first | (rw [y_bs, if_pos c57]; done) | (rw [y_bs, if_neg c57])] at hl
            rw [show (nI ((T + i) + 1) : Int32) = nI (T + (i + 1)) from by rfl] at hl
            exact ih31 (i + 1) (by omega) (by omega) ls (lv_sub hl [2, 3, 4, 5, 0] rfl)
    rw [show ((-1) : Int32) = (y_bs (z_up μ 8 1 0) ν t T 0).1 from by rfl] at hl
    rw [show (0 : Int32) = (y_bs (z_up μ 8 1 0) ν t T 0).2 from by rfl] at hl
    rw [show (nI T : Int32) = nI (T + 0) from by rfl] at hl
    exact lp31 121 0 (by omega) (by omega) ls (lv_sub hl [3, 4, 2, 1, 0] rfl)
  · skip
    exact absurd c10 (z_iv_t ht (by omega))

set_option maxHeartbeats 4000000 in
set_option maxRecDepth 100000 in
theorem x_X5_best_1 (l : Launch) (G : z_GT) (am : Nat → Nat) (μ : Nat → Nat → Int32) (ν : Nat → Nat → Nat) (hinj : ∀ i j, i < 10 → j < 10 → am i = am j → i = j) (hm6 : ν 0 1 ≤ 6) (v : Int32) (h : v < 0 ∨ ¬ v < nI (ν 0 1)) : Met l yX5_best wsX5_best ({ frames := 5, cells := 0, slots := 0, locals := 114 } : Room) (z_Pr G [.ref (am 0), .int v] (z_wM G am μ ν)) (z_Qm G (some (.int 0)) (z_wM G am (y_no μ 1) ν) (z_A 10 am)) 0 0 (z_A 10 am) := by
  refine Met.ofW (cc := cX5_best) (maxL := 6) (ret := (some .int)) (by decide) rfl ?_
  intro p e s m args below meth c s₁ B hml hw0
  obtain ⟨rfl, hX, hP⟩ := hw0
  have hK := hX.1
  have hx := B.exec
  have hb := B.bytes
  have hr := B.returns
  have hts := atoms_spec (ws := wsX5_best) B.pre
  have hown : s.vm.findClass RX5 = some m.cls := findClass_of_methodNamed B.named
  have hlocks := B.notSynchronized
  have hl := lv_entry ([.ref (am 0), .int v]) (n := 6) (Nat.le_of_ble_eq_true rfl)
  rw [lg_entry_eq]
  generalize (lg_sl ([.ref (am 0), .int v]) ++ List.replicate (6 - (lg_sl ([.ref (am 0), .int v])).length) Slot.unset).toArray = ls at hl ⊢
  have hl : lv_has ls 6 [(0, .ref (am 0)), (1, .int v)] := hl
  have hf_RX5_37 : (Cond.fieldLink RX5 37 "BlossomToursModel" "thrown" "I").before ([.ref (am 0), .int v] : List Value).toArray s = true := hts _ (by decide +kernel)
  have hi_RX5 : ∀ w ∈ u_ws RX5 TX5 13, w ∈ wsX5_best := by decide +kernel
  have hS : va_S (z_A 10 am) s.heap s.heap [] := va_S.rf
  have hD := z_Dm hinj (z_cM G am μ ν)
  refine lv_aload_n hx hb dX5_best_0 rfl (lv_at hl 0 rfl) ?_
  refine lv_iconst (v := 0) hx hb dX5_best_1 (by decide) ?_
  refine va_put (D := z_DD G) (ci := 5) (v := .int 0) (ty := .int) (C := RX5) (T := TX5) (N := 13) hx hb hts hi_RX5 tyX5 tyX5_ok nmX5 hown hK hP hD hS 0 z_m0 rfl 0 (by decide) hf_RX5_37 (fun _ h9 => h9) rfl (by decide +kernel) rfl rfl (Nat.le_of_ble_eq_true rfl) dX5_best_2 (fun H locs hP hD hS => ?_)
  have hP : va_P (z_DD G) vwCl (z_wM G am (z_up μ 8 1 0) ν) H := Eq.mp (congrArg (fun w => va_P (z_DD G) vwCl w H) z_tM0) hP
  have hD := z_Dm hinj (z_cM G am (z_up μ 8 1 0) ν)
  refine lv_aload_n hx hb dX5_best_5 rfl (lv_at hl 0 rfl) ?_
  refine lv_iload_n hx hb dX5_best_6 rfl (lv_at hl 1 rfl) ?_
  refine z_call (va_runV (As := [.int v]) (rest := []) ⟨hx, hb, hml, hown, hts⟩ (c_X5_isTour l G am (am 9) (z_up μ 8 1 0) ν v) (cwV 1 hts gX5_best_X5_isTour rfl rfl rfl (by decide +kernel) ⟨Nat.le_of_ble_eq_true rfl, Nat.le_of_ble_eq_true rfl⟩) (z_prW (ci := 5) (k := 0) hX hP (z_NM hP) rfl z_m0) rfl rfl hl.1 rfl (lv_room (Nat.le_of_ble_eq_true rfl)) dX5_best_7 ⟨Nat.le_of_ble_eq_true rfl, Nat.le_of_ble_eq_true rfl⟩) (fun _ h9 => h9) ?_
  refine W.eq (g2 := F0 m 10 ls [.int (z_wi v 0 (nI (ν 0 1) - 1))]) rfl ?_
  refine lv_if_ne (tgt := 19) hx hb dX5_best_10 (by decide) (fun c10 => ?_) (fun c10 => ?_)
  · skip
    exact absurd (z_iv_f (by omega) h) c10
  · skip
    refine lv_aload_n hx hb dX5_best_13 rfl (lv_at hl 0 rfl) ?_
    refine lv_iconst (v := 1) hx hb dX5_best_14 (by decide) ?_
    refine z_callm (va_runV (As := [.int 1]) (rest := []) ⟨hx, hb, hml, hown, hts⟩ (c_X5_no l G am (z_up μ 8 1 0) ν hinj 1) (cwV 1 hts gX5_best_X5_no rfl rfl rfl (by decide +kernel) ⟨Nat.le_of_ble_eq_true rfl, Nat.le_of_ble_eq_true rfl⟩) (z_prV (ci := 5) (k := 0) hX hP rfl z_m0) rfl rfl hl.1 rfl (lv_room (Nat.le_of_ble_eq_true rfl)) dX5_best_15 ⟨Nat.le_of_ble_eq_true rfl, Nat.le_of_ble_eq_true rfl⟩) hS (fun _ _ h9 => h9) (fun _ h9 => h9) (fun H locs hP hz9 hk9 hS => ?_)
    have hD := z_Dm hinj (z_cM G am (z_up (z_up μ 8 1 0) 8 1 1) ν)
    refine W.eq (g2 := F0 m 18 ls [.int 0]) rfl ?_
    have hPf : va_P (z_DD G) vwCl (z_wM G am (y_no μ 1) ν) H := by exact hP
    refine z_iret hx hb hr hlocks dX5_best_18 (fun t ht hW => ⟨rfl, by rw [ht]; exact hPf, hS.F ht⟩) hS.2.2 ?_
    rfl

set_option maxHeartbeats 4000000 in
set_option maxRecDepth 100000 in
theorem c_X5_advise (l : Launch) (G : z_GT) (am : Nat → Nat) (μ : Nat → Nat → Int32) (ν : Nat → Nat → Nat) (hinj : ∀ i j, i < 10 → j < 10 → am i = am j → i = j) (hy : y_wf μ ν) (t : Nat) (ht : t < ν 0 1) (g1 : ν 1 t < 5) : Met l yX5_advise wsX5_advise ({ frames := 5, cells := 0, slots := 0, locals := 114 } : Room) (z_Pr G [.ref (am 0), .int (nI t)] (z_wM G am μ ν)) (z_Qm G (some (.int (y_aB (z_up μ 8 1 0) ν t (ν 0 0)).1)) (z_wM G am (z_up μ 8 1 0) (y_aK ν t (ν 0 0))) (z_A 10 am)) 0 0 (z_A 10 am) := by
  refine Met.ofW (cc := cX5_advise) (maxL := 6) (ret := (some .int)) (by decide) rfl ?_
  intro p e s m args below meth c s₁ B hml hw0
  obtain ⟨rfl, hX, hP⟩ := hw0
  have hK := hX.1
  have hx := B.exec
  have hb := B.bytes
  have hr := B.returns
  have hts := atoms_spec (ws := wsX5_advise) B.pre
  have hown : s.vm.findClass RX5 = some m.cls := findClass_of_methodNamed B.named
  have hlocks := B.notSynchronized
  have hl := lv_entry ([.ref (am 0), .int (nI t)]) (n := 6) (Nat.le_of_ble_eq_true rfl)
  rw [lg_entry_eq]
  generalize (lg_sl ([.ref (am 0), .int (nI t)]) ++ List.replicate (6 - (lg_sl ([.ref (am 0), .int (nI t)])).length) Slot.unset).toArray = ls at hl ⊢
  have hl : lv_has ls 6 [(0, .ref (am 0)), (1, .int (nI t))] := hl
  have hf_RX5_28 : (Cond.fieldLink RX5 28 "BlossomToursModel" "many" "[I").before ([.ref (am 0), .int (nI t)] : List Value).toArray s = true := hts _ (by decide +kernel)
  have hf_RX5_31 : (Cond.fieldLink RX5 31 "BlossomToursModel" "list" "[I").before ([.ref (am 0), .int (nI t)] : List Value).toArray s = true := hts _ (by decide +kernel)
  have hf_RX5_34 : (Cond.fieldLink RX5 34 "BlossomToursModel" "numbers" "[I").before ([.ref (am 0), .int (nI t)] : List Value).toArray s = true := hts _ (by decide +kernel)
  have hf_RX5_37 : (Cond.fieldLink RX5 37 "BlossomToursModel" "thrown" "I").before ([.ref (am 0), .int (nI t)] : List Value).toArray s = true := hts _ (by decide +kernel)
  have hf_RX5_41 : (Cond.fieldLink RX5 41 "BlossomToursModel" "valleys" "I").before ([.ref (am 0), .int (nI t)] : List Value).toArray s = true := hts _ (by decide +kernel)
  have hi_RX5 : ∀ w ∈ u_ws RX5 TX5 13, w ∈ wsX5_advise := by decide +kernel
  have hn8 := hy.1
  have hm6 := hy.2.1
  have hk5 := hy.2.2.1 t (Nat.lt_of_lt_of_le ht hy.2.1)
  have ht6 : t < 6 := Nat.lt_of_lt_of_le ht hy.2.1
  have hS : va_S (z_A 10 am) s.heap s.heap [] := va_S.rf
  have hD := z_Dm hinj (z_cM G am μ ν)
  refine lv_aload_n hx hb dX5_advise_0 rfl (lv_at hl 0 rfl) ?_
  refine lv_iconst (v := 0) hx hb dX5_advise_1 (by decide) ?_
  refine va_put (D := z_DD G) (ci := 5) (v := .int 0) (ty := .int) (C := RX5) (T := TX5) (N := 13) hx hb hts hi_RX5 tyX5 tyX5_ok nmX5 hown hK hP hD hS 0 z_m0 rfl 0 (by decide) hf_RX5_37 (fun _ h9 => h9) rfl (by decide +kernel) rfl rfl (Nat.le_of_ble_eq_true rfl) dX5_advise_2 (fun H locs hP hD hS => ?_)
  have hP : va_P (z_DD G) vwCl (z_wM G am (z_up μ 8 1 0) ν) H := Eq.mp (congrArg (fun w => va_P (z_DD G) vwCl w H) z_tM0) hP
  have hD := z_Dm hinj (z_cM G am (z_up μ 8 1 0) ν)
  refine lv_aload_n hx hb dX5_advise_5 rfl (lv_at hl 0 rfl) ?_
  refine lv_iload_n hx hb dX5_advise_6 rfl (lv_at hl 1 rfl) ?_
  refine z_call (va_runV (As := [.int (nI t)]) (rest := []) ⟨hx, hb, hml, hown, hts⟩ (c_X5_isTour l G am (am 9) (z_up μ 8 1 0) ν (nI t)) (cwV 1 hts gX5_advise_X5_isTour rfl rfl rfl (by decide +kernel) ⟨Nat.le_of_ble_eq_true rfl, Nat.le_of_ble_eq_true rfl⟩) (z_prW (ci := 5) (k := 0) hX hP (z_NM hP) rfl z_m0) rfl rfl hl.1 rfl (lv_room (Nat.le_of_ble_eq_true rfl)) dX5_advise_7 ⟨Nat.le_of_ble_eq_true rfl, Nat.le_of_ble_eq_true rfl⟩) (fun _ h9 => h9) ?_
  refine W.eq (g2 := F0 m 10 ls [.int (z_wi (nI t) 0 (nI (ν 0 1) - 1))]) rfl ?_
  refine lv_if_ne (tgt := 19) hx hb dX5_advise_10 (by decide) (fun c10 => ?_) (fun c10 => ?_)
  · skip
    refine lv_aload_n hx hb dX5_advise_19 rfl (lv_at hl 0 rfl) ?_
    refine va_get (D := z_DD G) (ci := 5) (v := .ref (am 7)) (C := RX5) (T := TX5) (N := 13) hx hb hts hi_RX5 hown hK hP 0 z_m0 rfl 10 (by decide) hf_RX5_28 (fun _ h9 => h9) rfl dX5_advise_20 ?_
    refine lv_iload_n hx hb dX5_advise_23 rfl (lv_at hl 1 rfl) ?_
    refine z_iald (k := t) (f := fun z9 => nI (ν 1 z9)) hx hb hK hP 7 0 z_m7 rfl ht6 (by decide) dX5_advise_24 ?_
    refine lv_iconst (v := nI 5) hx hb dX5_advise_25 (by decide) ?_
    refine lv_icmp_ne (tgt := 31) hx hb dX5_advise_26 (by decide) (fun c26 => ?_) (fun c26 => ?_)
    · skip
      refine lv_iconst (v := (-1)) hx hb dX5_advise_31 (by decide) ?_
      refine lv_istore_n (lv' := [(2, .int (-1)), (0, .ref (am 0)), (1, .int (nI t))]) hx hb dX5_advise_32 rfl hl (by decide) rfl (fun ls hl => ?_)
      refine lv_aload_n hx hb dX5_advise_33 rfl (lv_at hl 1 rfl) ?_
      refine lv_iload_n hx hb dX5_advise_34 rfl (lv_at hl 2 rfl) ?_
      refine lv_aload_n hx hb dX5_advise_35 rfl (lv_at hl 1 rfl) ?_
      refine va_get (D := z_DD G) (ci := 5) (v := .ref (am 9)) (C := RX5) (T := TX5) (N := 13) hx hb hts hi_RX5 hown hK hP 0 z_m0 rfl 12 (by decide) hf_RX5_34 (fun _ h9 => h9) rfl dX5_advise_36 ?_
      refine lv_iconst (v := 0) hx hb dX5_advise_39 (by decide) ?_
      refine z_iald (k := 0) (f := fun z9 => (z_up μ 8 1 0) 9 z9) hx hb hK hP 9 0 z_m9 rfl (by decide) (by decide) dX5_advise_40 ?_
      refine z_call (va_runV (As := [.int (nI t), .int ((z_up μ 8 1 0) 9 0)]) (rest := []) ⟨hx, hb, hml, hown, hts⟩ (c_X5_joyOf l G am (am 9) (z_up μ 8 1 0) ν hy t (Nat.lt_of_lt_of_le ht hy.2.1) ((z_up μ 8 1 0) 9 0)) (cwV 2 hts gX5_advise_X5_joyOf rfl rfl rfl (by decide +kernel) ⟨Nat.le_of_ble_eq_true rfl, Nat.le_of_ble_eq_true rfl⟩) (z_prW (ci := 5) (k := 0) hX hP (z_NM hP) rfl z_m0) rfl rfl hl.1 rfl (lv_room (Nat.le_of_ble_eq_true rfl)) dX5_advise_41 ⟨Nat.le_of_ble_eq_true rfl, Nat.le_of_ble_eq_true rfl⟩) (fun _ h9 => h9) ?_
      refine W.eq (g2 := F0 m 44 ls [.int (y_joy (z_up μ 8 1 0) ν t ((z_up μ 8 1 0) 9 0))]) rfl ?_
      refine lv_istore_n (lv' := [(3, .int (y_joy (z_up μ 8 1 0) ν t ((z_up μ 8 1 0) 9 0))), (2, .int (-1)), (0, .ref (am 0)), (1, .int (nI t))]) hx hb dX5_advise_44 rfl hl (by decide) rfl (fun ls hl => ?_)
      refine lv_iconst (v := nI 0) hx hb dX5_advise_45 (by decide) ?_
      refine lv_istore (lv' := [(4, .int (nI 0)), (3, .int (y_joy (z_up μ 8 1 0) ν t ((z_up μ 8 1 0) 9 0))), (2, .int (-1)), (0, .ref (am 0)), (1, .int (nI t))]) hx hb dX5_advise_46 hl (by decide) rfl (fun ls hl => ?_)
      have lp48 : ∀ (fu48 : Nat) (v : Nat), v ≤ ν 0 0 → ν 0 0 < v + fu48 → ∀ (H : Heap) (locs : List Loc), va_P (z_DD G) vwCl (z_wM G am (z_up μ 8 1 0) (y_aK ν t v)) H → va_S (z_A 10 am) s.heap H locs → ∀ (ls : Array Slot), lv_has ls 6 [(0, .ref (am 0)), (1, .int (nI t)), (2, .int ((y_aB (z_up μ 8 1 0) ν t v).1)), (3, .int ((y_aB (z_up μ 8 1 0) ν t v).2)), (4, .int (nI v))] → W p l e (headSpec wsX5_advise ({ frames := 5, cells := 0, slots := 0, locals := 114 } : Room)).room s m ([.ref (am 0), .int (nI t)] : List Value).toArray below meth c H locs 0 0 (MQ below (z_Qm G (some (.int (y_aB (z_up μ 8 1 0) ν t (ν 0 0)).1)) (z_wM G am (z_up μ 8 1 0) (y_aK ν t (ν 0 0))) (z_A 10 am)) ([.ref (am 0), .int (nI t)] : List Value).toArray s 0 0 (z_A 10 am)) (F0 m 48 ls []) := by
        intro fu48
        induction fu48 with
        | zero =>
          intro v h1 h2
          exfalso; omega
        | succ fu48 ih48 =>
          intro v h1 h2 H locs hP hS ls hl
          have hD := z_Dm hinj (z_cM G am (z_up μ 8 1 0) (y_aK ν t v))
          have hq := y_aK_ok hy ht6 g1 v h1
          refine lv_iload hx hb dX5_advise_48 (lv_at hl 4 rfl) ?_
          refine lv_aload_n hx hb dX5_advise_50 rfl (lv_at hl 0 rfl) ?_
          refine va_get (D := z_DD G) (ci := 5) (v := .int (nI ((y_aK ν t v) 0 0))) (C := RX5) (T := TX5) (N := 13) hx hb hts hi_RX5 hown hK hP 0 z_m0 rfl 1 (by decide) hf_RX5_41 (fun _ h9 => h9) rfl dX5_advise_51 ?_
          refine lv_icmp_ge (tgt := 141) hx hb dX5_advise_54 (by decide) (fun c54 => ?_) (fun c54 => ?_)
          · skip
            have hi : v = ν 0 0 := Nat.le_antisymm h1 (by have := hq.2.2 0; have := z_ge (by omega) (by omega) c54; omega)
            rw [show ((y_aB (z_up μ 8 1 0) ν t v).1 : Int32) = (y_aB (z_up μ 8 1 0) ν t (ν 0 0)).1 from by rw [hi]] at hl
            refine lv_iload_n hx hb dX5_advise_141 rfl (lv_at hl 2 rfl) ?_
            have hPf : va_P (z_DD G) vwCl (z_wM G am (z_up μ 8 1 0) (y_aK ν t (ν 0 0))) H := by rw [hi] at hP; exact hP
            refine z_iret hx hb hr hlocks dX5_advise_142 (fun t ht hW => ⟨rfl, by rw [ht]; exact hPf, hS.F ht⟩) hS.2.2 ?_
            rfl
          · skip
            have hi : v < ν 0 0 := by have := hq.2.2 0; have := z_ng (by omega) (by omega) c54; omega
            refine lv_aload_n hx hb dX5_advise_57 rfl (lv_at hl 0 rfl) ?_
            refine lv_iload_n hx hb dX5_advise_58 rfl (lv_at hl 1 rfl) ?_
            refine lv_iload hx hb dX5_advise_59 (lv_at hl 4 rfl) ?_
            refine z_call (va_runV (As := [.int (nI t), .int (nI v)]) (rest := []) ⟨hx, hb, hml, hown, hts⟩ (c_X5_has l G am (am 9) (z_up μ 8 1 0) (y_aK ν t v) hq.1 t v (Nat.lt_of_lt_of_le ht hy.2.1) (by have := hq.2.2 0; omega)) (cwV 2 hts gX5_advise_X5_has rfl rfl rfl (by decide +kernel) ⟨Nat.le_of_ble_eq_true rfl, Nat.le_of_ble_eq_true rfl⟩) (z_prW (ci := 5) (k := 0) hX hP (z_NM hP) rfl z_m0) rfl rfl hl.1 rfl (lv_room (Nat.le_of_ble_eq_true rfl)) dX5_advise_61 ⟨Nat.le_of_ble_eq_true rfl, Nat.le_of_ble_eq_true rfl⟩) (fun _ h9 => h9) ?_
            refine W.eq (g2 := F0 m 64 ls [.int (z_bi (y_has (y_aK ν t v) t v))]) rfl ?_
            refine lv_if_eq (tgt := 70) hx hb dX5_advise_64 (by decide) (fun c64 => ?_) (fun c64 => ?_)
            · skip
              refine lv_aload_n hx hb dX5_advise_70 rfl (lv_at hl 0 rfl) ?_
              refine va_get (D := z_DD G) (ci := 5) (v := .ref (am 8)) (C := RX5) (T := TX5) (N := 13) hx hb hts hi_RX5 hown hK hP 0 z_m0 rfl 11 (by decide) hf_RX5_31 (fun _ h9 => h9) rfl dX5_advise_71 ?_
              refine lv_iconst (v := nI 5) hx hb dX5_advise_74 (by decide) ?_
              refine lv_iload_n hx hb dX5_advise_75 rfl (lv_at hl 1 rfl) ?_
              refine lv_imul hx hb dX5_advise_76 ?_
              refine z_top (show (.int ((nI 5) * (nI t)) : Value) = .int (nI (5 * t)) from by rw [pk_mul]) ?_
              refine lv_aload_n hx hb dX5_advise_77 rfl (lv_at hl 0 rfl) ?_
              refine va_get (D := z_DD G) (ci := 5) (v := .ref (am 7)) (C := RX5) (T := TX5) (N := 13) hx hb hts hi_RX5 hown hK hP 0 z_m0 rfl 10 (by decide) hf_RX5_28 (fun _ h9 => h9) rfl dX5_advise_78 ?_
              refine lv_iload_n hx hb dX5_advise_81 rfl (lv_at hl 1 rfl) ?_
              refine z_iald (k := t) (f := fun z9 => nI ((y_aK ν t v) 1 z9)) hx hb hK hP 7 0 z_m7 rfl ht6 (by decide) dX5_advise_82 ?_
              refine lv_iadd hx hb dX5_advise_83 ?_
              refine z_top (show (.int ((nI (5 * t)) + (nI ((y_aK ν t v) 1 t))) : Value) = .int (nI ((5 * t) + ((y_aK ν t v) 1 t))) from by rw [nI_add]) ?_
              refine lv_iload hx hb dX5_advise_84 (lv_at hl 4 rfl) ?_
              refine va_iast (f := fun z9 => nI ((y_aK ν t v) 2 z9)) hx hb hK hP hD hS 8 0 z_m8 rfl (vp_in_nI (by have := hq.2.1; omega) (by omega)) dX5_advise_86 (fun H locs hP hD hS => ?_)
              have hP : va_P (z_DD G) vwCl (z_wM G am (z_up μ 8 1 0) (z_up (y_aK ν t v) 2 ((5 * t) + ((y_aK ν t v) 1 t)) v)) H := Eq.mp (congrArg (fun w => va_P (z_DD G) vwCl w H) (z_tA8 (by omega))) hP
              have hD := z_Dm hinj (z_cM G am (z_up μ 8 1 0) (z_up (y_aK ν t v) 2 ((5 * t) + ((y_aK ν t v) 1 t)) v))
              refine lv_aload_n hx hb dX5_advise_87 rfl (lv_at hl 0 rfl) ?_
              refine va_get (D := z_DD G) (ci := 5) (v := .ref (am 7)) (C := RX5) (T := TX5) (N := 13) hx hb hts hi_RX5 hown hK hP 0 z_m0 rfl 10 (by decide) hf_RX5_28 (fun _ h9 => h9) rfl dX5_advise_88 ?_
              refine lv_iload_n hx hb dX5_advise_91 rfl (lv_at hl 1 rfl) ?_
              refine lv_dup2_11 hx hb dX5_advise_92 rfl rfl ?_
              refine z_iald (k := t) (f := fun z9 => nI ((z_up (y_aK ν t v) 2 ((5 * t) + ((y_aK ν t v) 1 t)) v) 1 z9)) hx hb hK hP 7 0 z_m7 rfl ht6 (by decide) dX5_advise_93 ?_
              refine lv_iconst (v := 1) hx hb dX5_advise_94 (by decide) ?_
              refine lv_iadd hx hb dX5_advise_95 ?_
              refine z_top (show (.int ((nI ((z_up (y_aK ν t v) 2 ((5 * t) + ((y_aK ν t v) 1 t)) v) 1 t)) + 1) : Value) = .int (nI ((y_aK ν t v) 1 t + 1)) from by (show Value.int (nI ((y_aK ν t v) 1 t) + 1) = _; rw [nI_1])) ?_
              refine va_iast (f := fun z9 => nI ((z_up (y_aK ν t v) 2 ((5 * t) + ((y_aK ν t v) 1 t)) v) 1 z9)) hx hb hK hP hD hS 7 0 z_m7 rfl (vp_in_nI ht6 (by omega)) dX5_advise_96 (fun H locs hP hD hS => ?_)
              have hP : va_P (z_DD G) vwCl (z_wM G am (z_up μ 8 1 0) (z_up (z_up (y_aK ν t v) 2 ((5 * t) + ((y_aK ν t v) 1 t)) v) 1 t ((y_aK ν t v) 1 t + 1))) H := Eq.mp (congrArg (fun w => va_P (z_DD G) vwCl w H) (z_tA7 (by omega))) hP
              have hD := z_Dm hinj (z_cM G am (z_up μ 8 1 0) (z_up (z_up (y_aK ν t v) 2 ((5 * t) + ((y_aK ν t v) 1 t)) v) 1 t ((y_aK ν t v) 1 t + 1)))
              have hyA : y_wf μ (y_ap (y_aK ν t v) t v) := y_ap_wf hq.1 ht6 (by rw [hq.2.2]; exact hi) (by rw [hq.2.1]; exact g1)
              refine lv_aload_n hx hb dX5_advise_97 rfl (lv_at hl 0 rfl) ?_
              refine lv_iload_n hx hb dX5_advise_98 rfl (lv_at hl 1 rfl) ?_
              refine lv_aload_n hx hb dX5_advise_99 rfl (lv_at hl 0 rfl) ?_
              refine va_get (D := z_DD G) (ci := 5) (v := .ref (am 9)) (C := RX5) (T := TX5) (N := 13) hx hb hts hi_RX5 hown hK hP 0 z_m0 rfl 12 (by decide) hf_RX5_34 (fun _ h9 => h9) rfl dX5_advise_100 ?_
              refine lv_iconst (v := 0) hx hb dX5_advise_103 (by decide) ?_
              refine z_iald (k := 0) (f := fun z9 => (z_up μ 8 1 0) 9 z9) hx hb hK hP 9 0 z_m9 rfl (by decide) (by decide) dX5_advise_104 ?_
              refine z_call (va_runV (As := [.int (nI t), .int ((z_up μ 8 1 0) 9 0)]) (rest := []) ⟨hx, hb, hml, hown, hts⟩ (c_X5_joyOf l G am (am 9) (z_up μ 8 1 0) (z_up (z_up (y_aK ν t v) 2 ((5 * t) + ((y_aK ν t v) 1 t)) v) 1 t ((y_aK ν t v) 1 t + 1)) hyA t (Nat.lt_of_lt_of_le ht hy.2.1) ((z_up μ 8 1 0) 9 0)) (cwV 2 hts gX5_advise_X5_joyOf rfl rfl rfl (by decide +kernel) ⟨Nat.le_of_ble_eq_true rfl, Nat.le_of_ble_eq_true rfl⟩) (z_prW (ci := 5) (k := 0) hX hP (z_NM hP) rfl z_m0) rfl rfl hl.1 rfl (lv_room (Nat.le_of_ble_eq_true rfl)) dX5_advise_105 ⟨Nat.le_of_ble_eq_true rfl, Nat.le_of_ble_eq_true rfl⟩) (fun _ h9 => h9) ?_
              refine W.eq (g2 := F0 m 108 ls [.int (y_joy (z_up μ 8 1 0) (z_up (z_up (y_aK ν t v) 2 ((5 * t) + ((y_aK ν t v) 1 t)) v) 1 t ((y_aK ν t v) 1 t + 1)) t ((z_up μ 8 1 0) 9 0))]) rfl ?_
              refine z_top (show (.int (y_joy (z_up μ 8 1 0) (z_up (z_up (y_aK ν t v) 2 ((5 * t) + ((y_aK ν t v) 1 t)) v) 1 t ((y_aK ν t v) 1 t + 1)) t ((z_up μ 8 1 0) 9 0)) : Value) = .int (y_aJ (z_up μ 8 1 0) ν t v) from by rfl) ?_
              refine lv_istore (lv' := [(5, .int (y_aJ (z_up μ 8 1 0) ν t v)), (0, .ref (am 0)), (1, .int (nI t)), (2, .int ((y_aB (z_up μ 8 1 0) ν t v).1)), (3, .int ((y_aB (z_up μ 8 1 0) ν t v).2)), (4, .int (nI v))]) hx hb dX5_advise_108 hl (by decide) rfl (fun ls hl => ?_)
              refine lv_aload_n hx hb dX5_advise_110 rfl (lv_at hl 1 rfl) ?_
              refine va_get (D := z_DD G) (ci := 5) (v := .ref (am 7)) (C := RX5) (T := TX5) (N := 13) hx hb hts hi_RX5 hown hK hP 0 z_m0 rfl 10 (by decide) hf_RX5_28 (fun _ h9 => h9) rfl dX5_advise_111 ?_
              refine lv_iload_n hx hb dX5_advise_114 rfl (lv_at hl 2 rfl) ?_
              refine lv_dup2_11 hx hb dX5_advise_115 rfl rfl ?_
              refine z_iald (k := t) (f := fun z9 => nI ((z_up (z_up (y_aK ν t v) 2 ((5 * t) + ((y_aK ν t v) 1 t)) v) 1 t ((y_aK ν t v) 1 t + 1)) 1 z9)) hx hb hK hP 7 0 z_m7 rfl ht6 (by decide) dX5_advise_116 ?_
              refine lv_iconst (v := 1) hx hb dX5_advise_117 (by decide) ?_
              refine lv_isub hx hb dX5_advise_118 ?_
              refine z_top (show (.int ((nI ((z_up (z_up (y_aK ν t v) 2 ((5 * t) + ((y_aK ν t v) 1 t)) v) 1 t ((y_aK ν t v) 1 t + 1)) 1 t)) - 1) : Value) = .int (nI (y_ap (y_aK ν t v) t v 1 t - 1)) from by (show Value.int (nI (y_ap (y_aK ν t v) t v 1 t) - 1) = _; rw [show y_ap (y_aK ν t v) t v 1 t = (y_aK ν t v) 1 t + 1 from z_up_s _ _ _ _, nI_pred]; rfl)) ?_
              refine va_iast (f := fun z9 => nI ((z_up (z_up (y_aK ν t v) 2 ((5 * t) + ((y_aK ν t v) 1 t)) v) 1 t ((y_aK ν t v) 1 t + 1)) 1 z9)) hx hb hK hP hD hS 7 0 z_m7 rfl (vp_in_nI ht6 (by omega)) dX5_advise_119 (fun H locs hP hD hS => ?_)
              have hP : va_P (z_DD G) vwCl (z_wM G am (z_up μ 8 1 0) (z_up (z_up (z_up (y_aK ν t v) 2 ((5 * t) + ((y_aK ν t v) 1 t)) v) 1 t ((y_aK ν t v) 1 t + 1)) 1 t (y_ap (y_aK ν t v) t v 1 t - 1))) H := Eq.mp (congrArg (fun w => va_P (z_DD G) vwCl w H) (z_tA7 (by omega))) hP
              have hD := z_Dm hinj (z_cM G am (z_up μ 8 1 0) (z_up (z_up (z_up (y_aK ν t v) 2 ((5 * t) + ((y_aK ν t v) 1 t)) v) 1 t ((y_aK ν t v) 1 t + 1)) 1 t (y_ap (y_aK ν t v) t v 1 t - 1)))
              refine lv_iload hx hb dX5_advise_120 (lv_at hl 0 rfl) ?_
              refine lv_iload_n hx hb dX5_advise_122 rfl (lv_at hl 4 rfl) ?_
              refine lv_icmp_gt (tgt := 129) hx hb dX5_advise_123 (by decide) (fun c123 => ?_) (fun c123 => ?_)
              · skip
                refine lv_iload hx hb dX5_advise_129 (lv_at hl 0 rfl) ?_
                refine lv_istore_n (lv' := [(3, .int (y_aJ (z_up μ 8 1 0) ν t v)), (5, .int (y_aJ (z_up μ 8 1 0) ν t v)), (0, .ref (am 0)), (1, .int (nI t)), (2, .int ((y_aB (z_up μ 8 1 0) ν t v).1)), (4, .int (nI v))]) hx hb dX5_advise_131 rfl hl (by decide) rfl (fun ls hl => ?_)
                refine lv_iload hx hb dX5_advise_132 (lv_at hl 5 rfl) ?_
                refine lv_istore_n (lv' := [(2, .int (nI v)), (3, .int (y_aJ (z_up μ 8 1 0) ν t v)), (5, .int (y_aJ (z_up μ 8 1 0) ν t v)), (0, .ref (am 0)), (1, .int (nI t)), (4, .int (nI v))]) hx hb dX5_advise_134 rfl hl (by decide) rfl (fun ls hl => ?_)
                refine lv_iinc (v := nI (v + 1)) (lv' := [(4, .int (nI (v + 1))), (2, .int (nI v)), (3, .int (y_aJ (z_up μ 8 1 0) ν t v)), (5, .int (y_aJ (z_up μ 8 1 0) ν t v)), (0, .ref (am 0)), (1, .int (nI t))]) hx hb dX5_advise_135 hl (k := 5) rfl (z_inc _) (by decide) rfl (fun ls hl => ?_)
                refine lv_goto (tgt := 48) hx hb dX5_advise_138 (by decide) ?_
                -- back to 48
                rw [show (y_aJ (z_up μ 8 1 0) ν t v : Int32) = (y_aB (z_up μ 8 1 0) ν t (v + 1)).2 from by first | (rw [y_aB, if_pos (z_bi_t c64)]; done) | (rw [y_aB, if_neg (by rw [z_bi_f c64]; decide), if_pos c123]; done) | (rw [y_aB, if_neg (by rw [z_bi_f c64]; decide), if_neg c123])] at hl
                rw [show (nI v : Int32) = (y_aB (z_up μ 8 1 0) ν t (v + 1)).1 from by first | (rw [y_aB, if_pos (z_bi_t c64)]; done) | (rw [y_aB, if_neg (by rw [z_bi_f c64]; decide), if_pos c123]; done) | (rw [y_aB, if_neg (by rw [z_bi_f c64]; decide), if_neg c123])] at hl
                have hP : va_P (z_DD G) vwCl (z_wM G am (z_up μ 8 1 0) (y_aK ν t (v + 1))) H := by first | (rw [y_aK, if_pos (z_bi_t c64)]; exact hP) | (rw [y_aK, if_neg (by rw [z_bi_f c64]; decide)]; exact hP)
                exact ih48 (v + 1) (by omega) (by omega) _ _ hP hS ls (lv_sub hl [4, 5, 1, 2, 0] rfl)
              · skip
                refine lv_goto (tgt := 135) hx hb dX5_advise_126 (by decide) ?_
                refine lv_iinc (v := nI (v + 1)) (lv' := [(4, .int (nI (v + 1))), (5, .int (y_aJ (z_up μ 8 1 0) ν t v)), (0, .ref (am 0)), (1, .int (nI t)), (2, .int ((y_aB (z_up μ 8 1 0) ν t v).1)), (3, .int ((y_aB (z_up μ 8 1 0) ν t v).2))]) hx hb dX5_advise_135 hl (k := 5) rfl (z_inc _) (by decide) rfl (fun ls hl => ?_)
                refine lv_goto (tgt := 48) hx hb dX5_advise_138 (by decide) ?_
                -- back to 48
                rw [show ((y_aB (z_up μ 8 1 0) ν t v).2 : Int32) = (y_aB (z_up μ 8 1 0) ν t (v + 1)).2 from by first | (rw [y_aB, if_pos (z_bi_t c64)]; done) | (rw [y_aB, if_neg (by rw [z_bi_f c64]; decide), if_pos c123]; done) | (rw [y_aB, if_neg (by rw [z_bi_f c64]; decide), if_neg c123])] at hl
                rw [show ((y_aB (z_up μ 8 1 0) ν t v).1 : Int32) = (y_aB (z_up μ 8 1 0) ν t (v + 1)).1 from by first | (rw [y_aB, if_pos (z_bi_t c64)]; done) | (rw [y_aB, if_neg (by rw [z_bi_f c64]; decide), if_pos c123]; done) | (rw [y_aB, if_neg (by rw [z_bi_f c64]; decide), if_neg c123])] at hl
                have hP : va_P (z_DD G) vwCl (z_wM G am (z_up μ 8 1 0) (y_aK ν t (v + 1))) H := by first | (rw [y_aK, if_pos (z_bi_t c64)]; exact hP) | (rw [y_aK, if_neg (by rw [z_bi_f c64]; decide)]; exact hP)
                exact ih48 (v + 1) (by omega) (by omega) _ _ hP hS ls (lv_sub hl [2, 3, 4, 5, 0] rfl)
            · skip
              refine lv_goto (tgt := 135) hx hb dX5_advise_67 (by decide) ?_
              refine lv_iinc (v := nI (v + 1)) (lv' := [(4, .int (nI (v + 1))), (0, .ref (am 0)), (1, .int (nI t)), (2, .int ((y_aB (z_up μ 8 1 0) ν t v).1)), (3, .int ((y_aB (z_up μ 8 1 0) ν t v).2))]) hx hb dX5_advise_135 hl (k := 4) rfl (z_inc _) (by decide) rfl (fun ls hl => ?_)
              refine lv_goto (tgt := 48) hx hb dX5_advise_138 (by decide) ?_
              -- back to 48
              rw [show ((y_aB (z_up μ 8 1 0) ν t v).2 : Int32) = (y_aB (z_up μ 8 1 0) ν t (v + 1)).2 from by first | (rw [y_aB, if_pos (z_bi_t c64)]; done) | (rw [y_aB, if_neg (by rw [z_bi_f c64]; decide), if_pos c123]; done) | (rw [y_aB, if_neg (by rw [z_bi_f c64]; decide), if_neg c123])] at hl
              rw [show ((y_aB (z_up μ 8 1 0) ν t v).1 : Int32) = (y_aB (z_up μ 8 1 0) ν t (v + 1)).1 from by first | (rw [y_aB, if_pos (z_bi_t c64)]; done) | (rw [y_aB, if_neg (by rw [z_bi_f c64]; decide), if_pos c123]; done) | (rw [y_aB, if_neg (by rw [z_bi_f c64]; decide), if_neg c123])] at hl
              have hP : va_P (z_DD G) vwCl (z_wM G am (z_up μ 8 1 0) (y_aK ν t (v + 1))) H := by first | (rw [y_aK, if_pos (z_bi_t c64)]; exact hP) | (rw [y_aK, if_neg (by rw [z_bi_f c64]; decide)]; exact hP)
              exact ih48 (v + 1) (by omega) (by omega) _ _ hP hS ls (lv_sub hl [1, 2, 3, 4, 0] rfl)
      rw [show ((-1) : Int32) = (y_aB (z_up μ 8 1 0) ν t 0).1 from by rfl] at hl
      rw [show (y_joy (z_up μ 8 1 0) ν t ((z_up μ 8 1 0) 9 0) : Int32) = (y_aB (z_up μ 8 1 0) ν t 0).2 from by rfl] at hl
      exact lp48 (ν 0 0 + 1) 0 (by omega) (by omega) _ _ hP hS ls (lv_sub hl [3, 4, 2, 1, 0] rfl)
    · skip
      exact absurd ((nI_eq (by omega) (by decide)).mp c26) (by omega)
  · skip
    exact absurd c10 (z_iv_t ht (by omega))

set_option maxHeartbeats 4000000 in
set_option maxRecDepth 100000 in
theorem c_X5_advise_full (l : Launch) (G : z_GT) (am : Nat → Nat) (μ : Nat → Nat → Int32) (ν : Nat → Nat → Nat) (hinj : ∀ i j, i < 10 → j < 10 → am i = am j → i = j) (hy : y_wf μ ν) (t : Nat) (ht : t < ν 0 1) (g1 : ν 1 t = 5) : Met l yX5_advise wsX5_advise ({ frames := 5, cells := 0, slots := 0, locals := 114 } : Room) (z_Pr G [.ref (am 0), .int (nI t)] (z_wM G am μ ν)) (z_Qm G (some (.int (-1))) (z_wM G am (z_up μ 8 1 0) ν) (z_A 10 am)) 0 0 (z_A 10 am) := by
  refine Met.ofW (cc := cX5_advise) (maxL := 6) (ret := (some .int)) (by decide) rfl ?_
  intro p e s m args below meth c s₁ B hml hw0
  obtain ⟨rfl, hX, hP⟩ := hw0
  have hK := hX.1
  have hx := B.exec
  have hb := B.bytes
  have hr := B.returns
  have hts := atoms_spec (ws := wsX5_advise) B.pre
  have hown : s.vm.findClass RX5 = some m.cls := findClass_of_methodNamed B.named
  have hlocks := B.notSynchronized
  have hl := lv_entry ([.ref (am 0), .int (nI t)]) (n := 6) (Nat.le_of_ble_eq_true rfl)
  rw [lg_entry_eq]
  generalize (lg_sl ([.ref (am 0), .int (nI t)]) ++ List.replicate (6 - (lg_sl ([.ref (am 0), .int (nI t)])).length) Slot.unset).toArray = ls at hl ⊢
  have hl : lv_has ls 6 [(0, .ref (am 0)), (1, .int (nI t))] := hl
  have hf_RX5_28 : (Cond.fieldLink RX5 28 "BlossomToursModel" "many" "[I").before ([.ref (am 0), .int (nI t)] : List Value).toArray s = true := hts _ (by decide +kernel)
  have hf_RX5_37 : (Cond.fieldLink RX5 37 "BlossomToursModel" "thrown" "I").before ([.ref (am 0), .int (nI t)] : List Value).toArray s = true := hts _ (by decide +kernel)
  have hi_RX5 : ∀ w ∈ u_ws RX5 TX5 13, w ∈ wsX5_advise := by decide +kernel
  have hm6 := hy.2.1
  have hS : va_S (z_A 10 am) s.heap s.heap [] := va_S.rf
  have hD := z_Dm hinj (z_cM G am μ ν)
  refine lv_aload_n hx hb dX5_advise_0 rfl (lv_at hl 0 rfl) ?_
  refine lv_iconst (v := 0) hx hb dX5_advise_1 (by decide) ?_
  refine va_put (D := z_DD G) (ci := 5) (v := .int 0) (ty := .int) (C := RX5) (T := TX5) (N := 13) hx hb hts hi_RX5 tyX5 tyX5_ok nmX5 hown hK hP hD hS 0 z_m0 rfl 0 (by decide) hf_RX5_37 (fun _ h9 => h9) rfl (by decide +kernel) rfl rfl (Nat.le_of_ble_eq_true rfl) dX5_advise_2 (fun H locs hP hD hS => ?_)
  have hP : va_P (z_DD G) vwCl (z_wM G am (z_up μ 8 1 0) ν) H := Eq.mp (congrArg (fun w => va_P (z_DD G) vwCl w H) z_tM0) hP
  have hD := z_Dm hinj (z_cM G am (z_up μ 8 1 0) ν)
  refine lv_aload_n hx hb dX5_advise_5 rfl (lv_at hl 0 rfl) ?_
  refine lv_iload_n hx hb dX5_advise_6 rfl (lv_at hl 1 rfl) ?_
  refine z_call (va_runV (As := [.int (nI t)]) (rest := []) ⟨hx, hb, hml, hown, hts⟩ (c_X5_isTour l G am (am 9) (z_up μ 8 1 0) ν (nI t)) (cwV 1 hts gX5_advise_X5_isTour rfl rfl rfl (by decide +kernel) ⟨Nat.le_of_ble_eq_true rfl, Nat.le_of_ble_eq_true rfl⟩) (z_prW (ci := 5) (k := 0) hX hP (z_NM hP) rfl z_m0) rfl rfl hl.1 rfl (lv_room (Nat.le_of_ble_eq_true rfl)) dX5_advise_7 ⟨Nat.le_of_ble_eq_true rfl, Nat.le_of_ble_eq_true rfl⟩) (fun _ h9 => h9) ?_
  refine W.eq (g2 := F0 m 10 ls [.int (z_wi (nI t) 0 (nI (ν 0 1) - 1))]) rfl ?_
  refine lv_if_ne (tgt := 19) hx hb dX5_advise_10 (by decide) (fun c10 => ?_) (fun c10 => ?_)
  · skip
    refine lv_aload_n hx hb dX5_advise_19 rfl (lv_at hl 0 rfl) ?_
    refine va_get (D := z_DD G) (ci := 5) (v := .ref (am 7)) (C := RX5) (T := TX5) (N := 13) hx hb hts hi_RX5 hown hK hP 0 z_m0 rfl 10 (by decide) hf_RX5_28 (fun _ h9 => h9) rfl dX5_advise_20 ?_
    refine lv_iload_n hx hb dX5_advise_23 rfl (lv_at hl 1 rfl) ?_
    refine z_iald (k := t) (f := fun z9 => nI (ν 1 z9)) hx hb hK hP 7 0 z_m7 rfl (Nat.lt_of_lt_of_le ht hy.2.1) (by decide) dX5_advise_24 ?_
    refine lv_iconst (v := nI 5) hx hb dX5_advise_25 (by decide) ?_
    refine lv_icmp_ne (tgt := 31) hx hb dX5_advise_26 (by decide) (fun c26 => ?_) (fun c26 => ?_)
    · skip
      exact absurd (show nI (ν 1 t) = nI 5 by rw [g1]) c26
    · skip
      refine lv_iconst (v := (-1)) hx hb dX5_advise_29 (by decide) ?_
      have hPf : va_P (z_DD G) vwCl (z_wM G am (z_up μ 8 1 0) ν) H := by exact hP
      refine z_iret hx hb hr hlocks dX5_advise_30 (fun t ht hW => ⟨rfl, by rw [ht]; exact hPf, hS.F ht⟩) hS.2.2 ?_
      rfl
  · skip
    exact absurd c10 (z_iv_t ht (by omega))

set_option maxHeartbeats 4000000 in
set_option maxRecDepth 100000 in
theorem x_X5_advise_1 (l : Launch) (G : z_GT) (am : Nat → Nat) (μ : Nat → Nat → Int32) (ν : Nat → Nat → Nat) (hinj : ∀ i j, i < 10 → j < 10 → am i = am j → i = j) (hm6 : ν 0 1 ≤ 6) (v : Int32) (h : v < 0 ∨ ¬ v < nI (ν 0 1)) : Met l yX5_advise wsX5_advise ({ frames := 5, cells := 0, slots := 0, locals := 114 } : Room) (z_Pr G [.ref (am 0), .int v] (z_wM G am μ ν)) (z_Qm G (some (.int 0)) (z_wM G am (y_no μ 1) ν) (z_A 10 am)) 0 0 (z_A 10 am) := by
  refine Met.ofW (cc := cX5_advise) (maxL := 6) (ret := (some .int)) (by decide) rfl ?_
  intro p e s m args below meth c s₁ B hml hw0
  obtain ⟨rfl, hX, hP⟩ := hw0
  have hK := hX.1
  have hx := B.exec
  have hb := B.bytes
  have hr := B.returns
  have hts := atoms_spec (ws := wsX5_advise) B.pre
  have hown : s.vm.findClass RX5 = some m.cls := findClass_of_methodNamed B.named
  have hlocks := B.notSynchronized
  have hl := lv_entry ([.ref (am 0), .int v]) (n := 6) (Nat.le_of_ble_eq_true rfl)
  rw [lg_entry_eq]
  generalize (lg_sl ([.ref (am 0), .int v]) ++ List.replicate (6 - (lg_sl ([.ref (am 0), .int v])).length) Slot.unset).toArray = ls at hl ⊢
  have hl : lv_has ls 6 [(0, .ref (am 0)), (1, .int v)] := hl
  have hf_RX5_37 : (Cond.fieldLink RX5 37 "BlossomToursModel" "thrown" "I").before ([.ref (am 0), .int v] : List Value).toArray s = true := hts _ (by decide +kernel)
  have hi_RX5 : ∀ w ∈ u_ws RX5 TX5 13, w ∈ wsX5_advise := by decide +kernel
  have hS : va_S (z_A 10 am) s.heap s.heap [] := va_S.rf
  have hD := z_Dm hinj (z_cM G am μ ν)
  refine lv_aload_n hx hb dX5_advise_0 rfl (lv_at hl 0 rfl) ?_
  refine lv_iconst (v := 0) hx hb dX5_advise_1 (by decide) ?_
  refine va_put (D := z_DD G) (ci := 5) (v := .int 0) (ty := .int) (C := RX5) (T := TX5) (N := 13) hx hb hts hi_RX5 tyX5 tyX5_ok nmX5 hown hK hP hD hS 0 z_m0 rfl 0 (by decide) hf_RX5_37 (fun _ h9 => h9) rfl (by decide +kernel) rfl rfl (Nat.le_of_ble_eq_true rfl) dX5_advise_2 (fun H locs hP hD hS => ?_)
  have hP : va_P (z_DD G) vwCl (z_wM G am (z_up μ 8 1 0) ν) H := Eq.mp (congrArg (fun w => va_P (z_DD G) vwCl w H) z_tM0) hP
  have hD := z_Dm hinj (z_cM G am (z_up μ 8 1 0) ν)
  refine lv_aload_n hx hb dX5_advise_5 rfl (lv_at hl 0 rfl) ?_
  refine lv_iload_n hx hb dX5_advise_6 rfl (lv_at hl 1 rfl) ?_
  refine z_call (va_runV (As := [.int v]) (rest := []) ⟨hx, hb, hml, hown, hts⟩ (c_X5_isTour l G am (am 9) (z_up μ 8 1 0) ν v) (cwV 1 hts gX5_advise_X5_isTour rfl rfl rfl (by decide +kernel) ⟨Nat.le_of_ble_eq_true rfl, Nat.le_of_ble_eq_true rfl⟩) (z_prW (ci := 5) (k := 0) hX hP (z_NM hP) rfl z_m0) rfl rfl hl.1 rfl (lv_room (Nat.le_of_ble_eq_true rfl)) dX5_advise_7 ⟨Nat.le_of_ble_eq_true rfl, Nat.le_of_ble_eq_true rfl⟩) (fun _ h9 => h9) ?_
  refine W.eq (g2 := F0 m 10 ls [.int (z_wi v 0 (nI (ν 0 1) - 1))]) rfl ?_
  refine lv_if_ne (tgt := 19) hx hb dX5_advise_10 (by decide) (fun c10 => ?_) (fun c10 => ?_)
  · skip
    exact absurd (z_iv_f (by omega) h) c10
  · skip
    refine lv_aload_n hx hb dX5_advise_13 rfl (lv_at hl 0 rfl) ?_
    refine lv_iconst (v := 1) hx hb dX5_advise_14 (by decide) ?_
    refine z_callm (va_runV (As := [.int 1]) (rest := []) ⟨hx, hb, hml, hown, hts⟩ (c_X5_no l G am (z_up μ 8 1 0) ν hinj 1) (cwV 1 hts gX5_advise_X5_no rfl rfl rfl (by decide +kernel) ⟨Nat.le_of_ble_eq_true rfl, Nat.le_of_ble_eq_true rfl⟩) (z_prV (ci := 5) (k := 0) hX hP rfl z_m0) rfl rfl hl.1 rfl (lv_room (Nat.le_of_ble_eq_true rfl)) dX5_advise_15 ⟨Nat.le_of_ble_eq_true rfl, Nat.le_of_ble_eq_true rfl⟩) hS (fun _ _ h9 => h9) (fun _ h9 => h9) (fun H locs hP hz9 hk9 hS => ?_)
    have hD := z_Dm hinj (z_cM G am (z_up (z_up μ 8 1 0) 8 1 1) ν)
    refine W.eq (g2 := F0 m 18 ls [.int 0]) rfl ?_
    have hPf : va_P (z_DD G) vwCl (z_wM G am (y_no μ 1) ν) H := by exact hP
    refine z_iret hx hb hr hlocks dX5_advise_18 (fun t ht hW => ⟨rfl, by rw [ht]; exact hPf, hS.F ht⟩) hS.2.2 ?_
    rfl

set_option maxHeartbeats 4000000 in
set_option maxRecDepth 100000 in
theorem c_X5_mean (l : Launch) (G : z_GT) (am : Nat → Nat) (μ : Nat → Nat → Int32) (ν : Nat → Nat → Nat) (hinj : ∀ i j, i < 10 → j < 10 → am i = am j → i = j) (hy : y_wf μ ν) : Met l yX5_mean wsX5_mean ({ frames := 2, cells := 0, slots := 0, locals := 44 } : Room) (z_Pr G [.ref (am 0)] (z_wM G am μ ν)) (z_Qm G (some (.double (y_me μ ν))) (z_wM G am (z_up μ 8 1 0) ν) (z_A 10 am)) 0 0 (z_A 10 am) := by
  refine Met.ofW (cc := cX5_mean) (maxL := 3) (ret := (some .double)) (by decide) rfl ?_
  intro p e s m args below meth c s₁ B hml hw0
  obtain ⟨rfl, hX, hP⟩ := hw0
  have hK := hX.1
  have hx := B.exec
  have hb := B.bytes
  have hr := B.returns
  have hts := atoms_spec (ws := wsX5_mean) B.pre
  have hown : s.vm.findClass RX5 = some m.cls := findClass_of_methodNamed B.named
  have hlocks := B.notSynchronized
  have hl := lv_entry ([.ref (am 0)]) (n := 3) (Nat.le_of_ble_eq_true rfl)
  rw [lg_entry_eq]
  generalize (lg_sl ([.ref (am 0)]) ++ List.replicate (3 - (lg_sl ([.ref (am 0)])).length) Slot.unset).toArray = ls at hl ⊢
  have hl : lv_has ls 3 [(0, .ref (am 0))] := hl
  have hf_RX5_34 : (Cond.fieldLink RX5 34 "BlossomToursModel" "numbers" "[I").before ([.ref (am 0)] : List Value).toArray s = true := hts _ (by decide +kernel)
  have hf_RX5_37 : (Cond.fieldLink RX5 37 "BlossomToursModel" "thrown" "I").before ([.ref (am 0)] : List Value).toArray s = true := hts _ (by decide +kernel)
  have hf_RX5_41 : (Cond.fieldLink RX5 41 "BlossomToursModel" "valleys" "I").before ([.ref (am 0)] : List Value).toArray s = true := hts _ (by decide +kernel)
  have hi_RX5 : ∀ w ∈ u_ws RX5 TX5 13, w ∈ wsX5_mean := by decide +kernel
  have hn8 := hy.1
  have hS : va_S (z_A 10 am) s.heap s.heap [] := va_S.rf
  have hD := z_Dm hinj (z_cM G am μ ν)
  refine lv_aload_n hx hb dX5_mean_0 rfl (lv_at hl 0 rfl) ?_
  refine lv_iconst (v := 0) hx hb dX5_mean_1 (by decide) ?_
  refine va_put (D := z_DD G) (ci := 5) (v := .int 0) (ty := .int) (C := RX5) (T := TX5) (N := 13) hx hb hts hi_RX5 tyX5 tyX5_ok nmX5 hown hK hP hD hS 0 z_m0 rfl 0 (by decide) hf_RX5_37 (fun _ h9 => h9) rfl (by decide +kernel) rfl rfl (Nat.le_of_ble_eq_true rfl) dX5_mean_2 (fun H locs hP hD hS => ?_)
  have hP : va_P (z_DD G) vwCl (z_wM G am (z_up μ 8 1 0) ν) H := Eq.mp (congrArg (fun w => va_P (z_DD G) vwCl w H) z_tM0) hP
  have hD := z_Dm hinj (z_cM G am (z_up μ 8 1 0) ν)
  refine lv_iconst (v := 0) hx hb dX5_mean_5 (by decide) ?_
  refine lv_istore_n (lv' := [(1, .int 0), (0, .ref (am 0))]) hx hb dX5_mean_6 rfl hl (by decide) rfl (fun ls hl => ?_)
  refine lv_iconst (v := nI 0) hx hb dX5_mean_7 (by decide) ?_
  refine lv_istore_n (lv' := [(2, .int (nI 0)), (1, .int 0), (0, .ref (am 0))]) hx hb dX5_mean_8 rfl hl (by decide) rfl (fun ls hl => ?_)
  have lp9 : ∀ (fu9 : Nat) (v : Nat), v ≤ ν 0 0 → ν 0 0 < v + fu9 → ∀ (ls : Array Slot), lv_has ls 3 [(0, .ref (am 0)), (1, .int (z_sm (fun v => y_bl (μ 0 v) (μ 1 v) (μ 9 0)) v)), (2, .int (nI v))] → W p l e (headSpec wsX5_mean ({ frames := 2, cells := 0, slots := 0, locals := 44 } : Room)).room s m ([.ref (am 0)] : List Value).toArray below meth c H locs 0 0 (MQ below (z_Qm G (some (.double (y_me μ ν))) (z_wM G am (z_up μ 8 1 0) ν) (z_A 10 am)) ([.ref (am 0)] : List Value).toArray s 0 0 (z_A 10 am)) (F0 m 9 ls []) := by
    intro fu9
    induction fu9 with
    | zero =>
      intro v h1 h2
      exfalso; omega
    | succ fu9 ih9 =>
      intro v h1 h2 ls hl
      refine lv_iload_n hx hb dX5_mean_9 rfl (lv_at hl 2 rfl) ?_
      refine lv_aload_n hx hb dX5_mean_10 rfl (lv_at hl 0 rfl) ?_
      refine va_get (D := z_DD G) (ci := 5) (v := .int (nI (ν 0 0))) (C := RX5) (T := TX5) (N := 13) hx hb hts hi_RX5 hown hK hP 0 z_m0 rfl 1 (by decide) hf_RX5_41 (fun _ h9 => h9) rfl dX5_mean_11 ?_
      refine lv_icmp_ge (tgt := 37) hx hb dX5_mean_14 (by decide) (fun c14 => ?_) (fun c14 => ?_)
      · skip
        have hi : v = ν 0 0 := Nat.le_antisymm h1 (z_ge (by omega) (by omega) c14)
        rw [show (z_sm (fun v => y_bl (μ 0 v) (μ 1 v) (μ 9 0)) v : Int32) = z_sm (fun v => y_bl (μ 0 v) (μ 1 v) (μ 9 0)) (ν 0 0) from by rw [hi]] at hl
        refine lv_aload_n hx hb dX5_mean_37 rfl (lv_at hl 0 rfl) ?_
        refine va_get (D := z_DD G) (ci := 5) (v := .int (nI (ν 0 0))) (C := RX5) (T := TX5) (N := 13) hx hb hts hi_RX5 hown hK hP 0 z_m0 rfl 1 (by decide) hf_RX5_41 (fun _ h9 => h9) rfl dX5_mean_38 ?_
        refine lv_if_ne (tgt := 48) hx hb dX5_mean_41 (by decide) (fun c41 => ?_) (fun c41 => ?_)
        · skip
          refine lv_iload_n hx hb dX5_mean_48 rfl (lv_at hl 1 rfl) ?_
          refine lv_i2d hx hb dX5_mean_49 ?_
          refine lv_aload_n hx hb dX5_mean_50 rfl (lv_at hl 0 rfl) ?_
          refine va_get (D := z_DD G) (ci := 5) (v := .int (nI (ν 0 0))) (C := RX5) (T := TX5) (N := 13) hx hb hts hi_RX5 hown hK hP 0 z_m0 rfl 1 (by decide) hf_RX5_41 (fun _ h9 => h9) rfl dX5_mean_51 ?_
          refine lv_i2d hx hb dX5_mean_54 ?_
          refine lv_ddiv hx hb dX5_mean_55 (z_nan _ c41) ?_
          have hPf : va_P (z_DD G) vwCl (z_wM G am (z_up μ 8 1 0) ν) H := by exact hP
          refine z_top (show (.double (FP.ddiv (FP.i2d (z_sm (fun v => y_bl (μ 0 v) (μ 1 v) (μ 9 0)) (ν 0 0))) (FP.i2d (nI (ν 0 0)))) : Value) = .double (y_me μ ν) from congrArg Value.double (by first | (unfold y_me; rw [if_pos c41]; done) | (unfold y_me; rw [if_neg (fun q => q c41)]))) ?_
          exact W.dret hx hb hr (fun t ht hW => ⟨rfl, by rw [ht]; exact hPf, hS.F ht⟩) hS.2.2 dX5_mean_56
        · skip
          refine lv_dconst0 hx hb dX5_mean_44 ?_
          refine lv_goto (tgt := 56) hx hb dX5_mean_45 (by decide) ?_
          have hPf : va_P (z_DD G) vwCl (z_wM G am (z_up μ 8 1 0) ν) H := by exact hP
          refine z_top (show (.double FP.dconst0 : Value) = .double (y_me μ ν) from congrArg Value.double (by first | (unfold y_me; rw [if_pos c41]; done) | (unfold y_me; rw [if_neg (fun q => q c41)]))) ?_
          exact W.dret hx hb hr (fun t ht hW => ⟨rfl, by rw [ht]; exact hPf, hS.F ht⟩) hS.2.2 dX5_mean_56
      · skip
        have hi := z_ng (by omega) (by omega) c14
        refine lv_iload_n hx hb dX5_mean_17 rfl (lv_at hl 1 rfl) ?_
        refine lv_aload_n hx hb dX5_mean_18 rfl (lv_at hl 0 rfl) ?_
        refine lv_iload_n hx hb dX5_mean_19 rfl (lv_at hl 2 rfl) ?_
        refine lv_aload_n hx hb dX5_mean_20 rfl (lv_at hl 0 rfl) ?_
        refine va_get (D := z_DD G) (ci := 5) (v := .ref (am 9)) (C := RX5) (T := TX5) (N := 13) hx hb hts hi_RX5 hown hK hP 0 z_m0 rfl 12 (by decide) hf_RX5_34 (fun _ h9 => h9) rfl dX5_mean_21 ?_
        refine lv_iconst (v := 0) hx hb dX5_mean_24 (by decide) ?_
        refine z_iald (k := 0) (f := fun z9 => (z_up μ 8 1 0) 9 z9) hx hb hK hP 9 0 z_m9 rfl (by decide) (by decide) dX5_mean_25 ?_
        refine z_call (va_runV (As := [.int (nI v), .int ((z_up μ 8 1 0) 9 0)]) (rest := [.int (z_sm (fun v => y_bl (μ 0 v) (μ 1 v) (μ 9 0)) v)]) ⟨hx, hb, hml, hown, hts⟩ (c_X5_blooms l G am (am 9) (z_up μ 8 1 0) ν v ((z_up μ 8 1 0) 9 0) (by omega) (hy.2.2.2.2.1 v hi)) (cwV 2 hts gX5_mean_X5_blooms rfl rfl rfl (by decide +kernel) ⟨Nat.le_of_ble_eq_true rfl, Nat.le_of_ble_eq_true rfl⟩) (z_prW (ci := 5) (k := 0) hX hP (z_NM hP) rfl z_m0) rfl rfl hl.1 rfl (lv_room (Nat.le_of_ble_eq_true rfl)) dX5_mean_26 ⟨Nat.le_of_ble_eq_true rfl, Nat.le_of_ble_eq_true rfl⟩) (fun _ h9 => h9) ?_
        refine W.eq (g2 := F0 m 29 ls [.int (y_bl ((z_up μ 8 1 0) 0 v) ((z_up μ 8 1 0) 1 v) ((z_up μ 8 1 0) 9 0)), .int (z_sm (fun v => y_bl (μ 0 v) (μ 1 v) (μ 9 0)) v)]) rfl ?_
        refine lv_iadd hx hb dX5_mean_29 ?_
        refine lv_istore_n (lv' := [(1, .int ((z_sm (fun v => y_bl (μ 0 v) (μ 1 v) (μ 9 0)) v) + (y_bl ((z_up μ 8 1 0) 0 v) ((z_up μ 8 1 0) 1 v) ((z_up μ 8 1 0) 9 0)))), (0, .ref (am 0)), (2, .int (nI v))]) hx hb dX5_mean_30 rfl hl (by decide) rfl (fun ls hl => ?_)
        refine lv_iinc (v := nI (v + 1)) (lv' := [(2, .int (nI (v + 1))), (1, .int ((z_sm (fun v => y_bl (μ 0 v) (μ 1 v) (μ 9 0)) v) + (y_bl ((z_up μ 8 1 0) 0 v) ((z_up μ 8 1 0) 1 v) ((z_up μ 8 1 0) 9 0)))), (0, .ref (am 0))]) hx hb dX5_mean_31 hl (k := 2) rfl (z_inc _) (by decide) rfl (fun ls hl => ?_)
        refine lv_goto (tgt := 9) hx hb dX5_mean_34 (by decide) ?_
        -- back to 9
        rw [show ((z_sm (fun v => y_bl (μ 0 v) (μ 1 v) (μ 9 0)) v) + (y_bl ((z_up μ 8 1 0) 0 v) ((z_up μ 8 1 0) 1 v) ((z_up μ 8 1 0) 9 0)) : Int32) = z_sm (fun v => y_bl (μ 0 v) (μ 1 v) (μ 9 0)) (v + 1) from by rfl] at hl
        exact ih9 (v + 1) (by omega) (by omega) ls (lv_sub hl [2, 1, 0] rfl)
  rw [show (0 : Int32) = z_sm (fun v => y_bl (μ 0 v) (μ 1 v) (μ 9 0)) 0 from by rfl] at hl
  exact lp9 (ν 0 0 + 1) 0 (by omega) (by omega) ls (lv_sub hl [2, 1, 0] rfl)
