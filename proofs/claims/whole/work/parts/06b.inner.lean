/-! Part 06b: crowds and days. -/
set_option maxHeartbeats 4000000 in
set_option maxRecDepth 100000 in
theorem c_X4_joinCrowds (l : Launch) (G : z_GT) (ad : Nat → Nat) (σ : Nat → Nat → Int32) (κ : Nat → Nat → Nat) (hinj : ∀ i j, i < 36 → j < 36 → ad i = ad j → i = j) (hw : z_wf κ) (t : Nat) (ht : t < 6) : Met l yX4_joinCrowds wsX4_joinCrowds ({ frames := 1, cells := 0, slots := 0, locals := 22 } : Room) (z_Pr G [.ref (ad 0), .ref (ad (16 + t))] (z_wC G ad σ κ)) (z_Qm G none (z_wC G ad (z_jc σ κ t (κ 0 0)) κ) (z_A 36 ad)) 0 0 (z_A 36 ad) := by
  refine Met.ofW (cc := cX4_joinCrowds) (maxL := 3) (ret := none) (by decide) rfl ?_
  intro p e s m args below meth c s₁ B hml hw0
  obtain ⟨rfl, hX, hP⟩ := hw0
  have hK := hX.1
  have hx := B.exec
  have hb := B.bytes
  have hr := B.returns
  have hts := atoms_spec (ws := wsX4_joinCrowds) B.pre
  have hown : s.vm.findClass RX4 = some m.cls := findClass_of_methodNamed B.named
  have hlocks := B.notSynchronized
  have hl := lv_entry ([.ref (ad 0), .ref (ad (16 + t))]) (n := 3) (Nat.le_of_ble_eq_true rfl)
  rw [lg_entry_eq]
  generalize (lg_sl ([.ref (ad 0), .ref (ad (16 + t))]) ++ List.replicate (3 - (lg_sl ([.ref (ad 0), .ref (ad (16 + t))])).length) Slot.unset).toArray = ls at hl ⊢
  have hl : lv_has ls 3 [(0, .ref (ad 0)), (1, .ref (ad (16 + t)))] := hl
  have hf_RX4_11 : (Cond.fieldLink RX4 11 "BlossomTours" "valleys" "[LBlossomTours$Valley;").before ([.ref (ad 0), .ref (ad (16 + t))] : List Value).toArray s = true := hts _ (by decide +kernel)
  have hf_RX4_59 : (Cond.fieldLink RX4 59 "BlossomTours" "valleyCount" "I").before ([.ref (ad 0), .ref (ad (16 + t))] : List Value).toArray s = true := hts _ (by decide +kernel)
  have hi_RX2 : ∀ w ∈ u_ws RX2 TX2 4, w ∈ wsX4_joinCrowds := by decide +kernel
  have hi_RX3 : ∀ w ∈ u_ws RX3 TX3 5, w ∈ wsX4_joinCrowds := by decide +kernel
  have hi_RX4 : ∀ w ∈ u_ws RX4 TX4 9, w ∈ wsX4_joinCrowds := by decide +kernel
  have hn := hw.1
  have hS : va_S (z_A 36 ad) s.heap s.heap [] := va_S.rf
  have hD := z_Dm hinj (z_cC G ad σ κ)
  refine lv_iconst (v := nI 0) hx hb dX4_joinCrowds_0 (by decide) ?_
  refine lv_istore_n (lv' := [(2, .int (nI 0)), (0, .ref (ad 0)), (1, .ref (ad (16 + t)))]) hx hb dX4_joinCrowds_1 rfl hl (by decide) rfl (fun ls hl => ?_)
  have lp2 : ∀ (fu2 : Nat) (v : Nat), v ≤ κ 0 0 → κ 0 0 < v + fu2 → ∀ (H : Heap) (locs : List Loc), va_P (z_DD G) vwCl (z_wC G ad (z_jc σ κ t v) κ) H → va_S (z_A 36 ad) s.heap H locs → ∀ (ls : Array Slot), lv_has ls 3 [(0, .ref (ad 0)), (1, .ref (ad (16 + t))), (2, .int (nI v))] → W p l e (headSpec wsX4_joinCrowds ({ frames := 1, cells := 0, slots := 0, locals := 22 } : Room)).room s m ([.ref (ad 0), .ref (ad (16 + t))] : List Value).toArray below meth c H locs 0 0 (MQ below (z_Qm G none (z_wC G ad (z_jc σ κ t (κ 0 0)) κ) (z_A 36 ad)) ([.ref (ad 0), .ref (ad (16 + t))] : List Value).toArray s 0 0 (z_A 36 ad)) (F0 m 2 ls []) := by
    intro fu2
    induction fu2 with
    | zero =>
      intro v h1 h2
      exfalso; omega
    | succ fu2 ih2 =>
      intro v h1 h2 H locs hP hS ls hl
      have hD := z_Dm hinj (z_cC G ad (z_jc σ κ t v) κ)
      refine lv_iload_n hx hb dX4_joinCrowds_2 rfl (lv_at hl 2 rfl) ?_
      refine lv_aload_n hx hb dX4_joinCrowds_3 rfl (lv_at hl 0 rfl) ?_
      refine va_get (D := z_DD G) (ci := 4) (v := .int (nI (κ 0 0))) (C := RX4) (T := TX4) (N := 9) hx hb hts hi_RX4 hown hK hP 0 z_g0 rfl 6 (by decide) hf_RX4_59 (fun _ h9 => h9) rfl dX4_joinCrowds_4 ?_
      refine lv_icmp_ge (tgt := 57) hx hb dX4_joinCrowds_7 (by decide) (fun c7 => ?_) (fun c7 => ?_)
      · skip
        have hv : v = κ 0 0 := Nat.le_antisymm h1 (z_ge (by omega) (by omega) c7)
        have hPf : va_P (z_DD G) vwCl (z_wC G ad (z_jc σ κ t (κ 0 0)) κ) H := by rw [hv] at hP; exact hP
        exact W.vret hx hb hr (fun t ht hW => ⟨rfl, by rw [ht]; exact hPf, hS.F ht⟩) hS.2.2 dX4_joinCrowds_57
      · skip
        have hv := z_ng (by omega) (by omega) c7
        refine lv_aload_n hx hb dX4_joinCrowds_10 rfl (lv_at hl 1 rfl) ?_
        refine lv_iload_n hx hb dX4_joinCrowds_11 rfl (lv_at hl 2 rfl) ?_
        refine z_call (va_runVN (As := [.int (nI v)]) (rest := []) ⟨hx, hb, hml, hown, hts⟩ (c_X2_visits l G ad (z_jc σ κ t v) κ t v ht (by omega) (hw.2.2.1 t ht) (hw.2.2.2 t ht)) ⟨va_cnB 1 hts gX4_joinCrowds_X2_visits_n134 rfl rfl rfl (z_nmw hX.2 9 rfl) (hts (.initialized RX2) (by decide +kernel)) (by decide +kernel) ⟨Nat.le_of_ble_eq_true rfl, Nat.le_of_ble_eq_true rfl⟩, hts (.instanceMethod yX2_visits) (by decide +kernel), hts (.selects RX2 yX2_visits yX2_visits) (by decide +kernel)⟩ (z_prV (ci := 2) (k := (16 + t)) hX hP rfl (z_gT ht)) rfl rfl hl.1 rfl (lv_room (Nat.le_of_ble_eq_true rfl)) dX4_joinCrowds_12 ⟨Nat.le_of_ble_eq_true rfl, Nat.le_of_ble_eq_true rfl⟩) (fun _ h9 => h9) ?_
        refine W.eq (g2 := F0 m 15 ls [.int (z_bi (z_vi (κ (2 + t)) v (κ 1 t)))]) rfl ?_
        refine lv_if_eq (tgt := 51) hx hb dX4_joinCrowds_15 (by decide) (fun c15 => ?_) (fun c15 => ?_)
        · skip
          refine lv_iinc (v := nI (v + 1)) (lv' := [(2, .int (nI (v + 1))), (0, .ref (ad 0)), (1, .ref (ad (16 + t)))]) hx hb dX4_joinCrowds_51 hl (k := 2) rfl (z_inc _) (by decide) rfl (fun ls hl => ?_)
          refine lv_goto (tgt := 2) hx hb dX4_joinCrowds_54 (by decide) ?_
          -- back to 2
          have hP : va_P (z_DD G) vwCl (z_wC G ad (z_jc σ κ t (v + 1)) κ) H := by first | (rw [z_jc, if_pos (z_bi_t c15)]; exact hP) | (rw [z_jc, if_neg (by rw [z_bi_f c15]; decide)]; exact hP)
          exact ih2 (v + 1) (by omega) (by omega) _ _ hP hS ls (lv_sub hl [1, 2, 0] rfl)
        · skip
          refine lv_aload_n hx hb dX4_joinCrowds_18 rfl (lv_at hl 0 rfl) ?_
          refine va_get (D := z_DD G) (ci := 4) (v := .ref (ad 1)) (C := RX4) (T := TX4) (N := 9) hx hb hts hi_RX4 hown hK hP 0 z_g0 rfl 0 (by decide) hf_RX4_11 (fun _ h9 => h9) rfl dX4_joinCrowds_19 ?_
          refine lv_iload_n hx hb dX4_joinCrowds_22 rfl (lv_at hl 2 rfl) ?_
          refine z_aald (k := v) (g := fun j => ad (8 + j)) hx hb hK hP 1 1 z_g1 rfl (by omega) (by decide) dX4_joinCrowds_23 ?_
          refine lv_dup hx hb dX4_joinCrowds_24 rfl ?_
          refine va_getN (D := z_DD G) (ci := 3) (v := .int ((z_jc σ κ t v) 3 v)) (C := RX3) (T := TX3) (N := 5) hx hb hts hi_RX3 hown hK hP (8 + v) (z_gV (by omega)) rfl 3 (by decide) (z_nfw hX.2 7 rfl) (fun _ h9 => h9) rfl dX4_joinCrowds_25 ?_
          refine lv_aload_n hx hb dX4_joinCrowds_28 rfl (lv_at hl 1 rfl) ?_
          refine va_getN (D := z_DD G) (ci := 2) (v := .int ((z_jc σ κ t v) 5 t)) (C := RX2) (T := TX2) (N := 4) hx hb hts hi_RX2 hown hK hP (16 + t) (z_gT ht) rfl 2 (by decide) (z_nfw hX.2 11 rfl) (fun _ h9 => h9) rfl dX4_joinCrowds_29 ?_
          refine lv_iadd hx hb dX4_joinCrowds_32 ?_
          refine va_putN (D := z_DD G) (ci := 3) (v := .int (((z_jc σ κ t v) 3 v) + ((z_jc σ κ t v) 5 t))) (ty := .int) (C := RX3) (T := TX3) (N := 5) hx hb hts hi_RX3 tyX3 tyX3_ok nmX3 hown hK hP hD hS (8 + v) (z_gV (by omega)) rfl 3 (by decide) (z_nfw hX.2 7 rfl) (fun _ h9 => h9) rfl (by decide +kernel) rfl rfl (Nat.le_of_ble_eq_true rfl) dX4_joinCrowds_33 (fun H locs hP hD hS => ?_)
          have hP : va_P (z_DD G) vwCl (z_wC G ad (z_up (z_jc σ κ t v) 3 v (((z_jc σ κ t v) 3 v) + ((z_jc σ κ t v) 5 t))) κ) H := Eq.mp (congrArg (fun w => va_P (z_DD G) vwCl w H) (z_sV3 (by omega))) hP
          have hD := z_Dm hinj (z_cC G ad (z_up (z_jc σ κ t v) 3 v (((z_jc σ κ t v) 3 v) + ((z_jc σ κ t v) 5 t))) κ)
          refine lv_aload_n hx hb dX4_joinCrowds_36 rfl (lv_at hl 0 rfl) ?_
          refine va_get (D := z_DD G) (ci := 4) (v := .ref (ad 1)) (C := RX4) (T := TX4) (N := 9) hx hb hts hi_RX4 hown hK hP 0 z_g0 rfl 0 (by decide) hf_RX4_11 (fun _ h9 => h9) rfl dX4_joinCrowds_37 ?_
          refine lv_iload_n hx hb dX4_joinCrowds_40 rfl (lv_at hl 2 rfl) ?_
          refine z_aald (k := v) (g := fun j => ad (8 + j)) hx hb hK hP 1 1 z_g1 rfl (by omega) (by decide) dX4_joinCrowds_41 ?_
          refine lv_dup hx hb dX4_joinCrowds_42 rfl ?_
          refine va_getN (D := z_DD G) (ci := 3) (v := .int ((z_up (z_jc σ κ t v) 3 v (((z_jc σ κ t v) 3 v) + ((z_jc σ κ t v) 5 t))) 4 v)) (C := RX3) (T := TX3) (N := 5) hx hb hts hi_RX3 hown hK hP (8 + v) (z_gV (by omega)) rfl 4 (by decide) (z_nfw hX.2 8 rfl) (fun _ h9 => h9) rfl dX4_joinCrowds_43 ?_
          refine lv_iconst (v := 1) hx hb dX4_joinCrowds_46 (by decide) ?_
          refine lv_iadd hx hb dX4_joinCrowds_47 ?_
          refine va_putN (D := z_DD G) (ci := 3) (v := .int (((z_up (z_jc σ κ t v) 3 v (((z_jc σ κ t v) 3 v) + ((z_jc σ κ t v) 5 t))) 4 v) + 1)) (ty := .int) (C := RX3) (T := TX3) (N := 5) hx hb hts hi_RX3 tyX3 tyX3_ok nmX3 hown hK hP hD hS (8 + v) (z_gV (by omega)) rfl 4 (by decide) (z_nfw hX.2 8 rfl) (fun _ h9 => h9) rfl (by decide +kernel) rfl rfl (Nat.le_of_ble_eq_true rfl) dX4_joinCrowds_48 (fun H locs hP hD hS => ?_)
          have hP : va_P (z_DD G) vwCl (z_wC G ad (z_up (z_up (z_jc σ κ t v) 3 v (((z_jc σ κ t v) 3 v) + ((z_jc σ κ t v) 5 t))) 4 v (((z_up (z_jc σ κ t v) 3 v (((z_jc σ κ t v) 3 v) + ((z_jc σ κ t v) 5 t))) 4 v) + 1)) κ) H := Eq.mp (congrArg (fun w => va_P (z_DD G) vwCl w H) (z_sV4 (by omega))) hP
          have hD := z_Dm hinj (z_cC G ad (z_up (z_up (z_jc σ κ t v) 3 v (((z_jc σ κ t v) 3 v) + ((z_jc σ κ t v) 5 t))) 4 v (((z_up (z_jc σ κ t v) 3 v (((z_jc σ κ t v) 3 v) + ((z_jc σ κ t v) 5 t))) 4 v) + 1)) κ)
          refine lv_iinc (v := nI (v + 1)) (lv' := [(2, .int (nI (v + 1))), (0, .ref (ad 0)), (1, .ref (ad (16 + t)))]) hx hb dX4_joinCrowds_51 hl (k := 2) rfl (z_inc _) (by decide) rfl (fun ls hl => ?_)
          refine lv_goto (tgt := 2) hx hb dX4_joinCrowds_54 (by decide) ?_
          -- back to 2
          have hP : va_P (z_DD G) vwCl (z_wC G ad (z_jc σ κ t (v + 1)) κ) H := by first | (rw [z_jc, if_pos (z_bi_t c15)]; exact hP) | (rw [z_jc, if_neg (by rw [z_bi_f c15]; decide)]; exact hP)
          exact ih2 (v + 1) (by omega) (by omega) _ _ hP hS ls (lv_sub hl [1, 2, 0] rfl)
  exact lp2 (κ 0 0 + 1) 0 (by omega) (by omega) _ _ hP hS ls (lv_sub hl [1, 2, 0] rfl)

set_option maxHeartbeats 4000000 in
set_option maxRecDepth 100000 in
theorem c_X4_reckonCrowds (l : Launch) (G : z_GT) (ad : Nat → Nat) (σ : Nat → Nat → Int32) (κ : Nat → Nat → Nat) (hinj : ∀ i j, i < 36 → j < 36 → ad i = ad j → i = j) (hw : z_wf κ) : Met l yX4_reckonCrowds wsX4_reckonCrowds ({ frames := 4, cells := 0, slots := 0, locals := 88 } : Room) (z_Pr G [.ref (ad 0)] (z_wC G ad σ κ)) (z_Qm G none (z_wC G ad (z_rkn σ κ) κ) (z_A 36 ad)) 0 0 (z_A 36 ad) := by
  refine Met.ofW (cc := cX4_reckonCrowds) (maxL := 2) (ret := none) (by decide) rfl ?_
  intro p e s m args below meth c s₁ B hml hw0
  obtain ⟨rfl, hX, hP⟩ := hw0
  have hK := hX.1
  have hx := B.exec
  have hb := B.bytes
  have hr := B.returns
  have hts := atoms_spec (ws := wsX4_reckonCrowds) B.pre
  have hown : s.vm.findClass RX4 = some m.cls := findClass_of_methodNamed B.named
  have hlocks := B.notSynchronized
  have hl := lv_entry ([.ref (ad 0)]) (n := 2) (Nat.le_of_ble_eq_true rfl)
  rw [lg_entry_eq]
  generalize (lg_sl ([.ref (ad 0)]) ++ List.replicate (2 - (lg_sl ([.ref (ad 0)])).length) Slot.unset).toArray = ls at hl ⊢
  have hl : lv_has ls 2 [(0, .ref (ad 0))] := hl
  have hf_RX4_11 : (Cond.fieldLink RX4 11 "BlossomTours" "valleys" "[LBlossomTours$Valley;").before ([.ref (ad 0)] : List Value).toArray s = true := hts _ (by decide +kernel)
  have hf_RX4_117 : (Cond.fieldLink RX4 117 "BlossomTours" "tourCount" "I").before ([.ref (ad 0)] : List Value).toArray s = true := hts _ (by decide +kernel)
  have hf_RX4_17 : (Cond.fieldLink RX4 17 "BlossomTours" "tours" "[LBlossomTours$Tour;").before ([.ref (ad 0)] : List Value).toArray s = true := hts _ (by decide +kernel)
  have hf_RX4_28 : (Cond.fieldLink RX4 28 "BlossomTours" "roads" "LBlossomTours$Roads;").before ([.ref (ad 0)] : List Value).toArray s = true := hts _ (by decide +kernel)
  have hf_RX4_59 : (Cond.fieldLink RX4 59 "BlossomTours" "valleyCount" "I").before ([.ref (ad 0)] : List Value).toArray s = true := hts _ (by decide +kernel)
  have hi_RX3 : ∀ w ∈ u_ws RX3 TX3 5, w ∈ wsX4_reckonCrowds := by decide +kernel
  have hi_RX4 : ∀ w ∈ u_ws RX4 TX4 9, w ∈ wsX4_reckonCrowds := by decide +kernel
  have hn := hw.1
  have hm := hw.2.1
  have hS : va_S (z_A 36 ad) s.heap s.heap [] := va_S.rf
  have hD := z_Dm hinj (z_cC G ad σ κ)
  refine lv_iconst (v := nI 0) hx hb dX4_reckonCrowds_0 (by decide) ?_
  refine lv_istore_n (lv' := [(1, .int (nI 0)), (0, .ref (ad 0))]) hx hb dX4_reckonCrowds_1 rfl hl (by decide) rfl (fun ls hl => ?_)
  have lp2 : ∀ (fu2 : Nat) (v : Nat), v ≤ κ 0 0 → κ 0 0 < v + fu2 → ∀ (H : Heap) (locs : List Loc), va_P (z_DD G) vwCl (z_wC G ad (z_cl σ v) κ) H → va_S (z_A 36 ad) s.heap H locs → ∀ (ls : Array Slot), lv_has ls 2 [(0, .ref (ad 0)), (1, .int (nI v))] → W p l e (headSpec wsX4_reckonCrowds ({ frames := 4, cells := 0, slots := 0, locals := 88 } : Room)).room s m ([.ref (ad 0)] : List Value).toArray below meth c H locs 0 0 (MQ below (z_Qm G none (z_wC G ad (z_rkn σ κ) κ) (z_A 36 ad)) ([.ref (ad 0)] : List Value).toArray s 0 0 (z_A 36 ad)) (F0 m 2 ls []) := by
    intro fu2
    induction fu2 with
    | zero =>
      intro v h1 h2
      exfalso; omega
    | succ fu2 ih2 =>
      intro v h1 h2 H locs hP hS ls hl
      have hD := z_Dm hinj (z_cC G ad (z_cl σ v) κ)
      refine lv_iload_n hx hb dX4_reckonCrowds_2 rfl (lv_at hl 1 rfl) ?_
      refine lv_aload_n hx hb dX4_reckonCrowds_3 rfl (lv_at hl 0 rfl) ?_
      refine va_get (D := z_DD G) (ci := 4) (v := .int (nI (κ 0 0))) (C := RX4) (T := TX4) (N := 9) hx hb hts hi_RX4 hown hK hP 0 z_g0 rfl 6 (by decide) hf_RX4_59 (fun _ h9 => h9) rfl dX4_reckonCrowds_4 ?_
      refine lv_icmp_ge (tgt := 36) hx hb dX4_reckonCrowds_7 (by decide) (fun c7 => ?_) (fun c7 => ?_)
      · skip
        have hv : v = κ 0 0 := Nat.le_antisymm h1 (z_ge (by omega) (by omega) c7)
        have hP : va_P (z_DD G) vwCl (z_wC G ad (z_rk σ κ 0) κ) H := by rw [hv] at hP; exact hP
        have hD := z_Dm hinj (z_cC G ad (z_rk σ κ 0) κ)
        refine lv_iconst (v := nI 0) hx hb dX4_reckonCrowds_36 (by decide) ?_
        refine lv_istore_n (lv' := [(1, .int (nI 0)), (0, .ref (ad 0))]) hx hb dX4_reckonCrowds_37 rfl hl (by decide) rfl (fun ls hl => ?_)
        have lp38 : ∀ (fu38 : Nat) (t : Nat), t ≤ κ 0 1 → κ 0 1 < t + fu38 → ∀ (H : Heap) (locs : List Loc), va_P (z_DD G) vwCl (z_wC G ad (z_rk σ κ t) κ) H → va_S (z_A 36 ad) s.heap H locs → ∀ (ls : Array Slot), lv_has ls 2 [(0, .ref (ad 0)), (1, .int (nI t))] → W p l e (headSpec wsX4_reckonCrowds ({ frames := 4, cells := 0, slots := 0, locals := 88 } : Room)).room s m ([.ref (ad 0)] : List Value).toArray below meth c H locs 0 0 (MQ below (z_Qm G none (z_wC G ad (z_rkn σ κ) κ) (z_A 36 ad)) ([.ref (ad 0)] : List Value).toArray s 0 0 (z_A 36 ad)) (F0 m 38 ls []) := by
          intro fu38
          induction fu38 with
          | zero =>
            intro t g1 g2
            exfalso; omega
          | succ fu38 ih38 =>
            intro t g1 g2 H locs hP hS ls hl
            have hD := z_Dm hinj (z_cC G ad (z_rk σ κ t) κ)
            refine lv_iload_n hx hb dX4_reckonCrowds_38 rfl (lv_at hl 1 rfl) ?_
            refine lv_aload_n hx hb dX4_reckonCrowds_39 rfl (lv_at hl 0 rfl) ?_
            refine va_get (D := z_DD G) (ci := 4) (v := .int (nI (κ 0 1))) (C := RX4) (T := TX4) (N := 9) hx hb hts hi_RX4 hown hK hP 0 z_g0 rfl 7 (by decide) hf_RX4_117 (fun _ h9 => h9) rfl dX4_reckonCrowds_40 ?_
            refine lv_icmp_ge (tgt := 87) hx hb dX4_reckonCrowds_43 (by decide) (fun c43 => ?_) (fun c43 => ?_)
            · skip
              have htt : t = κ 0 1 := Nat.le_antisymm g1 (z_ge (by omega) (by omega) c43)
              have hPf : va_P (z_DD G) vwCl (z_wC G ad (z_rkn σ κ) κ) H := by rw [htt] at hP; exact hP
              exact W.vret hx hb hr (fun t ht hW => ⟨rfl, by rw [ht]; exact hPf, hS.F ht⟩) hS.2.2 dX4_reckonCrowds_87
            · skip
              have htt := z_ng (by omega) (by omega) c43
              refine lv_aload_n hx hb dX4_reckonCrowds_46 rfl (lv_at hl 0 rfl) ?_
              refine va_get (D := z_DD G) (ci := 4) (v := .ref (ad 2)) (C := RX4) (T := TX4) (N := 9) hx hb hts hi_RX4 hown hK hP 0 z_g0 rfl 1 (by decide) hf_RX4_17 (fun _ h9 => h9) rfl dX4_reckonCrowds_47 ?_
              refine lv_iload_n hx hb dX4_reckonCrowds_50 rfl (lv_at hl 1 rfl) ?_
              refine z_aald (k := t) (g := fun j => ad (16 + j)) hx hb hK hP 2 2 z_g2 rfl (by omega) (by decide) dX4_reckonCrowds_51 ?_
              refine lv_aload_n hx hb dX4_reckonCrowds_52 rfl (lv_at hl 0 rfl) ?_
              refine va_get (D := z_DD G) (ci := 4) (v := .ref (ad 4)) (C := RX4) (T := TX4) (N := 9) hx hb hts hi_RX4 hown hK hP 0 z_g0 rfl 3 (by decide) hf_RX4_28 (fun _ h9 => h9) rfl dX4_reckonCrowds_53 ?_
              refine z_callm (va_runVN (As := [.ref (ad 4)]) (rest := []) ⟨hx, hb, hml, hown, hts⟩ (c_X2_measure l G ad (z_rk σ κ t) κ hinj hw t (by omega)) ⟨va_cnB 1 hts gX4_reckonCrowds_X2_measure_n244 rfl rfl rfl (z_nmw hX.2 11 rfl) (hts (.initialized RX2) (by decide +kernel)) (by decide +kernel) ⟨Nat.le_of_ble_eq_true rfl, Nat.le_of_ble_eq_true rfl⟩, hts (.instanceMethod yX2_measure) (by decide +kernel), hts (.selects RX2 yX2_measure yX2_measure) (by decide +kernel)⟩ (z_prV (ci := 2) (k := (16 + t)) hX hP rfl (z_gT (by omega))) rfl rfl hl.1 rfl (lv_room (Nat.le_of_ble_eq_true rfl)) dX4_reckonCrowds_56 ⟨Nat.le_of_ble_eq_true rfl, Nat.le_of_ble_eq_true rfl⟩) hS (fun _ _ h9 => h9) (fun _ h9 => h9) (fun H locs hP hz9 hk9 hS => ?_)
              have hD := z_Dm hinj (z_cC G ad (z_ms (z_rk σ κ t) κ t) κ)
              refine lv_aload_n hx hb dX4_reckonCrowds_59 rfl (lv_at hl 0 rfl) ?_
              refine va_get (D := z_DD G) (ci := 4) (v := .ref (ad 2)) (C := RX4) (T := TX4) (N := 9) hx hb hts hi_RX4 hown hK hP 0 z_g0 rfl 1 (by decide) hf_RX4_17 (fun _ h9 => h9) rfl dX4_reckonCrowds_60 ?_
              refine lv_iload_n hx hb dX4_reckonCrowds_63 rfl (lv_at hl 1 rfl) ?_
              refine z_aald (k := t) (g := fun j => ad (16 + j)) hx hb hK hP 2 2 z_g2 rfl (by omega) (by decide) dX4_reckonCrowds_64 ?_
              refine z_call (va_runVN (As := []) (rest := []) ⟨hx, hb, hml, hown, hts⟩ (c_X2_canGo l G ad (z_ms (z_rk σ κ t) κ t) κ t (by omega)) ⟨va_cnB 0 hts gX4_reckonCrowds_X2_canGo_n155 rfl rfl rfl (z_nmw hX.2 5 rfl) (hts (.initialized RX2) (by decide +kernel)) (by decide +kernel) ⟨Nat.le_of_ble_eq_true rfl, Nat.le_of_ble_eq_true rfl⟩, hts (.instanceMethod yX2_canGo) (by decide +kernel), hts (.selects RX2 yX2_canGo yX2_canGo) (by decide +kernel)⟩ (z_prV (ci := 2) (k := (16 + t)) hX hP rfl (z_gT (by omega))) rfl rfl hl.1 rfl (lv_room (Nat.le_of_ble_eq_true rfl)) dX4_reckonCrowds_65 ⟨Nat.le_of_ble_eq_true rfl, Nat.le_of_ble_eq_true rfl⟩) (fun _ h9 => h9) ?_
              refine W.eq (g2 := F0 m 68 ls [.int (z_gc (κ 1 t) ((z_ms (z_rk σ κ t) κ t) 6 t))]) rfl ?_
              refine lv_if_eq (tgt := 81) hx hb dX4_reckonCrowds_68 (by decide) (fun c68 => ?_) (fun c68 => ?_)
              · skip
                refine lv_iinc (v := nI (t + 1)) (lv' := [(1, .int (nI (t + 1))), (0, .ref (ad 0))]) hx hb dX4_reckonCrowds_81 hl (k := 1) rfl (z_inc _) (by decide) rfl (fun ls hl => ?_)
                refine lv_goto (tgt := 38) hx hb dX4_reckonCrowds_84 (by decide) ?_
                -- back to 38
                have hP : va_P (z_DD G) vwCl (z_wC G ad (z_rk σ κ (t + 1)) κ) H := by first | (rw [z_rk, if_pos c68]; exact hP) | (rw [z_rk, if_neg c68]; exact hP)
                exact ih38 (t + 1) (by omega) (by omega) _ _ hP hS ls (lv_sub hl [1, 0] rfl)
              · skip
                refine lv_aload_n hx hb dX4_reckonCrowds_71 rfl (lv_at hl 0 rfl) ?_
                refine lv_aload_n hx hb dX4_reckonCrowds_72 rfl (lv_at hl 0 rfl) ?_
                refine va_get (D := z_DD G) (ci := 4) (v := .ref (ad 2)) (C := RX4) (T := TX4) (N := 9) hx hb hts hi_RX4 hown hK hP 0 z_g0 rfl 1 (by decide) hf_RX4_17 (fun _ h9 => h9) rfl dX4_reckonCrowds_73 ?_
                refine lv_iload_n hx hb dX4_reckonCrowds_76 rfl (lv_at hl 1 rfl) ?_
                refine z_aald (k := t) (g := fun j => ad (16 + j)) hx hb hK hP 2 2 z_g2 rfl (by omega) (by decide) dX4_reckonCrowds_77 ?_
                refine z_callm (va_runV (As := [.ref (ad (16 + t))]) (rest := []) ⟨hx, hb, hml, hown, hts⟩ (c_X4_joinCrowds l G ad (z_ms (z_rk σ κ t) κ t) κ hinj hw t (by omega)) (cwV 1 hts gX4_reckonCrowds_X4_joinCrowds rfl rfl rfl (by decide +kernel) ⟨Nat.le_of_ble_eq_true rfl, Nat.le_of_ble_eq_true rfl⟩) (z_prV (ci := 4) (k := 0) hX hP rfl z_g0) rfl rfl hl.1 rfl (lv_room (Nat.le_of_ble_eq_true rfl)) dX4_reckonCrowds_78 ⟨Nat.le_of_ble_eq_true rfl, Nat.le_of_ble_eq_true rfl⟩) hS (fun _ _ h9 => h9) (fun _ h9 => h9) (fun H locs hP hz9 hk9 hS => ?_)
                have hD := z_Dm hinj (z_cC G ad (z_jc (z_ms (z_rk σ κ t) κ t) κ t (κ 0 0)) κ)
                refine lv_iinc (v := nI (t + 1)) (lv' := [(1, .int (nI (t + 1))), (0, .ref (ad 0))]) hx hb dX4_reckonCrowds_81 hl (k := 1) rfl (z_inc _) (by decide) rfl (fun ls hl => ?_)
                refine lv_goto (tgt := 38) hx hb dX4_reckonCrowds_84 (by decide) ?_
                -- back to 38
                have hP : va_P (z_DD G) vwCl (z_wC G ad (z_rk σ κ (t + 1)) κ) H := by first | (rw [z_rk, if_pos c68]; exact hP) | (rw [z_rk, if_neg c68]; exact hP)
                exact ih38 (t + 1) (by omega) (by omega) _ _ hP hS ls (lv_sub hl [1, 0] rfl)
        exact lp38 (κ 0 1 + 1) 0 (by omega) (by omega) _ _ hP hS ls (lv_sub hl [1, 0] rfl)
      · skip
        have hv := z_ng (by omega) (by omega) c7
        refine lv_aload_n hx hb dX4_reckonCrowds_10 rfl (lv_at hl 0 rfl) ?_
        refine va_get (D := z_DD G) (ci := 4) (v := .ref (ad 1)) (C := RX4) (T := TX4) (N := 9) hx hb hts hi_RX4 hown hK hP 0 z_g0 rfl 0 (by decide) hf_RX4_11 (fun _ h9 => h9) rfl dX4_reckonCrowds_11 ?_
        refine lv_iload_n hx hb dX4_reckonCrowds_14 rfl (lv_at hl 1 rfl) ?_
        refine z_aald (k := v) (g := fun j => ad (8 + j)) hx hb hK hP 1 1 z_g1 rfl (by omega) (by decide) dX4_reckonCrowds_15 ?_
        refine lv_iconst (v := 0) hx hb dX4_reckonCrowds_16 (by decide) ?_
        refine va_putN (D := z_DD G) (ci := 3) (v := .int 0) (ty := .int) (C := RX3) (T := TX3) (N := 5) hx hb hts hi_RX3 tyX3 tyX3_ok nmX3 hown hK hP hD hS (8 + v) (z_gV (by omega)) rfl 3 (by decide) (z_nfw hX.2 7 rfl) (fun _ h9 => h9) rfl (by decide +kernel) rfl rfl (Nat.le_of_ble_eq_true rfl) dX4_reckonCrowds_17 (fun H locs hP hD hS => ?_)
        have hP : va_P (z_DD G) vwCl (z_wC G ad (z_up (z_cl σ v) 3 v 0) κ) H := Eq.mp (congrArg (fun w => va_P (z_DD G) vwCl w H) (z_sV3 (by omega))) hP
        have hD := z_Dm hinj (z_cC G ad (z_up (z_cl σ v) 3 v 0) κ)
        refine lv_aload_n hx hb dX4_reckonCrowds_20 rfl (lv_at hl 0 rfl) ?_
        refine va_get (D := z_DD G) (ci := 4) (v := .ref (ad 1)) (C := RX4) (T := TX4) (N := 9) hx hb hts hi_RX4 hown hK hP 0 z_g0 rfl 0 (by decide) hf_RX4_11 (fun _ h9 => h9) rfl dX4_reckonCrowds_21 ?_
        refine lv_iload_n hx hb dX4_reckonCrowds_24 rfl (lv_at hl 1 rfl) ?_
        refine z_aald (k := v) (g := fun j => ad (8 + j)) hx hb hK hP 1 1 z_g1 rfl (by omega) (by decide) dX4_reckonCrowds_25 ?_
        refine lv_iconst (v := 0) hx hb dX4_reckonCrowds_26 (by decide) ?_
        refine va_putN (D := z_DD G) (ci := 3) (v := .int 0) (ty := .int) (C := RX3) (T := TX3) (N := 5) hx hb hts hi_RX3 tyX3 tyX3_ok nmX3 hown hK hP hD hS (8 + v) (z_gV (by omega)) rfl 4 (by decide) (z_nfw hX.2 8 rfl) (fun _ h9 => h9) rfl (by decide +kernel) rfl rfl (Nat.le_of_ble_eq_true rfl) dX4_reckonCrowds_27 (fun H locs hP hD hS => ?_)
        have hP : va_P (z_DD G) vwCl (z_wC G ad (z_up (z_up (z_cl σ v) 3 v 0) 4 v 0) κ) H := Eq.mp (congrArg (fun w => va_P (z_DD G) vwCl w H) (z_sV4 (by omega))) hP
        have hD := z_Dm hinj (z_cC G ad (z_up (z_up (z_cl σ v) 3 v 0) 4 v 0) κ)
        refine lv_iinc (v := nI (v + 1)) (lv' := [(1, .int (nI (v + 1))), (0, .ref (ad 0))]) hx hb dX4_reckonCrowds_30 hl (k := 1) rfl (z_inc _) (by decide) rfl (fun ls hl => ?_)
        refine lv_goto (tgt := 2) hx hb dX4_reckonCrowds_33 (by decide) ?_
        -- back to 2
        exact ih2 (v + 1) (by omega) (by omega) _ _ hP hS ls (lv_sub hl [1, 0] rfl)
  exact lp2 (κ 0 0 + 1) 0 (by omega) (by omega) _ _ hP hS ls (lv_sub hl [1, 0] rfl)

set_option maxHeartbeats 4000000 in
set_option maxRecDepth 100000 in
theorem c_X4_joyWithStopAdded (l : Launch) (G : z_GT) (ad : Nat → Nat) (σ : Nat → Nat → Int32) (κ : Nat → Nat → Nat) (hinj : ∀ i j, i < 36 → j < 36 → ad i = ad j → i = j) (hw : z_wf κ) (t v : Nat) (ht : t < 6) (hv : v < 8) (hn : κ 1 t < 5) : Met l yX4_joyWithStopAdded wsX4_joyWithStopAdded ({ frames := 5, cells := 0, slots := 0, locals := 109 } : Room) (z_Pr G [.ref (ad 0), .ref (ad (16 + t)), .int (nI v)] (z_wC G ad σ κ)) (z_Qm G (some (.int (z_joy (z_rkn σ (z_ap κ t v)) (z_ap κ t v) t (z_rkn σ (z_ap κ t v) 8 1)))) (z_wC G ad (z_rkn (z_rkn σ (z_ap κ t v)) (z_tk (z_ap κ t v) t)) (z_tk (z_ap κ t v) t)) (z_A 36 ad)) 0 0 (z_A 36 ad) := by
  refine Met.ofW (cc := cX4_joyWithStopAdded) (maxL := 4) (ret := (some .int)) (by decide) rfl ?_
  intro p e s m args below meth c s₁ B hml hw0
  obtain ⟨rfl, hX, hP⟩ := hw0
  have hK := hX.1
  have hx := B.exec
  have hb := B.bytes
  have hr := B.returns
  have hts := atoms_spec (ws := wsX4_joyWithStopAdded) B.pre
  have hown : s.vm.findClass RX4 = some m.cls := findClass_of_methodNamed B.named
  have hlocks := B.notSynchronized
  have hl := lv_entry ([.ref (ad 0), .ref (ad (16 + t)), .int (nI v)]) (n := 4) (Nat.le_of_ble_eq_true rfl)
  rw [lg_entry_eq]
  generalize (lg_sl ([.ref (ad 0), .ref (ad (16 + t)), .int (nI v)]) ++ List.replicate (4 - (lg_sl ([.ref (ad 0), .ref (ad (16 + t)), .int (nI v)])).length) Slot.unset).toArray = ls at hl ⊢
  have hl : lv_has ls 4 [(0, .ref (ad 0)), (1, .ref (ad (16 + t))), (2, .int (nI v))] := hl
  have hf_RX4_158 : (Cond.fieldLink RX4 158 "BlossomTours" "today" "I").before ([.ref (ad 0), .ref (ad (16 + t)), .int (nI v)] : List Value).toArray s = true := hts _ (by decide +kernel)
  have hi_RX4 : ∀ w ∈ u_ws RX4 TX4 9, w ∈ wsX4_joyWithStopAdded := by decide +kernel
  have hw1 : z_wf (z_ap κ t v) := z_ap_wf hw ht hv hn
  have hc1 : (z_ap κ t v) 1 t = κ 1 t + 1 := z_up_s _ _ _ _
  have hw2 : z_wf (z_tk (z_ap κ t v) t) := z_tk_wf hw1
  have hS : va_S (z_A 36 ad) s.heap s.heap [] := va_S.rf
  have hD := z_Dm hinj (z_cC G ad σ κ)
  refine lv_aload_n hx hb dX4_joyWithStopAdded_0 rfl (lv_at hl 1 rfl) ?_
  refine lv_iload_n hx hb dX4_joyWithStopAdded_1 rfl (lv_at hl 2 rfl) ?_
  refine z_callm (va_runVN (As := [.int (nI v)]) (rest := []) ⟨hx, hb, hml, hown, hts⟩ (c_X2_append l G ad σ κ hinj t v ht hv hn) ⟨va_cnB 1 hts gX4_joyWithStopAdded_X2_append_n140 rfl rfl rfl (z_nmw hX.2 14 rfl) (hts (.initialized RX2) (by decide +kernel)) (by decide +kernel) ⟨Nat.le_of_ble_eq_true rfl, Nat.le_of_ble_eq_true rfl⟩, hts (.instanceMethod yX2_append) (by decide +kernel), hts (.selects RX2 yX2_append yX2_append) (by decide +kernel)⟩ (z_prV (ci := 2) (k := (16 + t)) hX hP rfl (z_gT ht)) rfl rfl hl.1 rfl (lv_room (Nat.le_of_ble_eq_true rfl)) dX4_joyWithStopAdded_2 ⟨Nat.le_of_ble_eq_true rfl, Nat.le_of_ble_eq_true rfl⟩) hS (fun _ _ h9 => h9) (fun _ h9 => h9) (fun H locs hP hz9 hk9 hS => ?_)
  have hD := z_Dm hinj (z_cC G ad σ (z_ap κ t v))
  refine lv_aload_n hx hb dX4_joyWithStopAdded_5 rfl (lv_at hl 0 rfl) ?_
  refine z_callm (va_runV (As := []) (rest := []) ⟨hx, hb, hml, hown, hts⟩ (c_X4_reckonCrowds l G ad σ (z_ap κ t v) hinj hw1) (cwV 0 hts gX4_joyWithStopAdded_X4_reckonCrowds rfl rfl rfl (by decide +kernel) ⟨Nat.le_of_ble_eq_true rfl, Nat.le_of_ble_eq_true rfl⟩) (z_prV (ci := 4) (k := 0) hX hP rfl z_g0) rfl rfl hl.1 rfl (lv_room (Nat.le_of_ble_eq_true rfl)) dX4_joyWithStopAdded_6 ⟨Nat.le_of_ble_eq_true rfl, Nat.le_of_ble_eq_true rfl⟩) hS (fun _ _ h9 => h9) (fun _ h9 => h9) (fun H locs hP hz9 hk9 hS => ?_)
  have hD := z_Dm hinj (z_cC G ad (z_rkn σ (z_ap κ t v)) (z_ap κ t v))
  refine lv_aload_n hx hb dX4_joyWithStopAdded_9 rfl (lv_at hl 0 rfl) ?_
  refine lv_aload_n hx hb dX4_joyWithStopAdded_10 rfl (lv_at hl 1 rfl) ?_
  refine lv_aload_n hx hb dX4_joyWithStopAdded_11 rfl (lv_at hl 0 rfl) ?_
  refine va_get (D := z_DD G) (ci := 4) (v := .int ((z_rkn σ (z_ap κ t v)) 8 1)) (C := RX4) (T := TX4) (N := 9) hx hb hts hi_RX4 hown hK hP 0 z_g0 rfl 8 (by decide) hf_RX4_158 (fun _ h9 => h9) rfl dX4_joyWithStopAdded_12 ?_
  refine z_call (va_runV (As := [.ref (ad (16 + t)), .int ((z_rkn σ (z_ap κ t v)) 8 1)]) (rest := []) ⟨hx, hb, hml, hown, hts⟩ (c_X4_joyOn l G ad (z_rkn σ (z_ap κ t v)) (z_ap κ t v) hw1 t ht ((z_rkn σ (z_ap κ t v)) 8 1)) (cwV 2 hts gX4_joyWithStopAdded_X4_joyOn rfl rfl rfl (by decide +kernel) ⟨Nat.le_of_ble_eq_true rfl, Nat.le_of_ble_eq_true rfl⟩) (z_prV (ci := 4) (k := 0) hX hP rfl z_g0) rfl rfl hl.1 rfl (lv_room (Nat.le_of_ble_eq_true rfl)) dX4_joyWithStopAdded_15 ⟨Nat.le_of_ble_eq_true rfl, Nat.le_of_ble_eq_true rfl⟩) (fun _ h9 => h9) ?_
  refine W.eq (g2 := F0 m 18 ls [.int (z_joy (z_rkn σ (z_ap κ t v)) (z_ap κ t v) t ((z_rkn σ (z_ap κ t v)) 8 1))]) rfl ?_
  refine lv_istore_n (lv' := [(3, .int (z_joy (z_rkn σ (z_ap κ t v)) (z_ap κ t v) t ((z_rkn σ (z_ap κ t v)) 8 1))), (0, .ref (ad 0)), (1, .ref (ad (16 + t))), (2, .int (nI v))]) hx hb dX4_joyWithStopAdded_18 rfl hl (by decide) rfl (fun ls hl => ?_)
  refine lv_aload_n hx hb dX4_joyWithStopAdded_19 rfl (lv_at hl 2 rfl) ?_
  refine z_callm (va_runVN (As := []) (rest := []) ⟨hx, hb, hml, hown, hts⟩ (c_X2_takeLast l G ad (z_rkn σ (z_ap κ t v)) (z_ap κ t v) hinj t ht (by rw [hc1]; omega) (by rw [hc1]; omega)) ⟨va_cnB 0 hts gX4_joyWithStopAdded_X2_takeLast_n148 rfl rfl rfl (z_nmw hX.2 15 rfl) (hts (.initialized RX2) (by decide +kernel)) (by decide +kernel) ⟨Nat.le_of_ble_eq_true rfl, Nat.le_of_ble_eq_true rfl⟩, hts (.instanceMethod yX2_takeLast) (by decide +kernel), hts (.selects RX2 yX2_takeLast yX2_takeLast) (by decide +kernel)⟩ (z_prV (ci := 2) (k := (16 + t)) hX hP rfl (z_gT ht)) rfl rfl hl.1 rfl (lv_room (Nat.le_of_ble_eq_true rfl)) dX4_joyWithStopAdded_20 ⟨Nat.le_of_ble_eq_true rfl, Nat.le_of_ble_eq_true rfl⟩) hS (fun _ _ h9 => h9) (fun _ h9 => h9) (fun H locs hP hz9 hk9 hS => ?_)
  have hD := z_Dm hinj (z_cC G ad (z_rkn σ (z_ap κ t v)) (z_tk (z_ap κ t v) t))
  refine W.eq (g2 := F0 m 23 ls [.int (nI ((z_ap κ t v) (2 + t) ((z_ap κ t v) 1 t - 1)))]) rfl ?_
  refine lv_pop hx hb dX4_joyWithStopAdded_23 rfl ?_
  refine lv_aload_n hx hb dX4_joyWithStopAdded_24 rfl (lv_at hl 1 rfl) ?_
  refine z_callm (va_runV (As := []) (rest := []) ⟨hx, hb, hml, hown, hts⟩ (c_X4_reckonCrowds l G ad (z_rkn σ (z_ap κ t v)) (z_tk (z_ap κ t v) t) hinj hw2) (cwV 0 hts gX4_joyWithStopAdded_X4_reckonCrowds rfl rfl rfl (by decide +kernel) ⟨Nat.le_of_ble_eq_true rfl, Nat.le_of_ble_eq_true rfl⟩) (z_prV (ci := 4) (k := 0) hX hP rfl z_g0) rfl rfl hl.1 rfl (lv_room (Nat.le_of_ble_eq_true rfl)) dX4_joyWithStopAdded_25 ⟨Nat.le_of_ble_eq_true rfl, Nat.le_of_ble_eq_true rfl⟩) hS (fun _ _ h9 => h9) (fun _ h9 => h9) (fun H locs hP hz9 hk9 hS => ?_)
  have hD := z_Dm hinj (z_cC G ad (z_rkn (z_rkn σ (z_ap κ t v)) (z_tk (z_ap κ t v) t)) (z_tk (z_ap κ t v) t))
  refine lv_iload_n hx hb dX4_joyWithStopAdded_28 rfl (lv_at hl 0 rfl) ?_
  have hPf : va_P (z_DD G) vwCl (z_wC G ad (z_rkn (z_rkn σ (z_ap κ t v)) (z_tk (z_ap κ t v) t)) (z_tk (z_ap κ t v) t)) H := by exact hP
  refine z_iret hx hb hr hlocks dX4_joyWithStopAdded_29 (fun t ht hW => ⟨rfl, by rw [ht]; exact hPf, hS.F ht⟩) hS.2.2 ?_
  rfl

set_option maxHeartbeats 4000000 in
set_option maxRecDepth 100000 in
theorem c_X4_toursThatCanGo (l : Launch) (G : z_GT) (ad : Nat → Nat) (σ : Nat → Nat → Int32) (κ : Nat → Nat → Nat) (hw : z_wf κ) : Met l yX4_toursThatCanGo wsX4_toursThatCanGo ({ frames := 2, cells := 0, slots := 0, locals := 42 } : Room) (z_Pr G [.ref (ad 0)] (z_wC G ad σ κ)) (z_Qo (some (.int (z_sm (z_gn σ κ) (κ 0 1))))) 0 0 (fun _ => False) := by
  refine Met.ofW (cc := cX4_toursThatCanGo) (maxL := 3) (ret := (some .int)) (by decide) rfl ?_
  intro p e s m args below meth c s₁ B hml hw0
  obtain ⟨rfl, hX, hP⟩ := hw0
  have hK := hX.1
  have hx := B.exec
  have hb := B.bytes
  have hr := B.returns
  have hts := atoms_spec (ws := wsX4_toursThatCanGo) B.pre
  have hown : s.vm.findClass RX4 = some m.cls := findClass_of_methodNamed B.named
  have hlocks := B.notSynchronized
  have hl := lv_entry ([.ref (ad 0)]) (n := 3) (Nat.le_of_ble_eq_true rfl)
  rw [lg_entry_eq]
  generalize (lg_sl ([.ref (ad 0)]) ++ List.replicate (3 - (lg_sl ([.ref (ad 0)])).length) Slot.unset).toArray = ls at hl ⊢
  have hl : lv_has ls 3 [(0, .ref (ad 0))] := hl
  have hf_RX4_117 : (Cond.fieldLink RX4 117 "BlossomTours" "tourCount" "I").before ([.ref (ad 0)] : List Value).toArray s = true := hts _ (by decide +kernel)
  have hf_RX4_17 : (Cond.fieldLink RX4 17 "BlossomTours" "tours" "[LBlossomTours$Tour;").before ([.ref (ad 0)] : List Value).toArray s = true := hts _ (by decide +kernel)
  have hi_RX4 : ∀ w ∈ u_ws RX4 TX4 9, w ∈ wsX4_toursThatCanGo := by decide +kernel
  have hn := hw.1
  have hm := hw.2.1
  refine lv_iconst (v := 0) hx hb dX4_toursThatCanGo_0 (by decide) ?_
  refine lv_istore_n (lv' := [(1, .int 0), (0, .ref (ad 0))]) hx hb dX4_toursThatCanGo_1 rfl hl (by decide) rfl (fun ls hl => ?_)
  refine lv_iconst (v := nI 0) hx hb dX4_toursThatCanGo_2 (by decide) ?_
  refine lv_istore_n (lv' := [(2, .int (nI 0)), (1, .int 0), (0, .ref (ad 0))]) hx hb dX4_toursThatCanGo_3 rfl hl (by decide) rfl (fun ls hl => ?_)
  have lp4 : ∀ (fu4 : Nat) (t : Nat), t ≤ κ 0 1 → κ 0 1 < t + fu4 → ∀ (ls : Array Slot), lv_has ls 3 [(0, .ref (ad 0)), (1, .int (z_sm (z_gn σ κ) t)), (2, .int (nI t))] → W p l e (headSpec wsX4_toursThatCanGo ({ frames := 2, cells := 0, slots := 0, locals := 42 } : Room)).room s m ([.ref (ad 0)] : List Value).toArray below meth c s.heap [] 0 0 (MQ below (z_Qo (some (.int (z_sm (z_gn σ κ) (κ 0 1))))) ([.ref (ad 0)] : List Value).toArray s 0 0 (fun _ => False)) (F0 m 4 ls []) := by
    intro fu4
    induction fu4 with
    | zero =>
      intro t h1 h2
      exfalso; omega
    | succ fu4 ih4 =>
      intro t h1 h2 ls hl
      refine lv_iload_n hx hb dX4_toursThatCanGo_4 rfl (lv_at hl 2 rfl) ?_
      refine lv_aload_n hx hb dX4_toursThatCanGo_5 rfl (lv_at hl 0 rfl) ?_
      refine va_get (D := z_DD G) (ci := 4) (v := .int (nI (κ 0 1))) (C := RX4) (T := TX4) (N := 9) hx hb hts hi_RX4 hown hK hP 0 z_g0 rfl 7 (by decide) hf_RX4_117 (fun _ h9 => h9) rfl dX4_toursThatCanGo_6 ?_
      refine lv_icmp_ge (tgt := 33) hx hb dX4_toursThatCanGo_9 (by decide) (fun c9 => ?_) (fun c9 => ?_)
      · skip
        have hv : t = κ 0 1 := Nat.le_antisymm h1 (z_ge (by omega) (by omega) c9)
        rw [hv] at hl
        refine lv_iload_n hx hb dX4_toursThatCanGo_33 rfl (lv_at hl 1 rfl) ?_
        refine z_iret hx hb hr hlocks dX4_toursThatCanGo_34 (fun t ht hW => ⟨rfl, ht⟩) (fun _ h9 => nomatch h9) ?_
        rfl
      · skip
        have hv := z_ng (by omega) (by omega) c9
        refine lv_aload_n hx hb dX4_toursThatCanGo_12 rfl (lv_at hl 0 rfl) ?_
        refine va_get (D := z_DD G) (ci := 4) (v := .ref (ad 2)) (C := RX4) (T := TX4) (N := 9) hx hb hts hi_RX4 hown hK hP 0 z_g0 rfl 1 (by decide) hf_RX4_17 (fun _ h9 => h9) rfl dX4_toursThatCanGo_13 ?_
        refine lv_iload_n hx hb dX4_toursThatCanGo_16 rfl (lv_at hl 2 rfl) ?_
        refine z_aald (k := t) (g := fun j => ad (16 + j)) hx hb hK hP 2 2 z_g2 rfl (by omega) (by decide) dX4_toursThatCanGo_17 ?_
        refine z_call (va_runVN (As := []) (rest := []) ⟨hx, hb, hml, hown, hts⟩ (c_X2_canGo l G ad σ κ t (by omega)) ⟨va_cnB 0 hts gX4_toursThatCanGo_X2_canGo_n155 rfl rfl rfl (z_nmw hX.2 5 rfl) (hts (.initialized RX2) (by decide +kernel)) (by decide +kernel) ⟨Nat.le_of_ble_eq_true rfl, Nat.le_of_ble_eq_true rfl⟩, hts (.instanceMethod yX2_canGo) (by decide +kernel), hts (.selects RX2 yX2_canGo yX2_canGo) (by decide +kernel)⟩ (z_prV (ci := 2) (k := (16 + t)) hX hP rfl (z_gT (by omega))) rfl rfl hl.1 rfl (lv_room (Nat.le_of_ble_eq_true rfl)) dX4_toursThatCanGo_18 ⟨Nat.le_of_ble_eq_true rfl, Nat.le_of_ble_eq_true rfl⟩) (fun _ h9 => h9) ?_
        refine W.eq (g2 := F0 m 21 ls [.int (z_gc (κ 1 t) (σ 6 t))]) rfl ?_
        refine lv_if_eq (tgt := 27) hx hb dX4_toursThatCanGo_21 (by decide) (fun c21 => ?_) (fun c21 => ?_)
        · skip
          refine lv_iinc (v := nI (t + 1)) (lv' := [(2, .int (nI (t + 1))), (0, .ref (ad 0)), (1, .int (z_sm (z_gn σ κ) t))]) hx hb dX4_toursThatCanGo_27 hl (k := 2) rfl (z_inc _) (by decide) rfl (fun ls hl => ?_)
          refine lv_goto (tgt := 4) hx hb dX4_toursThatCanGo_30 (by decide) ?_
          -- back to 4
          rw [show (z_sm (z_gn σ κ) t : Int32) = z_sm (z_gn σ κ) (t + 1) from by first | (show _ = z_sm (z_gn σ κ) t + z_gn σ κ t; rw [z_gn, if_pos c21, Int32.add_zero]; done) | (show _ = z_sm (z_gn σ κ) t + z_gn σ κ t; rw [z_gn, if_neg c21]; done)] at hl
          exact ih4 (t + 1) (by omega) (by omega) ls (lv_sub hl [1, 2, 0] rfl)
        · skip
          refine lv_iinc (v := z_sm (z_gn σ κ) t + 1) (lv' := [(1, .int (z_sm (z_gn σ κ) t + 1)), (0, .ref (ad 0)), (2, .int (nI t))]) hx hb dX4_toursThatCanGo_24 hl (k := 1) rfl rfl (by decide) rfl (fun ls hl => ?_)
          refine lv_iinc (v := nI (t + 1)) (lv' := [(2, .int (nI (t + 1))), (1, .int (z_sm (z_gn σ κ) t + 1)), (0, .ref (ad 0))]) hx hb dX4_toursThatCanGo_27 hl (k := 2) rfl (z_inc _) (by decide) rfl (fun ls hl => ?_)
          refine lv_goto (tgt := 4) hx hb dX4_toursThatCanGo_30 (by decide) ?_
          -- back to 4
          rw [show (z_sm (z_gn σ κ) t + 1 : Int32) = z_sm (z_gn σ κ) (t + 1) from by first | (show _ = z_sm (z_gn σ κ) t + z_gn σ κ t; rw [z_gn, if_pos c21, Int32.add_zero]; done) | (show _ = z_sm (z_gn σ κ) t + z_gn σ κ t; rw [z_gn, if_neg c21]; done)] at hl
          exact ih4 (t + 1) (by omega) (by omega) ls (lv_sub hl [2, 1, 0] rfl)
  rw [show (0 : Int32) = z_sm (z_gn σ κ) 0 from by rfl] at hl
  exact lp4 (κ 0 1 + 1) 0 (by omega) (by omega) ls (lv_sub hl [2, 1, 0] rfl)

set_option maxHeartbeats 4000000 in
set_option maxRecDepth 100000 in
theorem c_X4_valleysInBloomOn (l : Launch) (G : z_GT) (ad : Nat → Nat) (σ : Nat → Nat → Int32) (κ : Nat → Nat → Nat) (hw : z_wf κ) (d : Int32) : Met l yX4_valleysInBloomOn wsX4_valleysInBloomOn ({ frames := 2, cells := 0, slots := 0, locals := 45 } : Room) (z_Pr G [.ref (ad 0), .int d] (z_wC G ad σ κ)) (z_Qo (some (.int (z_sm (z_bn σ d) (κ 0 0))))) 0 0 (fun _ => False) := by
  refine Met.ofW (cc := cX4_valleysInBloomOn) (maxL := 4) (ret := (some .int)) (by decide) rfl ?_
  intro p e s m args below meth c s₁ B hml hw0
  obtain ⟨rfl, hX, hP⟩ := hw0
  have hK := hX.1
  have hx := B.exec
  have hb := B.bytes
  have hr := B.returns
  have hts := atoms_spec (ws := wsX4_valleysInBloomOn) B.pre
  have hown : s.vm.findClass RX4 = some m.cls := findClass_of_methodNamed B.named
  have hlocks := B.notSynchronized
  have hl := lv_entry ([.ref (ad 0), .int d]) (n := 4) (Nat.le_of_ble_eq_true rfl)
  rw [lg_entry_eq]
  generalize (lg_sl ([.ref (ad 0), .int d]) ++ List.replicate (4 - (lg_sl ([.ref (ad 0), .int d])).length) Slot.unset).toArray = ls at hl ⊢
  have hl : lv_has ls 4 [(0, .ref (ad 0)), (1, .int d)] := hl
  have hf_RX4_11 : (Cond.fieldLink RX4 11 "BlossomTours" "valleys" "[LBlossomTours$Valley;").before ([.ref (ad 0), .int d] : List Value).toArray s = true := hts _ (by decide +kernel)
  have hf_RX4_59 : (Cond.fieldLink RX4 59 "BlossomTours" "valleyCount" "I").before ([.ref (ad 0), .int d] : List Value).toArray s = true := hts _ (by decide +kernel)
  have hi_RX4 : ∀ w ∈ u_ws RX4 TX4 9, w ∈ wsX4_valleysInBloomOn := by decide +kernel
  have hn := hw.1
  have hm := hw.2.1
  refine lv_iconst (v := 0) hx hb dX4_valleysInBloomOn_0 (by decide) ?_
  refine lv_istore_n (lv' := [(2, .int 0), (0, .ref (ad 0)), (1, .int d)]) hx hb dX4_valleysInBloomOn_1 rfl hl (by decide) rfl (fun ls hl => ?_)
  refine lv_iconst (v := nI 0) hx hb dX4_valleysInBloomOn_2 (by decide) ?_
  refine lv_istore_n (lv' := [(3, .int (nI 0)), (2, .int 0), (0, .ref (ad 0)), (1, .int d)]) hx hb dX4_valleysInBloomOn_3 rfl hl (by decide) rfl (fun ls hl => ?_)
  have lp4 : ∀ (fu4 : Nat) (v : Nat), v ≤ κ 0 0 → κ 0 0 < v + fu4 → ∀ (ls : Array Slot), lv_has ls 4 [(0, .ref (ad 0)), (1, .int d), (2, .int (z_sm (z_bn σ d) v)), (3, .int (nI v))] → W p l e (headSpec wsX4_valleysInBloomOn ({ frames := 2, cells := 0, slots := 0, locals := 45 } : Room)).room s m ([.ref (ad 0), .int d] : List Value).toArray below meth c s.heap [] 0 0 (MQ below (z_Qo (some (.int (z_sm (z_bn σ d) (κ 0 0))))) ([.ref (ad 0), .int d] : List Value).toArray s 0 0 (fun _ => False)) (F0 m 4 ls []) := by
    intro fu4
    induction fu4 with
    | zero =>
      intro v h1 h2
      exfalso; omega
    | succ fu4 ih4 =>
      intro v h1 h2 ls hl
      refine lv_iload_n hx hb dX4_valleysInBloomOn_4 rfl (lv_at hl 3 rfl) ?_
      refine lv_aload_n hx hb dX4_valleysInBloomOn_5 rfl (lv_at hl 0 rfl) ?_
      refine va_get (D := z_DD G) (ci := 4) (v := .int (nI (κ 0 0))) (C := RX4) (T := TX4) (N := 9) hx hb hts hi_RX4 hown hK hP 0 z_g0 rfl 6 (by decide) hf_RX4_59 (fun _ h9 => h9) rfl dX4_valleysInBloomOn_6 ?_
      refine lv_icmp_ge (tgt := 34) hx hb dX4_valleysInBloomOn_9 (by decide) (fun c9 => ?_) (fun c9 => ?_)
      · skip
        have hv : v = κ 0 0 := Nat.le_antisymm h1 (z_ge (by omega) (by omega) c9)
        rw [hv] at hl
        refine lv_iload_n hx hb dX4_valleysInBloomOn_34 rfl (lv_at hl 2 rfl) ?_
        refine z_iret hx hb hr hlocks dX4_valleysInBloomOn_35 (fun t ht hW => ⟨rfl, ht⟩) (fun _ h9 => nomatch h9) ?_
        rfl
      · skip
        have hv := z_ng (by omega) (by omega) c9
        refine lv_aload_n hx hb dX4_valleysInBloomOn_12 rfl (lv_at hl 0 rfl) ?_
        refine va_get (D := z_DD G) (ci := 4) (v := .ref (ad 1)) (C := RX4) (T := TX4) (N := 9) hx hb hts hi_RX4 hown hK hP 0 z_g0 rfl 0 (by decide) hf_RX4_11 (fun _ h9 => h9) rfl dX4_valleysInBloomOn_13 ?_
        refine lv_iload_n hx hb dX4_valleysInBloomOn_16 rfl (lv_at hl 3 rfl) ?_
        refine z_aald (k := v) (g := fun j => ad (8 + j)) hx hb hK hP 1 1 z_g1 rfl (by omega) (by decide) dX4_valleysInBloomOn_17 ?_
        refine lv_iload_n hx hb dX4_valleysInBloomOn_18 rfl (lv_at hl 1 rfl) ?_
        refine z_call (va_runVN (As := [.int d]) (rest := []) ⟨hx, hb, hml, hown, hts⟩ (c_X3_bloomOn l G ad σ κ v d (by omega)) ⟨va_cnB 1 hts gX4_valleysInBloomOn_X3_bloomOn_n107 rfl rfl rfl (z_nmw hX.2 4 rfl) (hts (.initialized RX3) (by decide +kernel)) (by decide +kernel) ⟨Nat.le_of_ble_eq_true rfl, Nat.le_of_ble_eq_true rfl⟩, hts (.instanceMethod yX3_bloomOn) (by decide +kernel), hts (.selects RX3 yX3_bloomOn yX3_bloomOn) (by decide +kernel)⟩ (z_prV (ci := 3) (k := (8 + v)) hX hP rfl (z_gV (by omega))) rfl rfl hl.1 rfl (lv_room (Nat.le_of_ble_eq_true rfl)) dX4_valleysInBloomOn_19 ⟨Nat.le_of_ble_eq_true rfl, Nat.le_of_ble_eq_true rfl⟩) (fun _ h9 => h9) ?_
        refine W.eq (g2 := F0 m 22 ls [.int (z_bl (σ 0 v) (σ 1 v) d)]) rfl ?_
        refine lv_if_le (tgt := 28) hx hb dX4_valleysInBloomOn_22 (by decide) (fun c22 => ?_) (fun c22 => ?_)
        · skip
          refine lv_iinc (v := nI (v + 1)) (lv' := [(3, .int (nI (v + 1))), (0, .ref (ad 0)), (1, .int d), (2, .int (z_sm (z_bn σ d) v))]) hx hb dX4_valleysInBloomOn_28 hl (k := 3) rfl (z_inc _) (by decide) rfl (fun ls hl => ?_)
          refine lv_goto (tgt := 4) hx hb dX4_valleysInBloomOn_31 (by decide) ?_
          -- back to 4
          rw [show (z_sm (z_bn σ d) v : Int32) = z_sm (z_bn σ d) (v + 1) from by first | (show _ = z_sm (z_bn σ d) v + z_bn σ d v; rw [z_bn, if_pos c22, Int32.add_zero]; done) | (show _ = z_sm (z_bn σ d) v + z_bn σ d v; rw [z_bn, if_neg c22]; done)] at hl
          exact ih4 (v + 1) (by omega) (by omega) ls (lv_sub hl [1, 2, 3, 0] rfl)
        · skip
          refine lv_iinc (v := z_sm (z_bn σ d) v + 1) (lv' := [(2, .int (z_sm (z_bn σ d) v + 1)), (0, .ref (ad 0)), (1, .int d), (3, .int (nI v))]) hx hb dX4_valleysInBloomOn_25 hl (k := 2) rfl rfl (by decide) rfl (fun ls hl => ?_)
          refine lv_iinc (v := nI (v + 1)) (lv' := [(3, .int (nI (v + 1))), (2, .int (z_sm (z_bn σ d) v + 1)), (0, .ref (ad 0)), (1, .int d)]) hx hb dX4_valleysInBloomOn_28 hl (k := 3) rfl (z_inc _) (by decide) rfl (fun ls hl => ?_)
          refine lv_goto (tgt := 4) hx hb dX4_valleysInBloomOn_31 (by decide) ?_
          -- back to 4
          rw [show (z_sm (z_bn σ d) v + 1 : Int32) = z_sm (z_bn σ d) (v + 1) from by first | (show _ = z_sm (z_bn σ d) v + z_bn σ d v; rw [z_bn, if_pos c22, Int32.add_zero]; done) | (show _ = z_sm (z_bn σ d) v + z_bn σ d v; rw [z_bn, if_neg c22]; done)] at hl
          exact ih4 (v + 1) (by omega) (by omega) ls (lv_sub hl [2, 3, 1, 0] rfl)
  rw [show (0 : Int32) = z_sm (z_bn σ d) 0 from by rfl] at hl
  exact lp4 (κ 0 0 + 1) 0 (by omega) (by omega) ls (lv_sub hl [2, 3, 1, 0] rfl)

set_option maxHeartbeats 4000000 in
set_option maxRecDepth 100000 in
theorem c_X4_mean (l : Launch) (G : z_GT) (ad : Nat → Nat) (σ : Nat → Nat → Int32) (κ : Nat → Nat → Nat) (hw : z_wf κ) : Met l yX4_mean wsX4_mean ({ frames := 2, cells := 0, slots := 0, locals := 45 } : Room) (z_Pr G [.ref (ad 0)] (z_wC G ad σ κ)) (z_Qo (some (.double (z_me σ κ)))) 0 0 (fun _ => False) := by
  refine Met.ofW (cc := cX4_mean) (maxL := 3) (ret := (some .double)) (by decide) rfl ?_
  intro p e s m args below meth c s₁ B hml hw0
  obtain ⟨rfl, hX, hP⟩ := hw0
  have hK := hX.1
  have hx := B.exec
  have hb := B.bytes
  have hr := B.returns
  have hts := atoms_spec (ws := wsX4_mean) B.pre
  have hown : s.vm.findClass RX4 = some m.cls := findClass_of_methodNamed B.named
  have hlocks := B.notSynchronized
  have hl := lv_entry ([.ref (ad 0)]) (n := 3) (Nat.le_of_ble_eq_true rfl)
  rw [lg_entry_eq]
  generalize (lg_sl ([.ref (ad 0)]) ++ List.replicate (3 - (lg_sl ([.ref (ad 0)])).length) Slot.unset).toArray = ls at hl ⊢
  have hl : lv_has ls 3 [(0, .ref (ad 0))] := hl
  have hf_RX4_11 : (Cond.fieldLink RX4 11 "BlossomTours" "valleys" "[LBlossomTours$Valley;").before ([.ref (ad 0)] : List Value).toArray s = true := hts _ (by decide +kernel)
  have hf_RX4_158 : (Cond.fieldLink RX4 158 "BlossomTours" "today" "I").before ([.ref (ad 0)] : List Value).toArray s = true := hts _ (by decide +kernel)
  have hf_RX4_59 : (Cond.fieldLink RX4 59 "BlossomTours" "valleyCount" "I").before ([.ref (ad 0)] : List Value).toArray s = true := hts _ (by decide +kernel)
  have hi_RX4 : ∀ w ∈ u_ws RX4 TX4 9, w ∈ wsX4_mean := by decide +kernel
  have hn := hw.1
  refine lv_aload_n hx hb dX4_mean_0 rfl (lv_at hl 0 rfl) ?_
  refine va_get (D := z_DD G) (ci := 4) (v := .int (nI (κ 0 0))) (C := RX4) (T := TX4) (N := 9) hx hb hts hi_RX4 hown hK hP 0 z_g0 rfl 6 (by decide) hf_RX4_59 (fun _ h9 => h9) rfl dX4_mean_1 ?_
  refine lv_if_gt (tgt := 9) hx hb dX4_mean_4 (by decide) (fun c4 => ?_) (fun c4 => ?_)
  · skip
    refine lv_iconst (v := 0) hx hb dX4_mean_9 (by decide) ?_
    refine lv_istore_n (lv' := [(1, .int 0), (0, .ref (ad 0))]) hx hb dX4_mean_10 rfl hl (by decide) rfl (fun ls hl => ?_)
    refine lv_iconst (v := nI 0) hx hb dX4_mean_11 (by decide) ?_
    refine lv_istore_n (lv' := [(2, .int (nI 0)), (1, .int 0), (0, .ref (ad 0))]) hx hb dX4_mean_12 rfl hl (by decide) rfl (fun ls hl => ?_)
    have lp13 : ∀ (fu13 : Nat) (v : Nat), v ≤ κ 0 0 → κ 0 0 < v + fu13 → ∀ (ls : Array Slot), lv_has ls 3 [(0, .ref (ad 0)), (1, .int (z_sm (fun v => z_bl (σ 0 v) (σ 1 v) (σ 8 1)) v)), (2, .int (nI v))] → W p l e (headSpec wsX4_mean ({ frames := 2, cells := 0, slots := 0, locals := 45 } : Room)).room s m ([.ref (ad 0)] : List Value).toArray below meth c s.heap [] 0 0 (MQ below (z_Qo (some (.double (z_me σ κ)))) ([.ref (ad 0)] : List Value).toArray s 0 0 (fun _ => False)) (F0 m 13 ls []) := by
      intro fu13
      induction fu13 with
      | zero =>
        intro v h1 h2
        exfalso; omega
      | succ fu13 ih13 =>
        intro v h1 h2 ls hl
        refine lv_iload_n hx hb dX4_mean_13 rfl (lv_at hl 2 rfl) ?_
        refine lv_aload_n hx hb dX4_mean_14 rfl (lv_at hl 0 rfl) ?_
        refine va_get (D := z_DD G) (ci := 4) (v := .int (nI (κ 0 0))) (C := RX4) (T := TX4) (N := 9) hx hb hts hi_RX4 hown hK hP 0 z_g0 rfl 6 (by decide) hf_RX4_59 (fun _ h9 => h9) rfl dX4_mean_15 ?_
        refine lv_icmp_ge (tgt := 43) hx hb dX4_mean_18 (by decide) (fun c18 => ?_) (fun c18 => ?_)
        · skip
          have hv : v = κ 0 0 := Nat.le_antisymm h1 (z_ge (by omega) (by omega) c18)
          rw [show (z_sm (fun v => z_bl (σ 0 v) (σ 1 v) (σ 8 1)) v : Int32) = z_sm (fun v => z_bl (σ 0 v) (σ 1 v) (σ 8 1)) (κ 0 0) from by rw [hv]] at hl
          refine lv_iload_n hx hb dX4_mean_43 rfl (lv_at hl 1 rfl) ?_
          refine lv_i2d hx hb dX4_mean_44 ?_
          refine lv_aload_n hx hb dX4_mean_45 rfl (lv_at hl 0 rfl) ?_
          refine va_get (D := z_DD G) (ci := 4) (v := .int (nI (κ 0 0))) (C := RX4) (T := TX4) (N := 9) hx hb hts hi_RX4 hown hK hP 0 z_g0 rfl 6 (by decide) hf_RX4_59 (fun _ h9 => h9) rfl dX4_mean_46 ?_
          refine lv_i2d hx hb dX4_mean_49 ?_
          refine lv_ddiv hx hb dX4_mean_50 (z_nan _ (z_nz c4)) ?_
          refine z_top (show (.double (FP.ddiv (FP.i2d (z_sm (fun v => z_bl (σ 0 v) (σ 1 v) (σ 8 1)) (κ 0 0))) (FP.i2d (nI (κ 0 0)))) : Value) = .double (z_me σ κ) from congrArg Value.double (by unfold z_me; rw [if_pos c4])) ?_
          exact W.dret hx hb hr (fun t ht hW => ⟨rfl, ht⟩) (fun _ h9 => nomatch h9) dX4_mean_51
        · skip
          have hv := z_ng (by omega) (by omega) c18
          refine lv_iload_n hx hb dX4_mean_21 rfl (lv_at hl 1 rfl) ?_
          refine lv_aload_n hx hb dX4_mean_22 rfl (lv_at hl 0 rfl) ?_
          refine va_get (D := z_DD G) (ci := 4) (v := .ref (ad 1)) (C := RX4) (T := TX4) (N := 9) hx hb hts hi_RX4 hown hK hP 0 z_g0 rfl 0 (by decide) hf_RX4_11 (fun _ h9 => h9) rfl dX4_mean_23 ?_
          refine lv_iload_n hx hb dX4_mean_26 rfl (lv_at hl 2 rfl) ?_
          refine z_aald (k := v) (g := fun j => ad (8 + j)) hx hb hK hP 1 1 z_g1 rfl (by omega) (by decide) dX4_mean_27 ?_
          refine lv_aload_n hx hb dX4_mean_28 rfl (lv_at hl 0 rfl) ?_
          refine va_get (D := z_DD G) (ci := 4) (v := .int (σ 8 1)) (C := RX4) (T := TX4) (N := 9) hx hb hts hi_RX4 hown hK hP 0 z_g0 rfl 8 (by decide) hf_RX4_158 (fun _ h9 => h9) rfl dX4_mean_29 ?_
          refine z_call (va_runVN (As := [.int (σ 8 1)]) (rest := [.int (z_sm (fun v => z_bl (σ 0 v) (σ 1 v) (σ 8 1)) v)]) ⟨hx, hb, hml, hown, hts⟩ (c_X3_bloomOn l G ad σ κ v (σ 8 1) (by omega)) ⟨va_cnB 1 hts gX4_mean_X3_bloomOn_n107 rfl rfl rfl (z_nmw hX.2 4 rfl) (hts (.initialized RX3) (by decide +kernel)) (by decide +kernel) ⟨Nat.le_of_ble_eq_true rfl, Nat.le_of_ble_eq_true rfl⟩, hts (.instanceMethod yX3_bloomOn) (by decide +kernel), hts (.selects RX3 yX3_bloomOn yX3_bloomOn) (by decide +kernel)⟩ (z_prV (ci := 3) (k := (8 + v)) hX hP rfl (z_gV (by omega))) rfl rfl hl.1 rfl (lv_room (Nat.le_of_ble_eq_true rfl)) dX4_mean_32 ⟨Nat.le_of_ble_eq_true rfl, Nat.le_of_ble_eq_true rfl⟩) (fun _ h9 => h9) ?_
          refine W.eq (g2 := F0 m 35 ls [.int (z_bl (σ 0 v) (σ 1 v) (σ 8 1)), .int (z_sm (fun v => z_bl (σ 0 v) (σ 1 v) (σ 8 1)) v)]) rfl ?_
          refine lv_iadd hx hb dX4_mean_35 ?_
          refine lv_istore_n (lv' := [(1, .int ((z_sm (fun v => z_bl (σ 0 v) (σ 1 v) (σ 8 1)) v) + (z_bl (σ 0 v) (σ 1 v) (σ 8 1)))), (0, .ref (ad 0)), (2, .int (nI v))]) hx hb dX4_mean_36 rfl hl (by decide) rfl (fun ls hl => ?_)
          refine lv_iinc (v := nI (v + 1)) (lv' := [(2, .int (nI (v + 1))), (1, .int ((z_sm (fun v => z_bl (σ 0 v) (σ 1 v) (σ 8 1)) v) + (z_bl (σ 0 v) (σ 1 v) (σ 8 1)))), (0, .ref (ad 0))]) hx hb dX4_mean_37 hl (k := 2) rfl (z_inc _) (by decide) rfl (fun ls hl => ?_)
          refine lv_goto (tgt := 13) hx hb dX4_mean_40 (by decide) ?_
          -- back to 13
          rw [show ((z_sm (fun v => z_bl (σ 0 v) (σ 1 v) (σ 8 1)) v) + (z_bl (σ 0 v) (σ 1 v) (σ 8 1)) : Int32) = z_sm (fun v => z_bl (σ 0 v) (σ 1 v) (σ 8 1)) (v + 1) from by rfl] at hl
          exact ih13 (v + 1) (by omega) (by omega) ls (lv_sub hl [2, 1, 0] rfl)
    rw [show (0 : Int32) = z_sm (fun v => z_bl (σ 0 v) (σ 1 v) (σ 8 1)) 0 from by rfl] at hl
    exact lp13 (κ 0 0 + 1) 0 (by omega) (by omega) ls (lv_sub hl [2, 1, 0] rfl)
  · skip
    refine lv_dconst0 hx hb dX4_mean_7 ?_
    refine z_top (show (.double FP.dconst0 : Value) = .double (z_me σ κ) from congrArg Value.double (by unfold z_me; rw [if_neg c4])) ?_
    exact W.dret hx hb hr (fun t ht hW => ⟨rfl, ht⟩) (fun _ h9 => nomatch h9) dX4_mean_8

set_option maxHeartbeats 4000000 in
set_option maxRecDepth 100000 in
theorem c_X4_enterDay_b (l : Launch) (G : z_GT) (ad : Nat → Nat) (σ : Nat → Nat → Int32) (κ : Nat → Nat → Nat) (hinj : ∀ i j, i < 36 → j < 36 → ad i = ad j → i = j) (hw : z_wf κ) (d : Nat) (hd : d < 2 ^ 31) : Met l yX4_enterDay wsX4_enterDay ({ frames := 3, cells := 0, slots := 0, locals := 69 } : Room) (z_Pr G [.ref (ad 0), .ref (ad 6), .int (nI d)] (z_wC G ad σ κ)) (z_Qm G none (z_wC G ad (z_k3 σ 2 (σ 8 2 + z_sm (z_fc σ κ d) (κ 0 1)) (σ 8 3 + z_sm (z_fj σ κ d) (κ 0 1)) (σ 8 4 + z_sm (z_fs σ κ d) (κ 0 1))) κ) (z_A 36 ad)) 0 0 (z_A 36 ad) := by
  refine Met.ofW (cc := cX4_enterDay) (maxL := 7) (ret := none) (by decide) rfl ?_
  intro p e s m args below meth c s₁ B hml hw0
  obtain ⟨rfl, hX, hP⟩ := hw0
  have hK := hX.1
  have hx := B.exec
  have hb := B.bytes
  have hr := B.returns
  have hts := atoms_spec (ws := wsX4_enterDay) B.pre
  have hown : s.vm.findClass RX4 = some m.cls := findClass_of_methodNamed B.named
  have hlocks := B.notSynchronized
  have hl := lv_entry ([.ref (ad 0), .ref (ad 6), .int (nI d)]) (n := 7) (Nat.le_of_ble_eq_true rfl)
  rw [lg_entry_eq]
  generalize (lg_sl ([.ref (ad 0), .ref (ad 6), .int (nI d)]) ++ List.replicate (7 - (lg_sl ([.ref (ad 0), .ref (ad 6), .int (nI d)])).length) Slot.unset).toArray = ls at hl ⊢
  have hl : lv_has ls 7 [(0, .ref (ad 0)), (1, .ref (ad 6)), (2, .int (nI d))] := hl
  have hf_RX4_117 : (Cond.fieldLink RX4 117 "BlossomTours" "tourCount" "I").before ([.ref (ad 0), .ref (ad 6), .int (nI d)] : List Value).toArray s = true := hts _ (by decide +kernel)
  have hf_RX4_17 : (Cond.fieldLink RX4 17 "BlossomTours" "tours" "[LBlossomTours$Tour;").before ([.ref (ad 0), .ref (ad 6), .int (nI d)] : List Value).toArray s = true := hts _ (by decide +kernel)
  have hf_RX4_21 : (Cond.fieldLink RX4 21 "BlossomTours" "heats" "[I").before ([.ref (ad 0), .ref (ad 6), .int (nI d)] : List Value).toArray s = true := hts _ (by decide +kernel)
  have hi_RX0 : ∀ w ∈ u_ws RX0 TX0 3, w ∈ wsX4_enterDay := by decide +kernel
  have hi_RX2 : ∀ w ∈ u_ws RX2 TX2 4, w ∈ wsX4_enterDay := by decide +kernel
  have hi_RX4 : ∀ w ∈ u_ws RX4 TX4 9, w ∈ wsX4_enterDay := by decide +kernel
  have hn := hw.1
  have hm := hw.2.1
  have hS : va_S (z_A 36 ad) s.heap s.heap [] := va_S.rf
  have hD := z_Dm hinj (z_cC G ad σ κ)
  refine lv_aload_n hx hb dX4_enterDay_0 rfl (lv_at hl 0 rfl) ?_
  refine va_get (D := z_DD G) (ci := 4) (v := .ref (ad 3)) (C := RX4) (T := TX4) (N := 9) hx hb hts hi_RX4 hown hK hP 0 z_g0 rfl 2 (by decide) hf_RX4_21 (fun _ h9 => h9) rfl dX4_enterDay_1 ?_
  refine lv_iload_n hx hb dX4_enterDay_4 rfl (lv_at hl 2 rfl) ?_
  refine lv_bipush (v := 10) hx hb dX4_enterDay_5 (by decide) ?_
  refine z_call (va_runS (As := [.int (nI d), .int 10]) (rest := [.ref (ad 3)]) ⟨hx, hb, hml, hown, hts⟩ (c_J9_floorMod l G d hd) (va_cwS 2 hts gX4_enterDay_J9_floorMod_7cf53 rfl rfl rfl (by decide +kernel) ⟨Nat.le_of_ble_eq_true rfl, Nat.le_of_ble_eq_true rfl⟩) (z_prS hX z_P0) rfl rfl hl.1 rfl (lv_room (Nat.le_of_ble_eq_true rfl)) dX4_enterDay_7 ⟨Nat.le_of_ble_eq_true rfl, Nat.le_of_ble_eq_true rfl⟩) (fun _ h9 => h9) ?_
  refine W.eq (g2 := F0 m 10 ls [.int (nI (d % 10)), .ref (ad 3)]) rfl ?_
  refine z_iald (k := (d % 10)) (f := fun z9 => σ 7 z9) hx hb hK hP 3 0 z_g3 rfl (Nat.mod_lt _ (by decide)) (by decide) dX4_enterDay_10 ?_
  refine lv_istore_n (lv' := [(3, .int (σ 7 (d % 10))), (0, .ref (ad 0)), (1, .ref (ad 6)), (2, .int (nI d))]) hx hb dX4_enterDay_11 rfl hl (by decide) rfl (fun ls hl => ?_)
  refine lv_iconst (v := nI 0) hx hb dX4_enterDay_12 (by decide) ?_
  refine lv_istore (lv' := [(4, .int (nI 0)), (3, .int (σ 7 (d % 10))), (0, .ref (ad 0)), (1, .ref (ad 6)), (2, .int (nI d))]) hx hb dX4_enterDay_13 hl (by decide) rfl (fun ls hl => ?_)
  have lp15 : ∀ (fu15 : Nat) (i : Nat), i ≤ κ 0 1 → κ 0 1 < i + fu15 → ∀ (H : Heap) (locs : List Loc), va_P (z_DD G) vwCl (z_wC G ad (z_k3 σ 2 (σ 8 2 + z_sm (z_fc σ κ d) i) (σ 8 3 + z_sm (z_fj σ κ d) i) (σ 8 4 + z_sm (z_fs σ κ d) i)) κ) H → va_S (z_A 36 ad) s.heap H locs → ∀ (ls : Array Slot), lv_has ls 7 [(0, .ref (ad 0)), (1, .ref (ad 6)), (2, .int (nI d)), (3, .int (σ 7 (d % 10))), (4, .int (nI i))] → W p l e (headSpec wsX4_enterDay ({ frames := 3, cells := 0, slots := 0, locals := 69 } : Room)).room s m ([.ref (ad 0), .ref (ad 6), .int (nI d)] : List Value).toArray below meth c H locs 0 0 (MQ below (z_Qm G none (z_wC G ad (z_k3 σ 2 (σ 8 2 + z_sm (z_fc σ κ d) (κ 0 1)) (σ 8 3 + z_sm (z_fj σ κ d) (κ 0 1)) (σ 8 4 + z_sm (z_fs σ κ d) (κ 0 1))) κ) (z_A 36 ad)) ([.ref (ad 0), .ref (ad 6), .int (nI d)] : List Value).toArray s 0 0 (z_A 36 ad)) (F0 m 15 ls []) := by
    intro fu15
    induction fu15 with
    | zero =>
      intro i h1 h2
      exfalso; omega
    | succ fu15 ih15 =>
      intro i h1 h2 H locs hP hS ls hl
      have hD := z_Dm hinj (z_cC G ad (z_k3 σ 2 (σ 8 2 + z_sm (z_fc σ κ d) i) (σ 8 3 + z_sm (z_fj σ κ d) i) (σ 8 4 + z_sm (z_fs σ κ d) i)) κ)
      refine lv_iload hx hb dX4_enterDay_15 (lv_at hl 4 rfl) ?_
      refine lv_aload_n hx hb dX4_enterDay_17 rfl (lv_at hl 0 rfl) ?_
      refine va_get (D := z_DD G) (ci := 4) (v := .int (nI (κ 0 1))) (C := RX4) (T := TX4) (N := 9) hx hb hts hi_RX4 hown hK hP 0 z_g0 rfl 7 (by decide) hf_RX4_117 (fun _ h9 => h9) rfl dX4_enterDay_18 ?_
      refine lv_icmp_ge (tgt := 114) hx hb dX4_enterDay_21 (by decide) (fun c21 => ?_) (fun c21 => ?_)
      · skip
        have hi : i = κ 0 1 := Nat.le_antisymm h1 (z_ge (by omega) (by omega) c21)
        have hPf : va_P (z_DD G) vwCl (z_wC G ad (z_k3 σ 2 (σ 8 2 + z_sm (z_fc σ κ d) (κ 0 1)) (σ 8 3 + z_sm (z_fj σ κ d) (κ 0 1)) (σ 8 4 + z_sm (z_fs σ κ d) (κ 0 1))) κ) H := by rw [hi] at hP; exact hP
        exact W.vret hx hb hr (fun t ht hW => ⟨rfl, by rw [ht]; exact hPf, hS.F ht⟩) hS.2.2 dX4_enterDay_114
      · skip
        have hi := z_ng (by omega) (by omega) c21
        refine lv_aload_n hx hb dX4_enterDay_24 rfl (lv_at hl 0 rfl) ?_
        refine va_get (D := z_DD G) (ci := 4) (v := .ref (ad 2)) (C := RX4) (T := TX4) (N := 9) hx hb hts hi_RX4 hown hK hP 0 z_g0 rfl 1 (by decide) hf_RX4_17 (fun _ h9 => h9) rfl dX4_enterDay_25 ?_
        refine lv_iload hx hb dX4_enterDay_28 (lv_at hl 4 rfl) ?_
        refine z_aald (k := i) (g := fun j => ad (16 + j)) hx hb hK hP 2 2 z_g2 rfl (by omega) (by decide) dX4_enterDay_30 ?_
        refine lv_astore (lv' := [(5, .ref (ad (16 + i))), (0, .ref (ad 0)), (1, .ref (ad 6)), (2, .int (nI d)), (3, .int (σ 7 (d % 10))), (4, .int (nI i))]) hx hb dX4_enterDay_31 hl (by decide) rfl (fun ls hl => ?_)
        refine lv_aload hx hb dX4_enterDay_33 (lv_at hl 0 rfl) ?_
        refine z_call (va_runVN (As := []) (rest := []) ⟨hx, hb, hml, hown, hts⟩ (c_X2_canGo l G ad (z_k3 σ 2 (σ 8 2 + z_sm (z_fc σ κ d) i) (σ 8 3 + z_sm (z_fj σ κ d) i) (σ 8 4 + z_sm (z_fs σ κ d) i)) κ i (by omega)) ⟨va_cnB 0 hts gX4_enterDay_X2_canGo_n155 rfl rfl rfl (z_nmw hX.2 5 rfl) (hts (.initialized RX2) (by decide +kernel)) (by decide +kernel) ⟨Nat.le_of_ble_eq_true rfl, Nat.le_of_ble_eq_true rfl⟩, hts (.instanceMethod yX2_canGo) (by decide +kernel), hts (.selects RX2 yX2_canGo yX2_canGo) (by decide +kernel)⟩ (z_prV (ci := 2) (k := (16 + i)) hX hP rfl (z_gT (by omega))) rfl rfl hl.1 rfl (lv_room (Nat.le_of_ble_eq_true rfl)) dX4_enterDay_35 ⟨Nat.le_of_ble_eq_true rfl, Nat.le_of_ble_eq_true rfl⟩) (fun _ h9 => h9) ?_
        refine W.eq (g2 := F0 m 38 ls [.int (z_gc (κ 1 i) ((z_k3 σ 2 (σ 8 2 + z_sm (z_fc σ κ d) i) (σ 8 3 + z_sm (z_fj σ κ d) i) (σ 8 4 + z_sm (z_fs σ κ d) i)) 6 i))]) rfl ?_
        refine z_top (show (.int (z_gc (κ 1 i) ((z_k3 σ 2 (σ 8 2 + z_sm (z_fc σ κ d) i) (σ 8 3 + z_sm (z_fj σ κ d) i) (σ 8 4 + z_sm (z_fs σ κ d) i)) 6 i)) : Value) = .int (z_gc (κ 1 i) (σ 6 i)) from by rfl) ?_
        refine lv_if_eq (tgt := 108) hx hb dX4_enterDay_38 (by decide) (fun c38 => ?_) (fun c38 => ?_)
        · skip
          refine lv_iinc (v := nI (i + 1)) (lv' := [(4, .int (nI (i + 1))), (5, .ref (ad (16 + i))), (0, .ref (ad 0)), (1, .ref (ad 6)), (2, .int (nI d)), (3, .int (σ 7 (d % 10)))]) hx hb dX4_enterDay_108 hl (k := 5) rfl (z_inc _) (by decide) rfl (fun ls hl => ?_)
          refine lv_goto (tgt := 15) hx hb dX4_enterDay_111 (by decide) ?_
          -- back to 15
          have hP : va_P (z_DD G) vwCl (z_wC G ad (z_k3 σ 2 (σ 8 2 + z_sm (z_fc σ κ d) (i + 1)) (σ 8 3 + z_sm (z_fj σ κ d) (i + 1)) (σ 8 4 + z_sm (z_fs σ κ d) (i + 1))) κ) H := by 
            have e1 : z_sm (z_fc σ κ d) (i + 1) = z_sm (z_fc σ κ d) i := by show _ + z_fc σ κ d i = _; rw [z_fc, if_pos c38, Int32.add_zero]
            have e2 : z_sm (z_fj σ κ d) (i + 1) = z_sm (z_fj σ κ d) i := by show _ + z_fj σ κ d i = _; rw [z_fj, if_pos c38, Int32.add_zero]
            have e3 : z_sm (z_fs σ κ d) (i + 1) = z_sm (z_fs σ κ d) i := by show _ + z_fs σ κ d i = _; rw [z_fs, if_pos c38, Int32.add_zero]
            rw [e1, e2, e3]
            exact hP
          exact ih15 (i + 1) (by omega) (by omega) _ _ hP hS ls (lv_sub hl [2, 3, 4, 5, 0] rfl)
        · skip
          refine lv_aload_n hx hb dX4_enterDay_41 rfl (lv_at hl 1 rfl) ?_
          refine lv_aload hx hb dX4_enterDay_42 (lv_at hl 0 rfl) ?_
          refine lv_iload_n hx hb dX4_enterDay_44 rfl (lv_at hl 3 rfl) ?_
          refine z_call (va_runV (As := [.ref (ad (16 + i)), .int (nI d)]) (rest := []) ⟨hx, hb, hml, hown, hts⟩ (c_X4_joyOn l G ad (z_k3 σ 2 (σ 8 2 + z_sm (z_fc σ κ d) i) (σ 8 3 + z_sm (z_fj σ κ d) i) (σ 8 4 + z_sm (z_fs σ κ d) i)) κ hw i (by omega) (nI d)) (cwV 2 hts gX4_enterDay_X4_joyOn rfl rfl rfl (by decide +kernel) ⟨Nat.le_of_ble_eq_true rfl, Nat.le_of_ble_eq_true rfl⟩) (z_prV (ci := 4) (k := 0) hX hP rfl z_g0) rfl rfl hl.1 rfl (lv_room (Nat.le_of_ble_eq_true rfl)) dX4_enterDay_45 ⟨Nat.le_of_ble_eq_true rfl, Nat.le_of_ble_eq_true rfl⟩) (fun _ h9 => h9) ?_
          refine W.eq (g2 := F0 m 48 ls [.int (z_joy (z_k3 σ 2 (σ 8 2 + z_sm (z_fc σ κ d) i) (σ 8 3 + z_sm (z_fj σ κ d) i) (σ 8 4 + z_sm (z_fs σ κ d) i)) κ i (nI d))]) rfl ?_
          refine z_top (show (.int (z_joy (z_k3 σ 2 (σ 8 2 + z_sm (z_fc σ κ d) i) (σ 8 3 + z_sm (z_fj σ κ d) i) (σ 8 4 + z_sm (z_fs σ κ d) i)) κ i (nI d)) : Value) = .int (z_joy σ κ i (nI d)) from by (show Value.int (z_joy (z_k3 σ 2 (σ 8 2 + z_sm (z_fc σ κ d) i) (σ 8 3 + z_sm (z_fj σ κ d) i) (σ 8 4 + z_sm (z_fs σ κ d) i)) κ i (nI d)) = _; simp only [z_joy, z_jf_k3]; rfl)) ?_
          refine lv_istore (lv' := [(6, .int (z_joy σ κ i (nI d))), (5, .ref (ad (16 + i))), (0, .ref (ad 0)), (1, .ref (ad 6)), (2, .int (nI d)), (3, .int (σ 7 (d % 10))), (4, .int (nI i))]) hx hb dX4_enterDay_48 hl (by decide) rfl (fun ls hl => ?_)
          refine lv_aload_n hx hb dX4_enterDay_50 rfl (lv_at hl 3 rfl) ?_
          refine lv_dup hx hb dX4_enterDay_51 rfl ?_
          refine va_getN (D := z_DD G) (ci := 0) (v := .int ((z_k3 σ 2 (σ 8 2 + z_sm (z_fc σ κ d) i) (σ 8 3 + z_sm (z_fj σ κ d) i) (σ 8 4 + z_sm (z_fs σ κ d) i)) 8 2)) (C := RX0) (T := TX0) (N := 3) hx hb hts hi_RX0 hown hK hP 6 z_g6 rfl 0 (by decide) (z_nfw hX.2 1 rfl) (fun _ h9 => h9) rfl dX4_enterDay_52 ?_
          refine z_top (show (.int ((z_k3 σ 2 (σ 8 2 + z_sm (z_fc σ κ d) i) (σ 8 3 + z_sm (z_fj σ κ d) i) (σ 8 4 + z_sm (z_fs σ κ d) i)) 8 2) : Value) = .int (σ 8 2 + z_sm (z_fc σ κ d) i) from by rfl) ?_
          refine lv_iload hx hb dX4_enterDay_55 (lv_at hl 0 rfl) ?_
          refine lv_aload hx hb dX4_enterDay_57 (lv_at hl 1 rfl) ?_
          refine va_getN (D := z_DD G) (ci := 2) (v := .int ((z_k3 σ 2 (σ 8 2 + z_sm (z_fc σ κ d) i) (σ 8 3 + z_sm (z_fj σ κ d) i) (σ 8 4 + z_sm (z_fs σ κ d) i)) 5 i)) (C := RX2) (T := TX2) (N := 4) hx hb hts hi_RX2 hown hK hP (16 + i) (z_gT (by omega)) rfl 2 (by decide) (z_nfw hX.2 11 rfl) (fun _ h9 => h9) rfl dX4_enterDay_59 ?_
          refine z_top (show (.int ((z_k3 σ 2 (σ 8 2 + z_sm (z_fc σ κ d) i) (σ 8 3 + z_sm (z_fj σ κ d) i) (σ 8 4 + z_sm (z_fs σ κ d) i)) 5 i) : Value) = .int (σ 5 i) from by rfl) ?_
          refine lv_imul hx hb dX4_enterDay_62 ?_
          refine lv_bipush (v := 100) hx hb dX4_enterDay_63 (by decide) ?_
          refine lv_idiv hx hb dX4_enterDay_65 (by decide) ?_
          refine lv_aload hx hb dX4_enterDay_66 (lv_at hl 1 rfl) ?_
          refine va_getN (D := z_DD G) (ci := 2) (v := .int ((z_k3 σ 2 (σ 8 2 + z_sm (z_fc σ κ d) i) (σ 8 3 + z_sm (z_fj σ κ d) i) (σ 8 4 + z_sm (z_fs σ κ d) i)) 5 i)) (C := RX2) (T := TX2) (N := 4) hx hb hts hi_RX2 hown hK hP (16 + i) (z_gT (by omega)) rfl 2 (by decide) (z_nfw hX.2 11 rfl) (fun _ h9 => h9) rfl dX4_enterDay_68 ?_
          refine z_top (show (.int ((z_k3 σ 2 (σ 8 2 + z_sm (z_fc σ κ d) i) (σ 8 3 + z_sm (z_fj σ κ d) i) (σ 8 4 + z_sm (z_fs σ κ d) i)) 5 i) : Value) = .int (σ 5 i) from by rfl) ?_
          refine lv_iload_n hx hb dX4_enterDay_71 rfl (lv_at hl 5 rfl) ?_
          refine lv_imul hx hb dX4_enterDay_72 ?_
          refine lv_bipush (v := 40) hx hb dX4_enterDay_73 (by decide) ?_
          refine lv_idiv hx hb dX4_enterDay_75 (by decide) ?_
          refine lv_iadd hx hb dX4_enterDay_76 ?_
          refine lv_iadd hx hb dX4_enterDay_77 ?_
          refine va_putN (D := z_DD G) (ci := 0) (v := .int ((σ 8 2 + z_sm (z_fc σ κ d) i) + ((((z_joy σ κ i (nI d)) * (σ 5 i)) / 100) + (((σ 5 i) * (σ 7 (d % 10))) / 40)))) (ty := .int) (C := RX0) (T := TX0) (N := 3) hx hb hts hi_RX0 tyX0 tyX0_ok nmX0 hown hK hP hD hS 6 z_g6 rfl 0 (by decide) (z_nfw hX.2 1 rfl) (fun _ h9 => h9) rfl (by decide +kernel) rfl rfl (Nat.le_of_ble_eq_true rfl) dX4_enterDay_78 (fun H locs hP hD hS => ?_)
          have hP : va_P (z_DD G) vwCl (z_wC G ad (z_up (z_k3 σ 2 (σ 8 2 + z_sm (z_fc σ κ d) i) (σ 8 3 + z_sm (z_fj σ κ d) i) (σ 8 4 + z_sm (z_fs σ κ d) i)) 8 2 ((σ 8 2 + z_sm (z_fc σ κ d) i) + ((((z_joy σ κ i (nI d)) * (σ 5 i)) / 100) + (((σ 5 i) * (σ 7 (d % 10))) / 40)))) κ) H := Eq.mp (congrArg (fun w => va_P (z_DD G) vwCl w H) z_sB60) hP
          have hD := z_Dm hinj (z_cC G ad (z_up (z_k3 σ 2 (σ 8 2 + z_sm (z_fc σ κ d) i) (σ 8 3 + z_sm (z_fj σ κ d) i) (σ 8 4 + z_sm (z_fs σ κ d) i)) 8 2 ((σ 8 2 + z_sm (z_fc σ κ d) i) + ((((z_joy σ κ i (nI d)) * (σ 5 i)) / 100) + (((σ 5 i) * (σ 7 (d % 10))) / 40)))) κ)
          refine lv_aload_n hx hb dX4_enterDay_81 rfl (lv_at hl 3 rfl) ?_
          refine lv_dup hx hb dX4_enterDay_82 rfl ?_
          refine va_getN (D := z_DD G) (ci := 0) (v := .int ((z_up (z_k3 σ 2 (σ 8 2 + z_sm (z_fc σ κ d) i) (σ 8 3 + z_sm (z_fj σ κ d) i) (σ 8 4 + z_sm (z_fs σ κ d) i)) 8 2 ((σ 8 2 + z_sm (z_fc σ κ d) i) + ((((z_joy σ κ i (nI d)) * (σ 5 i)) / 100) + (((σ 5 i) * (σ 7 (d % 10))) / 40)))) 8 3)) (C := RX0) (T := TX0) (N := 3) hx hb hts hi_RX0 hown hK hP 6 z_g6 rfl 1 (by decide) (z_nfw hX.2 2 rfl) (fun _ h9 => h9) rfl dX4_enterDay_83 ?_
          refine z_top (show (.int ((z_up (z_k3 σ 2 (σ 8 2 + z_sm (z_fc σ κ d) i) (σ 8 3 + z_sm (z_fj σ κ d) i) (σ 8 4 + z_sm (z_fs σ κ d) i)) 8 2 ((σ 8 2 + z_sm (z_fc σ κ d) i) + ((((z_joy σ κ i (nI d)) * (σ 5 i)) / 100) + (((σ 5 i) * (σ 7 (d % 10))) / 40)))) 8 3) : Value) = .int (σ 8 3 + z_sm (z_fj σ κ d) i) from by rfl) ?_
          refine lv_iload hx hb dX4_enterDay_86 (lv_at hl 0 rfl) ?_
          refine lv_iadd hx hb dX4_enterDay_88 ?_
          refine va_putN (D := z_DD G) (ci := 0) (v := .int ((σ 8 3 + z_sm (z_fj σ κ d) i) + (z_joy σ κ i (nI d)))) (ty := .int) (C := RX0) (T := TX0) (N := 3) hx hb hts hi_RX0 tyX0 tyX0_ok nmX0 hown hK hP hD hS 6 z_g6 rfl 1 (by decide) (z_nfw hX.2 2 rfl) (fun _ h9 => h9) rfl (by decide +kernel) rfl rfl (Nat.le_of_ble_eq_true rfl) dX4_enterDay_89 (fun H locs hP hD hS => ?_)
          have hP : va_P (z_DD G) vwCl (z_wC G ad (z_up (z_up (z_k3 σ 2 (σ 8 2 + z_sm (z_fc σ κ d) i) (σ 8 3 + z_sm (z_fj σ κ d) i) (σ 8 4 + z_sm (z_fs σ κ d) i)) 8 2 ((σ 8 2 + z_sm (z_fc σ κ d) i) + ((((z_joy σ κ i (nI d)) * (σ 5 i)) / 100) + (((σ 5 i) * (σ 7 (d % 10))) / 40)))) 8 3 ((σ 8 3 + z_sm (z_fj σ κ d) i) + (z_joy σ κ i (nI d)))) κ) H := Eq.mp (congrArg (fun w => va_P (z_DD G) vwCl w H) z_sB61) hP
          have hD := z_Dm hinj (z_cC G ad (z_up (z_up (z_k3 σ 2 (σ 8 2 + z_sm (z_fc σ κ d) i) (σ 8 3 + z_sm (z_fj σ κ d) i) (σ 8 4 + z_sm (z_fs σ κ d) i)) 8 2 ((σ 8 2 + z_sm (z_fc σ κ d) i) + ((((z_joy σ κ i (nI d)) * (σ 5 i)) / 100) + (((σ 5 i) * (σ 7 (d % 10))) / 40)))) 8 3 ((σ 8 3 + z_sm (z_fj σ κ d) i) + (z_joy σ κ i (nI d)))) κ)
          refine lv_aload_n hx hb dX4_enterDay_92 rfl (lv_at hl 3 rfl) ?_
          refine lv_dup hx hb dX4_enterDay_93 rfl ?_
          refine va_getN (D := z_DD G) (ci := 0) (v := .int ((z_up (z_up (z_k3 σ 2 (σ 8 2 + z_sm (z_fc σ κ d) i) (σ 8 3 + z_sm (z_fj σ κ d) i) (σ 8 4 + z_sm (z_fs σ κ d) i)) 8 2 ((σ 8 2 + z_sm (z_fc σ κ d) i) + ((((z_joy σ κ i (nI d)) * (σ 5 i)) / 100) + (((σ 5 i) * (σ 7 (d % 10))) / 40)))) 8 3 ((σ 8 3 + z_sm (z_fj σ κ d) i) + (z_joy σ κ i (nI d)))) 8 4)) (C := RX0) (T := TX0) (N := 3) hx hb hts hi_RX0 hown hK hP 6 z_g6 rfl 2 (by decide) (z_nfw hX.2 3 rfl) (fun _ h9 => h9) rfl dX4_enterDay_94 ?_
          refine z_top (show (.int ((z_up (z_up (z_k3 σ 2 (σ 8 2 + z_sm (z_fc σ κ d) i) (σ 8 3 + z_sm (z_fj σ κ d) i) (σ 8 4 + z_sm (z_fs σ κ d) i)) 8 2 ((σ 8 2 + z_sm (z_fc σ κ d) i) + ((((z_joy σ κ i (nI d)) * (σ 5 i)) / 100) + (((σ 5 i) * (σ 7 (d % 10))) / 40)))) 8 3 ((σ 8 3 + z_sm (z_fj σ κ d) i) + (z_joy σ κ i (nI d)))) 8 4) : Value) = .int (σ 8 4 + z_sm (z_fs σ κ d) i) from by rfl) ?_
          refine lv_aload_n hx hb dX4_enterDay_97 rfl (lv_at hl 2 rfl) ?_
          refine lv_aload hx hb dX4_enterDay_98 (lv_at hl 1 rfl) ?_
          refine lv_iload_n hx hb dX4_enterDay_100 rfl (lv_at hl 4 rfl) ?_
          refine z_call (va_runV (As := [.ref (ad (16 + i)), .int (nI d)]) (rest := [.int (σ 8 4 + z_sm (z_fs σ κ d) i), .ref (ad 6)]) ⟨hx, hb, hml, hown, hts⟩ (c_X4_stingsOn l G ad (z_up (z_up (z_k3 σ 2 (σ 8 2 + z_sm (z_fc σ κ d) i) (σ 8 3 + z_sm (z_fj σ κ d) i) (σ 8 4 + z_sm (z_fs σ κ d) i)) 8 2 ((σ 8 2 + z_sm (z_fc σ κ d) i) + ((((z_joy σ κ i (nI d)) * (σ 5 i)) / 100) + (((σ 5 i) * (σ 7 (d % 10))) / 40)))) 8 3 ((σ 8 3 + z_sm (z_fj σ κ d) i) + (z_joy σ κ i (nI d)))) κ hw i (by omega) (nI d)) (cwV 2 hts gX4_enterDay_X4_stingsOn rfl rfl rfl (by decide +kernel) ⟨Nat.le_of_ble_eq_true rfl, Nat.le_of_ble_eq_true rfl⟩) (z_prV (ci := 4) (k := 0) hX hP rfl z_g0) rfl rfl hl.1 rfl (lv_room (Nat.le_of_ble_eq_true rfl)) dX4_enterDay_101 ⟨Nat.le_of_ble_eq_true rfl, Nat.le_of_ble_eq_true rfl⟩) (fun _ h9 => h9) ?_
          refine W.eq (g2 := F0 m 104 ls [.int (z_stg (z_up (z_up (z_k3 σ 2 (σ 8 2 + z_sm (z_fc σ κ d) i) (σ 8 3 + z_sm (z_fj σ κ d) i) (σ 8 4 + z_sm (z_fs σ κ d) i)) 8 2 ((σ 8 2 + z_sm (z_fc σ κ d) i) + ((((z_joy σ κ i (nI d)) * (σ 5 i)) / 100) + (((σ 5 i) * (σ 7 (d % 10))) / 40)))) 8 3 ((σ 8 3 + z_sm (z_fj σ κ d) i) + (z_joy σ κ i (nI d)))) κ i (nI d)), .int (σ 8 4 + z_sm (z_fs σ κ d) i), .ref (ad 6)]) rfl ?_
          refine z_top (show (.int (z_stg (z_up (z_up (z_k3 σ 2 (σ 8 2 + z_sm (z_fc σ κ d) i) (σ 8 3 + z_sm (z_fj σ κ d) i) (σ 8 4 + z_sm (z_fs σ κ d) i)) 8 2 ((σ 8 2 + z_sm (z_fc σ κ d) i) + ((((z_joy σ κ i (nI d)) * (σ 5 i)) / 100) + (((σ 5 i) * (σ 7 (d % 10))) / 40)))) 8 3 ((σ 8 3 + z_sm (z_fj σ κ d) i) + (z_joy σ κ i (nI d)))) κ i (nI d)) : Value) = .int (z_stg σ κ i (nI d)) from by rfl) ?_
          refine lv_iadd hx hb dX4_enterDay_104 ?_
          refine va_putN (D := z_DD G) (ci := 0) (v := .int ((σ 8 4 + z_sm (z_fs σ κ d) i) + (z_stg σ κ i (nI d)))) (ty := .int) (C := RX0) (T := TX0) (N := 3) hx hb hts hi_RX0 tyX0 tyX0_ok nmX0 hown hK hP hD hS 6 z_g6 rfl 2 (by decide) (z_nfw hX.2 3 rfl) (fun _ h9 => h9) rfl (by decide +kernel) rfl rfl (Nat.le_of_ble_eq_true rfl) dX4_enterDay_105 (fun H locs hP hD hS => ?_)
          have hP : va_P (z_DD G) vwCl (z_wC G ad (z_up (z_up (z_up (z_k3 σ 2 (σ 8 2 + z_sm (z_fc σ κ d) i) (σ 8 3 + z_sm (z_fj σ κ d) i) (σ 8 4 + z_sm (z_fs σ κ d) i)) 8 2 ((σ 8 2 + z_sm (z_fc σ κ d) i) + ((((z_joy σ κ i (nI d)) * (σ 5 i)) / 100) + (((σ 5 i) * (σ 7 (d % 10))) / 40)))) 8 3 ((σ 8 3 + z_sm (z_fj σ κ d) i) + (z_joy σ κ i (nI d)))) 8 4 ((σ 8 4 + z_sm (z_fs σ κ d) i) + (z_stg σ κ i (nI d)))) κ) H := Eq.mp (congrArg (fun w => va_P (z_DD G) vwCl w H) z_sB62) hP
          have hD := z_Dm hinj (z_cC G ad (z_up (z_up (z_up (z_k3 σ 2 (σ 8 2 + z_sm (z_fc σ κ d) i) (σ 8 3 + z_sm (z_fj σ κ d) i) (σ 8 4 + z_sm (z_fs σ κ d) i)) 8 2 ((σ 8 2 + z_sm (z_fc σ κ d) i) + ((((z_joy σ κ i (nI d)) * (σ 5 i)) / 100) + (((σ 5 i) * (σ 7 (d % 10))) / 40)))) 8 3 ((σ 8 3 + z_sm (z_fj σ κ d) i) + (z_joy σ κ i (nI d)))) 8 4 ((σ 8 4 + z_sm (z_fs σ κ d) i) + (z_stg σ κ i (nI d)))) κ)
          refine lv_iinc (v := nI (i + 1)) (lv' := [(4, .int (nI (i + 1))), (6, .int (z_joy σ κ i (nI d))), (5, .ref (ad (16 + i))), (0, .ref (ad 0)), (1, .ref (ad 6)), (2, .int (nI d)), (3, .int (σ 7 (d % 10)))]) hx hb dX4_enterDay_108 hl (k := 6) rfl (z_inc _) (by decide) rfl (fun ls hl => ?_)
          refine lv_goto (tgt := 15) hx hb dX4_enterDay_111 (by decide) ?_
          -- back to 15
          have hP : va_P (z_DD G) vwCl (z_wC G ad (z_k3 σ 2 (σ 8 2 + z_sm (z_fc σ κ d) (i + 1)) (σ 8 3 + z_sm (z_fj σ κ d) (i + 1)) (σ 8 4 + z_sm (z_fs σ κ d) (i + 1))) κ) H := by 
            have e1 : z_fc σ κ d i = z_joy σ κ i (nI d) * σ 5 i / 100 + σ 5 i * σ 7 (d % 10) / 40 := if_neg c38
            have e2 : z_fj σ κ d i = z_joy σ κ i (nI d) := if_neg c38
            have e3 : z_fs σ κ d i = z_stg σ κ i (nI d) := if_neg c38
            have e0 : (z_up (z_up (z_up (z_k3 σ 2 (σ 8 2 + z_sm (z_fc σ κ d) i) (σ 8 3 + z_sm (z_fj σ κ d) i) (σ 8 4 + z_sm (z_fs σ κ d) i)) 8 2 ((σ 8 2 + z_sm (z_fc σ κ d) i) + ((((z_joy σ κ i (nI d)) * (σ 5 i)) / 100) + (((σ 5 i) * (σ 7 (d % 10))) / 40)))) 8 3 ((σ 8 3 + z_sm (z_fj σ κ d) i) + (z_joy σ κ i (nI d)))) 8 4 ((σ 8 4 + z_sm (z_fs σ κ d) i) + (z_stg σ κ i (nI d)))) = (z_k3 σ 2 (σ 8 2 + z_sm (z_fc σ κ d) (i + 1)) (σ 8 3 + z_sm (z_fj σ κ d) (i + 1)) (σ 8 4 + z_sm (z_fs σ κ d) (i + 1))) := (z_k3_up σ 2 _ _ _ _ _ _).trans (congr (congr (congrArg (z_k3 σ 2) (z_acc _ _ e1.symm)) (z_acc _ _ e2.symm)) (z_acc _ _ e3.symm))
            rw [← e0]
            exact hP
          exact ih15 (i + 1) (by omega) (by omega) _ _ hP hS ls (lv_sub hl [3, 4, 5, 6, 0] rfl)
  have hP : va_P (z_DD G) vwCl (z_wC G ad (z_k3 σ 2 (σ 8 2 + z_sm (z_fc σ κ d) 0) (σ 8 3 + z_sm (z_fj σ κ d) 0) (σ 8 4 + z_sm (z_fs σ κ d) 0)) κ) s.heap := by show va_P (z_DD G) vwCl (z_wC G ad (z_k3 σ 2 (σ 8 2 + 0) (σ 8 3 + 0) (σ 8 4 + 0)) κ) s.heap; rw [Int32.add_zero, Int32.add_zero, Int32.add_zero, z_k3_id]; exact hP
  exact lp15 (κ 0 1 + 1) 0 (by omega) (by omega) _ _ hP hS ls (lv_sub hl [2, 3, 4, 1, 0] rfl)

set_option maxHeartbeats 4000000 in
set_option maxRecDepth 100000 in
theorem c_X4_enterDays_b (l : Launch) (G : z_GT) (ad : Nat → Nat) (σ : Nat → Nat → Int32) (κ : Nat → Nat → Nat) (hinj : ∀ i j, i < 36 → j < 36 → ad i = ad j → i = j) (hw : z_wf κ) (T n : Nat) (hT : σ 8 1 = nI T) (hT2 : T + n < 2 ^ 31) : Met l yX4_enterDays wsX4_enterDays ({ frames := 4, cells := 0, slots := 0, locals := 95 } : Room) (z_Pr G [.ref (ad 0), .ref (ad 6), .int (nI n)] (z_wC G ad σ κ)) (z_Qm G none (z_wC G ad (z_k3 σ 2 (σ 8 2 + z_dd (z_fc σ κ) T (κ 0 1) n) (σ 8 3 + z_dd (z_fj σ κ) T (κ 0 1) n) (σ 8 4 + z_dd (z_fs σ κ) T (κ 0 1) n)) κ) (z_A 36 ad)) 0 0 (z_A 36 ad) := by
  refine Met.ofW (cc := cX4_enterDays) (maxL := 4) (ret := none) (by decide) rfl ?_
  intro p e s m args below meth c s₁ B hml hw0
  obtain ⟨rfl, hX, hP⟩ := hw0
  have hK := hX.1
  have hx := B.exec
  have hb := B.bytes
  have hr := B.returns
  have hts := atoms_spec (ws := wsX4_enterDays) B.pre
  have hown : s.vm.findClass RX4 = some m.cls := findClass_of_methodNamed B.named
  have hlocks := B.notSynchronized
  have hl := lv_entry ([.ref (ad 0), .ref (ad 6), .int (nI n)]) (n := 4) (Nat.le_of_ble_eq_true rfl)
  rw [lg_entry_eq]
  generalize (lg_sl ([.ref (ad 0), .ref (ad 6), .int (nI n)]) ++ List.replicate (4 - (lg_sl ([.ref (ad 0), .ref (ad 6), .int (nI n)])).length) Slot.unset).toArray = ls at hl ⊢
  have hl : lv_has ls 4 [(0, .ref (ad 0)), (1, .ref (ad 6)), (2, .int (nI n))] := hl
  have hf_RX4_158 : (Cond.fieldLink RX4 158 "BlossomTours" "today" "I").before ([.ref (ad 0), .ref (ad 6), .int (nI n)] : List Value).toArray s = true := hts _ (by decide +kernel)
  have hi_RX4 : ∀ w ∈ u_ws RX4 TX4 9, w ∈ wsX4_enterDays := by decide +kernel
  have hS : va_S (z_A 36 ad) s.heap s.heap [] := va_S.rf
  have hD := z_Dm hinj (z_cC G ad σ κ)
  refine lv_iconst (v := nI 0) hx hb dX4_enterDays_0 (by decide) ?_
  refine lv_istore_n (lv' := [(3, .int (nI 0)), (0, .ref (ad 0)), (1, .ref (ad 6)), (2, .int (nI n))]) hx hb dX4_enterDays_1 rfl hl (by decide) rfl (fun ls hl => ?_)
  have lp2 : ∀ (fu2 : Nat) (i : Nat), i ≤ n → n < i + fu2 → ∀ (H : Heap) (locs : List Loc), va_P (z_DD G) vwCl (z_wC G ad (z_k3 σ 2 (σ 8 2 + z_dd (z_fc σ κ) T (κ 0 1) i) (σ 8 3 + z_dd (z_fj σ κ) T (κ 0 1) i) (σ 8 4 + z_dd (z_fs σ κ) T (κ 0 1) i)) κ) H → va_S (z_A 36 ad) s.heap H locs → ∀ (ls : Array Slot), lv_has ls 4 [(0, .ref (ad 0)), (1, .ref (ad 6)), (2, .int (nI n)), (3, .int (nI i))] → W p l e (headSpec wsX4_enterDays ({ frames := 4, cells := 0, slots := 0, locals := 95 } : Room)).room s m ([.ref (ad 0), .ref (ad 6), .int (nI n)] : List Value).toArray below meth c H locs 0 0 (MQ below (z_Qm G none (z_wC G ad (z_k3 σ 2 (σ 8 2 + z_dd (z_fc σ κ) T (κ 0 1) n) (σ 8 3 + z_dd (z_fj σ κ) T (κ 0 1) n) (σ 8 4 + z_dd (z_fs σ κ) T (κ 0 1) n)) κ) (z_A 36 ad)) ([.ref (ad 0), .ref (ad 6), .int (nI n)] : List Value).toArray s 0 0 (z_A 36 ad)) (F0 m 2 ls []) := by
    intro fu2
    induction fu2 with
    | zero =>
      intro i h1 h2
      exfalso; omega
    | succ fu2 ih2 =>
      intro i h1 h2 H locs hP hS ls hl
      have hD := z_Dm hinj (z_cC G ad (z_k3 σ 2 (σ 8 2 + z_dd (z_fc σ κ) T (κ 0 1) i) (σ 8 3 + z_dd (z_fj σ κ) T (κ 0 1) i) (σ 8 4 + z_dd (z_fs σ κ) T (κ 0 1) i)) κ)
      refine lv_iload_n hx hb dX4_enterDays_2 rfl (lv_at hl 3 rfl) ?_
      refine lv_iload_n hx hb dX4_enterDays_3 rfl (lv_at hl 2 rfl) ?_
      refine lv_icmp_ge (tgt := 24) hx hb dX4_enterDays_4 (by decide) (fun c4 => ?_) (fun c4 => ?_)
      · skip
        have hi : i = n := Nat.le_antisymm h1 (z_ge (by omega) (by omega) c4)
        have hPf : va_P (z_DD G) vwCl (z_wC G ad (z_k3 σ 2 (σ 8 2 + z_dd (z_fc σ κ) T (κ 0 1) n) (σ 8 3 + z_dd (z_fj σ κ) T (κ 0 1) n) (σ 8 4 + z_dd (z_fs σ κ) T (κ 0 1) n)) κ) H := by rw [hi] at hP; exact hP
        exact W.vret hx hb hr (fun t ht hW => ⟨rfl, by rw [ht]; exact hPf, hS.F ht⟩) hS.2.2 dX4_enterDays_24
      · skip
        have hi := z_ng (by omega) (by omega) c4
        refine lv_aload_n hx hb dX4_enterDays_7 rfl (lv_at hl 0 rfl) ?_
        refine lv_aload_n hx hb dX4_enterDays_8 rfl (lv_at hl 1 rfl) ?_
        refine lv_aload_n hx hb dX4_enterDays_9 rfl (lv_at hl 0 rfl) ?_
        refine va_get (D := z_DD G) (ci := 4) (v := .int ((z_k3 σ 2 (σ 8 2 + z_dd (z_fc σ κ) T (κ 0 1) i) (σ 8 3 + z_dd (z_fj σ κ) T (κ 0 1) i) (σ 8 4 + z_dd (z_fs σ κ) T (κ 0 1) i)) 8 1)) (C := RX4) (T := TX4) (N := 9) hx hb hts hi_RX4 hown hK hP 0 z_g0 rfl 8 (by decide) hf_RX4_158 (fun _ h9 => h9) rfl dX4_enterDays_10 ?_
        refine z_top (show (.int ((z_k3 σ 2 (σ 8 2 + z_dd (z_fc σ κ) T (κ 0 1) i) (σ 8 3 + z_dd (z_fj σ κ) T (κ 0 1) i) (σ 8 4 + z_dd (z_fs σ κ) T (κ 0 1) i)) 8 1) : Value) = .int (nI T) from by (show Value.int (σ 8 1) = _; rw [hT])) ?_
        refine lv_iload_n hx hb dX4_enterDays_13 rfl (lv_at hl 3 rfl) ?_
        refine lv_iadd hx hb dX4_enterDays_14 ?_
        refine z_top (show (.int ((nI T) + (nI i)) : Value) = .int (nI (T + i)) from by rw [nI_add]) ?_
        refine z_callm (va_runV (As := [.ref (ad 6), .int (nI (T + i))]) (rest := []) ⟨hx, hb, hml, hown, hts⟩ (c_X4_enterDay_b l G ad (z_k3 σ 2 (σ 8 2 + z_dd (z_fc σ κ) T (κ 0 1) i) (σ 8 3 + z_dd (z_fj σ κ) T (κ 0 1) i) (σ 8 4 + z_dd (z_fs σ κ) T (κ 0 1) i)) κ hinj hw (T + i) (by omega)) (cwV 2 hts gX4_enterDays_X4_enterDay rfl rfl rfl (by decide +kernel) ⟨Nat.le_of_ble_eq_true rfl, Nat.le_of_ble_eq_true rfl⟩) (z_prV (ci := 4) (k := 0) hX hP rfl z_g0) rfl rfl hl.1 rfl (lv_room (Nat.le_of_ble_eq_true rfl)) dX4_enterDays_15 ⟨Nat.le_of_ble_eq_true rfl, Nat.le_of_ble_eq_true rfl⟩) hS (fun _ _ h9 => h9) (fun _ h9 => h9) (fun H locs hP hz9 hk9 hS => ?_)
        have hD := z_Dm hinj (z_cC G ad (z_k3 (z_k3 σ 2 (σ 8 2 + z_dd (z_fc σ κ) T (κ 0 1) i) (σ 8 3 + z_dd (z_fj σ κ) T (κ 0 1) i) (σ 8 4 + z_dd (z_fs σ κ) T (κ 0 1) i)) 2 ((z_k3 σ 2 (σ 8 2 + z_dd (z_fc σ κ) T (κ 0 1) i) (σ 8 3 + z_dd (z_fj σ κ) T (κ 0 1) i) (σ 8 4 + z_dd (z_fs σ κ) T (κ 0 1) i)) 8 2 + z_sm (z_fc (z_k3 σ 2 (σ 8 2 + z_dd (z_fc σ κ) T (κ 0 1) i) (σ 8 3 + z_dd (z_fj σ κ) T (κ 0 1) i) (σ 8 4 + z_dd (z_fs σ κ) T (κ 0 1) i)) κ (T + i)) (κ 0 1)) ((z_k3 σ 2 (σ 8 2 + z_dd (z_fc σ κ) T (κ 0 1) i) (σ 8 3 + z_dd (z_fj σ κ) T (κ 0 1) i) (σ 8 4 + z_dd (z_fs σ κ) T (κ 0 1) i)) 8 3 + z_sm (z_fj (z_k3 σ 2 (σ 8 2 + z_dd (z_fc σ κ) T (κ 0 1) i) (σ 8 3 + z_dd (z_fj σ κ) T (κ 0 1) i) (σ 8 4 + z_dd (z_fs σ κ) T (κ 0 1) i)) κ (T + i)) (κ 0 1)) ((z_k3 σ 2 (σ 8 2 + z_dd (z_fc σ κ) T (κ 0 1) i) (σ 8 3 + z_dd (z_fj σ κ) T (κ 0 1) i) (σ 8 4 + z_dd (z_fs σ κ) T (κ 0 1) i)) 8 4 + z_sm (z_fs (z_k3 σ 2 (σ 8 2 + z_dd (z_fc σ κ) T (κ 0 1) i) (σ 8 3 + z_dd (z_fj σ κ) T (κ 0 1) i) (σ 8 4 + z_dd (z_fs σ κ) T (κ 0 1) i)) κ (T + i)) (κ 0 1))) κ)
        refine lv_iinc (v := nI (i + 1)) (lv' := [(3, .int (nI (i + 1))), (0, .ref (ad 0)), (1, .ref (ad 6)), (2, .int (nI n))]) hx hb dX4_enterDays_18 hl (k := 3) rfl (z_inc _) (by decide) rfl (fun ls hl => ?_)
        refine lv_goto (tgt := 2) hx hb dX4_enterDays_21 (by decide) ?_
        -- back to 2
        have hP : va_P (z_DD G) vwCl (z_wC G ad (z_k3 σ 2 (σ 8 2 + z_dd (z_fc σ κ) T (κ 0 1) (i + 1)) (σ 8 3 + z_dd (z_fj σ κ) T (κ 0 1) (i + 1)) (σ 8 4 + z_dd (z_fs σ κ) T (κ 0 1) (i + 1))) κ) H := by 
          have e0 : (z_k3 (z_k3 σ 2 (σ 8 2 + z_dd (z_fc σ κ) T (κ 0 1) i) (σ 8 3 + z_dd (z_fj σ κ) T (κ 0 1) i) (σ 8 4 + z_dd (z_fs σ κ) T (κ 0 1) i)) 2 ((z_k3 σ 2 (σ 8 2 + z_dd (z_fc σ κ) T (κ 0 1) i) (σ 8 3 + z_dd (z_fj σ κ) T (κ 0 1) i) (σ 8 4 + z_dd (z_fs σ κ) T (κ 0 1) i)) 8 2 + z_sm (z_fc (z_k3 σ 2 (σ 8 2 + z_dd (z_fc σ κ) T (κ 0 1) i) (σ 8 3 + z_dd (z_fj σ κ) T (κ 0 1) i) (σ 8 4 + z_dd (z_fs σ κ) T (κ 0 1) i)) κ (T + i)) (κ 0 1)) ((z_k3 σ 2 (σ 8 2 + z_dd (z_fc σ κ) T (κ 0 1) i) (σ 8 3 + z_dd (z_fj σ κ) T (κ 0 1) i) (σ 8 4 + z_dd (z_fs σ κ) T (κ 0 1) i)) 8 3 + z_sm (z_fj (z_k3 σ 2 (σ 8 2 + z_dd (z_fc σ κ) T (κ 0 1) i) (σ 8 3 + z_dd (z_fj σ κ) T (κ 0 1) i) (σ 8 4 + z_dd (z_fs σ κ) T (κ 0 1) i)) κ (T + i)) (κ 0 1)) ((z_k3 σ 2 (σ 8 2 + z_dd (z_fc σ κ) T (κ 0 1) i) (σ 8 3 + z_dd (z_fj σ κ) T (κ 0 1) i) (σ 8 4 + z_dd (z_fs σ κ) T (κ 0 1) i)) 8 4 + z_sm (z_fs (z_k3 σ 2 (σ 8 2 + z_dd (z_fc σ κ) T (κ 0 1) i) (σ 8 3 + z_dd (z_fj σ κ) T (κ 0 1) i) (σ 8 4 + z_dd (z_fs σ κ) T (κ 0 1) i)) κ (T + i)) (κ 0 1))) = (z_k3 σ 2 (σ 8 2 + z_dd (z_fc σ κ) T (κ 0 1) (i + 1)) (σ 8 3 + z_dd (z_fj σ κ) T (κ 0 1) (i + 1)) (σ 8 4 + z_dd (z_fs σ κ) T (κ 0 1) (i + 1))) := by
            rw [z_k3_k3, z_fc_k3, z_fj_k3, z_fs_k3]
            exact congr (congr (congrArg (z_k3 σ 2) (z_acc _ _ rfl)) (z_acc _ _ rfl)) (z_acc _ _ rfl)
          rw [← e0]
          exact hP
        exact ih2 (i + 1) (by omega) (by omega) _ _ hP hS ls (lv_sub hl [1, 2, 3, 0] rfl)
  have hP : va_P (z_DD G) vwCl (z_wC G ad (z_k3 σ 2 (σ 8 2 + z_dd (z_fc σ κ) T (κ 0 1) 0) (σ 8 3 + z_dd (z_fj σ κ) T (κ 0 1) 0) (σ 8 4 + z_dd (z_fs σ κ) T (κ 0 1) 0)) κ) s.heap := by show va_P (z_DD G) vwCl (z_wC G ad (z_k3 σ 2 (σ 8 2 + 0) (σ 8 3 + 0) (σ 8 4 + 0)) κ) s.heap; rw [Int32.add_zero, Int32.add_zero, Int32.add_zero, z_k3_id]; exact hP
  exact lp2 (n + 1) 0 (by omega) (by omega) _ _ hP hS ls (lv_sub hl [1, 2, 3, 0] rfl)

set_option maxHeartbeats 4000000 in
set_option maxRecDepth 100000 in
theorem c_X4_enterDay_d (l : Launch) (G : z_GT) (ad : Nat → Nat) (σ : Nat → Nat → Int32) (κ : Nat → Nat → Nat) (hinj : ∀ i j, i < 36 → j < 36 → ad i = ad j → i = j) (hw : z_wf κ) (d : Nat) (hd : d < 2 ^ 31) : Met l yX4_enterDay wsX4_enterDay ({ frames := 3, cells := 0, slots := 0, locals := 69 } : Room) (z_Pr G [.ref (ad 0), .ref (ad 7), .int (nI d)] (z_wC G ad σ κ)) (z_Qm G none (z_wC G ad (z_k3 σ 5 (σ 8 5 + z_sm (z_fc σ κ d) (κ 0 1)) (σ 8 6 + z_sm (z_fj σ κ d) (κ 0 1)) (σ 8 7 + z_sm (z_fs σ κ d) (κ 0 1))) κ) (z_A 36 ad)) 0 0 (z_A 36 ad) := by
  refine Met.ofW (cc := cX4_enterDay) (maxL := 7) (ret := none) (by decide) rfl ?_
  intro p e s m args below meth c s₁ B hml hw0
  obtain ⟨rfl, hX, hP⟩ := hw0
  have hK := hX.1
  have hx := B.exec
  have hb := B.bytes
  have hr := B.returns
  have hts := atoms_spec (ws := wsX4_enterDay) B.pre
  have hown : s.vm.findClass RX4 = some m.cls := findClass_of_methodNamed B.named
  have hlocks := B.notSynchronized
  have hl := lv_entry ([.ref (ad 0), .ref (ad 7), .int (nI d)]) (n := 7) (Nat.le_of_ble_eq_true rfl)
  rw [lg_entry_eq]
  generalize (lg_sl ([.ref (ad 0), .ref (ad 7), .int (nI d)]) ++ List.replicate (7 - (lg_sl ([.ref (ad 0), .ref (ad 7), .int (nI d)])).length) Slot.unset).toArray = ls at hl ⊢
  have hl : lv_has ls 7 [(0, .ref (ad 0)), (1, .ref (ad 7)), (2, .int (nI d))] := hl
  have hf_RX4_117 : (Cond.fieldLink RX4 117 "BlossomTours" "tourCount" "I").before ([.ref (ad 0), .ref (ad 7), .int (nI d)] : List Value).toArray s = true := hts _ (by decide +kernel)
  have hf_RX4_17 : (Cond.fieldLink RX4 17 "BlossomTours" "tours" "[LBlossomTours$Tour;").before ([.ref (ad 0), .ref (ad 7), .int (nI d)] : List Value).toArray s = true := hts _ (by decide +kernel)
  have hf_RX4_21 : (Cond.fieldLink RX4 21 "BlossomTours" "heats" "[I").before ([.ref (ad 0), .ref (ad 7), .int (nI d)] : List Value).toArray s = true := hts _ (by decide +kernel)
  have hi_RX0 : ∀ w ∈ u_ws RX0 TX0 3, w ∈ wsX4_enterDay := by decide +kernel
  have hi_RX2 : ∀ w ∈ u_ws RX2 TX2 4, w ∈ wsX4_enterDay := by decide +kernel
  have hi_RX4 : ∀ w ∈ u_ws RX4 TX4 9, w ∈ wsX4_enterDay := by decide +kernel
  have hn := hw.1
  have hm := hw.2.1
  have hS : va_S (z_A 36 ad) s.heap s.heap [] := va_S.rf
  have hD := z_Dm hinj (z_cC G ad σ κ)
  refine lv_aload_n hx hb dX4_enterDay_0 rfl (lv_at hl 0 rfl) ?_
  refine va_get (D := z_DD G) (ci := 4) (v := .ref (ad 3)) (C := RX4) (T := TX4) (N := 9) hx hb hts hi_RX4 hown hK hP 0 z_g0 rfl 2 (by decide) hf_RX4_21 (fun _ h9 => h9) rfl dX4_enterDay_1 ?_
  refine lv_iload_n hx hb dX4_enterDay_4 rfl (lv_at hl 2 rfl) ?_
  refine lv_bipush (v := 10) hx hb dX4_enterDay_5 (by decide) ?_
  refine z_call (va_runS (As := [.int (nI d), .int 10]) (rest := [.ref (ad 3)]) ⟨hx, hb, hml, hown, hts⟩ (c_J9_floorMod l G d hd) (va_cwS 2 hts gX4_enterDay_J9_floorMod_7cf53 rfl rfl rfl (by decide +kernel) ⟨Nat.le_of_ble_eq_true rfl, Nat.le_of_ble_eq_true rfl⟩) (z_prS hX z_P0) rfl rfl hl.1 rfl (lv_room (Nat.le_of_ble_eq_true rfl)) dX4_enterDay_7 ⟨Nat.le_of_ble_eq_true rfl, Nat.le_of_ble_eq_true rfl⟩) (fun _ h9 => h9) ?_
  refine W.eq (g2 := F0 m 10 ls [.int (nI (d % 10)), .ref (ad 3)]) rfl ?_
  refine z_iald (k := (d % 10)) (f := fun z9 => σ 7 z9) hx hb hK hP 3 0 z_g3 rfl (Nat.mod_lt _ (by decide)) (by decide) dX4_enterDay_10 ?_
  refine lv_istore_n (lv' := [(3, .int (σ 7 (d % 10))), (0, .ref (ad 0)), (1, .ref (ad 7)), (2, .int (nI d))]) hx hb dX4_enterDay_11 rfl hl (by decide) rfl (fun ls hl => ?_)
  refine lv_iconst (v := nI 0) hx hb dX4_enterDay_12 (by decide) ?_
  refine lv_istore (lv' := [(4, .int (nI 0)), (3, .int (σ 7 (d % 10))), (0, .ref (ad 0)), (1, .ref (ad 7)), (2, .int (nI d))]) hx hb dX4_enterDay_13 hl (by decide) rfl (fun ls hl => ?_)
  have lp15 : ∀ (fu15 : Nat) (i : Nat), i ≤ κ 0 1 → κ 0 1 < i + fu15 → ∀ (H : Heap) (locs : List Loc), va_P (z_DD G) vwCl (z_wC G ad (z_k3 σ 5 (σ 8 5 + z_sm (z_fc σ κ d) i) (σ 8 6 + z_sm (z_fj σ κ d) i) (σ 8 7 + z_sm (z_fs σ κ d) i)) κ) H → va_S (z_A 36 ad) s.heap H locs → ∀ (ls : Array Slot), lv_has ls 7 [(0, .ref (ad 0)), (1, .ref (ad 7)), (2, .int (nI d)), (3, .int (σ 7 (d % 10))), (4, .int (nI i))] → W p l e (headSpec wsX4_enterDay ({ frames := 3, cells := 0, slots := 0, locals := 69 } : Room)).room s m ([.ref (ad 0), .ref (ad 7), .int (nI d)] : List Value).toArray below meth c H locs 0 0 (MQ below (z_Qm G none (z_wC G ad (z_k3 σ 5 (σ 8 5 + z_sm (z_fc σ κ d) (κ 0 1)) (σ 8 6 + z_sm (z_fj σ κ d) (κ 0 1)) (σ 8 7 + z_sm (z_fs σ κ d) (κ 0 1))) κ) (z_A 36 ad)) ([.ref (ad 0), .ref (ad 7), .int (nI d)] : List Value).toArray s 0 0 (z_A 36 ad)) (F0 m 15 ls []) := by
    intro fu15
    induction fu15 with
    | zero =>
      intro i h1 h2
      exfalso; omega
    | succ fu15 ih15 =>
      intro i h1 h2 H locs hP hS ls hl
      have hD := z_Dm hinj (z_cC G ad (z_k3 σ 5 (σ 8 5 + z_sm (z_fc σ κ d) i) (σ 8 6 + z_sm (z_fj σ κ d) i) (σ 8 7 + z_sm (z_fs σ κ d) i)) κ)
      refine lv_iload hx hb dX4_enterDay_15 (lv_at hl 4 rfl) ?_
      refine lv_aload_n hx hb dX4_enterDay_17 rfl (lv_at hl 0 rfl) ?_
      refine va_get (D := z_DD G) (ci := 4) (v := .int (nI (κ 0 1))) (C := RX4) (T := TX4) (N := 9) hx hb hts hi_RX4 hown hK hP 0 z_g0 rfl 7 (by decide) hf_RX4_117 (fun _ h9 => h9) rfl dX4_enterDay_18 ?_
      refine lv_icmp_ge (tgt := 114) hx hb dX4_enterDay_21 (by decide) (fun c21 => ?_) (fun c21 => ?_)
      · skip
        have hi : i = κ 0 1 := Nat.le_antisymm h1 (z_ge (by omega) (by omega) c21)
        have hPf : va_P (z_DD G) vwCl (z_wC G ad (z_k3 σ 5 (σ 8 5 + z_sm (z_fc σ κ d) (κ 0 1)) (σ 8 6 + z_sm (z_fj σ κ d) (κ 0 1)) (σ 8 7 + z_sm (z_fs σ κ d) (κ 0 1))) κ) H := by rw [hi] at hP; exact hP
        exact W.vret hx hb hr (fun t ht hW => ⟨rfl, by rw [ht]; exact hPf, hS.F ht⟩) hS.2.2 dX4_enterDay_114
      · skip
        have hi := z_ng (by omega) (by omega) c21
        refine lv_aload_n hx hb dX4_enterDay_24 rfl (lv_at hl 0 rfl) ?_
        refine va_get (D := z_DD G) (ci := 4) (v := .ref (ad 2)) (C := RX4) (T := TX4) (N := 9) hx hb hts hi_RX4 hown hK hP 0 z_g0 rfl 1 (by decide) hf_RX4_17 (fun _ h9 => h9) rfl dX4_enterDay_25 ?_
        refine lv_iload hx hb dX4_enterDay_28 (lv_at hl 4 rfl) ?_
        refine z_aald (k := i) (g := fun j => ad (16 + j)) hx hb hK hP 2 2 z_g2 rfl (by omega) (by decide) dX4_enterDay_30 ?_
        refine lv_astore (lv' := [(5, .ref (ad (16 + i))), (0, .ref (ad 0)), (1, .ref (ad 7)), (2, .int (nI d)), (3, .int (σ 7 (d % 10))), (4, .int (nI i))]) hx hb dX4_enterDay_31 hl (by decide) rfl (fun ls hl => ?_)
        refine lv_aload hx hb dX4_enterDay_33 (lv_at hl 0 rfl) ?_
        refine z_call (va_runVN (As := []) (rest := []) ⟨hx, hb, hml, hown, hts⟩ (c_X2_canGo l G ad (z_k3 σ 5 (σ 8 5 + z_sm (z_fc σ κ d) i) (σ 8 6 + z_sm (z_fj σ κ d) i) (σ 8 7 + z_sm (z_fs σ κ d) i)) κ i (by omega)) ⟨va_cnB 0 hts gX4_enterDay_X2_canGo_n155 rfl rfl rfl (z_nmw hX.2 5 rfl) (hts (.initialized RX2) (by decide +kernel)) (by decide +kernel) ⟨Nat.le_of_ble_eq_true rfl, Nat.le_of_ble_eq_true rfl⟩, hts (.instanceMethod yX2_canGo) (by decide +kernel), hts (.selects RX2 yX2_canGo yX2_canGo) (by decide +kernel)⟩ (z_prV (ci := 2) (k := (16 + i)) hX hP rfl (z_gT (by omega))) rfl rfl hl.1 rfl (lv_room (Nat.le_of_ble_eq_true rfl)) dX4_enterDay_35 ⟨Nat.le_of_ble_eq_true rfl, Nat.le_of_ble_eq_true rfl⟩) (fun _ h9 => h9) ?_
        refine W.eq (g2 := F0 m 38 ls [.int (z_gc (κ 1 i) ((z_k3 σ 5 (σ 8 5 + z_sm (z_fc σ κ d) i) (σ 8 6 + z_sm (z_fj σ κ d) i) (σ 8 7 + z_sm (z_fs σ κ d) i)) 6 i))]) rfl ?_
        refine z_top (show (.int (z_gc (κ 1 i) ((z_k3 σ 5 (σ 8 5 + z_sm (z_fc σ κ d) i) (σ 8 6 + z_sm (z_fj σ κ d) i) (σ 8 7 + z_sm (z_fs σ κ d) i)) 6 i)) : Value) = .int (z_gc (κ 1 i) (σ 6 i)) from by rfl) ?_
        refine lv_if_eq (tgt := 108) hx hb dX4_enterDay_38 (by decide) (fun c38 => ?_) (fun c38 => ?_)
        · skip
          refine lv_iinc (v := nI (i + 1)) (lv' := [(4, .int (nI (i + 1))), (5, .ref (ad (16 + i))), (0, .ref (ad 0)), (1, .ref (ad 7)), (2, .int (nI d)), (3, .int (σ 7 (d % 10)))]) hx hb dX4_enterDay_108 hl (k := 5) rfl (z_inc _) (by decide) rfl (fun ls hl => ?_)
          refine lv_goto (tgt := 15) hx hb dX4_enterDay_111 (by decide) ?_
          -- back to 15
          have hP : va_P (z_DD G) vwCl (z_wC G ad (z_k3 σ 5 (σ 8 5 + z_sm (z_fc σ κ d) (i + 1)) (σ 8 6 + z_sm (z_fj σ κ d) (i + 1)) (σ 8 7 + z_sm (z_fs σ κ d) (i + 1))) κ) H := by 
            have e1 : z_sm (z_fc σ κ d) (i + 1) = z_sm (z_fc σ κ d) i := by show _ + z_fc σ κ d i = _; rw [z_fc, if_pos c38, Int32.add_zero]
            have e2 : z_sm (z_fj σ κ d) (i + 1) = z_sm (z_fj σ κ d) i := by show _ + z_fj σ κ d i = _; rw [z_fj, if_pos c38, Int32.add_zero]
            have e3 : z_sm (z_fs σ κ d) (i + 1) = z_sm (z_fs σ κ d) i := by show _ + z_fs σ κ d i = _; rw [z_fs, if_pos c38, Int32.add_zero]
            rw [e1, e2, e3]
            exact hP
          exact ih15 (i + 1) (by omega) (by omega) _ _ hP hS ls (lv_sub hl [2, 3, 4, 5, 0] rfl)
        · skip
          refine lv_aload_n hx hb dX4_enterDay_41 rfl (lv_at hl 1 rfl) ?_
          refine lv_aload hx hb dX4_enterDay_42 (lv_at hl 0 rfl) ?_
          refine lv_iload_n hx hb dX4_enterDay_44 rfl (lv_at hl 3 rfl) ?_
          refine z_call (va_runV (As := [.ref (ad (16 + i)), .int (nI d)]) (rest := []) ⟨hx, hb, hml, hown, hts⟩ (c_X4_joyOn l G ad (z_k3 σ 5 (σ 8 5 + z_sm (z_fc σ κ d) i) (σ 8 6 + z_sm (z_fj σ κ d) i) (σ 8 7 + z_sm (z_fs σ κ d) i)) κ hw i (by omega) (nI d)) (cwV 2 hts gX4_enterDay_X4_joyOn rfl rfl rfl (by decide +kernel) ⟨Nat.le_of_ble_eq_true rfl, Nat.le_of_ble_eq_true rfl⟩) (z_prV (ci := 4) (k := 0) hX hP rfl z_g0) rfl rfl hl.1 rfl (lv_room (Nat.le_of_ble_eq_true rfl)) dX4_enterDay_45 ⟨Nat.le_of_ble_eq_true rfl, Nat.le_of_ble_eq_true rfl⟩) (fun _ h9 => h9) ?_
          refine W.eq (g2 := F0 m 48 ls [.int (z_joy (z_k3 σ 5 (σ 8 5 + z_sm (z_fc σ κ d) i) (σ 8 6 + z_sm (z_fj σ κ d) i) (σ 8 7 + z_sm (z_fs σ κ d) i)) κ i (nI d))]) rfl ?_
          refine z_top (show (.int (z_joy (z_k3 σ 5 (σ 8 5 + z_sm (z_fc σ κ d) i) (σ 8 6 + z_sm (z_fj σ κ d) i) (σ 8 7 + z_sm (z_fs σ κ d) i)) κ i (nI d)) : Value) = .int (z_joy σ κ i (nI d)) from by (show Value.int (z_joy (z_k3 σ 5 (σ 8 5 + z_sm (z_fc σ κ d) i) (σ 8 6 + z_sm (z_fj σ κ d) i) (σ 8 7 + z_sm (z_fs σ κ d) i)) κ i (nI d)) = _; simp only [z_joy, z_jf_k3]; rfl)) ?_
          refine lv_istore (lv' := [(6, .int (z_joy σ κ i (nI d))), (5, .ref (ad (16 + i))), (0, .ref (ad 0)), (1, .ref (ad 7)), (2, .int (nI d)), (3, .int (σ 7 (d % 10))), (4, .int (nI i))]) hx hb dX4_enterDay_48 hl (by decide) rfl (fun ls hl => ?_)
          refine lv_aload_n hx hb dX4_enterDay_50 rfl (lv_at hl 3 rfl) ?_
          refine lv_dup hx hb dX4_enterDay_51 rfl ?_
          refine va_getN (D := z_DD G) (ci := 0) (v := .int ((z_k3 σ 5 (σ 8 5 + z_sm (z_fc σ κ d) i) (σ 8 6 + z_sm (z_fj σ κ d) i) (σ 8 7 + z_sm (z_fs σ κ d) i)) 8 5)) (C := RX0) (T := TX0) (N := 3) hx hb hts hi_RX0 hown hK hP 7 z_g7 rfl 0 (by decide) (z_nfw hX.2 1 rfl) (fun _ h9 => h9) rfl dX4_enterDay_52 ?_
          refine z_top (show (.int ((z_k3 σ 5 (σ 8 5 + z_sm (z_fc σ κ d) i) (σ 8 6 + z_sm (z_fj σ κ d) i) (σ 8 7 + z_sm (z_fs σ κ d) i)) 8 5) : Value) = .int (σ 8 5 + z_sm (z_fc σ κ d) i) from by rfl) ?_
          refine lv_iload hx hb dX4_enterDay_55 (lv_at hl 0 rfl) ?_
          refine lv_aload hx hb dX4_enterDay_57 (lv_at hl 1 rfl) ?_
          refine va_getN (D := z_DD G) (ci := 2) (v := .int ((z_k3 σ 5 (σ 8 5 + z_sm (z_fc σ κ d) i) (σ 8 6 + z_sm (z_fj σ κ d) i) (σ 8 7 + z_sm (z_fs σ κ d) i)) 5 i)) (C := RX2) (T := TX2) (N := 4) hx hb hts hi_RX2 hown hK hP (16 + i) (z_gT (by omega)) rfl 2 (by decide) (z_nfw hX.2 11 rfl) (fun _ h9 => h9) rfl dX4_enterDay_59 ?_
          refine z_top (show (.int ((z_k3 σ 5 (σ 8 5 + z_sm (z_fc σ κ d) i) (σ 8 6 + z_sm (z_fj σ κ d) i) (σ 8 7 + z_sm (z_fs σ κ d) i)) 5 i) : Value) = .int (σ 5 i) from by rfl) ?_
          refine lv_imul hx hb dX4_enterDay_62 ?_
          refine lv_bipush (v := 100) hx hb dX4_enterDay_63 (by decide) ?_
          refine lv_idiv hx hb dX4_enterDay_65 (by decide) ?_
          refine lv_aload hx hb dX4_enterDay_66 (lv_at hl 1 rfl) ?_
          refine va_getN (D := z_DD G) (ci := 2) (v := .int ((z_k3 σ 5 (σ 8 5 + z_sm (z_fc σ κ d) i) (σ 8 6 + z_sm (z_fj σ κ d) i) (σ 8 7 + z_sm (z_fs σ κ d) i)) 5 i)) (C := RX2) (T := TX2) (N := 4) hx hb hts hi_RX2 hown hK hP (16 + i) (z_gT (by omega)) rfl 2 (by decide) (z_nfw hX.2 11 rfl) (fun _ h9 => h9) rfl dX4_enterDay_68 ?_
          refine z_top (show (.int ((z_k3 σ 5 (σ 8 5 + z_sm (z_fc σ κ d) i) (σ 8 6 + z_sm (z_fj σ κ d) i) (σ 8 7 + z_sm (z_fs σ κ d) i)) 5 i) : Value) = .int (σ 5 i) from by rfl) ?_
          refine lv_iload_n hx hb dX4_enterDay_71 rfl (lv_at hl 5 rfl) ?_
          refine lv_imul hx hb dX4_enterDay_72 ?_
          refine lv_bipush (v := 40) hx hb dX4_enterDay_73 (by decide) ?_
          refine lv_idiv hx hb dX4_enterDay_75 (by decide) ?_
          refine lv_iadd hx hb dX4_enterDay_76 ?_
          refine lv_iadd hx hb dX4_enterDay_77 ?_
          refine va_putN (D := z_DD G) (ci := 0) (v := .int ((σ 8 5 + z_sm (z_fc σ κ d) i) + ((((z_joy σ κ i (nI d)) * (σ 5 i)) / 100) + (((σ 5 i) * (σ 7 (d % 10))) / 40)))) (ty := .int) (C := RX0) (T := TX0) (N := 3) hx hb hts hi_RX0 tyX0 tyX0_ok nmX0 hown hK hP hD hS 7 z_g7 rfl 0 (by decide) (z_nfw hX.2 1 rfl) (fun _ h9 => h9) rfl (by decide +kernel) rfl rfl (Nat.le_of_ble_eq_true rfl) dX4_enterDay_78 (fun H locs hP hD hS => ?_)
          have hP : va_P (z_DD G) vwCl (z_wC G ad (z_up (z_k3 σ 5 (σ 8 5 + z_sm (z_fc σ κ d) i) (σ 8 6 + z_sm (z_fj σ κ d) i) (σ 8 7 + z_sm (z_fs σ κ d) i)) 8 5 ((σ 8 5 + z_sm (z_fc σ κ d) i) + ((((z_joy σ κ i (nI d)) * (σ 5 i)) / 100) + (((σ 5 i) * (σ 7 (d % 10))) / 40)))) κ) H := Eq.mp (congrArg (fun w => va_P (z_DD G) vwCl w H) z_sB70) hP
          have hD := z_Dm hinj (z_cC G ad (z_up (z_k3 σ 5 (σ 8 5 + z_sm (z_fc σ κ d) i) (σ 8 6 + z_sm (z_fj σ κ d) i) (σ 8 7 + z_sm (z_fs σ κ d) i)) 8 5 ((σ 8 5 + z_sm (z_fc σ κ d) i) + ((((z_joy σ κ i (nI d)) * (σ 5 i)) / 100) + (((σ 5 i) * (σ 7 (d % 10))) / 40)))) κ)
          refine lv_aload_n hx hb dX4_enterDay_81 rfl (lv_at hl 3 rfl) ?_
          refine lv_dup hx hb dX4_enterDay_82 rfl ?_
          refine va_getN (D := z_DD G) (ci := 0) (v := .int ((z_up (z_k3 σ 5 (σ 8 5 + z_sm (z_fc σ κ d) i) (σ 8 6 + z_sm (z_fj σ κ d) i) (σ 8 7 + z_sm (z_fs σ κ d) i)) 8 5 ((σ 8 5 + z_sm (z_fc σ κ d) i) + ((((z_joy σ κ i (nI d)) * (σ 5 i)) / 100) + (((σ 5 i) * (σ 7 (d % 10))) / 40)))) 8 6)) (C := RX0) (T := TX0) (N := 3) hx hb hts hi_RX0 hown hK hP 7 z_g7 rfl 1 (by decide) (z_nfw hX.2 2 rfl) (fun _ h9 => h9) rfl dX4_enterDay_83 ?_
          refine z_top (show (.int ((z_up (z_k3 σ 5 (σ 8 5 + z_sm (z_fc σ κ d) i) (σ 8 6 + z_sm (z_fj σ κ d) i) (σ 8 7 + z_sm (z_fs σ κ d) i)) 8 5 ((σ 8 5 + z_sm (z_fc σ κ d) i) + ((((z_joy σ κ i (nI d)) * (σ 5 i)) / 100) + (((σ 5 i) * (σ 7 (d % 10))) / 40)))) 8 6) : Value) = .int (σ 8 6 + z_sm (z_fj σ κ d) i) from by rfl) ?_
          refine lv_iload hx hb dX4_enterDay_86 (lv_at hl 0 rfl) ?_
          refine lv_iadd hx hb dX4_enterDay_88 ?_
          refine va_putN (D := z_DD G) (ci := 0) (v := .int ((σ 8 6 + z_sm (z_fj σ κ d) i) + (z_joy σ κ i (nI d)))) (ty := .int) (C := RX0) (T := TX0) (N := 3) hx hb hts hi_RX0 tyX0 tyX0_ok nmX0 hown hK hP hD hS 7 z_g7 rfl 1 (by decide) (z_nfw hX.2 2 rfl) (fun _ h9 => h9) rfl (by decide +kernel) rfl rfl (Nat.le_of_ble_eq_true rfl) dX4_enterDay_89 (fun H locs hP hD hS => ?_)
          have hP : va_P (z_DD G) vwCl (z_wC G ad (z_up (z_up (z_k3 σ 5 (σ 8 5 + z_sm (z_fc σ κ d) i) (σ 8 6 + z_sm (z_fj σ κ d) i) (σ 8 7 + z_sm (z_fs σ κ d) i)) 8 5 ((σ 8 5 + z_sm (z_fc σ κ d) i) + ((((z_joy σ κ i (nI d)) * (σ 5 i)) / 100) + (((σ 5 i) * (σ 7 (d % 10))) / 40)))) 8 6 ((σ 8 6 + z_sm (z_fj σ κ d) i) + (z_joy σ κ i (nI d)))) κ) H := Eq.mp (congrArg (fun w => va_P (z_DD G) vwCl w H) z_sB71) hP
          have hD := z_Dm hinj (z_cC G ad (z_up (z_up (z_k3 σ 5 (σ 8 5 + z_sm (z_fc σ κ d) i) (σ 8 6 + z_sm (z_fj σ κ d) i) (σ 8 7 + z_sm (z_fs σ κ d) i)) 8 5 ((σ 8 5 + z_sm (z_fc σ κ d) i) + ((((z_joy σ κ i (nI d)) * (σ 5 i)) / 100) + (((σ 5 i) * (σ 7 (d % 10))) / 40)))) 8 6 ((σ 8 6 + z_sm (z_fj σ κ d) i) + (z_joy σ κ i (nI d)))) κ)
          refine lv_aload_n hx hb dX4_enterDay_92 rfl (lv_at hl 3 rfl) ?_
          refine lv_dup hx hb dX4_enterDay_93 rfl ?_
          refine va_getN (D := z_DD G) (ci := 0) (v := .int ((z_up (z_up (z_k3 σ 5 (σ 8 5 + z_sm (z_fc σ κ d) i) (σ 8 6 + z_sm (z_fj σ κ d) i) (σ 8 7 + z_sm (z_fs σ κ d) i)) 8 5 ((σ 8 5 + z_sm (z_fc σ κ d) i) + ((((z_joy σ κ i (nI d)) * (σ 5 i)) / 100) + (((σ 5 i) * (σ 7 (d % 10))) / 40)))) 8 6 ((σ 8 6 + z_sm (z_fj σ κ d) i) + (z_joy σ κ i (nI d)))) 8 7)) (C := RX0) (T := TX0) (N := 3) hx hb hts hi_RX0 hown hK hP 7 z_g7 rfl 2 (by decide) (z_nfw hX.2 3 rfl) (fun _ h9 => h9) rfl dX4_enterDay_94 ?_
          refine z_top (show (.int ((z_up (z_up (z_k3 σ 5 (σ 8 5 + z_sm (z_fc σ κ d) i) (σ 8 6 + z_sm (z_fj σ κ d) i) (σ 8 7 + z_sm (z_fs σ κ d) i)) 8 5 ((σ 8 5 + z_sm (z_fc σ κ d) i) + ((((z_joy σ κ i (nI d)) * (σ 5 i)) / 100) + (((σ 5 i) * (σ 7 (d % 10))) / 40)))) 8 6 ((σ 8 6 + z_sm (z_fj σ κ d) i) + (z_joy σ κ i (nI d)))) 8 7) : Value) = .int (σ 8 7 + z_sm (z_fs σ κ d) i) from by rfl) ?_
          refine lv_aload_n hx hb dX4_enterDay_97 rfl (lv_at hl 2 rfl) ?_
          refine lv_aload hx hb dX4_enterDay_98 (lv_at hl 1 rfl) ?_
          refine lv_iload_n hx hb dX4_enterDay_100 rfl (lv_at hl 4 rfl) ?_
          refine z_call (va_runV (As := [.ref (ad (16 + i)), .int (nI d)]) (rest := [.int (σ 8 7 + z_sm (z_fs σ κ d) i), .ref (ad 7)]) ⟨hx, hb, hml, hown, hts⟩ (c_X4_stingsOn l G ad (z_up (z_up (z_k3 σ 5 (σ 8 5 + z_sm (z_fc σ κ d) i) (σ 8 6 + z_sm (z_fj σ κ d) i) (σ 8 7 + z_sm (z_fs σ κ d) i)) 8 5 ((σ 8 5 + z_sm (z_fc σ κ d) i) + ((((z_joy σ κ i (nI d)) * (σ 5 i)) / 100) + (((σ 5 i) * (σ 7 (d % 10))) / 40)))) 8 6 ((σ 8 6 + z_sm (z_fj σ κ d) i) + (z_joy σ κ i (nI d)))) κ hw i (by omega) (nI d)) (cwV 2 hts gX4_enterDay_X4_stingsOn rfl rfl rfl (by decide +kernel) ⟨Nat.le_of_ble_eq_true rfl, Nat.le_of_ble_eq_true rfl⟩) (z_prV (ci := 4) (k := 0) hX hP rfl z_g0) rfl rfl hl.1 rfl (lv_room (Nat.le_of_ble_eq_true rfl)) dX4_enterDay_101 ⟨Nat.le_of_ble_eq_true rfl, Nat.le_of_ble_eq_true rfl⟩) (fun _ h9 => h9) ?_
          refine W.eq (g2 := F0 m 104 ls [.int (z_stg (z_up (z_up (z_k3 σ 5 (σ 8 5 + z_sm (z_fc σ κ d) i) (σ 8 6 + z_sm (z_fj σ κ d) i) (σ 8 7 + z_sm (z_fs σ κ d) i)) 8 5 ((σ 8 5 + z_sm (z_fc σ κ d) i) + ((((z_joy σ κ i (nI d)) * (σ 5 i)) / 100) + (((σ 5 i) * (σ 7 (d % 10))) / 40)))) 8 6 ((σ 8 6 + z_sm (z_fj σ κ d) i) + (z_joy σ κ i (nI d)))) κ i (nI d)), .int (σ 8 7 + z_sm (z_fs σ κ d) i), .ref (ad 7)]) rfl ?_
          refine z_top (show (.int (z_stg (z_up (z_up (z_k3 σ 5 (σ 8 5 + z_sm (z_fc σ κ d) i) (σ 8 6 + z_sm (z_fj σ κ d) i) (σ 8 7 + z_sm (z_fs σ κ d) i)) 8 5 ((σ 8 5 + z_sm (z_fc σ κ d) i) + ((((z_joy σ κ i (nI d)) * (σ 5 i)) / 100) + (((σ 5 i) * (σ 7 (d % 10))) / 40)))) 8 6 ((σ 8 6 + z_sm (z_fj σ κ d) i) + (z_joy σ κ i (nI d)))) κ i (nI d)) : Value) = .int (z_stg σ κ i (nI d)) from by rfl) ?_
          refine lv_iadd hx hb dX4_enterDay_104 ?_
          refine va_putN (D := z_DD G) (ci := 0) (v := .int ((σ 8 7 + z_sm (z_fs σ κ d) i) + (z_stg σ κ i (nI d)))) (ty := .int) (C := RX0) (T := TX0) (N := 3) hx hb hts hi_RX0 tyX0 tyX0_ok nmX0 hown hK hP hD hS 7 z_g7 rfl 2 (by decide) (z_nfw hX.2 3 rfl) (fun _ h9 => h9) rfl (by decide +kernel) rfl rfl (Nat.le_of_ble_eq_true rfl) dX4_enterDay_105 (fun H locs hP hD hS => ?_)
          have hP : va_P (z_DD G) vwCl (z_wC G ad (z_up (z_up (z_up (z_k3 σ 5 (σ 8 5 + z_sm (z_fc σ κ d) i) (σ 8 6 + z_sm (z_fj σ κ d) i) (σ 8 7 + z_sm (z_fs σ κ d) i)) 8 5 ((σ 8 5 + z_sm (z_fc σ κ d) i) + ((((z_joy σ κ i (nI d)) * (σ 5 i)) / 100) + (((σ 5 i) * (σ 7 (d % 10))) / 40)))) 8 6 ((σ 8 6 + z_sm (z_fj σ κ d) i) + (z_joy σ κ i (nI d)))) 8 7 ((σ 8 7 + z_sm (z_fs σ κ d) i) + (z_stg σ κ i (nI d)))) κ) H := Eq.mp (congrArg (fun w => va_P (z_DD G) vwCl w H) z_sB72) hP
          have hD := z_Dm hinj (z_cC G ad (z_up (z_up (z_up (z_k3 σ 5 (σ 8 5 + z_sm (z_fc σ κ d) i) (σ 8 6 + z_sm (z_fj σ κ d) i) (σ 8 7 + z_sm (z_fs σ κ d) i)) 8 5 ((σ 8 5 + z_sm (z_fc σ κ d) i) + ((((z_joy σ κ i (nI d)) * (σ 5 i)) / 100) + (((σ 5 i) * (σ 7 (d % 10))) / 40)))) 8 6 ((σ 8 6 + z_sm (z_fj σ κ d) i) + (z_joy σ κ i (nI d)))) 8 7 ((σ 8 7 + z_sm (z_fs σ κ d) i) + (z_stg σ κ i (nI d)))) κ)
          refine lv_iinc (v := nI (i + 1)) (lv' := [(4, .int (nI (i + 1))), (6, .int (z_joy σ κ i (nI d))), (5, .ref (ad (16 + i))), (0, .ref (ad 0)), (1, .ref (ad 7)), (2, .int (nI d)), (3, .int (σ 7 (d % 10)))]) hx hb dX4_enterDay_108 hl (k := 6) rfl (z_inc _) (by decide) rfl (fun ls hl => ?_)
          refine lv_goto (tgt := 15) hx hb dX4_enterDay_111 (by decide) ?_
          -- back to 15
          have hP : va_P (z_DD G) vwCl (z_wC G ad (z_k3 σ 5 (σ 8 5 + z_sm (z_fc σ κ d) (i + 1)) (σ 8 6 + z_sm (z_fj σ κ d) (i + 1)) (σ 8 7 + z_sm (z_fs σ κ d) (i + 1))) κ) H := by 
            have e1 : z_fc σ κ d i = z_joy σ κ i (nI d) * σ 5 i / 100 + σ 5 i * σ 7 (d % 10) / 40 := if_neg c38
            have e2 : z_fj σ κ d i = z_joy σ κ i (nI d) := if_neg c38
            have e3 : z_fs σ κ d i = z_stg σ κ i (nI d) := if_neg c38
            have e0 : (z_up (z_up (z_up (z_k3 σ 5 (σ 8 5 + z_sm (z_fc σ κ d) i) (σ 8 6 + z_sm (z_fj σ κ d) i) (σ 8 7 + z_sm (z_fs σ κ d) i)) 8 5 ((σ 8 5 + z_sm (z_fc σ κ d) i) + ((((z_joy σ κ i (nI d)) * (σ 5 i)) / 100) + (((σ 5 i) * (σ 7 (d % 10))) / 40)))) 8 6 ((σ 8 6 + z_sm (z_fj σ κ d) i) + (z_joy σ κ i (nI d)))) 8 7 ((σ 8 7 + z_sm (z_fs σ κ d) i) + (z_stg σ κ i (nI d)))) = (z_k3 σ 5 (σ 8 5 + z_sm (z_fc σ κ d) (i + 1)) (σ 8 6 + z_sm (z_fj σ κ d) (i + 1)) (σ 8 7 + z_sm (z_fs σ κ d) (i + 1))) := (z_k3_up σ 5 _ _ _ _ _ _).trans (congr (congr (congrArg (z_k3 σ 5) (z_acc _ _ e1.symm)) (z_acc _ _ e2.symm)) (z_acc _ _ e3.symm))
            rw [← e0]
            exact hP
          exact ih15 (i + 1) (by omega) (by omega) _ _ hP hS ls (lv_sub hl [3, 4, 5, 6, 0] rfl)
  have hP : va_P (z_DD G) vwCl (z_wC G ad (z_k3 σ 5 (σ 8 5 + z_sm (z_fc σ κ d) 0) (σ 8 6 + z_sm (z_fj σ κ d) 0) (σ 8 7 + z_sm (z_fs σ κ d) 0)) κ) s.heap := by show va_P (z_DD G) vwCl (z_wC G ad (z_k3 σ 5 (σ 8 5 + 0) (σ 8 6 + 0) (σ 8 7 + 0)) κ) s.heap; rw [Int32.add_zero, Int32.add_zero, Int32.add_zero, z_k3_id]; exact hP
  exact lp15 (κ 0 1 + 1) 0 (by omega) (by omega) _ _ hP hS ls (lv_sub hl [2, 3, 4, 1, 0] rfl)

set_option maxHeartbeats 4000000 in
set_option maxRecDepth 100000 in
theorem c_X4_enterDays_d (l : Launch) (G : z_GT) (ad : Nat → Nat) (σ : Nat → Nat → Int32) (κ : Nat → Nat → Nat) (hinj : ∀ i j, i < 36 → j < 36 → ad i = ad j → i = j) (hw : z_wf κ) (T n : Nat) (hT : σ 8 1 = nI T) (hT2 : T + n < 2 ^ 31) : Met l yX4_enterDays wsX4_enterDays ({ frames := 4, cells := 0, slots := 0, locals := 95 } : Room) (z_Pr G [.ref (ad 0), .ref (ad 7), .int (nI n)] (z_wC G ad σ κ)) (z_Qm G none (z_wC G ad (z_k3 σ 5 (σ 8 5 + z_dd (z_fc σ κ) T (κ 0 1) n) (σ 8 6 + z_dd (z_fj σ κ) T (κ 0 1) n) (σ 8 7 + z_dd (z_fs σ κ) T (κ 0 1) n)) κ) (z_A 36 ad)) 0 0 (z_A 36 ad) := by
  refine Met.ofW (cc := cX4_enterDays) (maxL := 4) (ret := none) (by decide) rfl ?_
  intro p e s m args below meth c s₁ B hml hw0
  obtain ⟨rfl, hX, hP⟩ := hw0
  have hK := hX.1
  have hx := B.exec
  have hb := B.bytes
  have hr := B.returns
  have hts := atoms_spec (ws := wsX4_enterDays) B.pre
  have hown : s.vm.findClass RX4 = some m.cls := findClass_of_methodNamed B.named
  have hlocks := B.notSynchronized
  have hl := lv_entry ([.ref (ad 0), .ref (ad 7), .int (nI n)]) (n := 4) (Nat.le_of_ble_eq_true rfl)
  rw [lg_entry_eq]
  generalize (lg_sl ([.ref (ad 0), .ref (ad 7), .int (nI n)]) ++ List.replicate (4 - (lg_sl ([.ref (ad 0), .ref (ad 7), .int (nI n)])).length) Slot.unset).toArray = ls at hl ⊢
  have hl : lv_has ls 4 [(0, .ref (ad 0)), (1, .ref (ad 7)), (2, .int (nI n))] := hl
  have hf_RX4_158 : (Cond.fieldLink RX4 158 "BlossomTours" "today" "I").before ([.ref (ad 0), .ref (ad 7), .int (nI n)] : List Value).toArray s = true := hts _ (by decide +kernel)
  have hi_RX4 : ∀ w ∈ u_ws RX4 TX4 9, w ∈ wsX4_enterDays := by decide +kernel
  have hS : va_S (z_A 36 ad) s.heap s.heap [] := va_S.rf
  have hD := z_Dm hinj (z_cC G ad σ κ)
  refine lv_iconst (v := nI 0) hx hb dX4_enterDays_0 (by decide) ?_
  refine lv_istore_n (lv' := [(3, .int (nI 0)), (0, .ref (ad 0)), (1, .ref (ad 7)), (2, .int (nI n))]) hx hb dX4_enterDays_1 rfl hl (by decide) rfl (fun ls hl => ?_)
  have lp2 : ∀ (fu2 : Nat) (i : Nat), i ≤ n → n < i + fu2 → ∀ (H : Heap) (locs : List Loc), va_P (z_DD G) vwCl (z_wC G ad (z_k3 σ 5 (σ 8 5 + z_dd (z_fc σ κ) T (κ 0 1) i) (σ 8 6 + z_dd (z_fj σ κ) T (κ 0 1) i) (σ 8 7 + z_dd (z_fs σ κ) T (κ 0 1) i)) κ) H → va_S (z_A 36 ad) s.heap H locs → ∀ (ls : Array Slot), lv_has ls 4 [(0, .ref (ad 0)), (1, .ref (ad 7)), (2, .int (nI n)), (3, .int (nI i))] → W p l e (headSpec wsX4_enterDays ({ frames := 4, cells := 0, slots := 0, locals := 95 } : Room)).room s m ([.ref (ad 0), .ref (ad 7), .int (nI n)] : List Value).toArray below meth c H locs 0 0 (MQ below (z_Qm G none (z_wC G ad (z_k3 σ 5 (σ 8 5 + z_dd (z_fc σ κ) T (κ 0 1) n) (σ 8 6 + z_dd (z_fj σ κ) T (κ 0 1) n) (σ 8 7 + z_dd (z_fs σ κ) T (κ 0 1) n)) κ) (z_A 36 ad)) ([.ref (ad 0), .ref (ad 7), .int (nI n)] : List Value).toArray s 0 0 (z_A 36 ad)) (F0 m 2 ls []) := by
    intro fu2
    induction fu2 with
    | zero =>
      intro i h1 h2
      exfalso; omega
    | succ fu2 ih2 =>
      intro i h1 h2 H locs hP hS ls hl
      have hD := z_Dm hinj (z_cC G ad (z_k3 σ 5 (σ 8 5 + z_dd (z_fc σ κ) T (κ 0 1) i) (σ 8 6 + z_dd (z_fj σ κ) T (κ 0 1) i) (σ 8 7 + z_dd (z_fs σ κ) T (κ 0 1) i)) κ)
      refine lv_iload_n hx hb dX4_enterDays_2 rfl (lv_at hl 3 rfl) ?_
      refine lv_iload_n hx hb dX4_enterDays_3 rfl (lv_at hl 2 rfl) ?_
      refine lv_icmp_ge (tgt := 24) hx hb dX4_enterDays_4 (by decide) (fun c4 => ?_) (fun c4 => ?_)
      · skip
        have hi : i = n := Nat.le_antisymm h1 (z_ge (by omega) (by omega) c4)
        have hPf : va_P (z_DD G) vwCl (z_wC G ad (z_k3 σ 5 (σ 8 5 + z_dd (z_fc σ κ) T (κ 0 1) n) (σ 8 6 + z_dd (z_fj σ κ) T (κ 0 1) n) (σ 8 7 + z_dd (z_fs σ κ) T (κ 0 1) n)) κ) H := by rw [hi] at hP; exact hP
        exact W.vret hx hb hr (fun t ht hW => ⟨rfl, by rw [ht]; exact hPf, hS.F ht⟩) hS.2.2 dX4_enterDays_24
      · skip
        have hi := z_ng (by omega) (by omega) c4
        refine lv_aload_n hx hb dX4_enterDays_7 rfl (lv_at hl 0 rfl) ?_
        refine lv_aload_n hx hb dX4_enterDays_8 rfl (lv_at hl 1 rfl) ?_
        refine lv_aload_n hx hb dX4_enterDays_9 rfl (lv_at hl 0 rfl) ?_
        refine va_get (D := z_DD G) (ci := 4) (v := .int ((z_k3 σ 5 (σ 8 5 + z_dd (z_fc σ κ) T (κ 0 1) i) (σ 8 6 + z_dd (z_fj σ κ) T (κ 0 1) i) (σ 8 7 + z_dd (z_fs σ κ) T (κ 0 1) i)) 8 1)) (C := RX4) (T := TX4) (N := 9) hx hb hts hi_RX4 hown hK hP 0 z_g0 rfl 8 (by decide) hf_RX4_158 (fun _ h9 => h9) rfl dX4_enterDays_10 ?_
        refine z_top (show (.int ((z_k3 σ 5 (σ 8 5 + z_dd (z_fc σ κ) T (κ 0 1) i) (σ 8 6 + z_dd (z_fj σ κ) T (κ 0 1) i) (σ 8 7 + z_dd (z_fs σ κ) T (κ 0 1) i)) 8 1) : Value) = .int (nI T) from by (show Value.int (σ 8 1) = _; rw [hT])) ?_
        refine lv_iload_n hx hb dX4_enterDays_13 rfl (lv_at hl 3 rfl) ?_
        refine lv_iadd hx hb dX4_enterDays_14 ?_
        refine z_top (show (.int ((nI T) + (nI i)) : Value) = .int (nI (T + i)) from by rw [nI_add]) ?_
        refine z_callm (va_runV (As := [.ref (ad 7), .int (nI (T + i))]) (rest := []) ⟨hx, hb, hml, hown, hts⟩ (c_X4_enterDay_d l G ad (z_k3 σ 5 (σ 8 5 + z_dd (z_fc σ κ) T (κ 0 1) i) (σ 8 6 + z_dd (z_fj σ κ) T (κ 0 1) i) (σ 8 7 + z_dd (z_fs σ κ) T (κ 0 1) i)) κ hinj hw (T + i) (by omega)) (cwV 2 hts gX4_enterDays_X4_enterDay rfl rfl rfl (by decide +kernel) ⟨Nat.le_of_ble_eq_true rfl, Nat.le_of_ble_eq_true rfl⟩) (z_prV (ci := 4) (k := 0) hX hP rfl z_g0) rfl rfl hl.1 rfl (lv_room (Nat.le_of_ble_eq_true rfl)) dX4_enterDays_15 ⟨Nat.le_of_ble_eq_true rfl, Nat.le_of_ble_eq_true rfl⟩) hS (fun _ _ h9 => h9) (fun _ h9 => h9) (fun H locs hP hz9 hk9 hS => ?_)
        have hD := z_Dm hinj (z_cC G ad (z_k3 (z_k3 σ 5 (σ 8 5 + z_dd (z_fc σ κ) T (κ 0 1) i) (σ 8 6 + z_dd (z_fj σ κ) T (κ 0 1) i) (σ 8 7 + z_dd (z_fs σ κ) T (κ 0 1) i)) 5 ((z_k3 σ 5 (σ 8 5 + z_dd (z_fc σ κ) T (κ 0 1) i) (σ 8 6 + z_dd (z_fj σ κ) T (κ 0 1) i) (σ 8 7 + z_dd (z_fs σ κ) T (κ 0 1) i)) 8 5 + z_sm (z_fc (z_k3 σ 5 (σ 8 5 + z_dd (z_fc σ κ) T (κ 0 1) i) (σ 8 6 + z_dd (z_fj σ κ) T (κ 0 1) i) (σ 8 7 + z_dd (z_fs σ κ) T (κ 0 1) i)) κ (T + i)) (κ 0 1)) ((z_k3 σ 5 (σ 8 5 + z_dd (z_fc σ κ) T (κ 0 1) i) (σ 8 6 + z_dd (z_fj σ κ) T (κ 0 1) i) (σ 8 7 + z_dd (z_fs σ κ) T (κ 0 1) i)) 8 6 + z_sm (z_fj (z_k3 σ 5 (σ 8 5 + z_dd (z_fc σ κ) T (κ 0 1) i) (σ 8 6 + z_dd (z_fj σ κ) T (κ 0 1) i) (σ 8 7 + z_dd (z_fs σ κ) T (κ 0 1) i)) κ (T + i)) (κ 0 1)) ((z_k3 σ 5 (σ 8 5 + z_dd (z_fc σ κ) T (κ 0 1) i) (σ 8 6 + z_dd (z_fj σ κ) T (κ 0 1) i) (σ 8 7 + z_dd (z_fs σ κ) T (κ 0 1) i)) 8 7 + z_sm (z_fs (z_k3 σ 5 (σ 8 5 + z_dd (z_fc σ κ) T (κ 0 1) i) (σ 8 6 + z_dd (z_fj σ κ) T (κ 0 1) i) (σ 8 7 + z_dd (z_fs σ κ) T (κ 0 1) i)) κ (T + i)) (κ 0 1))) κ)
        refine lv_iinc (v := nI (i + 1)) (lv' := [(3, .int (nI (i + 1))), (0, .ref (ad 0)), (1, .ref (ad 7)), (2, .int (nI n))]) hx hb dX4_enterDays_18 hl (k := 3) rfl (z_inc _) (by decide) rfl (fun ls hl => ?_)
        refine lv_goto (tgt := 2) hx hb dX4_enterDays_21 (by decide) ?_
        -- back to 2
        have hP : va_P (z_DD G) vwCl (z_wC G ad (z_k3 σ 5 (σ 8 5 + z_dd (z_fc σ κ) T (κ 0 1) (i + 1)) (σ 8 6 + z_dd (z_fj σ κ) T (κ 0 1) (i + 1)) (σ 8 7 + z_dd (z_fs σ κ) T (κ 0 1) (i + 1))) κ) H := by 
          have e0 : (z_k3 (z_k3 σ 5 (σ 8 5 + z_dd (z_fc σ κ) T (κ 0 1) i) (σ 8 6 + z_dd (z_fj σ κ) T (κ 0 1) i) (σ 8 7 + z_dd (z_fs σ κ) T (κ 0 1) i)) 5 ((z_k3 σ 5 (σ 8 5 + z_dd (z_fc σ κ) T (κ 0 1) i) (σ 8 6 + z_dd (z_fj σ κ) T (κ 0 1) i) (σ 8 7 + z_dd (z_fs σ κ) T (κ 0 1) i)) 8 5 + z_sm (z_fc (z_k3 σ 5 (σ 8 5 + z_dd (z_fc σ κ) T (κ 0 1) i) (σ 8 6 + z_dd (z_fj σ κ) T (κ 0 1) i) (σ 8 7 + z_dd (z_fs σ κ) T (κ 0 1) i)) κ (T + i)) (κ 0 1)) ((z_k3 σ 5 (σ 8 5 + z_dd (z_fc σ κ) T (κ 0 1) i) (σ 8 6 + z_dd (z_fj σ κ) T (κ 0 1) i) (σ 8 7 + z_dd (z_fs σ κ) T (κ 0 1) i)) 8 6 + z_sm (z_fj (z_k3 σ 5 (σ 8 5 + z_dd (z_fc σ κ) T (κ 0 1) i) (σ 8 6 + z_dd (z_fj σ κ) T (κ 0 1) i) (σ 8 7 + z_dd (z_fs σ κ) T (κ 0 1) i)) κ (T + i)) (κ 0 1)) ((z_k3 σ 5 (σ 8 5 + z_dd (z_fc σ κ) T (κ 0 1) i) (σ 8 6 + z_dd (z_fj σ κ) T (κ 0 1) i) (σ 8 7 + z_dd (z_fs σ κ) T (κ 0 1) i)) 8 7 + z_sm (z_fs (z_k3 σ 5 (σ 8 5 + z_dd (z_fc σ κ) T (κ 0 1) i) (σ 8 6 + z_dd (z_fj σ κ) T (κ 0 1) i) (σ 8 7 + z_dd (z_fs σ κ) T (κ 0 1) i)) κ (T + i)) (κ 0 1))) = (z_k3 σ 5 (σ 8 5 + z_dd (z_fc σ κ) T (κ 0 1) (i + 1)) (σ 8 6 + z_dd (z_fj σ κ) T (κ 0 1) (i + 1)) (σ 8 7 + z_dd (z_fs σ κ) T (κ 0 1) (i + 1))) := by
            rw [z_k3_k3, z_fc_k3, z_fj_k3, z_fs_k3]
            exact congr (congr (congrArg (z_k3 σ 5) (z_acc _ _ rfl)) (z_acc _ _ rfl)) (z_acc _ _ rfl)
          rw [← e0]
          exact hP
        exact ih2 (i + 1) (by omega) (by omega) _ _ hP hS ls (lv_sub hl [1, 2, 3, 0] rfl)
  have hP : va_P (z_DD G) vwCl (z_wC G ad (z_k3 σ 5 (σ 8 5 + z_dd (z_fc σ κ) T (κ 0 1) 0) (σ 8 6 + z_dd (z_fj σ κ) T (κ 0 1) 0) (σ 8 7 + z_dd (z_fs σ κ) T (κ 0 1) 0)) κ) s.heap := by show va_P (z_DD G) vwCl (z_wC G ad (z_k3 σ 5 (σ 8 5 + 0) (σ 8 6 + 0) (σ 8 7 + 0)) κ) s.heap; rw [Int32.add_zero, Int32.add_zero, Int32.add_zero, z_k3_id]; exact hP
  exact lp2 (n + 1) 0 (by omega) (by omega) _ _ hP hS ls (lv_sub hl [1, 2, 3, 0] rfl)
