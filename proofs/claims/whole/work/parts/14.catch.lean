/-! Part 14: the law's catching calls. -/
set_option maxHeartbeats 4000000 in
set_option maxRecDepth 100000 in
theorem w_L_valley (l : Launch) (G : z_GT) (ad : Nat → Nat) (ox : Nat) (σ σ' : Nat → Nat → Int32) (κ κ' : Nat → Nat → Nat) (o : Int64) (v : Int32) (p0 : Int32) (p1 : Int32) (p2 : Int32) (hinj : ∀ i j, i < 36 → j < 36 → ad i = ad j → i = j) (hox : ∀ k, k < 36 → ad k ≠ ox) (hM : Met l yX4_valley wsX4_valley ({ frames := 1, cells := 0, slots := 0, locals := 22 } : Room) (z_Pr G [.ref (ad 0), .int p0, .int p1, .int p2] (z_wC G ad σ κ)) (z_Qm G (some (.int v)) (z_wC G ad σ' κ') (z_A 36 ad)) 0 0 (z_A 36 ad)) : Met l yL_valley wsL_valley ({ frames := 7, cells := 1, slots := 6, locals := 106 } : Room) (z_Pl G ad ox σ κ o [.ref (ad 0), .int p0, .int p1, .int p2, .ref ox]) (z_Ql G ad ox σ' κ' v.toInt64 0) 1 6 (z_Al ad ox) := by
  refine va_MetW (cc := cL_valley) (maxL := 6) (ret := (some .int)) (by decide) rfl ?_
  intro p e s m args below meth c s₁ B hml hw0
  obtain ⟨rfl, hX, hP, hO, hT⟩ := hw0
  have hK := hX.1
  have hx := B.exec
  have hb := B.bytes
  have hr := B.returns
  have hts := atoms_spec (ws := wsL_valley) B.pre
  have hown : s.vm.findClass RL = some m.cls := findClass_of_methodNamed B.named
  have hlocks := B.notSynchronized
  have hS : va_S (z_Al ad ox) s.heap s.heap [] := va_S.rf
  have hl := lv_entry ([.ref (ad 0), .int p0, .int p1, .int p2, .ref ox]) (n := 6) (Nat.le_of_ble_eq_true rfl)
  rw [lg_entry_eq]
  generalize (lg_sl ([.ref (ad 0), .int p0, .int p1, .int p2, .ref ox]) ++ List.replicate (6 - (lg_sl ([.ref (ad 0), .int p0, .int p1, .int p2, .ref ox])).length) Slot.unset).toArray = ls at hl ⊢
  have hl : lv_has ls 6 [(0, .ref (ad 0)), (1, .int p0), (2, .int p1), (3, .int p2), (4, .ref ox)] := hl
  refine lv_aload hx hb dL_valley_0 (lv_at hl 4 rfl) ?_
  refine lv_iconst (v := nI 0) hx hb dL_valley_2 (by decide) ?_
  refine lv_aload_n hx hb dL_valley_3 rfl (lv_at hl 0 rfl) ?_
  refine lv_iload_n hx hb dL_valley_4 rfl (lv_at hl 1 rfl) ?_
  refine lv_iload_n hx hb dL_valley_5 rfl (lv_at hl 2 rfl) ?_
  refine lv_iload_n hx hb dL_valley_6 rfl (lv_at hl 3 rfl) ?_
  refine z_callm (va_runV (As := [.int p0, .int p1, .int p2]) (rest := [.int (nI 0), .ref ox]) ⟨hx, hb, hml, hown, hts⟩ hM (cwV 3 hts gL_valley_X4_valley rfl rfl rfl (by decide +kernel) ⟨Nat.le_of_ble_eq_true rfl, Nat.le_of_ble_eq_true rfl⟩) (z_prV (ci := 4) (k := 0) hX hP rfl z_g0) rfl rfl hl.1 rfl (lv_room (Nat.le_of_ble_eq_true rfl)) dL_valley_7 ⟨Nat.le_of_ble_eq_true rfl, Nat.le_of_ble_eq_true rfl⟩) hS (fun _ _ h9 => Or.inl h9) (fun _ h9 => Or.inl h9) (fun H locs hP hz9 hk9 hS => ?_)
  have hO : va_P (z_DD G) vwCl (z_wO G ox o) H := z_keep1 hO (hk9 _ (z_lt1 hO) (fun ⟨k, hk, e9⟩ => hox k hk e9.symm))
  refine W.eq (g2 := F0 m 10 ls [.int v, .int (nI 0), .ref ox]) rfl ?_
  refine lv_i2l hx hb dL_valley_10 rfl ?_
  refine va_last (i := nI 0) (f := fun _ => o) hx hb hK (hP.app hO) (z_apD hinj (fun k hk => Or.inl ⟨k, hk, rfl⟩) (Or.inr rfl) hox) hS 36 4 z_apR rfl (vp_in_nI (by decide) (by decide)) dL_valley_11 (fun H locs hP hD hS => ?_)
  rw [z_apS] at hP
  obtain ⟨hP, hO⟩ := z_apP hP
  have hO : va_P (z_DD G) vwCl (z_wO G ox v.toInt64) H := z_atO hO (by simp [vp_updL, nI_clamp])
  refine lv_goto (tgt := 23) hx hb dL_valley_12 (by decide) ?_
  refine lv_iconst (v := 0) hx hb dL_valley_23 (by decide) ?_
  refine W.widen (k := 1) (n := 6) (by omega) (by omega) ?_
  exact z_iret hx hb hr hlocks dL_valley_24 (fun t ht hW => ⟨rfl, by rw [ht]; exact hP, by rw [ht]; exact hO, hS.F ht⟩) hS.2.2 rfl

set_option maxHeartbeats 4000000 in
set_option maxRecDepth 100000 in
theorem v_L_valley_1 (l : Launch) (G : z_GT) (ad : Nat → Nat) (ox : Nat) (σ σ' : Nat → Nat → Int32) (κ κ' : Nat → Nat → Nat) (o : Int64) (p0 : Int32) (p1 : Int32) (p2 : Int32) (hinj : ∀ i j, i < 36 → j < 36 → ad i = ad j → i = j) (hox : ∀ k, k < 36 → ad k ≠ ox) (hM : vx_Met l yX4_valley wsX4_valley ({ frames := 6, cells := 1, slots := 6, locals := 82 } : Room) (z_Pt G [.ref (ad 0), .int p0, .int p1, .int p2] (z_wC G ad σ κ) (z_A 36 ad)) z_No (z_Xq G "java/lang/IllegalArgumentException" (z_wC G ad σ' κ') (z_A 36 ad)) 1 6 (z_A 36 ad)) : Met l yL_valley wsL_valley ({ frames := 7, cells := 1, slots := 6, locals := 106 } : Room) (z_Pl G ad ox σ κ o [.ref (ad 0), .int p0, .int p1, .int p2, .ref ox]) (z_Ql G ad ox σ' κ' o 1) 1 6 (z_Al ad ox) := by
  refine va_MetW (cc := cL_valley) (maxL := 6) (ret := (some .int)) (by decide) rfl ?_
  intro p e s m args below meth c s₁ B hml hw0
  obtain ⟨rfl, hX, hP, hO, hT⟩ := hw0
  have hK := hX.1
  have hx := B.exec
  have hb := B.bytes
  have hr := B.returns
  have hts := atoms_spec (ws := wsL_valley) B.pre
  have hown : s.vm.findClass RL = some m.cls := findClass_of_methodNamed B.named
  have hlocks := B.notSynchronized
  have hS : va_S (z_Al ad ox) s.heap s.heap [] := va_S.rf
  have hl := lv_entry ([.ref (ad 0), .int p0, .int p1, .int p2, .ref ox]) (n := 6) (Nat.le_of_ble_eq_true rfl)
  rw [lg_entry_eq]
  generalize (lg_sl ([.ref (ad 0), .int p0, .int p1, .int p2, .ref ox]) ++ List.replicate (6 - (lg_sl ([.ref (ad 0), .int p0, .int p1, .int p2, .ref ox])).length) Slot.unset).toArray = ls at hl ⊢
  have hl : lv_has ls 6 [(0, .ref (ad 0)), (1, .int p0), (2, .int p1), (3, .int p2), (4, .ref ox)] := hl
  have hTab : c.exceptionTable.toList = tableOf [(0, 12, 15, 13), (0, 12, 19, 15)] := vx_table (x := yL_valley) B (hts (.codeWith yL_valley cL_valley 6 (some .int) [(0, 12, 15, 13), (0, 12, 19, 15)]) List.mem_cons_self)
  refine lv_aload hx hb dL_valley_0 (lv_at hl 4 rfl) ?_
  refine lv_iconst (v := nI 0) hx hb dL_valley_2 (by decide) ?_
  refine lv_aload_n hx hb dL_valley_3 rfl (lv_at hl 0 rfl) ?_
  refine lv_iload_n hx hb dL_valley_4 rfl (lv_at hl 1 rfl) ?_
  refine lv_iload_n hx hb dL_valley_5 rfl (lv_at hl 2 rfl) ?_
  refine lv_iload_n hx hb dL_valley_6 rfl (lv_at hl 3 rfl) ?_
  refine z_callx (vx_runV (As := [.int p0, .int p1, .int p2]) (rest := [.int (nI 0), .ref ox]) ⟨hx, hb, hml, hown, hts⟩ hM (cwV 3 hts gL_valley_X4_valley rfl rfl rfl (by decide +kernel) ⟨Nat.le_of_ble_eq_true rfl, Nat.le_of_ble_eq_true rfl⟩) (z_ptV (ci := 4) (k := 0) hX hP hT rfl z_g0) rfl rfl hl.1 rfl (lv_room (Nat.le_of_ble_eq_true rfl)) dL_valley_7 ⟨Nat.le_of_ble_eq_true rfl, Nat.le_of_ble_eq_true rfl⟩) hS (fun _ _ h9 => Or.inl h9) (fun _ h9 => Or.inl h9) (fun ce q H locs hP hz9 hk9 hS hce hcv hcl => ?_)
  have hO : va_P (z_DD G) vwCl (z_wO G ox o) H := z_keep1 hO (hk9 _ (z_lt1 hO) (fun ⟨k, hk, e9⟩ => hox k hk e9.symm))
  refine vx_catch (name := "java/lang/IllegalArgumentException") (E := "java/lang/IllegalArgumentException") hown [] ⟨0, 12, 15, 13⟩ [⟨0, 12, 19, 15⟩] (hTab.trans rfl) (fun z h9 => nomatch h9) rfl (by decide) (hts (.classLink RL 13 "java/lang/IllegalArgumentException") (by decide +kernel)) (va_Nw.use rfl (hT.2.2.1.1 "java/lang/IllegalArgumentException" (by decide))) hce hcv hcl ?_
  refine lv_astore (lv' := [(5, .ref q), (0, .ref (ad 0)), (1, .int p0), (2, .int p1), (3, .int p2), (4, .ref ox)]) hx hb dL_valley_15 hl (by decide) rfl (fun ls hl => ?_)
  refine lv_iconst (v := 1) hx hb dL_valley_17 (by decide) ?_
  exact z_iret hx hb hr hlocks dL_valley_18 (fun t ht hW => ⟨rfl, by rw [ht]; exact hP, by rw [ht]; exact hO, hS.F ht⟩) hS.2.2 rfl

set_option maxHeartbeats 4000000 in
set_option maxRecDepth 100000 in
theorem v_L_valley_2 (l : Launch) (G : z_GT) (ad : Nat → Nat) (ox : Nat) (σ σ' : Nat → Nat → Int32) (κ κ' : Nat → Nat → Nat) (o : Int64) (p0 : Int32) (p1 : Int32) (p2 : Int32) (hinj : ∀ i j, i < 36 → j < 36 → ad i = ad j → i = j) (hox : ∀ k, k < 36 → ad k ≠ ox) (hM : vx_Met l yX4_valley wsX4_valley ({ frames := 6, cells := 1, slots := 6, locals := 82 } : Room) (z_Pt G [.ref (ad 0), .int p0, .int p1, .int p2] (z_wC G ad σ κ) (z_A 36 ad)) z_No (z_Xq G "java/lang/IllegalStateException" (z_wC G ad σ' κ') (z_A 36 ad)) 1 6 (z_A 36 ad)) : Met l yL_valley wsL_valley ({ frames := 7, cells := 1, slots := 6, locals := 106 } : Room) (z_Pl G ad ox σ κ o [.ref (ad 0), .int p0, .int p1, .int p2, .ref ox]) (z_Ql G ad ox σ' κ' o 2) 1 6 (z_Al ad ox) := by
  refine va_MetW (cc := cL_valley) (maxL := 6) (ret := (some .int)) (by decide) rfl ?_
  intro p e s m args below meth c s₁ B hml hw0
  obtain ⟨rfl, hX, hP, hO, hT⟩ := hw0
  have hK := hX.1
  have hx := B.exec
  have hb := B.bytes
  have hr := B.returns
  have hts := atoms_spec (ws := wsL_valley) B.pre
  have hown : s.vm.findClass RL = some m.cls := findClass_of_methodNamed B.named
  have hlocks := B.notSynchronized
  have hS : va_S (z_Al ad ox) s.heap s.heap [] := va_S.rf
  have hl := lv_entry ([.ref (ad 0), .int p0, .int p1, .int p2, .ref ox]) (n := 6) (Nat.le_of_ble_eq_true rfl)
  rw [lg_entry_eq]
  generalize (lg_sl ([.ref (ad 0), .int p0, .int p1, .int p2, .ref ox]) ++ List.replicate (6 - (lg_sl ([.ref (ad 0), .int p0, .int p1, .int p2, .ref ox])).length) Slot.unset).toArray = ls at hl ⊢
  have hl : lv_has ls 6 [(0, .ref (ad 0)), (1, .int p0), (2, .int p1), (3, .int p2), (4, .ref ox)] := hl
  have hTab : c.exceptionTable.toList = tableOf [(0, 12, 15, 13), (0, 12, 19, 15)] := vx_table (x := yL_valley) B (hts (.codeWith yL_valley cL_valley 6 (some .int) [(0, 12, 15, 13), (0, 12, 19, 15)]) List.mem_cons_self)
  refine lv_aload hx hb dL_valley_0 (lv_at hl 4 rfl) ?_
  refine lv_iconst (v := nI 0) hx hb dL_valley_2 (by decide) ?_
  refine lv_aload_n hx hb dL_valley_3 rfl (lv_at hl 0 rfl) ?_
  refine lv_iload_n hx hb dL_valley_4 rfl (lv_at hl 1 rfl) ?_
  refine lv_iload_n hx hb dL_valley_5 rfl (lv_at hl 2 rfl) ?_
  refine lv_iload_n hx hb dL_valley_6 rfl (lv_at hl 3 rfl) ?_
  refine z_callx (vx_runV (As := [.int p0, .int p1, .int p2]) (rest := [.int (nI 0), .ref ox]) ⟨hx, hb, hml, hown, hts⟩ hM (cwV 3 hts gL_valley_X4_valley rfl rfl rfl (by decide +kernel) ⟨Nat.le_of_ble_eq_true rfl, Nat.le_of_ble_eq_true rfl⟩) (z_ptV (ci := 4) (k := 0) hX hP hT rfl z_g0) rfl rfl hl.1 rfl (lv_room (Nat.le_of_ble_eq_true rfl)) dL_valley_7 ⟨Nat.le_of_ble_eq_true rfl, Nat.le_of_ble_eq_true rfl⟩) hS (fun _ _ h9 => Or.inl h9) (fun _ h9 => Or.inl h9) (fun ce q H locs hP hz9 hk9 hS hce hcv hcl => ?_)
  have hO : va_P (z_DD G) vwCl (z_wO G ox o) H := z_keep1 hO (hk9 _ (z_lt1 hO) (fun ⟨k, hk, e9⟩ => hox k hk e9.symm))
  refine vx_catch (name := "java/lang/IllegalStateException") (E := "java/lang/IllegalStateException") hown [⟨0, 12, 15, 13⟩] ⟨0, 12, 19, 15⟩ [] (hTab.trans rfl) (fun z h9 => by
    simp only [List.mem_cons, List.not_mem_nil, or_false] at h9
    rcases h9 with rfl
    · exact Or.inr ⟨by decide, "java/lang/IllegalArgumentException", hts (.classLink RL 13 "java/lang/IllegalArgumentException") (by decide +kernel), hT.2.2.2 "java/lang/IllegalStateException" (by decide) "java/lang/IllegalArgumentException" (by decide) (by decide)⟩) rfl (by decide) (hts (.classLink RL 15 "java/lang/IllegalStateException") (by decide +kernel)) (va_Nw.use rfl (hT.2.2.1.1 "java/lang/IllegalStateException" (by decide))) hce hcv hcl ?_
  refine lv_astore (lv' := [(5, .ref q), (0, .ref (ad 0)), (1, .int p0), (2, .int p1), (3, .int p2), (4, .ref ox)]) hx hb dL_valley_19 hl (by decide) rfl (fun ls hl => ?_)
  refine lv_iconst (v := 2) hx hb dL_valley_21 (by decide) ?_
  exact z_iret hx hb hr hlocks dL_valley_22 (fun t ht hW => ⟨rfl, by rw [ht]; exact hP, by rw [ht]; exact hO, hS.F ht⟩) hS.2.2 rfl

set_option maxHeartbeats 4000000 in
set_option maxRecDepth 100000 in
theorem w_L_road (l : Launch) (G : z_GT) (ad : Nat → Nat) (ox : Nat) (σ σ' : Nat → Nat → Int32) (κ κ' : Nat → Nat → Nat) (o : Int64) (v : Int32) (p0 : Int32) (p1 : Int32) (p2 : Int32) (hinj : ∀ i j, i < 36 → j < 36 → ad i = ad j → i = j) (hox : ∀ k, k < 36 → ad k ≠ ox) (hM : Met l yX4_road wsX4_road ({ frames := 5, cells := 0, slots := 0, locals := 109 } : Room) (z_Pr G [.ref (ad 0), .int p0, .int p1, .int p2] (z_wC G ad σ κ)) (z_Qm G (some (.int v)) (z_wC G ad σ' κ') (z_A 36 ad)) 0 0 (z_A 36 ad)) : Met l yL_road wsL_road ({ frames := 8, cells := 1, slots := 6, locals := 132 } : Room) (z_Pl G ad ox σ κ o [.ref (ad 0), .int p0, .int p1, .int p2, .ref ox]) (z_Ql G ad ox σ' κ' v.toInt64 0) 1 6 (z_Al ad ox) := by
  refine va_MetW (cc := cL_road) (maxL := 6) (ret := (some .int)) (by decide) rfl ?_
  intro p e s m args below meth c s₁ B hml hw0
  obtain ⟨rfl, hX, hP, hO, hT⟩ := hw0
  have hK := hX.1
  have hx := B.exec
  have hb := B.bytes
  have hr := B.returns
  have hts := atoms_spec (ws := wsL_road) B.pre
  have hown : s.vm.findClass RL = some m.cls := findClass_of_methodNamed B.named
  have hlocks := B.notSynchronized
  have hS : va_S (z_Al ad ox) s.heap s.heap [] := va_S.rf
  have hl := lv_entry ([.ref (ad 0), .int p0, .int p1, .int p2, .ref ox]) (n := 6) (Nat.le_of_ble_eq_true rfl)
  rw [lg_entry_eq]
  generalize (lg_sl ([.ref (ad 0), .int p0, .int p1, .int p2, .ref ox]) ++ List.replicate (6 - (lg_sl ([.ref (ad 0), .int p0, .int p1, .int p2, .ref ox])).length) Slot.unset).toArray = ls at hl ⊢
  have hl : lv_has ls 6 [(0, .ref (ad 0)), (1, .int p0), (2, .int p1), (3, .int p2), (4, .ref ox)] := hl
  refine lv_aload hx hb dL_road_0 (lv_at hl 4 rfl) ?_
  refine lv_iconst (v := nI 0) hx hb dL_road_2 (by decide) ?_
  refine lv_aload_n hx hb dL_road_3 rfl (lv_at hl 0 rfl) ?_
  refine lv_iload_n hx hb dL_road_4 rfl (lv_at hl 1 rfl) ?_
  refine lv_iload_n hx hb dL_road_5 rfl (lv_at hl 2 rfl) ?_
  refine lv_iload_n hx hb dL_road_6 rfl (lv_at hl 3 rfl) ?_
  refine z_callm (va_runV (As := [.int p0, .int p1, .int p2]) (rest := [.int (nI 0), .ref ox]) ⟨hx, hb, hml, hown, hts⟩ hM (cwV 3 hts gL_road_X4_road rfl rfl rfl (by decide +kernel) ⟨Nat.le_of_ble_eq_true rfl, Nat.le_of_ble_eq_true rfl⟩) (z_prV (ci := 4) (k := 0) hX hP rfl z_g0) rfl rfl hl.1 rfl (lv_room (Nat.le_of_ble_eq_true rfl)) dL_road_7 ⟨Nat.le_of_ble_eq_true rfl, Nat.le_of_ble_eq_true rfl⟩) hS (fun _ _ h9 => Or.inl h9) (fun _ h9 => Or.inl h9) (fun H locs hP hz9 hk9 hS => ?_)
  have hO : va_P (z_DD G) vwCl (z_wO G ox o) H := z_keep1 hO (hk9 _ (z_lt1 hO) (fun ⟨k, hk, e9⟩ => hox k hk e9.symm))
  refine W.eq (g2 := F0 m 10 ls [.int v, .int (nI 0), .ref ox]) rfl ?_
  refine lv_i2l hx hb dL_road_10 rfl ?_
  refine va_last (i := nI 0) (f := fun _ => o) hx hb hK (hP.app hO) (z_apD hinj (fun k hk => Or.inl ⟨k, hk, rfl⟩) (Or.inr rfl) hox) hS 36 4 z_apR rfl (vp_in_nI (by decide) (by decide)) dL_road_11 (fun H locs hP hD hS => ?_)
  rw [z_apS] at hP
  obtain ⟨hP, hO⟩ := z_apP hP
  have hO : va_P (z_DD G) vwCl (z_wO G ox v.toInt64) H := z_atO hO (by simp [vp_updL, nI_clamp])
  refine lv_goto (tgt := 27) hx hb dL_road_12 (by decide) ?_
  refine lv_iconst (v := 0) hx hb dL_road_27 (by decide) ?_
  refine W.widen (k := 1) (n := 6) (by omega) (by omega) ?_
  exact z_iret hx hb hr hlocks dL_road_28 (fun t ht hW => ⟨rfl, by rw [ht]; exact hP, by rw [ht]; exact hO, hS.F ht⟩) hS.2.2 rfl

set_option maxHeartbeats 4000000 in
set_option maxRecDepth 100000 in
theorem v_L_road_1 (l : Launch) (G : z_GT) (ad : Nat → Nat) (ox : Nat) (σ σ' : Nat → Nat → Int32) (κ κ' : Nat → Nat → Nat) (o : Int64) (p0 : Int32) (p1 : Int32) (p2 : Int32) (hinj : ∀ i j, i < 36 → j < 36 → ad i = ad j → i = j) (hox : ∀ k, k < 36 → ad k ≠ ox) (hM : vx_Met l yX4_road wsX4_road ({ frames := 7, cells := 1, slots := 6, locals := 103 } : Room) (z_Pt G [.ref (ad 0), .int p0, .int p1, .int p2] (z_wC G ad σ κ) (z_A 36 ad)) z_No (z_Xq G "java/lang/IndexOutOfBoundsException" (z_wC G ad σ' κ') (z_A 36 ad)) 1 6 (z_A 36 ad)) : Met l yL_road wsL_road ({ frames := 8, cells := 1, slots := 6, locals := 132 } : Room) (z_Pl G ad ox σ κ o [.ref (ad 0), .int p0, .int p1, .int p2, .ref ox]) (z_Ql G ad ox σ' κ' o 1) 1 6 (z_Al ad ox) := by
  refine va_MetW (cc := cL_road) (maxL := 6) (ret := (some .int)) (by decide) rfl ?_
  intro p e s m args below meth c s₁ B hml hw0
  obtain ⟨rfl, hX, hP, hO, hT⟩ := hw0
  have hK := hX.1
  have hx := B.exec
  have hb := B.bytes
  have hr := B.returns
  have hts := atoms_spec (ws := wsL_road) B.pre
  have hown : s.vm.findClass RL = some m.cls := findClass_of_methodNamed B.named
  have hlocks := B.notSynchronized
  have hS : va_S (z_Al ad ox) s.heap s.heap [] := va_S.rf
  have hl := lv_entry ([.ref (ad 0), .int p0, .int p1, .int p2, .ref ox]) (n := 6) (Nat.le_of_ble_eq_true rfl)
  rw [lg_entry_eq]
  generalize (lg_sl ([.ref (ad 0), .int p0, .int p1, .int p2, .ref ox]) ++ List.replicate (6 - (lg_sl ([.ref (ad 0), .int p0, .int p1, .int p2, .ref ox])).length) Slot.unset).toArray = ls at hl ⊢
  have hl : lv_has ls 6 [(0, .ref (ad 0)), (1, .int p0), (2, .int p1), (3, .int p2), (4, .ref ox)] := hl
  have hTab : c.exceptionTable.toList = tableOf [(0, 12, 15, 20), (0, 12, 19, 13), (0, 12, 23, 15)] := vx_table (x := yL_road) B (hts (.codeWith yL_road cL_road 6 (some .int) [(0, 12, 15, 20), (0, 12, 19, 13), (0, 12, 23, 15)]) List.mem_cons_self)
  refine lv_aload hx hb dL_road_0 (lv_at hl 4 rfl) ?_
  refine lv_iconst (v := nI 0) hx hb dL_road_2 (by decide) ?_
  refine lv_aload_n hx hb dL_road_3 rfl (lv_at hl 0 rfl) ?_
  refine lv_iload_n hx hb dL_road_4 rfl (lv_at hl 1 rfl) ?_
  refine lv_iload_n hx hb dL_road_5 rfl (lv_at hl 2 rfl) ?_
  refine lv_iload_n hx hb dL_road_6 rfl (lv_at hl 3 rfl) ?_
  refine z_callx (vx_runV (As := [.int p0, .int p1, .int p2]) (rest := [.int (nI 0), .ref ox]) ⟨hx, hb, hml, hown, hts⟩ hM (cwV 3 hts gL_road_X4_road rfl rfl rfl (by decide +kernel) ⟨Nat.le_of_ble_eq_true rfl, Nat.le_of_ble_eq_true rfl⟩) (z_ptV (ci := 4) (k := 0) hX hP hT rfl z_g0) rfl rfl hl.1 rfl (lv_room (Nat.le_of_ble_eq_true rfl)) dL_road_7 ⟨Nat.le_of_ble_eq_true rfl, Nat.le_of_ble_eq_true rfl⟩) hS (fun _ _ h9 => Or.inl h9) (fun _ h9 => Or.inl h9) (fun ce q H locs hP hz9 hk9 hS hce hcv hcl => ?_)
  have hO : va_P (z_DD G) vwCl (z_wO G ox o) H := z_keep1 hO (hk9 _ (z_lt1 hO) (fun ⟨k, hk, e9⟩ => hox k hk e9.symm))
  refine vx_catch (name := "java/lang/IndexOutOfBoundsException") (E := "java/lang/IndexOutOfBoundsException") hown [] ⟨0, 12, 15, 20⟩ [⟨0, 12, 19, 13⟩, ⟨0, 12, 23, 15⟩] (hTab.trans rfl) (fun z h9 => nomatch h9) rfl (by decide) (hts (.classLink RL 20 "java/lang/IndexOutOfBoundsException") (by decide +kernel)) (va_Nw.use rfl (hT.2.2.1.1 "java/lang/IndexOutOfBoundsException" (by decide))) hce hcv hcl ?_
  refine lv_astore (lv' := [(5, .ref q), (0, .ref (ad 0)), (1, .int p0), (2, .int p1), (3, .int p2), (4, .ref ox)]) hx hb dL_road_15 hl (by decide) rfl (fun ls hl => ?_)
  refine lv_iconst (v := 1) hx hb dL_road_17 (by decide) ?_
  exact z_iret hx hb hr hlocks dL_road_18 (fun t ht hW => ⟨rfl, by rw [ht]; exact hP, by rw [ht]; exact hO, hS.F ht⟩) hS.2.2 rfl

set_option maxHeartbeats 4000000 in
set_option maxRecDepth 100000 in
theorem v_L_road_2 (l : Launch) (G : z_GT) (ad : Nat → Nat) (ox : Nat) (σ σ' : Nat → Nat → Int32) (κ κ' : Nat → Nat → Nat) (o : Int64) (p0 : Int32) (p1 : Int32) (p2 : Int32) (hinj : ∀ i j, i < 36 → j < 36 → ad i = ad j → i = j) (hox : ∀ k, k < 36 → ad k ≠ ox) (hM : vx_Met l yX4_road wsX4_road ({ frames := 7, cells := 1, slots := 6, locals := 103 } : Room) (z_Pt G [.ref (ad 0), .int p0, .int p1, .int p2] (z_wC G ad σ κ) (z_A 36 ad)) z_No (z_Xq G "java/lang/IllegalArgumentException" (z_wC G ad σ' κ') (z_A 36 ad)) 1 6 (z_A 36 ad)) : Met l yL_road wsL_road ({ frames := 8, cells := 1, slots := 6, locals := 132 } : Room) (z_Pl G ad ox σ κ o [.ref (ad 0), .int p0, .int p1, .int p2, .ref ox]) (z_Ql G ad ox σ' κ' o 2) 1 6 (z_Al ad ox) := by
  refine va_MetW (cc := cL_road) (maxL := 6) (ret := (some .int)) (by decide) rfl ?_
  intro p e s m args below meth c s₁ B hml hw0
  obtain ⟨rfl, hX, hP, hO, hT⟩ := hw0
  have hK := hX.1
  have hx := B.exec
  have hb := B.bytes
  have hr := B.returns
  have hts := atoms_spec (ws := wsL_road) B.pre
  have hown : s.vm.findClass RL = some m.cls := findClass_of_methodNamed B.named
  have hlocks := B.notSynchronized
  have hS : va_S (z_Al ad ox) s.heap s.heap [] := va_S.rf
  have hl := lv_entry ([.ref (ad 0), .int p0, .int p1, .int p2, .ref ox]) (n := 6) (Nat.le_of_ble_eq_true rfl)
  rw [lg_entry_eq]
  generalize (lg_sl ([.ref (ad 0), .int p0, .int p1, .int p2, .ref ox]) ++ List.replicate (6 - (lg_sl ([.ref (ad 0), .int p0, .int p1, .int p2, .ref ox])).length) Slot.unset).toArray = ls at hl ⊢
  have hl : lv_has ls 6 [(0, .ref (ad 0)), (1, .int p0), (2, .int p1), (3, .int p2), (4, .ref ox)] := hl
  have hTab : c.exceptionTable.toList = tableOf [(0, 12, 15, 20), (0, 12, 19, 13), (0, 12, 23, 15)] := vx_table (x := yL_road) B (hts (.codeWith yL_road cL_road 6 (some .int) [(0, 12, 15, 20), (0, 12, 19, 13), (0, 12, 23, 15)]) List.mem_cons_self)
  refine lv_aload hx hb dL_road_0 (lv_at hl 4 rfl) ?_
  refine lv_iconst (v := nI 0) hx hb dL_road_2 (by decide) ?_
  refine lv_aload_n hx hb dL_road_3 rfl (lv_at hl 0 rfl) ?_
  refine lv_iload_n hx hb dL_road_4 rfl (lv_at hl 1 rfl) ?_
  refine lv_iload_n hx hb dL_road_5 rfl (lv_at hl 2 rfl) ?_
  refine lv_iload_n hx hb dL_road_6 rfl (lv_at hl 3 rfl) ?_
  refine z_callx (vx_runV (As := [.int p0, .int p1, .int p2]) (rest := [.int (nI 0), .ref ox]) ⟨hx, hb, hml, hown, hts⟩ hM (cwV 3 hts gL_road_X4_road rfl rfl rfl (by decide +kernel) ⟨Nat.le_of_ble_eq_true rfl, Nat.le_of_ble_eq_true rfl⟩) (z_ptV (ci := 4) (k := 0) hX hP hT rfl z_g0) rfl rfl hl.1 rfl (lv_room (Nat.le_of_ble_eq_true rfl)) dL_road_7 ⟨Nat.le_of_ble_eq_true rfl, Nat.le_of_ble_eq_true rfl⟩) hS (fun _ _ h9 => Or.inl h9) (fun _ h9 => Or.inl h9) (fun ce q H locs hP hz9 hk9 hS hce hcv hcl => ?_)
  have hO : va_P (z_DD G) vwCl (z_wO G ox o) H := z_keep1 hO (hk9 _ (z_lt1 hO) (fun ⟨k, hk, e9⟩ => hox k hk e9.symm))
  refine vx_catch (name := "java/lang/IllegalArgumentException") (E := "java/lang/IllegalArgumentException") hown [⟨0, 12, 15, 20⟩] ⟨0, 12, 19, 13⟩ [⟨0, 12, 23, 15⟩] (hTab.trans rfl) (fun z h9 => by
    simp only [List.mem_cons, List.not_mem_nil, or_false] at h9
    rcases h9 with rfl
    · exact Or.inr ⟨by decide, "java/lang/IndexOutOfBoundsException", hts (.classLink RL 20 "java/lang/IndexOutOfBoundsException") (by decide +kernel), hT.2.2.2 "java/lang/IllegalArgumentException" (by decide) "java/lang/IndexOutOfBoundsException" (by decide) (by decide)⟩) rfl (by decide) (hts (.classLink RL 13 "java/lang/IllegalArgumentException") (by decide +kernel)) (va_Nw.use rfl (hT.2.2.1.1 "java/lang/IllegalArgumentException" (by decide))) hce hcv hcl ?_
  refine lv_astore (lv' := [(5, .ref q), (0, .ref (ad 0)), (1, .int p0), (2, .int p1), (3, .int p2), (4, .ref ox)]) hx hb dL_road_19 hl (by decide) rfl (fun ls hl => ?_)
  refine lv_iconst (v := 2) hx hb dL_road_21 (by decide) ?_
  exact z_iret hx hb hr hlocks dL_road_22 (fun t ht hW => ⟨rfl, by rw [ht]; exact hP, by rw [ht]; exact hO, hS.F ht⟩) hS.2.2 rfl

set_option maxHeartbeats 4000000 in
set_option maxRecDepth 100000 in
theorem v_L_road_3 (l : Launch) (G : z_GT) (ad : Nat → Nat) (ox : Nat) (σ σ' : Nat → Nat → Int32) (κ κ' : Nat → Nat → Nat) (o : Int64) (p0 : Int32) (p1 : Int32) (p2 : Int32) (hinj : ∀ i j, i < 36 → j < 36 → ad i = ad j → i = j) (hox : ∀ k, k < 36 → ad k ≠ ox) (hM : vx_Met l yX4_road wsX4_road ({ frames := 7, cells := 1, slots := 6, locals := 103 } : Room) (z_Pt G [.ref (ad 0), .int p0, .int p1, .int p2] (z_wC G ad σ κ) (z_A 36 ad)) z_No (z_Xq G "java/lang/IllegalStateException" (z_wC G ad σ' κ') (z_A 36 ad)) 1 6 (z_A 36 ad)) : Met l yL_road wsL_road ({ frames := 8, cells := 1, slots := 6, locals := 132 } : Room) (z_Pl G ad ox σ κ o [.ref (ad 0), .int p0, .int p1, .int p2, .ref ox]) (z_Ql G ad ox σ' κ' o 3) 1 6 (z_Al ad ox) := by
  refine va_MetW (cc := cL_road) (maxL := 6) (ret := (some .int)) (by decide) rfl ?_
  intro p e s m args below meth c s₁ B hml hw0
  obtain ⟨rfl, hX, hP, hO, hT⟩ := hw0
  have hK := hX.1
  have hx := B.exec
  have hb := B.bytes
  have hr := B.returns
  have hts := atoms_spec (ws := wsL_road) B.pre
  have hown : s.vm.findClass RL = some m.cls := findClass_of_methodNamed B.named
  have hlocks := B.notSynchronized
  have hS : va_S (z_Al ad ox) s.heap s.heap [] := va_S.rf
  have hl := lv_entry ([.ref (ad 0), .int p0, .int p1, .int p2, .ref ox]) (n := 6) (Nat.le_of_ble_eq_true rfl)
  rw [lg_entry_eq]
  generalize (lg_sl ([.ref (ad 0), .int p0, .int p1, .int p2, .ref ox]) ++ List.replicate (6 - (lg_sl ([.ref (ad 0), .int p0, .int p1, .int p2, .ref ox])).length) Slot.unset).toArray = ls at hl ⊢
  have hl : lv_has ls 6 [(0, .ref (ad 0)), (1, .int p0), (2, .int p1), (3, .int p2), (4, .ref ox)] := hl
  have hTab : c.exceptionTable.toList = tableOf [(0, 12, 15, 20), (0, 12, 19, 13), (0, 12, 23, 15)] := vx_table (x := yL_road) B (hts (.codeWith yL_road cL_road 6 (some .int) [(0, 12, 15, 20), (0, 12, 19, 13), (0, 12, 23, 15)]) List.mem_cons_self)
  refine lv_aload hx hb dL_road_0 (lv_at hl 4 rfl) ?_
  refine lv_iconst (v := nI 0) hx hb dL_road_2 (by decide) ?_
  refine lv_aload_n hx hb dL_road_3 rfl (lv_at hl 0 rfl) ?_
  refine lv_iload_n hx hb dL_road_4 rfl (lv_at hl 1 rfl) ?_
  refine lv_iload_n hx hb dL_road_5 rfl (lv_at hl 2 rfl) ?_
  refine lv_iload_n hx hb dL_road_6 rfl (lv_at hl 3 rfl) ?_
  refine z_callx (vx_runV (As := [.int p0, .int p1, .int p2]) (rest := [.int (nI 0), .ref ox]) ⟨hx, hb, hml, hown, hts⟩ hM (cwV 3 hts gL_road_X4_road rfl rfl rfl (by decide +kernel) ⟨Nat.le_of_ble_eq_true rfl, Nat.le_of_ble_eq_true rfl⟩) (z_ptV (ci := 4) (k := 0) hX hP hT rfl z_g0) rfl rfl hl.1 rfl (lv_room (Nat.le_of_ble_eq_true rfl)) dL_road_7 ⟨Nat.le_of_ble_eq_true rfl, Nat.le_of_ble_eq_true rfl⟩) hS (fun _ _ h9 => Or.inl h9) (fun _ h9 => Or.inl h9) (fun ce q H locs hP hz9 hk9 hS hce hcv hcl => ?_)
  have hO : va_P (z_DD G) vwCl (z_wO G ox o) H := z_keep1 hO (hk9 _ (z_lt1 hO) (fun ⟨k, hk, e9⟩ => hox k hk e9.symm))
  refine vx_catch (name := "java/lang/IllegalStateException") (E := "java/lang/IllegalStateException") hown [⟨0, 12, 15, 20⟩, ⟨0, 12, 19, 13⟩] ⟨0, 12, 23, 15⟩ [] (hTab.trans rfl) (fun z h9 => by
    simp only [List.mem_cons, List.not_mem_nil, or_false] at h9
    rcases h9 with rfl | rfl
    · exact Or.inr ⟨by decide, "java/lang/IndexOutOfBoundsException", hts (.classLink RL 20 "java/lang/IndexOutOfBoundsException") (by decide +kernel), hT.2.2.2 "java/lang/IllegalStateException" (by decide) "java/lang/IndexOutOfBoundsException" (by decide) (by decide)⟩
    · exact Or.inr ⟨by decide, "java/lang/IllegalArgumentException", hts (.classLink RL 13 "java/lang/IllegalArgumentException") (by decide +kernel), hT.2.2.2 "java/lang/IllegalStateException" (by decide) "java/lang/IllegalArgumentException" (by decide) (by decide)⟩) rfl (by decide) (hts (.classLink RL 15 "java/lang/IllegalStateException") (by decide +kernel)) (va_Nw.use rfl (hT.2.2.1.1 "java/lang/IllegalStateException" (by decide))) hce hcv hcl ?_
  refine lv_astore (lv' := [(5, .ref q), (0, .ref (ad 0)), (1, .int p0), (2, .int p1), (3, .int p2), (4, .ref ox)]) hx hb dL_road_23 hl (by decide) rfl (fun ls hl => ?_)
  refine lv_iconst (v := 3) hx hb dL_road_25 (by decide) ?_
  exact z_iret hx hb hr hlocks dL_road_26 (fun t ht hW => ⟨rfl, by rw [ht]; exact hP, by rw [ht]; exact hO, hS.F ht⟩) hS.2.2 rfl

set_option maxHeartbeats 4000000 in
set_option maxRecDepth 100000 in
theorem w_L_setHeat (l : Launch) (G : z_GT) (ad : Nat → Nat) (ox : Nat) (σ σ' : Nat → Nat → Int32) (κ κ' : Nat → Nat → Nat) (o : Int64) (v : Int32) (p0 : Int32) (p1 : Int32) (hinj : ∀ i j, i < 36 → j < 36 → ad i = ad j → i = j) (hox : ∀ k, k < 36 → ad k ≠ ox) (hM : Met l yX4_setHeat wsX4_setHeat ({ frames := 1, cells := 0, slots := 0, locals := 22 } : Room) (z_Pr G [.ref (ad 0), .int p0, .int p1] (z_wC G ad σ κ)) (z_Qm G (some (.int v)) (z_wC G ad σ' κ') (z_A 36 ad)) 0 0 (z_A 36 ad)) : Met l yL_setHeat wsL_setHeat ({ frames := 7, cells := 1, slots := 6, locals := 105 } : Room) (z_Pl G ad ox σ κ o [.ref (ad 0), .int p0, .int p1, .ref ox]) (z_Ql G ad ox σ' κ' v.toInt64 0) 1 6 (z_Al ad ox) := by
  refine va_MetW (cc := cL_setHeat) (maxL := 5) (ret := (some .int)) (by decide) rfl ?_
  intro p e s m args below meth c s₁ B hml hw0
  obtain ⟨rfl, hX, hP, hO, hT⟩ := hw0
  have hK := hX.1
  have hx := B.exec
  have hb := B.bytes
  have hr := B.returns
  have hts := atoms_spec (ws := wsL_setHeat) B.pre
  have hown : s.vm.findClass RL = some m.cls := findClass_of_methodNamed B.named
  have hlocks := B.notSynchronized
  have hS : va_S (z_Al ad ox) s.heap s.heap [] := va_S.rf
  have hl := lv_entry ([.ref (ad 0), .int p0, .int p1, .ref ox]) (n := 5) (Nat.le_of_ble_eq_true rfl)
  rw [lg_entry_eq]
  generalize (lg_sl ([.ref (ad 0), .int p0, .int p1, .ref ox]) ++ List.replicate (5 - (lg_sl ([.ref (ad 0), .int p0, .int p1, .ref ox])).length) Slot.unset).toArray = ls at hl ⊢
  have hl : lv_has ls 5 [(0, .ref (ad 0)), (1, .int p0), (2, .int p1), (3, .ref ox)] := hl
  refine lv_aload_n hx hb dL_setHeat_0 rfl (lv_at hl 3 rfl) ?_
  refine lv_iconst (v := nI 0) hx hb dL_setHeat_1 (by decide) ?_
  refine lv_aload_n hx hb dL_setHeat_2 rfl (lv_at hl 0 rfl) ?_
  refine lv_iload_n hx hb dL_setHeat_3 rfl (lv_at hl 1 rfl) ?_
  refine lv_iload_n hx hb dL_setHeat_4 rfl (lv_at hl 2 rfl) ?_
  refine z_callm (va_runV (As := [.int p0, .int p1]) (rest := [.int (nI 0), .ref ox]) ⟨hx, hb, hml, hown, hts⟩ hM (cwV 2 hts gL_setHeat_X4_setHeat rfl rfl rfl (by decide +kernel) ⟨Nat.le_of_ble_eq_true rfl, Nat.le_of_ble_eq_true rfl⟩) (z_prV (ci := 4) (k := 0) hX hP rfl z_g0) rfl rfl hl.1 rfl (lv_room (Nat.le_of_ble_eq_true rfl)) dL_setHeat_5 ⟨Nat.le_of_ble_eq_true rfl, Nat.le_of_ble_eq_true rfl⟩) hS (fun _ _ h9 => Or.inl h9) (fun _ h9 => Or.inl h9) (fun H locs hP hz9 hk9 hS => ?_)
  have hO : va_P (z_DD G) vwCl (z_wO G ox o) H := z_keep1 hO (hk9 _ (z_lt1 hO) (fun ⟨k, hk, e9⟩ => hox k hk e9.symm))
  refine W.eq (g2 := F0 m 8 ls [.int v, .int (nI 0), .ref ox]) rfl ?_
  refine lv_i2l hx hb dL_setHeat_8 rfl ?_
  refine va_last (i := nI 0) (f := fun _ => o) hx hb hK (hP.app hO) (z_apD hinj (fun k hk => Or.inl ⟨k, hk, rfl⟩) (Or.inr rfl) hox) hS 36 4 z_apR rfl (vp_in_nI (by decide) (by decide)) dL_setHeat_9 (fun H locs hP hD hS => ?_)
  rw [z_apS] at hP
  obtain ⟨hP, hO⟩ := z_apP hP
  have hO : va_P (z_DD G) vwCl (z_wO G ox v.toInt64) H := z_atO hO (by simp [vp_updL, nI_clamp])
  refine lv_goto (tgt := 21) hx hb dL_setHeat_10 (by decide) ?_
  refine lv_iconst (v := 0) hx hb dL_setHeat_21 (by decide) ?_
  refine W.widen (k := 1) (n := 6) (by omega) (by omega) ?_
  exact z_iret hx hb hr hlocks dL_setHeat_22 (fun t ht hW => ⟨rfl, by rw [ht]; exact hP, by rw [ht]; exact hO, hS.F ht⟩) hS.2.2 rfl

set_option maxHeartbeats 4000000 in
set_option maxRecDepth 100000 in
theorem v_L_setHeat_1 (l : Launch) (G : z_GT) (ad : Nat → Nat) (ox : Nat) (σ σ' : Nat → Nat → Int32) (κ κ' : Nat → Nat → Nat) (o : Int64) (p0 : Int32) (p1 : Int32) (hinj : ∀ i j, i < 36 → j < 36 → ad i = ad j → i = j) (hox : ∀ k, k < 36 → ad k ≠ ox) (hM : vx_Met l yX4_setHeat wsX4_setHeat ({ frames := 6, cells := 1, slots := 6, locals := 82 } : Room) (z_Pt G [.ref (ad 0), .int p0, .int p1] (z_wC G ad σ κ) (z_A 36 ad)) z_No (z_Xq G "java/lang/IndexOutOfBoundsException" (z_wC G ad σ' κ') (z_A 36 ad)) 1 6 (z_A 36 ad)) : Met l yL_setHeat wsL_setHeat ({ frames := 7, cells := 1, slots := 6, locals := 105 } : Room) (z_Pl G ad ox σ κ o [.ref (ad 0), .int p0, .int p1, .ref ox]) (z_Ql G ad ox σ' κ' o 1) 1 6 (z_Al ad ox) := by
  refine va_MetW (cc := cL_setHeat) (maxL := 5) (ret := (some .int)) (by decide) rfl ?_
  intro p e s m args below meth c s₁ B hml hw0
  obtain ⟨rfl, hX, hP, hO, hT⟩ := hw0
  have hK := hX.1
  have hx := B.exec
  have hb := B.bytes
  have hr := B.returns
  have hts := atoms_spec (ws := wsL_setHeat) B.pre
  have hown : s.vm.findClass RL = some m.cls := findClass_of_methodNamed B.named
  have hlocks := B.notSynchronized
  have hS : va_S (z_Al ad ox) s.heap s.heap [] := va_S.rf
  have hl := lv_entry ([.ref (ad 0), .int p0, .int p1, .ref ox]) (n := 5) (Nat.le_of_ble_eq_true rfl)
  rw [lg_entry_eq]
  generalize (lg_sl ([.ref (ad 0), .int p0, .int p1, .ref ox]) ++ List.replicate (5 - (lg_sl ([.ref (ad 0), .int p0, .int p1, .ref ox])).length) Slot.unset).toArray = ls at hl ⊢
  have hl : lv_has ls 5 [(0, .ref (ad 0)), (1, .int p0), (2, .int p1), (3, .ref ox)] := hl
  have hTab : c.exceptionTable.toList = tableOf [(0, 10, 13, 20), (0, 10, 17, 13)] := vx_table (x := yL_setHeat) B (hts (.codeWith yL_setHeat cL_setHeat 5 (some .int) [(0, 10, 13, 20), (0, 10, 17, 13)]) List.mem_cons_self)
  refine lv_aload_n hx hb dL_setHeat_0 rfl (lv_at hl 3 rfl) ?_
  refine lv_iconst (v := nI 0) hx hb dL_setHeat_1 (by decide) ?_
  refine lv_aload_n hx hb dL_setHeat_2 rfl (lv_at hl 0 rfl) ?_
  refine lv_iload_n hx hb dL_setHeat_3 rfl (lv_at hl 1 rfl) ?_
  refine lv_iload_n hx hb dL_setHeat_4 rfl (lv_at hl 2 rfl) ?_
  refine z_callx (vx_runV (As := [.int p0, .int p1]) (rest := [.int (nI 0), .ref ox]) ⟨hx, hb, hml, hown, hts⟩ hM (cwV 2 hts gL_setHeat_X4_setHeat rfl rfl rfl (by decide +kernel) ⟨Nat.le_of_ble_eq_true rfl, Nat.le_of_ble_eq_true rfl⟩) (z_ptV (ci := 4) (k := 0) hX hP hT rfl z_g0) rfl rfl hl.1 rfl (lv_room (Nat.le_of_ble_eq_true rfl)) dL_setHeat_5 ⟨Nat.le_of_ble_eq_true rfl, Nat.le_of_ble_eq_true rfl⟩) hS (fun _ _ h9 => Or.inl h9) (fun _ h9 => Or.inl h9) (fun ce q H locs hP hz9 hk9 hS hce hcv hcl => ?_)
  have hO : va_P (z_DD G) vwCl (z_wO G ox o) H := z_keep1 hO (hk9 _ (z_lt1 hO) (fun ⟨k, hk, e9⟩ => hox k hk e9.symm))
  refine vx_catch (name := "java/lang/IndexOutOfBoundsException") (E := "java/lang/IndexOutOfBoundsException") hown [] ⟨0, 10, 13, 20⟩ [⟨0, 10, 17, 13⟩] (hTab.trans rfl) (fun z h9 => nomatch h9) rfl (by decide) (hts (.classLink RL 20 "java/lang/IndexOutOfBoundsException") (by decide +kernel)) (va_Nw.use rfl (hT.2.2.1.1 "java/lang/IndexOutOfBoundsException" (by decide))) hce hcv hcl ?_
  refine lv_astore (lv' := [(4, .ref q), (0, .ref (ad 0)), (1, .int p0), (2, .int p1), (3, .ref ox)]) hx hb dL_setHeat_13 hl (by decide) rfl (fun ls hl => ?_)
  refine lv_iconst (v := 1) hx hb dL_setHeat_15 (by decide) ?_
  exact z_iret hx hb hr hlocks dL_setHeat_16 (fun t ht hW => ⟨rfl, by rw [ht]; exact hP, by rw [ht]; exact hO, hS.F ht⟩) hS.2.2 rfl

set_option maxHeartbeats 4000000 in
set_option maxRecDepth 100000 in
theorem v_L_setHeat_2 (l : Launch) (G : z_GT) (ad : Nat → Nat) (ox : Nat) (σ σ' : Nat → Nat → Int32) (κ κ' : Nat → Nat → Nat) (o : Int64) (p0 : Int32) (p1 : Int32) (hinj : ∀ i j, i < 36 → j < 36 → ad i = ad j → i = j) (hox : ∀ k, k < 36 → ad k ≠ ox) (hM : vx_Met l yX4_setHeat wsX4_setHeat ({ frames := 6, cells := 1, slots := 6, locals := 82 } : Room) (z_Pt G [.ref (ad 0), .int p0, .int p1] (z_wC G ad σ κ) (z_A 36 ad)) z_No (z_Xq G "java/lang/IllegalArgumentException" (z_wC G ad σ' κ') (z_A 36 ad)) 1 6 (z_A 36 ad)) : Met l yL_setHeat wsL_setHeat ({ frames := 7, cells := 1, slots := 6, locals := 105 } : Room) (z_Pl G ad ox σ κ o [.ref (ad 0), .int p0, .int p1, .ref ox]) (z_Ql G ad ox σ' κ' o 2) 1 6 (z_Al ad ox) := by
  refine va_MetW (cc := cL_setHeat) (maxL := 5) (ret := (some .int)) (by decide) rfl ?_
  intro p e s m args below meth c s₁ B hml hw0
  obtain ⟨rfl, hX, hP, hO, hT⟩ := hw0
  have hK := hX.1
  have hx := B.exec
  have hb := B.bytes
  have hr := B.returns
  have hts := atoms_spec (ws := wsL_setHeat) B.pre
  have hown : s.vm.findClass RL = some m.cls := findClass_of_methodNamed B.named
  have hlocks := B.notSynchronized
  have hS : va_S (z_Al ad ox) s.heap s.heap [] := va_S.rf
  have hl := lv_entry ([.ref (ad 0), .int p0, .int p1, .ref ox]) (n := 5) (Nat.le_of_ble_eq_true rfl)
  rw [lg_entry_eq]
  generalize (lg_sl ([.ref (ad 0), .int p0, .int p1, .ref ox]) ++ List.replicate (5 - (lg_sl ([.ref (ad 0), .int p0, .int p1, .ref ox])).length) Slot.unset).toArray = ls at hl ⊢
  have hl : lv_has ls 5 [(0, .ref (ad 0)), (1, .int p0), (2, .int p1), (3, .ref ox)] := hl
  have hTab : c.exceptionTable.toList = tableOf [(0, 10, 13, 20), (0, 10, 17, 13)] := vx_table (x := yL_setHeat) B (hts (.codeWith yL_setHeat cL_setHeat 5 (some .int) [(0, 10, 13, 20), (0, 10, 17, 13)]) List.mem_cons_self)
  refine lv_aload_n hx hb dL_setHeat_0 rfl (lv_at hl 3 rfl) ?_
  refine lv_iconst (v := nI 0) hx hb dL_setHeat_1 (by decide) ?_
  refine lv_aload_n hx hb dL_setHeat_2 rfl (lv_at hl 0 rfl) ?_
  refine lv_iload_n hx hb dL_setHeat_3 rfl (lv_at hl 1 rfl) ?_
  refine lv_iload_n hx hb dL_setHeat_4 rfl (lv_at hl 2 rfl) ?_
  refine z_callx (vx_runV (As := [.int p0, .int p1]) (rest := [.int (nI 0), .ref ox]) ⟨hx, hb, hml, hown, hts⟩ hM (cwV 2 hts gL_setHeat_X4_setHeat rfl rfl rfl (by decide +kernel) ⟨Nat.le_of_ble_eq_true rfl, Nat.le_of_ble_eq_true rfl⟩) (z_ptV (ci := 4) (k := 0) hX hP hT rfl z_g0) rfl rfl hl.1 rfl (lv_room (Nat.le_of_ble_eq_true rfl)) dL_setHeat_5 ⟨Nat.le_of_ble_eq_true rfl, Nat.le_of_ble_eq_true rfl⟩) hS (fun _ _ h9 => Or.inl h9) (fun _ h9 => Or.inl h9) (fun ce q H locs hP hz9 hk9 hS hce hcv hcl => ?_)
  have hO : va_P (z_DD G) vwCl (z_wO G ox o) H := z_keep1 hO (hk9 _ (z_lt1 hO) (fun ⟨k, hk, e9⟩ => hox k hk e9.symm))
  refine vx_catch (name := "java/lang/IllegalArgumentException") (E := "java/lang/IllegalArgumentException") hown [⟨0, 10, 13, 20⟩] ⟨0, 10, 17, 13⟩ [] (hTab.trans rfl) (fun z h9 => by
    simp only [List.mem_cons, List.not_mem_nil, or_false] at h9
    rcases h9 with rfl
    · exact Or.inr ⟨by decide, "java/lang/IndexOutOfBoundsException", hts (.classLink RL 20 "java/lang/IndexOutOfBoundsException") (by decide +kernel), hT.2.2.2 "java/lang/IllegalArgumentException" (by decide) "java/lang/IndexOutOfBoundsException" (by decide) (by decide)⟩) rfl (by decide) (hts (.classLink RL 13 "java/lang/IllegalArgumentException") (by decide +kernel)) (va_Nw.use rfl (hT.2.2.1.1 "java/lang/IllegalArgumentException" (by decide))) hce hcv hcl ?_
  refine lv_astore (lv' := [(4, .ref q), (0, .ref (ad 0)), (1, .int p0), (2, .int p1), (3, .ref ox)]) hx hb dL_setHeat_17 hl (by decide) rfl (fun ls hl => ?_)
  refine lv_iconst (v := 2) hx hb dL_setHeat_19 (by decide) ?_
  exact z_iret hx hb hr hlocks dL_setHeat_20 (fun t ht hW => ⟨rfl, by rw [ht]; exact hP, by rw [ht]; exact hO, hS.F ht⟩) hS.2.2 rfl

set_option maxHeartbeats 4000000 in
set_option maxRecDepth 100000 in
theorem w_L_bloom (l : Launch) (G : z_GT) (ad : Nat → Nat) (ox : Nat) (σ σ' : Nat → Nat → Int32) (κ κ' : Nat → Nat → Nat) (o : Int64) (v : Int32) (p0 : Int32) (p1 : Int32) (hinj : ∀ i j, i < 36 → j < 36 → ad i = ad j → i = j) (hox : ∀ k, k < 36 → ad k ≠ ox) (hM : Met l yX4_bloom wsX4_bloom ({ frames := 2, cells := 0, slots := 0, locals := 45 } : Room) (z_Pr G [.ref (ad 0), .int p0, .int p1] (z_wC G ad σ κ)) (z_Qm G (some (.int v)) (z_wC G ad σ' κ') (z_A 36 ad)) 0 0 (z_A 36 ad)) : Met l yL_bloom wsL_bloom ({ frames := 8, cells := 1, slots := 6, locals := 125 } : Room) (z_Pl G ad ox σ κ o [.ref (ad 0), .int p0, .int p1, .ref ox]) (z_Ql G ad ox σ' κ' v.toInt64 0) 1 6 (z_Al ad ox) := by
  refine va_MetW (cc := cL_bloom) (maxL := 5) (ret := (some .int)) (by decide) rfl ?_
  intro p e s m args below meth c s₁ B hml hw0
  obtain ⟨rfl, hX, hP, hO, hT⟩ := hw0
  have hK := hX.1
  have hx := B.exec
  have hb := B.bytes
  have hr := B.returns
  have hts := atoms_spec (ws := wsL_bloom) B.pre
  have hown : s.vm.findClass RL = some m.cls := findClass_of_methodNamed B.named
  have hlocks := B.notSynchronized
  have hS : va_S (z_Al ad ox) s.heap s.heap [] := va_S.rf
  have hl := lv_entry ([.ref (ad 0), .int p0, .int p1, .ref ox]) (n := 5) (Nat.le_of_ble_eq_true rfl)
  rw [lg_entry_eq]
  generalize (lg_sl ([.ref (ad 0), .int p0, .int p1, .ref ox]) ++ List.replicate (5 - (lg_sl ([.ref (ad 0), .int p0, .int p1, .ref ox])).length) Slot.unset).toArray = ls at hl ⊢
  have hl : lv_has ls 5 [(0, .ref (ad 0)), (1, .int p0), (2, .int p1), (3, .ref ox)] := hl
  refine lv_aload_n hx hb dL_bloom_0 rfl (lv_at hl 3 rfl) ?_
  refine lv_iconst (v := nI 0) hx hb dL_bloom_1 (by decide) ?_
  refine lv_aload_n hx hb dL_bloom_2 rfl (lv_at hl 0 rfl) ?_
  refine lv_iload_n hx hb dL_bloom_3 rfl (lv_at hl 1 rfl) ?_
  refine lv_iload_n hx hb dL_bloom_4 rfl (lv_at hl 2 rfl) ?_
  refine z_callm (va_runV (As := [.int p0, .int p1]) (rest := [.int (nI 0), .ref ox]) ⟨hx, hb, hml, hown, hts⟩ hM (cwV 2 hts gL_bloom_X4_bloom rfl rfl rfl (by decide +kernel) ⟨Nat.le_of_ble_eq_true rfl, Nat.le_of_ble_eq_true rfl⟩) (z_prV (ci := 4) (k := 0) hX hP rfl z_g0) rfl rfl hl.1 rfl (lv_room (Nat.le_of_ble_eq_true rfl)) dL_bloom_5 ⟨Nat.le_of_ble_eq_true rfl, Nat.le_of_ble_eq_true rfl⟩) hS (fun _ _ h9 => Or.inl h9) (fun _ h9 => Or.inl h9) (fun H locs hP hz9 hk9 hS => ?_)
  have hO : va_P (z_DD G) vwCl (z_wO G ox o) H := z_keep1 hO (hk9 _ (z_lt1 hO) (fun ⟨k, hk, e9⟩ => hox k hk e9.symm))
  refine W.eq (g2 := F0 m 8 ls [.int v, .int (nI 0), .ref ox]) rfl ?_
  refine lv_i2l hx hb dL_bloom_8 rfl ?_
  refine va_last (i := nI 0) (f := fun _ => o) hx hb hK (hP.app hO) (z_apD hinj (fun k hk => Or.inl ⟨k, hk, rfl⟩) (Or.inr rfl) hox) hS 36 4 z_apR rfl (vp_in_nI (by decide) (by decide)) dL_bloom_9 (fun H locs hP hD hS => ?_)
  rw [z_apS] at hP
  obtain ⟨hP, hO⟩ := z_apP hP
  have hO : va_P (z_DD G) vwCl (z_wO G ox v.toInt64) H := z_atO hO (by simp [vp_updL, nI_clamp])
  refine lv_goto (tgt := 21) hx hb dL_bloom_10 (by decide) ?_
  refine lv_iconst (v := 0) hx hb dL_bloom_21 (by decide) ?_
  refine W.widen (k := 1) (n := 6) (by omega) (by omega) ?_
  exact z_iret hx hb hr hlocks dL_bloom_22 (fun t ht hW => ⟨rfl, by rw [ht]; exact hP, by rw [ht]; exact hO, hS.F ht⟩) hS.2.2 rfl

set_option maxHeartbeats 4000000 in
set_option maxRecDepth 100000 in
theorem v_L_bloom_1 (l : Launch) (G : z_GT) (ad : Nat → Nat) (ox : Nat) (σ σ' : Nat → Nat → Int32) (κ κ' : Nat → Nat → Nat) (o : Int64) (p0 : Int32) (p1 : Int32) (hinj : ∀ i j, i < 36 → j < 36 → ad i = ad j → i = j) (hox : ∀ k, k < 36 → ad k ≠ ox) (hM : vx_Met l yX4_bloom wsX4_bloom ({ frames := 7, cells := 1, slots := 6, locals := 103 } : Room) (z_Pt G [.ref (ad 0), .int p0, .int p1] (z_wC G ad σ κ) (z_A 36 ad)) z_No (z_Xq G "java/lang/IndexOutOfBoundsException" (z_wC G ad σ' κ') (z_A 36 ad)) 1 6 (z_A 36 ad)) : Met l yL_bloom wsL_bloom ({ frames := 8, cells := 1, slots := 6, locals := 125 } : Room) (z_Pl G ad ox σ κ o [.ref (ad 0), .int p0, .int p1, .ref ox]) (z_Ql G ad ox σ' κ' o 1) 1 6 (z_Al ad ox) := by
  refine va_MetW (cc := cL_bloom) (maxL := 5) (ret := (some .int)) (by decide) rfl ?_
  intro p e s m args below meth c s₁ B hml hw0
  obtain ⟨rfl, hX, hP, hO, hT⟩ := hw0
  have hK := hX.1
  have hx := B.exec
  have hb := B.bytes
  have hr := B.returns
  have hts := atoms_spec (ws := wsL_bloom) B.pre
  have hown : s.vm.findClass RL = some m.cls := findClass_of_methodNamed B.named
  have hlocks := B.notSynchronized
  have hS : va_S (z_Al ad ox) s.heap s.heap [] := va_S.rf
  have hl := lv_entry ([.ref (ad 0), .int p0, .int p1, .ref ox]) (n := 5) (Nat.le_of_ble_eq_true rfl)
  rw [lg_entry_eq]
  generalize (lg_sl ([.ref (ad 0), .int p0, .int p1, .ref ox]) ++ List.replicate (5 - (lg_sl ([.ref (ad 0), .int p0, .int p1, .ref ox])).length) Slot.unset).toArray = ls at hl ⊢
  have hl : lv_has ls 5 [(0, .ref (ad 0)), (1, .int p0), (2, .int p1), (3, .ref ox)] := hl
  have hTab : c.exceptionTable.toList = tableOf [(0, 10, 13, 20), (0, 10, 17, 13)] := vx_table (x := yL_bloom) B (hts (.codeWith yL_bloom cL_bloom 5 (some .int) [(0, 10, 13, 20), (0, 10, 17, 13)]) List.mem_cons_self)
  refine lv_aload_n hx hb dL_bloom_0 rfl (lv_at hl 3 rfl) ?_
  refine lv_iconst (v := nI 0) hx hb dL_bloom_1 (by decide) ?_
  refine lv_aload_n hx hb dL_bloom_2 rfl (lv_at hl 0 rfl) ?_
  refine lv_iload_n hx hb dL_bloom_3 rfl (lv_at hl 1 rfl) ?_
  refine lv_iload_n hx hb dL_bloom_4 rfl (lv_at hl 2 rfl) ?_
  refine z_callx (vx_runV (As := [.int p0, .int p1]) (rest := [.int (nI 0), .ref ox]) ⟨hx, hb, hml, hown, hts⟩ hM (cwV 2 hts gL_bloom_X4_bloom rfl rfl rfl (by decide +kernel) ⟨Nat.le_of_ble_eq_true rfl, Nat.le_of_ble_eq_true rfl⟩) (z_ptV (ci := 4) (k := 0) hX hP hT rfl z_g0) rfl rfl hl.1 rfl (lv_room (Nat.le_of_ble_eq_true rfl)) dL_bloom_5 ⟨Nat.le_of_ble_eq_true rfl, Nat.le_of_ble_eq_true rfl⟩) hS (fun _ _ h9 => Or.inl h9) (fun _ h9 => Or.inl h9) (fun ce q H locs hP hz9 hk9 hS hce hcv hcl => ?_)
  have hO : va_P (z_DD G) vwCl (z_wO G ox o) H := z_keep1 hO (hk9 _ (z_lt1 hO) (fun ⟨k, hk, e9⟩ => hox k hk e9.symm))
  refine vx_catch (name := "java/lang/IndexOutOfBoundsException") (E := "java/lang/IndexOutOfBoundsException") hown [] ⟨0, 10, 13, 20⟩ [⟨0, 10, 17, 13⟩] (hTab.trans rfl) (fun z h9 => nomatch h9) rfl (by decide) (hts (.classLink RL 20 "java/lang/IndexOutOfBoundsException") (by decide +kernel)) (va_Nw.use rfl (hT.2.2.1.1 "java/lang/IndexOutOfBoundsException" (by decide))) hce hcv hcl ?_
  refine lv_astore (lv' := [(4, .ref q), (0, .ref (ad 0)), (1, .int p0), (2, .int p1), (3, .ref ox)]) hx hb dL_bloom_13 hl (by decide) rfl (fun ls hl => ?_)
  refine lv_iconst (v := 1) hx hb dL_bloom_15 (by decide) ?_
  exact z_iret hx hb hr hlocks dL_bloom_16 (fun t ht hW => ⟨rfl, by rw [ht]; exact hP, by rw [ht]; exact hO, hS.F ht⟩) hS.2.2 rfl

set_option maxHeartbeats 4000000 in
set_option maxRecDepth 100000 in
theorem v_L_bloom_2 (l : Launch) (G : z_GT) (ad : Nat → Nat) (ox : Nat) (σ σ' : Nat → Nat → Int32) (κ κ' : Nat → Nat → Nat) (o : Int64) (p0 : Int32) (p1 : Int32) (hinj : ∀ i j, i < 36 → j < 36 → ad i = ad j → i = j) (hox : ∀ k, k < 36 → ad k ≠ ox) (hM : vx_Met l yX4_bloom wsX4_bloom ({ frames := 7, cells := 1, slots := 6, locals := 103 } : Room) (z_Pt G [.ref (ad 0), .int p0, .int p1] (z_wC G ad σ κ) (z_A 36 ad)) z_No (z_Xq G "java/lang/IllegalArgumentException" (z_wC G ad σ' κ') (z_A 36 ad)) 1 6 (z_A 36 ad)) : Met l yL_bloom wsL_bloom ({ frames := 8, cells := 1, slots := 6, locals := 125 } : Room) (z_Pl G ad ox σ κ o [.ref (ad 0), .int p0, .int p1, .ref ox]) (z_Ql G ad ox σ' κ' o 2) 1 6 (z_Al ad ox) := by
  refine va_MetW (cc := cL_bloom) (maxL := 5) (ret := (some .int)) (by decide) rfl ?_
  intro p e s m args below meth c s₁ B hml hw0
  obtain ⟨rfl, hX, hP, hO, hT⟩ := hw0
  have hK := hX.1
  have hx := B.exec
  have hb := B.bytes
  have hr := B.returns
  have hts := atoms_spec (ws := wsL_bloom) B.pre
  have hown : s.vm.findClass RL = some m.cls := findClass_of_methodNamed B.named
  have hlocks := B.notSynchronized
  have hS : va_S (z_Al ad ox) s.heap s.heap [] := va_S.rf
  have hl := lv_entry ([.ref (ad 0), .int p0, .int p1, .ref ox]) (n := 5) (Nat.le_of_ble_eq_true rfl)
  rw [lg_entry_eq]
  generalize (lg_sl ([.ref (ad 0), .int p0, .int p1, .ref ox]) ++ List.replicate (5 - (lg_sl ([.ref (ad 0), .int p0, .int p1, .ref ox])).length) Slot.unset).toArray = ls at hl ⊢
  have hl : lv_has ls 5 [(0, .ref (ad 0)), (1, .int p0), (2, .int p1), (3, .ref ox)] := hl
  have hTab : c.exceptionTable.toList = tableOf [(0, 10, 13, 20), (0, 10, 17, 13)] := vx_table (x := yL_bloom) B (hts (.codeWith yL_bloom cL_bloom 5 (some .int) [(0, 10, 13, 20), (0, 10, 17, 13)]) List.mem_cons_self)
  refine lv_aload_n hx hb dL_bloom_0 rfl (lv_at hl 3 rfl) ?_
  refine lv_iconst (v := nI 0) hx hb dL_bloom_1 (by decide) ?_
  refine lv_aload_n hx hb dL_bloom_2 rfl (lv_at hl 0 rfl) ?_
  refine lv_iload_n hx hb dL_bloom_3 rfl (lv_at hl 1 rfl) ?_
  refine lv_iload_n hx hb dL_bloom_4 rfl (lv_at hl 2 rfl) ?_
  refine z_callx (vx_runV (As := [.int p0, .int p1]) (rest := [.int (nI 0), .ref ox]) ⟨hx, hb, hml, hown, hts⟩ hM (cwV 2 hts gL_bloom_X4_bloom rfl rfl rfl (by decide +kernel) ⟨Nat.le_of_ble_eq_true rfl, Nat.le_of_ble_eq_true rfl⟩) (z_ptV (ci := 4) (k := 0) hX hP hT rfl z_g0) rfl rfl hl.1 rfl (lv_room (Nat.le_of_ble_eq_true rfl)) dL_bloom_5 ⟨Nat.le_of_ble_eq_true rfl, Nat.le_of_ble_eq_true rfl⟩) hS (fun _ _ h9 => Or.inl h9) (fun _ h9 => Or.inl h9) (fun ce q H locs hP hz9 hk9 hS hce hcv hcl => ?_)
  have hO : va_P (z_DD G) vwCl (z_wO G ox o) H := z_keep1 hO (hk9 _ (z_lt1 hO) (fun ⟨k, hk, e9⟩ => hox k hk e9.symm))
  refine vx_catch (name := "java/lang/IllegalArgumentException") (E := "java/lang/IllegalArgumentException") hown [⟨0, 10, 13, 20⟩] ⟨0, 10, 17, 13⟩ [] (hTab.trans rfl) (fun z h9 => by
    simp only [List.mem_cons, List.not_mem_nil, or_false] at h9
    rcases h9 with rfl
    · exact Or.inr ⟨by decide, "java/lang/IndexOutOfBoundsException", hts (.classLink RL 20 "java/lang/IndexOutOfBoundsException") (by decide +kernel), hT.2.2.2 "java/lang/IllegalArgumentException" (by decide) "java/lang/IndexOutOfBoundsException" (by decide) (by decide)⟩) rfl (by decide) (hts (.classLink RL 13 "java/lang/IllegalArgumentException") (by decide +kernel)) (va_Nw.use rfl (hT.2.2.1.1 "java/lang/IllegalArgumentException" (by decide))) hce hcv hcl ?_
  refine lv_astore (lv' := [(4, .ref q), (0, .ref (ad 0)), (1, .int p0), (2, .int p1), (3, .ref ox)]) hx hb dL_bloom_17 hl (by decide) rfl (fun ls hl => ?_)
  refine lv_iconst (v := 2) hx hb dL_bloom_19 (by decide) ?_
  exact z_iret hx hb hr hlocks dL_bloom_20 (fun t ht hW => ⟨rfl, by rw [ht]; exact hP, by rw [ht]; exact hO, hS.F ht⟩) hS.2.2 rfl

set_option maxHeartbeats 4000000 in
set_option maxRecDepth 100000 in
theorem w_L_way (l : Launch) (G : z_GT) (ad : Nat → Nat) (ox : Nat) (σ σ' : Nat → Nat → Int32) (κ κ' : Nat → Nat → Nat) (o : Int64) (v : Int32) (p0 : Int32) (p1 : Int32) (hinj : ∀ i j, i < 36 → j < 36 → ad i = ad j → i = j) (hox : ∀ k, k < 36 → ad k ≠ ox) (hM : Met l yX4_way wsX4_way ({ frames := 3, cells := 0, slots := 0, locals := 64 } : Room) (z_Pr G [.ref (ad 0), .int p0, .int p1] (z_wC G ad σ κ)) (z_Qm G (some (.int v)) (z_wC G ad σ' κ') (z_A 36 ad)) 0 0 (z_A 36 ad)) : Met l yL_way wsL_way ({ frames := 8, cells := 1, slots := 6, locals := 125 } : Room) (z_Pl G ad ox σ κ o [.ref (ad 0), .int p0, .int p1, .ref ox]) (z_Ql G ad ox σ' κ' v.toInt64 0) 1 6 (z_Al ad ox) := by
  refine va_MetW (cc := cL_way) (maxL := 5) (ret := (some .int)) (by decide) rfl ?_
  intro p e s m args below meth c s₁ B hml hw0
  obtain ⟨rfl, hX, hP, hO, hT⟩ := hw0
  have hK := hX.1
  have hx := B.exec
  have hb := B.bytes
  have hr := B.returns
  have hts := atoms_spec (ws := wsL_way) B.pre
  have hown : s.vm.findClass RL = some m.cls := findClass_of_methodNamed B.named
  have hlocks := B.notSynchronized
  have hS : va_S (z_Al ad ox) s.heap s.heap [] := va_S.rf
  have hl := lv_entry ([.ref (ad 0), .int p0, .int p1, .ref ox]) (n := 5) (Nat.le_of_ble_eq_true rfl)
  rw [lg_entry_eq]
  generalize (lg_sl ([.ref (ad 0), .int p0, .int p1, .ref ox]) ++ List.replicate (5 - (lg_sl ([.ref (ad 0), .int p0, .int p1, .ref ox])).length) Slot.unset).toArray = ls at hl ⊢
  have hl : lv_has ls 5 [(0, .ref (ad 0)), (1, .int p0), (2, .int p1), (3, .ref ox)] := hl
  refine lv_aload_n hx hb dL_way_0 rfl (lv_at hl 3 rfl) ?_
  refine lv_iconst (v := nI 0) hx hb dL_way_1 (by decide) ?_
  refine lv_aload_n hx hb dL_way_2 rfl (lv_at hl 0 rfl) ?_
  refine lv_iload_n hx hb dL_way_3 rfl (lv_at hl 1 rfl) ?_
  refine lv_iload_n hx hb dL_way_4 rfl (lv_at hl 2 rfl) ?_
  refine z_callm (va_runV (As := [.int p0, .int p1]) (rest := [.int (nI 0), .ref ox]) ⟨hx, hb, hml, hown, hts⟩ hM (cwV 2 hts gL_way_X4_way rfl rfl rfl (by decide +kernel) ⟨Nat.le_of_ble_eq_true rfl, Nat.le_of_ble_eq_true rfl⟩) (z_prV (ci := 4) (k := 0) hX hP rfl z_g0) rfl rfl hl.1 rfl (lv_room (Nat.le_of_ble_eq_true rfl)) dL_way_5 ⟨Nat.le_of_ble_eq_true rfl, Nat.le_of_ble_eq_true rfl⟩) hS (fun _ _ h9 => Or.inl h9) (fun _ h9 => Or.inl h9) (fun H locs hP hz9 hk9 hS => ?_)
  have hO : va_P (z_DD G) vwCl (z_wO G ox o) H := z_keep1 hO (hk9 _ (z_lt1 hO) (fun ⟨k, hk, e9⟩ => hox k hk e9.symm))
  refine W.eq (g2 := F0 m 8 ls [.int v, .int (nI 0), .ref ox]) rfl ?_
  refine lv_i2l hx hb dL_way_8 rfl ?_
  refine va_last (i := nI 0) (f := fun _ => o) hx hb hK (hP.app hO) (z_apD hinj (fun k hk => Or.inl ⟨k, hk, rfl⟩) (Or.inr rfl) hox) hS 36 4 z_apR rfl (vp_in_nI (by decide) (by decide)) dL_way_9 (fun H locs hP hD hS => ?_)
  rw [z_apS] at hP
  obtain ⟨hP, hO⟩ := z_apP hP
  have hO : va_P (z_DD G) vwCl (z_wO G ox v.toInt64) H := z_atO hO (by simp [vp_updL, nI_clamp])
  refine lv_goto (tgt := 17) hx hb dL_way_10 (by decide) ?_
  refine lv_iconst (v := 0) hx hb dL_way_17 (by decide) ?_
  refine W.widen (k := 1) (n := 6) (by omega) (by omega) ?_
  exact z_iret hx hb hr hlocks dL_way_18 (fun t ht hW => ⟨rfl, by rw [ht]; exact hP, by rw [ht]; exact hO, hS.F ht⟩) hS.2.2 rfl

set_option maxHeartbeats 4000000 in
set_option maxRecDepth 100000 in
theorem v_L_way_1 (l : Launch) (G : z_GT) (ad : Nat → Nat) (ox : Nat) (σ σ' : Nat → Nat → Int32) (κ κ' : Nat → Nat → Nat) (o : Int64) (p0 : Int32) (p1 : Int32) (hinj : ∀ i j, i < 36 → j < 36 → ad i = ad j → i = j) (hox : ∀ k, k < 36 → ad k ≠ ox) (hM : vx_Met l yX4_way wsX4_way ({ frames := 7, cells := 1, slots := 6, locals := 103 } : Room) (z_Pt G [.ref (ad 0), .int p0, .int p1] (z_wC G ad σ κ) (z_A 36 ad)) z_No (z_Xq G "java/lang/IndexOutOfBoundsException" (z_wC G ad σ' κ') (z_A 36 ad)) 1 6 (z_A 36 ad)) : Met l yL_way wsL_way ({ frames := 8, cells := 1, slots := 6, locals := 125 } : Room) (z_Pl G ad ox σ κ o [.ref (ad 0), .int p0, .int p1, .ref ox]) (z_Ql G ad ox σ' κ' o 1) 1 6 (z_Al ad ox) := by
  refine va_MetW (cc := cL_way) (maxL := 5) (ret := (some .int)) (by decide) rfl ?_
  intro p e s m args below meth c s₁ B hml hw0
  obtain ⟨rfl, hX, hP, hO, hT⟩ := hw0
  have hK := hX.1
  have hx := B.exec
  have hb := B.bytes
  have hr := B.returns
  have hts := atoms_spec (ws := wsL_way) B.pre
  have hown : s.vm.findClass RL = some m.cls := findClass_of_methodNamed B.named
  have hlocks := B.notSynchronized
  have hS : va_S (z_Al ad ox) s.heap s.heap [] := va_S.rf
  have hl := lv_entry ([.ref (ad 0), .int p0, .int p1, .ref ox]) (n := 5) (Nat.le_of_ble_eq_true rfl)
  rw [lg_entry_eq]
  generalize (lg_sl ([.ref (ad 0), .int p0, .int p1, .ref ox]) ++ List.replicate (5 - (lg_sl ([.ref (ad 0), .int p0, .int p1, .ref ox])).length) Slot.unset).toArray = ls at hl ⊢
  have hl : lv_has ls 5 [(0, .ref (ad 0)), (1, .int p0), (2, .int p1), (3, .ref ox)] := hl
  have hTab : c.exceptionTable.toList = tableOf [(0, 10, 13, 20)] := vx_table (x := yL_way) B (hts (.codeWith yL_way cL_way 5 (some .int) [(0, 10, 13, 20)]) List.mem_cons_self)
  refine lv_aload_n hx hb dL_way_0 rfl (lv_at hl 3 rfl) ?_
  refine lv_iconst (v := nI 0) hx hb dL_way_1 (by decide) ?_
  refine lv_aload_n hx hb dL_way_2 rfl (lv_at hl 0 rfl) ?_
  refine lv_iload_n hx hb dL_way_3 rfl (lv_at hl 1 rfl) ?_
  refine lv_iload_n hx hb dL_way_4 rfl (lv_at hl 2 rfl) ?_
  refine z_callx (vx_runV (As := [.int p0, .int p1]) (rest := [.int (nI 0), .ref ox]) ⟨hx, hb, hml, hown, hts⟩ hM (cwV 2 hts gL_way_X4_way rfl rfl rfl (by decide +kernel) ⟨Nat.le_of_ble_eq_true rfl, Nat.le_of_ble_eq_true rfl⟩) (z_ptV (ci := 4) (k := 0) hX hP hT rfl z_g0) rfl rfl hl.1 rfl (lv_room (Nat.le_of_ble_eq_true rfl)) dL_way_5 ⟨Nat.le_of_ble_eq_true rfl, Nat.le_of_ble_eq_true rfl⟩) hS (fun _ _ h9 => Or.inl h9) (fun _ h9 => Or.inl h9) (fun ce q H locs hP hz9 hk9 hS hce hcv hcl => ?_)
  have hO : va_P (z_DD G) vwCl (z_wO G ox o) H := z_keep1 hO (hk9 _ (z_lt1 hO) (fun ⟨k, hk, e9⟩ => hox k hk e9.symm))
  refine vx_catch (name := "java/lang/IndexOutOfBoundsException") (E := "java/lang/IndexOutOfBoundsException") hown [] ⟨0, 10, 13, 20⟩ [] (hTab.trans rfl) (fun z h9 => nomatch h9) rfl (by decide) (hts (.classLink RL 20 "java/lang/IndexOutOfBoundsException") (by decide +kernel)) (va_Nw.use rfl (hT.2.2.1.1 "java/lang/IndexOutOfBoundsException" (by decide))) hce hcv hcl ?_
  refine lv_astore (lv' := [(4, .ref q), (0, .ref (ad 0)), (1, .int p0), (2, .int p1), (3, .ref ox)]) hx hb dL_way_13 hl (by decide) rfl (fun ls hl => ?_)
  refine lv_iconst (v := 1) hx hb dL_way_15 (by decide) ?_
  exact z_iret hx hb hr hlocks dL_way_16 (fun t ht hW => ⟨rfl, by rw [ht]; exact hP, by rw [ht]; exact hO, hS.F ht⟩) hS.2.2 rfl

set_option maxHeartbeats 4000000 in
set_option maxRecDepth 100000 in
theorem w_L_tour (l : Launch) (G : z_GT) (ad : Nat → Nat) (ox : Nat) (σ σ' : Nat → Nat → Int32) (κ κ' : Nat → Nat → Nat) (o : Int64) (v : Int32) (p0 : Int32) (hinj : ∀ i j, i < 36 → j < 36 → ad i = ad j → i = j) (hox : ∀ k, k < 36 → ad k ≠ ox) (hM : Met l yX4_tour wsX4_tour ({ frames := 1, cells := 0, slots := 0, locals := 22 } : Room) (z_Pr G [.ref (ad 0), .int p0] (z_wC G ad σ κ)) (z_Qm G (some (.int v)) (z_wC G ad σ' κ') (z_A 36 ad)) 0 0 (z_A 36 ad)) : Met l yL_tour wsL_tour ({ frames := 7, cells := 1, slots := 6, locals := 103 } : Room) (z_Pl G ad ox σ κ o [.ref (ad 0), .int p0, .ref ox]) (z_Ql G ad ox σ' κ' v.toInt64 0) 1 6 (z_Al ad ox) := by
  refine va_MetW (cc := cL_tour) (maxL := 4) (ret := (some .int)) (by decide) rfl ?_
  intro p e s m args below meth c s₁ B hml hw0
  obtain ⟨rfl, hX, hP, hO, hT⟩ := hw0
  have hK := hX.1
  have hx := B.exec
  have hb := B.bytes
  have hr := B.returns
  have hts := atoms_spec (ws := wsL_tour) B.pre
  have hown : s.vm.findClass RL = some m.cls := findClass_of_methodNamed B.named
  have hlocks := B.notSynchronized
  have hS : va_S (z_Al ad ox) s.heap s.heap [] := va_S.rf
  have hl := lv_entry ([.ref (ad 0), .int p0, .ref ox]) (n := 4) (Nat.le_of_ble_eq_true rfl)
  rw [lg_entry_eq]
  generalize (lg_sl ([.ref (ad 0), .int p0, .ref ox]) ++ List.replicate (4 - (lg_sl ([.ref (ad 0), .int p0, .ref ox])).length) Slot.unset).toArray = ls at hl ⊢
  have hl : lv_has ls 4 [(0, .ref (ad 0)), (1, .int p0), (2, .ref ox)] := hl
  refine lv_aload_n hx hb dL_tour_0 rfl (lv_at hl 2 rfl) ?_
  refine lv_iconst (v := nI 0) hx hb dL_tour_1 (by decide) ?_
  refine lv_aload_n hx hb dL_tour_2 rfl (lv_at hl 0 rfl) ?_
  refine lv_iload_n hx hb dL_tour_3 rfl (lv_at hl 1 rfl) ?_
  refine z_callm (va_runV (As := [.int p0]) (rest := [.int (nI 0), .ref ox]) ⟨hx, hb, hml, hown, hts⟩ hM (cwV 1 hts gL_tour_X4_tour rfl rfl rfl (by decide +kernel) ⟨Nat.le_of_ble_eq_true rfl, Nat.le_of_ble_eq_true rfl⟩) (z_prV (ci := 4) (k := 0) hX hP rfl z_g0) rfl rfl hl.1 rfl (lv_room (Nat.le_of_ble_eq_true rfl)) dL_tour_4 ⟨Nat.le_of_ble_eq_true rfl, Nat.le_of_ble_eq_true rfl⟩) hS (fun _ _ h9 => Or.inl h9) (fun _ h9 => Or.inl h9) (fun H locs hP hz9 hk9 hS => ?_)
  have hO : va_P (z_DD G) vwCl (z_wO G ox o) H := z_keep1 hO (hk9 _ (z_lt1 hO) (fun ⟨k, hk, e9⟩ => hox k hk e9.symm))
  refine W.eq (g2 := F0 m 7 ls [.int v, .int (nI 0), .ref ox]) rfl ?_
  refine lv_i2l hx hb dL_tour_7 rfl ?_
  refine va_last (i := nI 0) (f := fun _ => o) hx hb hK (hP.app hO) (z_apD hinj (fun k hk => Or.inl ⟨k, hk, rfl⟩) (Or.inr rfl) hox) hS 36 4 z_apR rfl (vp_in_nI (by decide) (by decide)) dL_tour_8 (fun H locs hP hD hS => ?_)
  rw [z_apS] at hP
  obtain ⟨hP, hO⟩ := z_apP hP
  have hO : va_P (z_DD G) vwCl (z_wO G ox v.toInt64) H := z_atO hO (by simp [vp_updL, nI_clamp])
  refine lv_goto (tgt := 18) hx hb dL_tour_9 (by decide) ?_
  refine lv_iconst (v := 0) hx hb dL_tour_18 (by decide) ?_
  refine W.widen (k := 1) (n := 6) (by omega) (by omega) ?_
  exact z_iret hx hb hr hlocks dL_tour_19 (fun t ht hW => ⟨rfl, by rw [ht]; exact hP, by rw [ht]; exact hO, hS.F ht⟩) hS.2.2 rfl

set_option maxHeartbeats 4000000 in
set_option maxRecDepth 100000 in
theorem v_L_tour_1 (l : Launch) (G : z_GT) (ad : Nat → Nat) (ox : Nat) (σ σ' : Nat → Nat → Int32) (κ κ' : Nat → Nat → Nat) (o : Int64) (p0 : Int32) (hinj : ∀ i j, i < 36 → j < 36 → ad i = ad j → i = j) (hox : ∀ k, k < 36 → ad k ≠ ox) (hM : vx_Met l yX4_tour wsX4_tour ({ frames := 6, cells := 1, slots := 6, locals := 82 } : Room) (z_Pt G [.ref (ad 0), .int p0] (z_wC G ad σ κ) (z_A 36 ad)) z_No (z_Xq G "java/lang/IllegalArgumentException" (z_wC G ad σ' κ') (z_A 36 ad)) 1 6 (z_A 36 ad)) : Met l yL_tour wsL_tour ({ frames := 7, cells := 1, slots := 6, locals := 103 } : Room) (z_Pl G ad ox σ κ o [.ref (ad 0), .int p0, .ref ox]) (z_Ql G ad ox σ' κ' o 1) 1 6 (z_Al ad ox) := by
  refine va_MetW (cc := cL_tour) (maxL := 4) (ret := (some .int)) (by decide) rfl ?_
  intro p e s m args below meth c s₁ B hml hw0
  obtain ⟨rfl, hX, hP, hO, hT⟩ := hw0
  have hK := hX.1
  have hx := B.exec
  have hb := B.bytes
  have hr := B.returns
  have hts := atoms_spec (ws := wsL_tour) B.pre
  have hown : s.vm.findClass RL = some m.cls := findClass_of_methodNamed B.named
  have hlocks := B.notSynchronized
  have hS : va_S (z_Al ad ox) s.heap s.heap [] := va_S.rf
  have hl := lv_entry ([.ref (ad 0), .int p0, .ref ox]) (n := 4) (Nat.le_of_ble_eq_true rfl)
  rw [lg_entry_eq]
  generalize (lg_sl ([.ref (ad 0), .int p0, .ref ox]) ++ List.replicate (4 - (lg_sl ([.ref (ad 0), .int p0, .ref ox])).length) Slot.unset).toArray = ls at hl ⊢
  have hl : lv_has ls 4 [(0, .ref (ad 0)), (1, .int p0), (2, .ref ox)] := hl
  have hTab : c.exceptionTable.toList = tableOf [(0, 9, 12, 13), (0, 9, 15, 15)] := vx_table (x := yL_tour) B (hts (.codeWith yL_tour cL_tour 4 (some .int) [(0, 9, 12, 13), (0, 9, 15, 15)]) List.mem_cons_self)
  refine lv_aload_n hx hb dL_tour_0 rfl (lv_at hl 2 rfl) ?_
  refine lv_iconst (v := nI 0) hx hb dL_tour_1 (by decide) ?_
  refine lv_aload_n hx hb dL_tour_2 rfl (lv_at hl 0 rfl) ?_
  refine lv_iload_n hx hb dL_tour_3 rfl (lv_at hl 1 rfl) ?_
  refine z_callx (vx_runV (As := [.int p0]) (rest := [.int (nI 0), .ref ox]) ⟨hx, hb, hml, hown, hts⟩ hM (cwV 1 hts gL_tour_X4_tour rfl rfl rfl (by decide +kernel) ⟨Nat.le_of_ble_eq_true rfl, Nat.le_of_ble_eq_true rfl⟩) (z_ptV (ci := 4) (k := 0) hX hP hT rfl z_g0) rfl rfl hl.1 rfl (lv_room (Nat.le_of_ble_eq_true rfl)) dL_tour_4 ⟨Nat.le_of_ble_eq_true rfl, Nat.le_of_ble_eq_true rfl⟩) hS (fun _ _ h9 => Or.inl h9) (fun _ h9 => Or.inl h9) (fun ce q H locs hP hz9 hk9 hS hce hcv hcl => ?_)
  have hO : va_P (z_DD G) vwCl (z_wO G ox o) H := z_keep1 hO (hk9 _ (z_lt1 hO) (fun ⟨k, hk, e9⟩ => hox k hk e9.symm))
  refine vx_catch (name := "java/lang/IllegalArgumentException") (E := "java/lang/IllegalArgumentException") hown [] ⟨0, 9, 12, 13⟩ [⟨0, 9, 15, 15⟩] (hTab.trans rfl) (fun z h9 => nomatch h9) rfl (by decide) (hts (.classLink RL 13 "java/lang/IllegalArgumentException") (by decide +kernel)) (va_Nw.use rfl (hT.2.2.1.1 "java/lang/IllegalArgumentException" (by decide))) hce hcv hcl ?_
  refine lv_astore_n (lv' := [(3, .ref q), (0, .ref (ad 0)), (1, .int p0), (2, .ref ox)]) hx hb dL_tour_12 rfl hl (by decide) rfl (fun ls hl => ?_)
  refine lv_iconst (v := 1) hx hb dL_tour_13 (by decide) ?_
  exact z_iret hx hb hr hlocks dL_tour_14 (fun t ht hW => ⟨rfl, by rw [ht]; exact hP, by rw [ht]; exact hO, hS.F ht⟩) hS.2.2 rfl

set_option maxHeartbeats 4000000 in
set_option maxRecDepth 100000 in
theorem v_L_tour_2 (l : Launch) (G : z_GT) (ad : Nat → Nat) (ox : Nat) (σ σ' : Nat → Nat → Int32) (κ κ' : Nat → Nat → Nat) (o : Int64) (p0 : Int32) (hinj : ∀ i j, i < 36 → j < 36 → ad i = ad j → i = j) (hox : ∀ k, k < 36 → ad k ≠ ox) (hM : vx_Met l yX4_tour wsX4_tour ({ frames := 6, cells := 1, slots := 6, locals := 82 } : Room) (z_Pt G [.ref (ad 0), .int p0] (z_wC G ad σ κ) (z_A 36 ad)) z_No (z_Xq G "java/lang/IllegalStateException" (z_wC G ad σ' κ') (z_A 36 ad)) 1 6 (z_A 36 ad)) : Met l yL_tour wsL_tour ({ frames := 7, cells := 1, slots := 6, locals := 103 } : Room) (z_Pl G ad ox σ κ o [.ref (ad 0), .int p0, .ref ox]) (z_Ql G ad ox σ' κ' o 2) 1 6 (z_Al ad ox) := by
  refine va_MetW (cc := cL_tour) (maxL := 4) (ret := (some .int)) (by decide) rfl ?_
  intro p e s m args below meth c s₁ B hml hw0
  obtain ⟨rfl, hX, hP, hO, hT⟩ := hw0
  have hK := hX.1
  have hx := B.exec
  have hb := B.bytes
  have hr := B.returns
  have hts := atoms_spec (ws := wsL_tour) B.pre
  have hown : s.vm.findClass RL = some m.cls := findClass_of_methodNamed B.named
  have hlocks := B.notSynchronized
  have hS : va_S (z_Al ad ox) s.heap s.heap [] := va_S.rf
  have hl := lv_entry ([.ref (ad 0), .int p0, .ref ox]) (n := 4) (Nat.le_of_ble_eq_true rfl)
  rw [lg_entry_eq]
  generalize (lg_sl ([.ref (ad 0), .int p0, .ref ox]) ++ List.replicate (4 - (lg_sl ([.ref (ad 0), .int p0, .ref ox])).length) Slot.unset).toArray = ls at hl ⊢
  have hl : lv_has ls 4 [(0, .ref (ad 0)), (1, .int p0), (2, .ref ox)] := hl
  have hTab : c.exceptionTable.toList = tableOf [(0, 9, 12, 13), (0, 9, 15, 15)] := vx_table (x := yL_tour) B (hts (.codeWith yL_tour cL_tour 4 (some .int) [(0, 9, 12, 13), (0, 9, 15, 15)]) List.mem_cons_self)
  refine lv_aload_n hx hb dL_tour_0 rfl (lv_at hl 2 rfl) ?_
  refine lv_iconst (v := nI 0) hx hb dL_tour_1 (by decide) ?_
  refine lv_aload_n hx hb dL_tour_2 rfl (lv_at hl 0 rfl) ?_
  refine lv_iload_n hx hb dL_tour_3 rfl (lv_at hl 1 rfl) ?_
  refine z_callx (vx_runV (As := [.int p0]) (rest := [.int (nI 0), .ref ox]) ⟨hx, hb, hml, hown, hts⟩ hM (cwV 1 hts gL_tour_X4_tour rfl rfl rfl (by decide +kernel) ⟨Nat.le_of_ble_eq_true rfl, Nat.le_of_ble_eq_true rfl⟩) (z_ptV (ci := 4) (k := 0) hX hP hT rfl z_g0) rfl rfl hl.1 rfl (lv_room (Nat.le_of_ble_eq_true rfl)) dL_tour_4 ⟨Nat.le_of_ble_eq_true rfl, Nat.le_of_ble_eq_true rfl⟩) hS (fun _ _ h9 => Or.inl h9) (fun _ h9 => Or.inl h9) (fun ce q H locs hP hz9 hk9 hS hce hcv hcl => ?_)
  have hO : va_P (z_DD G) vwCl (z_wO G ox o) H := z_keep1 hO (hk9 _ (z_lt1 hO) (fun ⟨k, hk, e9⟩ => hox k hk e9.symm))
  refine vx_catch (name := "java/lang/IllegalStateException") (E := "java/lang/IllegalStateException") hown [⟨0, 9, 12, 13⟩] ⟨0, 9, 15, 15⟩ [] (hTab.trans rfl) (fun z h9 => by
    simp only [List.mem_cons, List.not_mem_nil, or_false] at h9
    rcases h9 with rfl
    · exact Or.inr ⟨by decide, "java/lang/IllegalArgumentException", hts (.classLink RL 13 "java/lang/IllegalArgumentException") (by decide +kernel), hT.2.2.2 "java/lang/IllegalStateException" (by decide) "java/lang/IllegalArgumentException" (by decide) (by decide)⟩) rfl (by decide) (hts (.classLink RL 15 "java/lang/IllegalStateException") (by decide +kernel)) (va_Nw.use rfl (hT.2.2.1.1 "java/lang/IllegalStateException" (by decide))) hce hcv hcl ?_
  refine lv_astore_n (lv' := [(3, .ref q), (0, .ref (ad 0)), (1, .int p0), (2, .ref ox)]) hx hb dL_tour_15 rfl hl (by decide) rfl (fun ls hl => ?_)
  refine lv_iconst (v := 2) hx hb dL_tour_16 (by decide) ?_
  exact z_iret hx hb hr hlocks dL_tour_17 (fun t ht hW => ⟨rfl, by rw [ht]; exact hP, by rw [ht]; exact hO, hS.F ht⟩) hS.2.2 rfl

set_option maxHeartbeats 4000000 in
set_option maxRecDepth 100000 in
theorem w_L_add (l : Launch) (G : z_GT) (ad : Nat → Nat) (ox : Nat) (σ σ' : Nat → Nat → Int32) (κ κ' : Nat → Nat → Nat) (o : Int64) (v : Int32) (p0 : Int32) (p1 : Int32) (hinj : ∀ i j, i < 36 → j < 36 → ad i = ad j → i = j) (hox : ∀ k, k < 36 → ad k ≠ ox) (hM : Met l yX4_add wsX4_add ({ frames := 5, cells := 0, slots := 0, locals := 109 } : Room) (z_Pr G [.ref (ad 0), .int p0, .int p1] (z_wC G ad σ κ)) (z_Qm G (some (.int v)) (z_wC G ad σ' κ') (z_A 36 ad)) 0 0 (z_A 36 ad)) : Met l yL_add wsL_add ({ frames := 8, cells := 1, slots := 6, locals := 132 } : Room) (z_Pl G ad ox σ κ o [.ref (ad 0), .int p0, .int p1, .ref ox]) (z_Ql G ad ox σ' κ' v.toInt64 0) 1 6 (z_Al ad ox) := by
  refine va_MetW (cc := cL_add) (maxL := 5) (ret := (some .int)) (by decide) rfl ?_
  intro p e s m args below meth c s₁ B hml hw0
  obtain ⟨rfl, hX, hP, hO, hT⟩ := hw0
  have hK := hX.1
  have hx := B.exec
  have hb := B.bytes
  have hr := B.returns
  have hts := atoms_spec (ws := wsL_add) B.pre
  have hown : s.vm.findClass RL = some m.cls := findClass_of_methodNamed B.named
  have hlocks := B.notSynchronized
  have hS : va_S (z_Al ad ox) s.heap s.heap [] := va_S.rf
  have hl := lv_entry ([.ref (ad 0), .int p0, .int p1, .ref ox]) (n := 5) (Nat.le_of_ble_eq_true rfl)
  rw [lg_entry_eq]
  generalize (lg_sl ([.ref (ad 0), .int p0, .int p1, .ref ox]) ++ List.replicate (5 - (lg_sl ([.ref (ad 0), .int p0, .int p1, .ref ox])).length) Slot.unset).toArray = ls at hl ⊢
  have hl : lv_has ls 5 [(0, .ref (ad 0)), (1, .int p0), (2, .int p1), (3, .ref ox)] := hl
  refine lv_aload_n hx hb dL_add_0 rfl (lv_at hl 3 rfl) ?_
  refine lv_iconst (v := nI 0) hx hb dL_add_1 (by decide) ?_
  refine lv_aload_n hx hb dL_add_2 rfl (lv_at hl 0 rfl) ?_
  refine lv_iload_n hx hb dL_add_3 rfl (lv_at hl 1 rfl) ?_
  refine lv_iload_n hx hb dL_add_4 rfl (lv_at hl 2 rfl) ?_
  refine z_callm (va_runV (As := [.int p0, .int p1]) (rest := [.int (nI 0), .ref ox]) ⟨hx, hb, hml, hown, hts⟩ hM (cwV 2 hts gL_add_X4_add rfl rfl rfl (by decide +kernel) ⟨Nat.le_of_ble_eq_true rfl, Nat.le_of_ble_eq_true rfl⟩) (z_prV (ci := 4) (k := 0) hX hP rfl z_g0) rfl rfl hl.1 rfl (lv_room (Nat.le_of_ble_eq_true rfl)) dL_add_5 ⟨Nat.le_of_ble_eq_true rfl, Nat.le_of_ble_eq_true rfl⟩) hS (fun _ _ h9 => Or.inl h9) (fun _ h9 => Or.inl h9) (fun H locs hP hz9 hk9 hS => ?_)
  have hO : va_P (z_DD G) vwCl (z_wO G ox o) H := z_keep1 hO (hk9 _ (z_lt1 hO) (fun ⟨k, hk, e9⟩ => hox k hk e9.symm))
  refine W.eq (g2 := F0 m 8 ls [.int v, .int (nI 0), .ref ox]) rfl ?_
  refine lv_i2l hx hb dL_add_8 rfl ?_
  refine va_last (i := nI 0) (f := fun _ => o) hx hb hK (hP.app hO) (z_apD hinj (fun k hk => Or.inl ⟨k, hk, rfl⟩) (Or.inr rfl) hox) hS 36 4 z_apR rfl (vp_in_nI (by decide) (by decide)) dL_add_9 (fun H locs hP hD hS => ?_)
  rw [z_apS] at hP
  obtain ⟨hP, hO⟩ := z_apP hP
  have hO : va_P (z_DD G) vwCl (z_wO G ox v.toInt64) H := z_atO hO (by simp [vp_updL, nI_clamp])
  refine lv_goto (tgt := 21) hx hb dL_add_10 (by decide) ?_
  refine lv_iconst (v := 0) hx hb dL_add_21 (by decide) ?_
  refine W.widen (k := 1) (n := 6) (by omega) (by omega) ?_
  exact z_iret hx hb hr hlocks dL_add_22 (fun t ht hW => ⟨rfl, by rw [ht]; exact hP, by rw [ht]; exact hO, hS.F ht⟩) hS.2.2 rfl

set_option maxHeartbeats 4000000 in
set_option maxRecDepth 100000 in
theorem v_L_add_1 (l : Launch) (G : z_GT) (ad : Nat → Nat) (ox : Nat) (σ σ' : Nat → Nat → Int32) (κ κ' : Nat → Nat → Nat) (o : Int64) (p0 : Int32) (p1 : Int32) (hinj : ∀ i j, i < 36 → j < 36 → ad i = ad j → i = j) (hox : ∀ k, k < 36 → ad k ≠ ox) (hM : vx_Met l yX4_add wsX4_add ({ frames := 7, cells := 1, slots := 6, locals := 103 } : Room) (z_Pt G [.ref (ad 0), .int p0, .int p1] (z_wC G ad σ κ) (z_A 36 ad)) z_No (z_Xq G "java/lang/IndexOutOfBoundsException" (z_wC G ad σ' κ') (z_A 36 ad)) 1 6 (z_A 36 ad)) : Met l yL_add wsL_add ({ frames := 8, cells := 1, slots := 6, locals := 132 } : Room) (z_Pl G ad ox σ κ o [.ref (ad 0), .int p0, .int p1, .ref ox]) (z_Ql G ad ox σ' κ' o 1) 1 6 (z_Al ad ox) := by
  refine va_MetW (cc := cL_add) (maxL := 5) (ret := (some .int)) (by decide) rfl ?_
  intro p e s m args below meth c s₁ B hml hw0
  obtain ⟨rfl, hX, hP, hO, hT⟩ := hw0
  have hK := hX.1
  have hx := B.exec
  have hb := B.bytes
  have hr := B.returns
  have hts := atoms_spec (ws := wsL_add) B.pre
  have hown : s.vm.findClass RL = some m.cls := findClass_of_methodNamed B.named
  have hlocks := B.notSynchronized
  have hS : va_S (z_Al ad ox) s.heap s.heap [] := va_S.rf
  have hl := lv_entry ([.ref (ad 0), .int p0, .int p1, .ref ox]) (n := 5) (Nat.le_of_ble_eq_true rfl)
  rw [lg_entry_eq]
  generalize (lg_sl ([.ref (ad 0), .int p0, .int p1, .ref ox]) ++ List.replicate (5 - (lg_sl ([.ref (ad 0), .int p0, .int p1, .ref ox])).length) Slot.unset).toArray = ls at hl ⊢
  have hl : lv_has ls 5 [(0, .ref (ad 0)), (1, .int p0), (2, .int p1), (3, .ref ox)] := hl
  have hTab : c.exceptionTable.toList = tableOf [(0, 10, 13, 20), (0, 10, 17, 15)] := vx_table (x := yL_add) B (hts (.codeWith yL_add cL_add 5 (some .int) [(0, 10, 13, 20), (0, 10, 17, 15)]) List.mem_cons_self)
  refine lv_aload_n hx hb dL_add_0 rfl (lv_at hl 3 rfl) ?_
  refine lv_iconst (v := nI 0) hx hb dL_add_1 (by decide) ?_
  refine lv_aload_n hx hb dL_add_2 rfl (lv_at hl 0 rfl) ?_
  refine lv_iload_n hx hb dL_add_3 rfl (lv_at hl 1 rfl) ?_
  refine lv_iload_n hx hb dL_add_4 rfl (lv_at hl 2 rfl) ?_
  refine z_callx (vx_runV (As := [.int p0, .int p1]) (rest := [.int (nI 0), .ref ox]) ⟨hx, hb, hml, hown, hts⟩ hM (cwV 2 hts gL_add_X4_add rfl rfl rfl (by decide +kernel) ⟨Nat.le_of_ble_eq_true rfl, Nat.le_of_ble_eq_true rfl⟩) (z_ptV (ci := 4) (k := 0) hX hP hT rfl z_g0) rfl rfl hl.1 rfl (lv_room (Nat.le_of_ble_eq_true rfl)) dL_add_5 ⟨Nat.le_of_ble_eq_true rfl, Nat.le_of_ble_eq_true rfl⟩) hS (fun _ _ h9 => Or.inl h9) (fun _ h9 => Or.inl h9) (fun ce q H locs hP hz9 hk9 hS hce hcv hcl => ?_)
  have hO : va_P (z_DD G) vwCl (z_wO G ox o) H := z_keep1 hO (hk9 _ (z_lt1 hO) (fun ⟨k, hk, e9⟩ => hox k hk e9.symm))
  refine vx_catch (name := "java/lang/IndexOutOfBoundsException") (E := "java/lang/IndexOutOfBoundsException") hown [] ⟨0, 10, 13, 20⟩ [⟨0, 10, 17, 15⟩] (hTab.trans rfl) (fun z h9 => nomatch h9) rfl (by decide) (hts (.classLink RL 20 "java/lang/IndexOutOfBoundsException") (by decide +kernel)) (va_Nw.use rfl (hT.2.2.1.1 "java/lang/IndexOutOfBoundsException" (by decide))) hce hcv hcl ?_
  refine lv_astore (lv' := [(4, .ref q), (0, .ref (ad 0)), (1, .int p0), (2, .int p1), (3, .ref ox)]) hx hb dL_add_13 hl (by decide) rfl (fun ls hl => ?_)
  refine lv_iconst (v := 1) hx hb dL_add_15 (by decide) ?_
  exact z_iret hx hb hr hlocks dL_add_16 (fun t ht hW => ⟨rfl, by rw [ht]; exact hP, by rw [ht]; exact hO, hS.F ht⟩) hS.2.2 rfl

set_option maxHeartbeats 4000000 in
set_option maxRecDepth 100000 in
theorem v_L_add_2 (l : Launch) (G : z_GT) (ad : Nat → Nat) (ox : Nat) (σ σ' : Nat → Nat → Int32) (κ κ' : Nat → Nat → Nat) (o : Int64) (p0 : Int32) (p1 : Int32) (hinj : ∀ i j, i < 36 → j < 36 → ad i = ad j → i = j) (hox : ∀ k, k < 36 → ad k ≠ ox) (hM : vx_Met l yX4_add wsX4_add ({ frames := 7, cells := 1, slots := 6, locals := 103 } : Room) (z_Pt G [.ref (ad 0), .int p0, .int p1] (z_wC G ad σ κ) (z_A 36 ad)) z_No (z_Xq G "java/lang/IllegalStateException" (z_wC G ad σ' κ') (z_A 36 ad)) 1 6 (z_A 36 ad)) : Met l yL_add wsL_add ({ frames := 8, cells := 1, slots := 6, locals := 132 } : Room) (z_Pl G ad ox σ κ o [.ref (ad 0), .int p0, .int p1, .ref ox]) (z_Ql G ad ox σ' κ' o 2) 1 6 (z_Al ad ox) := by
  refine va_MetW (cc := cL_add) (maxL := 5) (ret := (some .int)) (by decide) rfl ?_
  intro p e s m args below meth c s₁ B hml hw0
  obtain ⟨rfl, hX, hP, hO, hT⟩ := hw0
  have hK := hX.1
  have hx := B.exec
  have hb := B.bytes
  have hr := B.returns
  have hts := atoms_spec (ws := wsL_add) B.pre
  have hown : s.vm.findClass RL = some m.cls := findClass_of_methodNamed B.named
  have hlocks := B.notSynchronized
  have hS : va_S (z_Al ad ox) s.heap s.heap [] := va_S.rf
  have hl := lv_entry ([.ref (ad 0), .int p0, .int p1, .ref ox]) (n := 5) (Nat.le_of_ble_eq_true rfl)
  rw [lg_entry_eq]
  generalize (lg_sl ([.ref (ad 0), .int p0, .int p1, .ref ox]) ++ List.replicate (5 - (lg_sl ([.ref (ad 0), .int p0, .int p1, .ref ox])).length) Slot.unset).toArray = ls at hl ⊢
  have hl : lv_has ls 5 [(0, .ref (ad 0)), (1, .int p0), (2, .int p1), (3, .ref ox)] := hl
  have hTab : c.exceptionTable.toList = tableOf [(0, 10, 13, 20), (0, 10, 17, 15)] := vx_table (x := yL_add) B (hts (.codeWith yL_add cL_add 5 (some .int) [(0, 10, 13, 20), (0, 10, 17, 15)]) List.mem_cons_self)
  refine lv_aload_n hx hb dL_add_0 rfl (lv_at hl 3 rfl) ?_
  refine lv_iconst (v := nI 0) hx hb dL_add_1 (by decide) ?_
  refine lv_aload_n hx hb dL_add_2 rfl (lv_at hl 0 rfl) ?_
  refine lv_iload_n hx hb dL_add_3 rfl (lv_at hl 1 rfl) ?_
  refine lv_iload_n hx hb dL_add_4 rfl (lv_at hl 2 rfl) ?_
  refine z_callx (vx_runV (As := [.int p0, .int p1]) (rest := [.int (nI 0), .ref ox]) ⟨hx, hb, hml, hown, hts⟩ hM (cwV 2 hts gL_add_X4_add rfl rfl rfl (by decide +kernel) ⟨Nat.le_of_ble_eq_true rfl, Nat.le_of_ble_eq_true rfl⟩) (z_ptV (ci := 4) (k := 0) hX hP hT rfl z_g0) rfl rfl hl.1 rfl (lv_room (Nat.le_of_ble_eq_true rfl)) dL_add_5 ⟨Nat.le_of_ble_eq_true rfl, Nat.le_of_ble_eq_true rfl⟩) hS (fun _ _ h9 => Or.inl h9) (fun _ h9 => Or.inl h9) (fun ce q H locs hP hz9 hk9 hS hce hcv hcl => ?_)
  have hO : va_P (z_DD G) vwCl (z_wO G ox o) H := z_keep1 hO (hk9 _ (z_lt1 hO) (fun ⟨k, hk, e9⟩ => hox k hk e9.symm))
  refine vx_catch (name := "java/lang/IllegalStateException") (E := "java/lang/IllegalStateException") hown [⟨0, 10, 13, 20⟩] ⟨0, 10, 17, 15⟩ [] (hTab.trans rfl) (fun z h9 => by
    simp only [List.mem_cons, List.not_mem_nil, or_false] at h9
    rcases h9 with rfl
    · exact Or.inr ⟨by decide, "java/lang/IndexOutOfBoundsException", hts (.classLink RL 20 "java/lang/IndexOutOfBoundsException") (by decide +kernel), hT.2.2.2 "java/lang/IllegalStateException" (by decide) "java/lang/IndexOutOfBoundsException" (by decide) (by decide)⟩) rfl (by decide) (hts (.classLink RL 15 "java/lang/IllegalStateException") (by decide +kernel)) (va_Nw.use rfl (hT.2.2.1.1 "java/lang/IllegalStateException" (by decide))) hce hcv hcl ?_
  refine lv_astore (lv' := [(4, .ref q), (0, .ref (ad 0)), (1, .int p0), (2, .int p1), (3, .ref ox)]) hx hb dL_add_17 hl (by decide) rfl (fun ls hl => ?_)
  refine lv_iconst (v := 2) hx hb dL_add_19 (by decide) ?_
  exact z_iret hx hb hr hlocks dL_add_20 (fun t ht hW => ⟨rfl, by rw [ht]; exact hP, by rw [ht]; exact hO, hS.F ht⟩) hS.2.2 rfl

set_option maxHeartbeats 4000000 in
set_option maxRecDepth 100000 in
theorem w_L_cut (l : Launch) (G : z_GT) (ad : Nat → Nat) (ox : Nat) (σ σ' : Nat → Nat → Int32) (κ κ' : Nat → Nat → Nat) (o : Int64) (v : Int32) (p0 : Int32) (hinj : ∀ i j, i < 36 → j < 36 → ad i = ad j → i = j) (hox : ∀ k, k < 36 → ad k ≠ ox) (hM : Met l yX4_cut wsX4_cut ({ frames := 5, cells := 0, slots := 0, locals := 109 } : Room) (z_Pr G [.ref (ad 0), .int p0] (z_wC G ad σ κ)) (z_Qm G (some (.int v)) (z_wC G ad σ' κ') (z_A 36 ad)) 0 0 (z_A 36 ad)) : Met l yL_cut wsL_cut ({ frames := 8, cells := 1, slots := 6, locals := 132 } : Room) (z_Pl G ad ox σ κ o [.ref (ad 0), .int p0, .ref ox]) (z_Ql G ad ox σ' κ' v.toInt64 0) 1 6 (z_Al ad ox) := by
  refine va_MetW (cc := cL_cut) (maxL := 4) (ret := (some .int)) (by decide) rfl ?_
  intro p e s m args below meth c s₁ B hml hw0
  obtain ⟨rfl, hX, hP, hO, hT⟩ := hw0
  have hK := hX.1
  have hx := B.exec
  have hb := B.bytes
  have hr := B.returns
  have hts := atoms_spec (ws := wsL_cut) B.pre
  have hown : s.vm.findClass RL = some m.cls := findClass_of_methodNamed B.named
  have hlocks := B.notSynchronized
  have hS : va_S (z_Al ad ox) s.heap s.heap [] := va_S.rf
  have hl := lv_entry ([.ref (ad 0), .int p0, .ref ox]) (n := 4) (Nat.le_of_ble_eq_true rfl)
  rw [lg_entry_eq]
  generalize (lg_sl ([.ref (ad 0), .int p0, .ref ox]) ++ List.replicate (4 - (lg_sl ([.ref (ad 0), .int p0, .ref ox])).length) Slot.unset).toArray = ls at hl ⊢
  have hl : lv_has ls 4 [(0, .ref (ad 0)), (1, .int p0), (2, .ref ox)] := hl
  refine lv_aload_n hx hb dL_cut_0 rfl (lv_at hl 2 rfl) ?_
  refine lv_iconst (v := nI 0) hx hb dL_cut_1 (by decide) ?_
  refine lv_aload_n hx hb dL_cut_2 rfl (lv_at hl 0 rfl) ?_
  refine lv_iload_n hx hb dL_cut_3 rfl (lv_at hl 1 rfl) ?_
  refine z_callm (va_runV (As := [.int p0]) (rest := [.int (nI 0), .ref ox]) ⟨hx, hb, hml, hown, hts⟩ hM (cwV 1 hts gL_cut_X4_cut rfl rfl rfl (by decide +kernel) ⟨Nat.le_of_ble_eq_true rfl, Nat.le_of_ble_eq_true rfl⟩) (z_prV (ci := 4) (k := 0) hX hP rfl z_g0) rfl rfl hl.1 rfl (lv_room (Nat.le_of_ble_eq_true rfl)) dL_cut_4 ⟨Nat.le_of_ble_eq_true rfl, Nat.le_of_ble_eq_true rfl⟩) hS (fun _ _ h9 => Or.inl h9) (fun _ h9 => Or.inl h9) (fun H locs hP hz9 hk9 hS => ?_)
  have hO : va_P (z_DD G) vwCl (z_wO G ox o) H := z_keep1 hO (hk9 _ (z_lt1 hO) (fun ⟨k, hk, e9⟩ => hox k hk e9.symm))
  refine W.eq (g2 := F0 m 7 ls [.int v, .int (nI 0), .ref ox]) rfl ?_
  refine lv_i2l hx hb dL_cut_7 rfl ?_
  refine va_last (i := nI 0) (f := fun _ => o) hx hb hK (hP.app hO) (z_apD hinj (fun k hk => Or.inl ⟨k, hk, rfl⟩) (Or.inr rfl) hox) hS 36 4 z_apR rfl (vp_in_nI (by decide) (by decide)) dL_cut_8 (fun H locs hP hD hS => ?_)
  rw [z_apS] at hP
  obtain ⟨hP, hO⟩ := z_apP hP
  have hO : va_P (z_DD G) vwCl (z_wO G ox v.toInt64) H := z_atO hO (by simp [vp_updL, nI_clamp])
  refine lv_goto (tgt := 18) hx hb dL_cut_9 (by decide) ?_
  refine lv_iconst (v := 0) hx hb dL_cut_18 (by decide) ?_
  refine W.widen (k := 1) (n := 6) (by omega) (by omega) ?_
  exact z_iret hx hb hr hlocks dL_cut_19 (fun t ht hW => ⟨rfl, by rw [ht]; exact hP, by rw [ht]; exact hO, hS.F ht⟩) hS.2.2 rfl

set_option maxHeartbeats 4000000 in
set_option maxRecDepth 100000 in
theorem v_L_cut_1 (l : Launch) (G : z_GT) (ad : Nat → Nat) (ox : Nat) (σ σ' : Nat → Nat → Int32) (κ κ' : Nat → Nat → Nat) (o : Int64) (p0 : Int32) (hinj : ∀ i j, i < 36 → j < 36 → ad i = ad j → i = j) (hox : ∀ k, k < 36 → ad k ≠ ox) (hM : vx_Met l yX4_cut wsX4_cut ({ frames := 7, cells := 1, slots := 6, locals := 103 } : Room) (z_Pt G [.ref (ad 0), .int p0] (z_wC G ad σ κ) (z_A 36 ad)) z_No (z_Xq G "java/lang/IndexOutOfBoundsException" (z_wC G ad σ' κ') (z_A 36 ad)) 1 6 (z_A 36 ad)) : Met l yL_cut wsL_cut ({ frames := 8, cells := 1, slots := 6, locals := 132 } : Room) (z_Pl G ad ox σ κ o [.ref (ad 0), .int p0, .ref ox]) (z_Ql G ad ox σ' κ' o 1) 1 6 (z_Al ad ox) := by
  refine va_MetW (cc := cL_cut) (maxL := 4) (ret := (some .int)) (by decide) rfl ?_
  intro p e s m args below meth c s₁ B hml hw0
  obtain ⟨rfl, hX, hP, hO, hT⟩ := hw0
  have hK := hX.1
  have hx := B.exec
  have hb := B.bytes
  have hr := B.returns
  have hts := atoms_spec (ws := wsL_cut) B.pre
  have hown : s.vm.findClass RL = some m.cls := findClass_of_methodNamed B.named
  have hlocks := B.notSynchronized
  have hS : va_S (z_Al ad ox) s.heap s.heap [] := va_S.rf
  have hl := lv_entry ([.ref (ad 0), .int p0, .ref ox]) (n := 4) (Nat.le_of_ble_eq_true rfl)
  rw [lg_entry_eq]
  generalize (lg_sl ([.ref (ad 0), .int p0, .ref ox]) ++ List.replicate (4 - (lg_sl ([.ref (ad 0), .int p0, .ref ox])).length) Slot.unset).toArray = ls at hl ⊢
  have hl : lv_has ls 4 [(0, .ref (ad 0)), (1, .int p0), (2, .ref ox)] := hl
  have hTab : c.exceptionTable.toList = tableOf [(0, 9, 12, 20), (0, 9, 15, 15)] := vx_table (x := yL_cut) B (hts (.codeWith yL_cut cL_cut 4 (some .int) [(0, 9, 12, 20), (0, 9, 15, 15)]) List.mem_cons_self)
  refine lv_aload_n hx hb dL_cut_0 rfl (lv_at hl 2 rfl) ?_
  refine lv_iconst (v := nI 0) hx hb dL_cut_1 (by decide) ?_
  refine lv_aload_n hx hb dL_cut_2 rfl (lv_at hl 0 rfl) ?_
  refine lv_iload_n hx hb dL_cut_3 rfl (lv_at hl 1 rfl) ?_
  refine z_callx (vx_runV (As := [.int p0]) (rest := [.int (nI 0), .ref ox]) ⟨hx, hb, hml, hown, hts⟩ hM (cwV 1 hts gL_cut_X4_cut rfl rfl rfl (by decide +kernel) ⟨Nat.le_of_ble_eq_true rfl, Nat.le_of_ble_eq_true rfl⟩) (z_ptV (ci := 4) (k := 0) hX hP hT rfl z_g0) rfl rfl hl.1 rfl (lv_room (Nat.le_of_ble_eq_true rfl)) dL_cut_4 ⟨Nat.le_of_ble_eq_true rfl, Nat.le_of_ble_eq_true rfl⟩) hS (fun _ _ h9 => Or.inl h9) (fun _ h9 => Or.inl h9) (fun ce q H locs hP hz9 hk9 hS hce hcv hcl => ?_)
  have hO : va_P (z_DD G) vwCl (z_wO G ox o) H := z_keep1 hO (hk9 _ (z_lt1 hO) (fun ⟨k, hk, e9⟩ => hox k hk e9.symm))
  refine vx_catch (name := "java/lang/IndexOutOfBoundsException") (E := "java/lang/IndexOutOfBoundsException") hown [] ⟨0, 9, 12, 20⟩ [⟨0, 9, 15, 15⟩] (hTab.trans rfl) (fun z h9 => nomatch h9) rfl (by decide) (hts (.classLink RL 20 "java/lang/IndexOutOfBoundsException") (by decide +kernel)) (va_Nw.use rfl (hT.2.2.1.1 "java/lang/IndexOutOfBoundsException" (by decide))) hce hcv hcl ?_
  refine lv_astore_n (lv' := [(3, .ref q), (0, .ref (ad 0)), (1, .int p0), (2, .ref ox)]) hx hb dL_cut_12 rfl hl (by decide) rfl (fun ls hl => ?_)
  refine lv_iconst (v := 1) hx hb dL_cut_13 (by decide) ?_
  exact z_iret hx hb hr hlocks dL_cut_14 (fun t ht hW => ⟨rfl, by rw [ht]; exact hP, by rw [ht]; exact hO, hS.F ht⟩) hS.2.2 rfl

set_option maxHeartbeats 4000000 in
set_option maxRecDepth 100000 in
theorem v_L_cut_2 (l : Launch) (G : z_GT) (ad : Nat → Nat) (ox : Nat) (σ σ' : Nat → Nat → Int32) (κ κ' : Nat → Nat → Nat) (o : Int64) (p0 : Int32) (hinj : ∀ i j, i < 36 → j < 36 → ad i = ad j → i = j) (hox : ∀ k, k < 36 → ad k ≠ ox) (hM : vx_Met l yX4_cut wsX4_cut ({ frames := 7, cells := 1, slots := 6, locals := 103 } : Room) (z_Pt G [.ref (ad 0), .int p0] (z_wC G ad σ κ) (z_A 36 ad)) z_No (z_Xq G "java/lang/IllegalStateException" (z_wC G ad σ' κ') (z_A 36 ad)) 1 6 (z_A 36 ad)) : Met l yL_cut wsL_cut ({ frames := 8, cells := 1, slots := 6, locals := 132 } : Room) (z_Pl G ad ox σ κ o [.ref (ad 0), .int p0, .ref ox]) (z_Ql G ad ox σ' κ' o 2) 1 6 (z_Al ad ox) := by
  refine va_MetW (cc := cL_cut) (maxL := 4) (ret := (some .int)) (by decide) rfl ?_
  intro p e s m args below meth c s₁ B hml hw0
  obtain ⟨rfl, hX, hP, hO, hT⟩ := hw0
  have hK := hX.1
  have hx := B.exec
  have hb := B.bytes
  have hr := B.returns
  have hts := atoms_spec (ws := wsL_cut) B.pre
  have hown : s.vm.findClass RL = some m.cls := findClass_of_methodNamed B.named
  have hlocks := B.notSynchronized
  have hS : va_S (z_Al ad ox) s.heap s.heap [] := va_S.rf
  have hl := lv_entry ([.ref (ad 0), .int p0, .ref ox]) (n := 4) (Nat.le_of_ble_eq_true rfl)
  rw [lg_entry_eq]
  generalize (lg_sl ([.ref (ad 0), .int p0, .ref ox]) ++ List.replicate (4 - (lg_sl ([.ref (ad 0), .int p0, .ref ox])).length) Slot.unset).toArray = ls at hl ⊢
  have hl : lv_has ls 4 [(0, .ref (ad 0)), (1, .int p0), (2, .ref ox)] := hl
  have hTab : c.exceptionTable.toList = tableOf [(0, 9, 12, 20), (0, 9, 15, 15)] := vx_table (x := yL_cut) B (hts (.codeWith yL_cut cL_cut 4 (some .int) [(0, 9, 12, 20), (0, 9, 15, 15)]) List.mem_cons_self)
  refine lv_aload_n hx hb dL_cut_0 rfl (lv_at hl 2 rfl) ?_
  refine lv_iconst (v := nI 0) hx hb dL_cut_1 (by decide) ?_
  refine lv_aload_n hx hb dL_cut_2 rfl (lv_at hl 0 rfl) ?_
  refine lv_iload_n hx hb dL_cut_3 rfl (lv_at hl 1 rfl) ?_
  refine z_callx (vx_runV (As := [.int p0]) (rest := [.int (nI 0), .ref ox]) ⟨hx, hb, hml, hown, hts⟩ hM (cwV 1 hts gL_cut_X4_cut rfl rfl rfl (by decide +kernel) ⟨Nat.le_of_ble_eq_true rfl, Nat.le_of_ble_eq_true rfl⟩) (z_ptV (ci := 4) (k := 0) hX hP hT rfl z_g0) rfl rfl hl.1 rfl (lv_room (Nat.le_of_ble_eq_true rfl)) dL_cut_4 ⟨Nat.le_of_ble_eq_true rfl, Nat.le_of_ble_eq_true rfl⟩) hS (fun _ _ h9 => Or.inl h9) (fun _ h9 => Or.inl h9) (fun ce q H locs hP hz9 hk9 hS hce hcv hcl => ?_)
  have hO : va_P (z_DD G) vwCl (z_wO G ox o) H := z_keep1 hO (hk9 _ (z_lt1 hO) (fun ⟨k, hk, e9⟩ => hox k hk e9.symm))
  refine vx_catch (name := "java/lang/IllegalStateException") (E := "java/lang/IllegalStateException") hown [⟨0, 9, 12, 20⟩] ⟨0, 9, 15, 15⟩ [] (hTab.trans rfl) (fun z h9 => by
    simp only [List.mem_cons, List.not_mem_nil, or_false] at h9
    rcases h9 with rfl
    · exact Or.inr ⟨by decide, "java/lang/IndexOutOfBoundsException", hts (.classLink RL 20 "java/lang/IndexOutOfBoundsException") (by decide +kernel), hT.2.2.2 "java/lang/IllegalStateException" (by decide) "java/lang/IndexOutOfBoundsException" (by decide) (by decide)⟩) rfl (by decide) (hts (.classLink RL 15 "java/lang/IllegalStateException") (by decide +kernel)) (va_Nw.use rfl (hT.2.2.1.1 "java/lang/IllegalStateException" (by decide))) hce hcv hcl ?_
  refine lv_astore_n (lv' := [(3, .ref q), (0, .ref (ad 0)), (1, .int p0), (2, .ref ox)]) hx hb dL_cut_15 rfl hl (by decide) rfl (fun ls hl => ?_)
  refine lv_iconst (v := 2) hx hb dL_cut_16 (by decide) ?_
  exact z_iret hx hb hr hlocks dL_cut_17 (fun t ht hW => ⟨rfl, by rw [ht]; exact hP, by rw [ht]; exact hO, hS.F ht⟩) hS.2.2 rfl

set_option maxHeartbeats 4000000 in
set_option maxRecDepth 100000 in
theorem w_L_told (l : Launch) (G : z_GT) (ad : Nat → Nat) (ox : Nat) (σ σ' : Nat → Nat → Int32) (κ κ' : Nat → Nat → Nat) (o : Int64) (v : Int32) (p0 : Int32) (p1 : Int32) (hinj : ∀ i j, i < 36 → j < 36 → ad i = ad j → i = j) (hox : ∀ k, k < 36 → ad k ≠ ox) (hM : Met l yX4_told wsX4_told ({ frames := 3, cells := 0, slots := 0, locals := 69 } : Room) (z_Pr G [.ref (ad 0), .int p0, .int p1] (z_wC G ad σ κ)) (z_Qm G (some (.int v)) (z_wC G ad σ' κ') (z_A 36 ad)) 0 0 (z_A 36 ad)) : Met l yL_told wsL_told ({ frames := 8, cells := 1, slots := 6, locals := 126 } : Room) (z_Pl G ad ox σ κ o [.ref (ad 0), .int p0, .int p1, .ref ox]) (z_Ql G ad ox σ' κ' v.toInt64 0) 1 6 (z_Al ad ox) := by
  refine va_MetW (cc := cL_told) (maxL := 5) (ret := (some .int)) (by decide) rfl ?_
  intro p e s m args below meth c s₁ B hml hw0
  obtain ⟨rfl, hX, hP, hO, hT⟩ := hw0
  have hK := hX.1
  have hx := B.exec
  have hb := B.bytes
  have hr := B.returns
  have hts := atoms_spec (ws := wsL_told) B.pre
  have hown : s.vm.findClass RL = some m.cls := findClass_of_methodNamed B.named
  have hlocks := B.notSynchronized
  have hS : va_S (z_Al ad ox) s.heap s.heap [] := va_S.rf
  have hl := lv_entry ([.ref (ad 0), .int p0, .int p1, .ref ox]) (n := 5) (Nat.le_of_ble_eq_true rfl)
  rw [lg_entry_eq]
  generalize (lg_sl ([.ref (ad 0), .int p0, .int p1, .ref ox]) ++ List.replicate (5 - (lg_sl ([.ref (ad 0), .int p0, .int p1, .ref ox])).length) Slot.unset).toArray = ls at hl ⊢
  have hl : lv_has ls 5 [(0, .ref (ad 0)), (1, .int p0), (2, .int p1), (3, .ref ox)] := hl
  refine lv_aload_n hx hb dL_told_0 rfl (lv_at hl 3 rfl) ?_
  refine lv_iconst (v := nI 0) hx hb dL_told_1 (by decide) ?_
  refine lv_aload_n hx hb dL_told_2 rfl (lv_at hl 0 rfl) ?_
  refine lv_iload_n hx hb dL_told_3 rfl (lv_at hl 1 rfl) ?_
  refine lv_iload_n hx hb dL_told_4 rfl (lv_at hl 2 rfl) ?_
  refine z_callm (va_runV (As := [.int p0, .int p1]) (rest := [.int (nI 0), .ref ox]) ⟨hx, hb, hml, hown, hts⟩ hM (cwV 2 hts gL_told_X4_told rfl rfl rfl (by decide +kernel) ⟨Nat.le_of_ble_eq_true rfl, Nat.le_of_ble_eq_true rfl⟩) (z_prV (ci := 4) (k := 0) hX hP rfl z_g0) rfl rfl hl.1 rfl (lv_room (Nat.le_of_ble_eq_true rfl)) dL_told_5 ⟨Nat.le_of_ble_eq_true rfl, Nat.le_of_ble_eq_true rfl⟩) hS (fun _ _ h9 => Or.inl h9) (fun _ h9 => Or.inl h9) (fun H locs hP hz9 hk9 hS => ?_)
  have hO : va_P (z_DD G) vwCl (z_wO G ox o) H := z_keep1 hO (hk9 _ (z_lt1 hO) (fun ⟨k, hk, e9⟩ => hox k hk e9.symm))
  refine W.eq (g2 := F0 m 8 ls [.int v, .int (nI 0), .ref ox]) rfl ?_
  refine lv_i2l hx hb dL_told_8 rfl ?_
  refine va_last (i := nI 0) (f := fun _ => o) hx hb hK (hP.app hO) (z_apD hinj (fun k hk => Or.inl ⟨k, hk, rfl⟩) (Or.inr rfl) hox) hS 36 4 z_apR rfl (vp_in_nI (by decide) (by decide)) dL_told_9 (fun H locs hP hD hS => ?_)
  rw [z_apS] at hP
  obtain ⟨hP, hO⟩ := z_apP hP
  have hO : va_P (z_DD G) vwCl (z_wO G ox v.toInt64) H := z_atO hO (by simp [vp_updL, nI_clamp])
  refine lv_goto (tgt := 17) hx hb dL_told_10 (by decide) ?_
  refine lv_iconst (v := 0) hx hb dL_told_17 (by decide) ?_
  refine W.widen (k := 1) (n := 6) (by omega) (by omega) ?_
  exact z_iret hx hb hr hlocks dL_told_18 (fun t ht hW => ⟨rfl, by rw [ht]; exact hP, by rw [ht]; exact hO, hS.F ht⟩) hS.2.2 rfl

set_option maxHeartbeats 4000000 in
set_option maxRecDepth 100000 in
theorem v_L_told_1 (l : Launch) (G : z_GT) (ad : Nat → Nat) (ox : Nat) (σ σ' : Nat → Nat → Int32) (κ κ' : Nat → Nat → Nat) (o : Int64) (p0 : Int32) (p1 : Int32) (hinj : ∀ i j, i < 36 → j < 36 → ad i = ad j → i = j) (hox : ∀ k, k < 36 → ad k ≠ ox) (hM : vx_Met l yX4_told wsX4_told ({ frames := 7, cells := 1, slots := 6, locals := 103 } : Room) (z_Pt G [.ref (ad 0), .int p0, .int p1] (z_wC G ad σ κ) (z_A 36 ad)) z_No (z_Xq G "java/lang/IndexOutOfBoundsException" (z_wC G ad σ' κ') (z_A 36 ad)) 1 6 (z_A 36 ad)) : Met l yL_told wsL_told ({ frames := 8, cells := 1, slots := 6, locals := 126 } : Room) (z_Pl G ad ox σ κ o [.ref (ad 0), .int p0, .int p1, .ref ox]) (z_Ql G ad ox σ' κ' o 1) 1 6 (z_Al ad ox) := by
  refine va_MetW (cc := cL_told) (maxL := 5) (ret := (some .int)) (by decide) rfl ?_
  intro p e s m args below meth c s₁ B hml hw0
  obtain ⟨rfl, hX, hP, hO, hT⟩ := hw0
  have hK := hX.1
  have hx := B.exec
  have hb := B.bytes
  have hr := B.returns
  have hts := atoms_spec (ws := wsL_told) B.pre
  have hown : s.vm.findClass RL = some m.cls := findClass_of_methodNamed B.named
  have hlocks := B.notSynchronized
  have hS : va_S (z_Al ad ox) s.heap s.heap [] := va_S.rf
  have hl := lv_entry ([.ref (ad 0), .int p0, .int p1, .ref ox]) (n := 5) (Nat.le_of_ble_eq_true rfl)
  rw [lg_entry_eq]
  generalize (lg_sl ([.ref (ad 0), .int p0, .int p1, .ref ox]) ++ List.replicate (5 - (lg_sl ([.ref (ad 0), .int p0, .int p1, .ref ox])).length) Slot.unset).toArray = ls at hl ⊢
  have hl : lv_has ls 5 [(0, .ref (ad 0)), (1, .int p0), (2, .int p1), (3, .ref ox)] := hl
  have hTab : c.exceptionTable.toList = tableOf [(0, 10, 13, 20)] := vx_table (x := yL_told) B (hts (.codeWith yL_told cL_told 5 (some .int) [(0, 10, 13, 20)]) List.mem_cons_self)
  refine lv_aload_n hx hb dL_told_0 rfl (lv_at hl 3 rfl) ?_
  refine lv_iconst (v := nI 0) hx hb dL_told_1 (by decide) ?_
  refine lv_aload_n hx hb dL_told_2 rfl (lv_at hl 0 rfl) ?_
  refine lv_iload_n hx hb dL_told_3 rfl (lv_at hl 1 rfl) ?_
  refine lv_iload_n hx hb dL_told_4 rfl (lv_at hl 2 rfl) ?_
  refine z_callx (vx_runV (As := [.int p0, .int p1]) (rest := [.int (nI 0), .ref ox]) ⟨hx, hb, hml, hown, hts⟩ hM (cwV 2 hts gL_told_X4_told rfl rfl rfl (by decide +kernel) ⟨Nat.le_of_ble_eq_true rfl, Nat.le_of_ble_eq_true rfl⟩) (z_ptV (ci := 4) (k := 0) hX hP hT rfl z_g0) rfl rfl hl.1 rfl (lv_room (Nat.le_of_ble_eq_true rfl)) dL_told_5 ⟨Nat.le_of_ble_eq_true rfl, Nat.le_of_ble_eq_true rfl⟩) hS (fun _ _ h9 => Or.inl h9) (fun _ h9 => Or.inl h9) (fun ce q H locs hP hz9 hk9 hS hce hcv hcl => ?_)
  have hO : va_P (z_DD G) vwCl (z_wO G ox o) H := z_keep1 hO (hk9 _ (z_lt1 hO) (fun ⟨k, hk, e9⟩ => hox k hk e9.symm))
  refine vx_catch (name := "java/lang/IndexOutOfBoundsException") (E := "java/lang/IndexOutOfBoundsException") hown [] ⟨0, 10, 13, 20⟩ [] (hTab.trans rfl) (fun z h9 => nomatch h9) rfl (by decide) (hts (.classLink RL 20 "java/lang/IndexOutOfBoundsException") (by decide +kernel)) (va_Nw.use rfl (hT.2.2.1.1 "java/lang/IndexOutOfBoundsException" (by decide))) hce hcv hcl ?_
  refine lv_astore (lv' := [(4, .ref q), (0, .ref (ad 0)), (1, .int p0), (2, .int p1), (3, .ref ox)]) hx hb dL_told_13 hl (by decide) rfl (fun ls hl => ?_)
  refine lv_iconst (v := 1) hx hb dL_told_15 (by decide) ?_
  exact z_iret hx hb hr hlocks dL_told_16 (fun t ht hW => ⟨rfl, by rw [ht]; exact hP, by rw [ht]; exact hO, hS.F ht⟩) hS.2.2 rfl

set_option maxHeartbeats 4000000 in
set_option maxRecDepth 100000 in
theorem w_L_about (l : Launch) (G : z_GT) (ad : Nat → Nat) (ox : Nat) (σ σ' : Nat → Nat → Int32) (κ κ' : Nat → Nat → Nat) (o : Int64) (v : Int32) (p0 : Int32) (p1 : Int32) (hinj : ∀ i j, i < 36 → j < 36 → ad i = ad j → i = j) (hox : ∀ k, k < 36 → ad k ≠ ox) (hM : Met l yX4_about wsX4_about ({ frames := 2, cells := 0, slots := 0, locals := 45 } : Room) (z_Pr G [.ref (ad 0), .int p0, .int p1] (z_wC G ad σ κ)) (z_Qm G (some (.int v)) (z_wC G ad σ' κ') (z_A 36 ad)) 0 0 (z_A 36 ad)) : Met l yL_about wsL_about ({ frames := 8, cells := 1, slots := 6, locals := 126 } : Room) (z_Pl G ad ox σ κ o [.ref (ad 0), .int p0, .int p1, .ref ox]) (z_Ql G ad ox σ' κ' v.toInt64 0) 1 6 (z_Al ad ox) := by
  refine va_MetW (cc := cL_about) (maxL := 5) (ret := (some .int)) (by decide) rfl ?_
  intro p e s m args below meth c s₁ B hml hw0
  obtain ⟨rfl, hX, hP, hO, hT⟩ := hw0
  have hK := hX.1
  have hx := B.exec
  have hb := B.bytes
  have hr := B.returns
  have hts := atoms_spec (ws := wsL_about) B.pre
  have hown : s.vm.findClass RL = some m.cls := findClass_of_methodNamed B.named
  have hlocks := B.notSynchronized
  have hS : va_S (z_Al ad ox) s.heap s.heap [] := va_S.rf
  have hl := lv_entry ([.ref (ad 0), .int p0, .int p1, .ref ox]) (n := 5) (Nat.le_of_ble_eq_true rfl)
  rw [lg_entry_eq]
  generalize (lg_sl ([.ref (ad 0), .int p0, .int p1, .ref ox]) ++ List.replicate (5 - (lg_sl ([.ref (ad 0), .int p0, .int p1, .ref ox])).length) Slot.unset).toArray = ls at hl ⊢
  have hl : lv_has ls 5 [(0, .ref (ad 0)), (1, .int p0), (2, .int p1), (3, .ref ox)] := hl
  refine lv_aload_n hx hb dL_about_0 rfl (lv_at hl 3 rfl) ?_
  refine lv_iconst (v := nI 0) hx hb dL_about_1 (by decide) ?_
  refine lv_aload_n hx hb dL_about_2 rfl (lv_at hl 0 rfl) ?_
  refine lv_iload_n hx hb dL_about_3 rfl (lv_at hl 1 rfl) ?_
  refine lv_iload_n hx hb dL_about_4 rfl (lv_at hl 2 rfl) ?_
  refine z_callm (va_runV (As := [.int p0, .int p1]) (rest := [.int (nI 0), .ref ox]) ⟨hx, hb, hml, hown, hts⟩ hM (cwV 2 hts gL_about_X4_about rfl rfl rfl (by decide +kernel) ⟨Nat.le_of_ble_eq_true rfl, Nat.le_of_ble_eq_true rfl⟩) (z_prV (ci := 4) (k := 0) hX hP rfl z_g0) rfl rfl hl.1 rfl (lv_room (Nat.le_of_ble_eq_true rfl)) dL_about_5 ⟨Nat.le_of_ble_eq_true rfl, Nat.le_of_ble_eq_true rfl⟩) hS (fun _ _ h9 => Or.inl h9) (fun _ h9 => Or.inl h9) (fun H locs hP hz9 hk9 hS => ?_)
  have hO : va_P (z_DD G) vwCl (z_wO G ox o) H := z_keep1 hO (hk9 _ (z_lt1 hO) (fun ⟨k, hk, e9⟩ => hox k hk e9.symm))
  refine W.eq (g2 := F0 m 8 ls [.int v, .int (nI 0), .ref ox]) rfl ?_
  refine lv_i2l hx hb dL_about_8 rfl ?_
  refine va_last (i := nI 0) (f := fun _ => o) hx hb hK (hP.app hO) (z_apD hinj (fun k hk => Or.inl ⟨k, hk, rfl⟩) (Or.inr rfl) hox) hS 36 4 z_apR rfl (vp_in_nI (by decide) (by decide)) dL_about_9 (fun H locs hP hD hS => ?_)
  rw [z_apS] at hP
  obtain ⟨hP, hO⟩ := z_apP hP
  have hO : va_P (z_DD G) vwCl (z_wO G ox v.toInt64) H := z_atO hO (by simp [vp_updL, nI_clamp])
  refine lv_goto (tgt := 17) hx hb dL_about_10 (by decide) ?_
  refine lv_iconst (v := 0) hx hb dL_about_17 (by decide) ?_
  refine W.widen (k := 1) (n := 6) (by omega) (by omega) ?_
  exact z_iret hx hb hr hlocks dL_about_18 (fun t ht hW => ⟨rfl, by rw [ht]; exact hP, by rw [ht]; exact hO, hS.F ht⟩) hS.2.2 rfl

set_option maxHeartbeats 4000000 in
set_option maxRecDepth 100000 in
theorem v_L_about_1 (l : Launch) (G : z_GT) (ad : Nat → Nat) (ox : Nat) (σ σ' : Nat → Nat → Int32) (κ κ' : Nat → Nat → Nat) (o : Int64) (p0 : Int32) (p1 : Int32) (hinj : ∀ i j, i < 36 → j < 36 → ad i = ad j → i = j) (hox : ∀ k, k < 36 → ad k ≠ ox) (hM : vx_Met l yX4_about wsX4_about ({ frames := 7, cells := 1, slots := 6, locals := 103 } : Room) (z_Pt G [.ref (ad 0), .int p0, .int p1] (z_wC G ad σ κ) (z_A 36 ad)) z_No (z_Xq G "java/lang/IndexOutOfBoundsException" (z_wC G ad σ' κ') (z_A 36 ad)) 1 6 (z_A 36 ad)) : Met l yL_about wsL_about ({ frames := 8, cells := 1, slots := 6, locals := 126 } : Room) (z_Pl G ad ox σ κ o [.ref (ad 0), .int p0, .int p1, .ref ox]) (z_Ql G ad ox σ' κ' o 1) 1 6 (z_Al ad ox) := by
  refine va_MetW (cc := cL_about) (maxL := 5) (ret := (some .int)) (by decide) rfl ?_
  intro p e s m args below meth c s₁ B hml hw0
  obtain ⟨rfl, hX, hP, hO, hT⟩ := hw0
  have hK := hX.1
  have hx := B.exec
  have hb := B.bytes
  have hr := B.returns
  have hts := atoms_spec (ws := wsL_about) B.pre
  have hown : s.vm.findClass RL = some m.cls := findClass_of_methodNamed B.named
  have hlocks := B.notSynchronized
  have hS : va_S (z_Al ad ox) s.heap s.heap [] := va_S.rf
  have hl := lv_entry ([.ref (ad 0), .int p0, .int p1, .ref ox]) (n := 5) (Nat.le_of_ble_eq_true rfl)
  rw [lg_entry_eq]
  generalize (lg_sl ([.ref (ad 0), .int p0, .int p1, .ref ox]) ++ List.replicate (5 - (lg_sl ([.ref (ad 0), .int p0, .int p1, .ref ox])).length) Slot.unset).toArray = ls at hl ⊢
  have hl : lv_has ls 5 [(0, .ref (ad 0)), (1, .int p0), (2, .int p1), (3, .ref ox)] := hl
  have hTab : c.exceptionTable.toList = tableOf [(0, 10, 13, 20)] := vx_table (x := yL_about) B (hts (.codeWith yL_about cL_about 5 (some .int) [(0, 10, 13, 20)]) List.mem_cons_self)
  refine lv_aload_n hx hb dL_about_0 rfl (lv_at hl 3 rfl) ?_
  refine lv_iconst (v := nI 0) hx hb dL_about_1 (by decide) ?_
  refine lv_aload_n hx hb dL_about_2 rfl (lv_at hl 0 rfl) ?_
  refine lv_iload_n hx hb dL_about_3 rfl (lv_at hl 1 rfl) ?_
  refine lv_iload_n hx hb dL_about_4 rfl (lv_at hl 2 rfl) ?_
  refine z_callx (vx_runV (As := [.int p0, .int p1]) (rest := [.int (nI 0), .ref ox]) ⟨hx, hb, hml, hown, hts⟩ hM (cwV 2 hts gL_about_X4_about rfl rfl rfl (by decide +kernel) ⟨Nat.le_of_ble_eq_true rfl, Nat.le_of_ble_eq_true rfl⟩) (z_ptV (ci := 4) (k := 0) hX hP hT rfl z_g0) rfl rfl hl.1 rfl (lv_room (Nat.le_of_ble_eq_true rfl)) dL_about_5 ⟨Nat.le_of_ble_eq_true rfl, Nat.le_of_ble_eq_true rfl⟩) hS (fun _ _ h9 => Or.inl h9) (fun _ h9 => Or.inl h9) (fun ce q H locs hP hz9 hk9 hS hce hcv hcl => ?_)
  have hO : va_P (z_DD G) vwCl (z_wO G ox o) H := z_keep1 hO (hk9 _ (z_lt1 hO) (fun ⟨k, hk, e9⟩ => hox k hk e9.symm))
  refine vx_catch (name := "java/lang/IndexOutOfBoundsException") (E := "java/lang/IndexOutOfBoundsException") hown [] ⟨0, 10, 13, 20⟩ [] (hTab.trans rfl) (fun z h9 => nomatch h9) rfl (by decide) (hts (.classLink RL 20 "java/lang/IndexOutOfBoundsException") (by decide +kernel)) (va_Nw.use rfl (hT.2.2.1.1 "java/lang/IndexOutOfBoundsException" (by decide))) hce hcv hcl ?_
  refine lv_astore (lv' := [(4, .ref q), (0, .ref (ad 0)), (1, .int p0), (2, .int p1), (3, .ref ox)]) hx hb dL_about_13 hl (by decide) rfl (fun ls hl => ?_)
  refine lv_iconst (v := 1) hx hb dL_about_15 (by decide) ?_
  exact z_iret hx hb hr hlocks dL_about_16 (fun t ht hW => ⟨rfl, by rw [ht]; exact hP, by rw [ht]; exact hO, hS.F ht⟩) hS.2.2 rfl

set_option maxHeartbeats 4000000 in
set_option maxRecDepth 100000 in
theorem w_L_count (l : Launch) (G : z_GT) (ad : Nat → Nat) (ox : Nat) (σ σ' : Nat → Nat → Int32) (κ κ' : Nat → Nat → Nat) (o : Int64) (v : Int32) (p0 : Int32) (hinj : ∀ i j, i < 36 → j < 36 → ad i = ad j → i = j) (hox : ∀ k, k < 36 → ad k ≠ ox) (hM : Met l yX4_count wsX4_count ({ frames := 3, cells := 0, slots := 0, locals := 68 } : Room) (z_Pr G [.ref (ad 0), .int p0] (z_wC G ad σ κ)) (z_Qm G (some (.int v)) (z_wC G ad σ' κ') (z_A 36 ad)) 0 0 (z_A 36 ad)) : Met l yL_count wsL_count ({ frames := 7, cells := 1, slots := 6, locals := 103 } : Room) (z_Pl G ad ox σ κ o [.ref (ad 0), .int p0, .ref ox]) (z_Ql G ad ox σ' κ' v.toInt64 0) 1 6 (z_Al ad ox) := by
  refine va_MetW (cc := cL_count) (maxL := 4) (ret := (some .int)) (by decide) rfl ?_
  intro p e s m args below meth c s₁ B hml hw0
  obtain ⟨rfl, hX, hP, hO, hT⟩ := hw0
  have hK := hX.1
  have hx := B.exec
  have hb := B.bytes
  have hr := B.returns
  have hts := atoms_spec (ws := wsL_count) B.pre
  have hown : s.vm.findClass RL = some m.cls := findClass_of_methodNamed B.named
  have hlocks := B.notSynchronized
  have hS : va_S (z_Al ad ox) s.heap s.heap [] := va_S.rf
  have hl := lv_entry ([.ref (ad 0), .int p0, .ref ox]) (n := 4) (Nat.le_of_ble_eq_true rfl)
  rw [lg_entry_eq]
  generalize (lg_sl ([.ref (ad 0), .int p0, .ref ox]) ++ List.replicate (4 - (lg_sl ([.ref (ad 0), .int p0, .ref ox])).length) Slot.unset).toArray = ls at hl ⊢
  have hl : lv_has ls 4 [(0, .ref (ad 0)), (1, .int p0), (2, .ref ox)] := hl
  refine lv_aload_n hx hb dL_count_0 rfl (lv_at hl 2 rfl) ?_
  refine lv_iconst (v := nI 0) hx hb dL_count_1 (by decide) ?_
  refine lv_aload_n hx hb dL_count_2 rfl (lv_at hl 0 rfl) ?_
  refine lv_iload_n hx hb dL_count_3 rfl (lv_at hl 1 rfl) ?_
  refine z_callm (va_runV (As := [.int p0]) (rest := [.int (nI 0), .ref ox]) ⟨hx, hb, hml, hown, hts⟩ hM (cwV 1 hts gL_count_X4_count rfl rfl rfl (by decide +kernel) ⟨Nat.le_of_ble_eq_true rfl, Nat.le_of_ble_eq_true rfl⟩) (z_prV (ci := 4) (k := 0) hX hP rfl z_g0) rfl rfl hl.1 rfl (lv_room (Nat.le_of_ble_eq_true rfl)) dL_count_4 ⟨Nat.le_of_ble_eq_true rfl, Nat.le_of_ble_eq_true rfl⟩) hS (fun _ _ h9 => Or.inl h9) (fun _ h9 => Or.inl h9) (fun H locs hP hz9 hk9 hS => ?_)
  have hO : va_P (z_DD G) vwCl (z_wO G ox o) H := z_keep1 hO (hk9 _ (z_lt1 hO) (fun ⟨k, hk, e9⟩ => hox k hk e9.symm))
  refine W.eq (g2 := F0 m 7 ls [.int v, .int (nI 0), .ref ox]) rfl ?_
  refine lv_i2l hx hb dL_count_7 rfl ?_
  refine va_last (i := nI 0) (f := fun _ => o) hx hb hK (hP.app hO) (z_apD hinj (fun k hk => Or.inl ⟨k, hk, rfl⟩) (Or.inr rfl) hox) hS 36 4 z_apR rfl (vp_in_nI (by decide) (by decide)) dL_count_8 (fun H locs hP hD hS => ?_)
  rw [z_apS] at hP
  obtain ⟨hP, hO⟩ := z_apP hP
  have hO : va_P (z_DD G) vwCl (z_wO G ox v.toInt64) H := z_atO hO (by simp [vp_updL, nI_clamp])
  refine lv_goto (tgt := 15) hx hb dL_count_9 (by decide) ?_
  refine lv_iconst (v := 0) hx hb dL_count_15 (by decide) ?_
  refine W.widen (k := 1) (n := 6) (by omega) (by omega) ?_
  exact z_iret hx hb hr hlocks dL_count_16 (fun t ht hW => ⟨rfl, by rw [ht]; exact hP, by rw [ht]; exact hO, hS.F ht⟩) hS.2.2 rfl

set_option maxHeartbeats 4000000 in
set_option maxRecDepth 100000 in
theorem v_L_count_1 (l : Launch) (G : z_GT) (ad : Nat → Nat) (ox : Nat) (σ σ' : Nat → Nat → Int32) (κ κ' : Nat → Nat → Nat) (o : Int64) (p0 : Int32) (hinj : ∀ i j, i < 36 → j < 36 → ad i = ad j → i = j) (hox : ∀ k, k < 36 → ad k ≠ ox) (hM : vx_Met l yX4_count wsX4_count ({ frames := 6, cells := 1, slots := 6, locals := 82 } : Room) (z_Pt G [.ref (ad 0), .int p0] (z_wC G ad σ κ) (z_A 36 ad)) z_No (z_Xq G "java/lang/IndexOutOfBoundsException" (z_wC G ad σ' κ') (z_A 36 ad)) 1 6 (z_A 36 ad)) : Met l yL_count wsL_count ({ frames := 7, cells := 1, slots := 6, locals := 103 } : Room) (z_Pl G ad ox σ κ o [.ref (ad 0), .int p0, .ref ox]) (z_Ql G ad ox σ' κ' o 1) 1 6 (z_Al ad ox) := by
  refine va_MetW (cc := cL_count) (maxL := 4) (ret := (some .int)) (by decide) rfl ?_
  intro p e s m args below meth c s₁ B hml hw0
  obtain ⟨rfl, hX, hP, hO, hT⟩ := hw0
  have hK := hX.1
  have hx := B.exec
  have hb := B.bytes
  have hr := B.returns
  have hts := atoms_spec (ws := wsL_count) B.pre
  have hown : s.vm.findClass RL = some m.cls := findClass_of_methodNamed B.named
  have hlocks := B.notSynchronized
  have hS : va_S (z_Al ad ox) s.heap s.heap [] := va_S.rf
  have hl := lv_entry ([.ref (ad 0), .int p0, .ref ox]) (n := 4) (Nat.le_of_ble_eq_true rfl)
  rw [lg_entry_eq]
  generalize (lg_sl ([.ref (ad 0), .int p0, .ref ox]) ++ List.replicate (4 - (lg_sl ([.ref (ad 0), .int p0, .ref ox])).length) Slot.unset).toArray = ls at hl ⊢
  have hl : lv_has ls 4 [(0, .ref (ad 0)), (1, .int p0), (2, .ref ox)] := hl
  have hTab : c.exceptionTable.toList = tableOf [(0, 9, 12, 20)] := vx_table (x := yL_count) B (hts (.codeWith yL_count cL_count 4 (some .int) [(0, 9, 12, 20)]) List.mem_cons_self)
  refine lv_aload_n hx hb dL_count_0 rfl (lv_at hl 2 rfl) ?_
  refine lv_iconst (v := nI 0) hx hb dL_count_1 (by decide) ?_
  refine lv_aload_n hx hb dL_count_2 rfl (lv_at hl 0 rfl) ?_
  refine lv_iload_n hx hb dL_count_3 rfl (lv_at hl 1 rfl) ?_
  refine z_callx (vx_runV (As := [.int p0]) (rest := [.int (nI 0), .ref ox]) ⟨hx, hb, hml, hown, hts⟩ hM (cwV 1 hts gL_count_X4_count rfl rfl rfl (by decide +kernel) ⟨Nat.le_of_ble_eq_true rfl, Nat.le_of_ble_eq_true rfl⟩) (z_ptV (ci := 4) (k := 0) hX hP hT rfl z_g0) rfl rfl hl.1 rfl (lv_room (Nat.le_of_ble_eq_true rfl)) dL_count_4 ⟨Nat.le_of_ble_eq_true rfl, Nat.le_of_ble_eq_true rfl⟩) hS (fun _ _ h9 => Or.inl h9) (fun _ h9 => Or.inl h9) (fun ce q H locs hP hz9 hk9 hS hce hcv hcl => ?_)
  have hO : va_P (z_DD G) vwCl (z_wO G ox o) H := z_keep1 hO (hk9 _ (z_lt1 hO) (fun ⟨k, hk, e9⟩ => hox k hk e9.symm))
  refine vx_catch (name := "java/lang/IndexOutOfBoundsException") (E := "java/lang/IndexOutOfBoundsException") hown [] ⟨0, 9, 12, 20⟩ [] (hTab.trans rfl) (fun z h9 => nomatch h9) rfl (by decide) (hts (.classLink RL 20 "java/lang/IndexOutOfBoundsException") (by decide +kernel)) (va_Nw.use rfl (hT.2.2.1.1 "java/lang/IndexOutOfBoundsException" (by decide))) hce hcv hcl ?_
  refine lv_astore_n (lv' := [(3, .ref q), (0, .ref (ad 0)), (1, .int p0), (2, .ref ox)]) hx hb dL_count_12 rfl hl (by decide) rfl (fun ls hl => ?_)
  refine lv_iconst (v := 1) hx hb dL_count_13 (by decide) ?_
  exact z_iret hx hb hr hlocks dL_count_14 (fun t ht hW => ⟨rfl, by rw [ht]; exact hP, by rw [ht]; exact hO, hS.F ht⟩) hS.2.2 rfl

set_option maxHeartbeats 4000000 in
set_option maxRecDepth 100000 in
theorem w_L_pass (l : Launch) (G : z_GT) (ad : Nat → Nat) (ox : Nat) (σ σ' : Nat → Nat → Int32) (κ κ' : Nat → Nat → Nat) (o : Int64) (v : Int32) (p0 : Int32) (hinj : ∀ i j, i < 36 → j < 36 → ad i = ad j → i = j) (hox : ∀ k, k < 36 → ad k ≠ ox) (hM : Met l yX4_pass wsX4_pass ({ frames := 5, cells := 0, slots := 0, locals := 118 } : Room) (z_Pr G [.ref (ad 0), .int p0] (z_wC G ad σ κ)) (z_Qm G (some (.int v)) (z_wC G ad σ' κ') (z_A 36 ad)) 0 0 (z_A 36 ad)) : Met l yL_pass wsL_pass ({ frames := 8, cells := 1, slots := 6, locals := 140 } : Room) (z_Pl G ad ox σ κ o [.ref (ad 0), .int p0, .ref ox]) (z_Ql G ad ox σ' κ' v.toInt64 0) 1 6 (z_Al ad ox) := by
  refine va_MetW (cc := cL_pass) (maxL := 4) (ret := (some .int)) (by decide) rfl ?_
  intro p e s m args below meth c s₁ B hml hw0
  obtain ⟨rfl, hX, hP, hO, hT⟩ := hw0
  have hK := hX.1
  have hx := B.exec
  have hb := B.bytes
  have hr := B.returns
  have hts := atoms_spec (ws := wsL_pass) B.pre
  have hown : s.vm.findClass RL = some m.cls := findClass_of_methodNamed B.named
  have hlocks := B.notSynchronized
  have hS : va_S (z_Al ad ox) s.heap s.heap [] := va_S.rf
  have hl := lv_entry ([.ref (ad 0), .int p0, .ref ox]) (n := 4) (Nat.le_of_ble_eq_true rfl)
  rw [lg_entry_eq]
  generalize (lg_sl ([.ref (ad 0), .int p0, .ref ox]) ++ List.replicate (4 - (lg_sl ([.ref (ad 0), .int p0, .ref ox])).length) Slot.unset).toArray = ls at hl ⊢
  have hl : lv_has ls 4 [(0, .ref (ad 0)), (1, .int p0), (2, .ref ox)] := hl
  refine lv_aload_n hx hb dL_pass_0 rfl (lv_at hl 2 rfl) ?_
  refine lv_iconst (v := nI 0) hx hb dL_pass_1 (by decide) ?_
  refine lv_aload_n hx hb dL_pass_2 rfl (lv_at hl 0 rfl) ?_
  refine lv_iload_n hx hb dL_pass_3 rfl (lv_at hl 1 rfl) ?_
  refine z_callm (va_runV (As := [.int p0]) (rest := [.int (nI 0), .ref ox]) ⟨hx, hb, hml, hown, hts⟩ hM (cwV 1 hts gL_pass_X4_pass rfl rfl rfl (by decide +kernel) ⟨Nat.le_of_ble_eq_true rfl, Nat.le_of_ble_eq_true rfl⟩) (z_prV (ci := 4) (k := 0) hX hP rfl z_g0) rfl rfl hl.1 rfl (lv_room (Nat.le_of_ble_eq_true rfl)) dL_pass_4 ⟨Nat.le_of_ble_eq_true rfl, Nat.le_of_ble_eq_true rfl⟩) hS (fun _ _ h9 => Or.inl h9) (fun _ h9 => Or.inl h9) (fun H locs hP hz9 hk9 hS => ?_)
  have hO : va_P (z_DD G) vwCl (z_wO G ox o) H := z_keep1 hO (hk9 _ (z_lt1 hO) (fun ⟨k, hk, e9⟩ => hox k hk e9.symm))
  refine W.eq (g2 := F0 m 7 ls [.int v, .int (nI 0), .ref ox]) rfl ?_
  refine lv_i2l hx hb dL_pass_7 rfl ?_
  refine va_last (i := nI 0) (f := fun _ => o) hx hb hK (hP.app hO) (z_apD hinj (fun k hk => Or.inl ⟨k, hk, rfl⟩) (Or.inr rfl) hox) hS 36 4 z_apR rfl (vp_in_nI (by decide) (by decide)) dL_pass_8 (fun H locs hP hD hS => ?_)
  rw [z_apS] at hP
  obtain ⟨hP, hO⟩ := z_apP hP
  have hO : va_P (z_DD G) vwCl (z_wO G ox v.toInt64) H := z_atO hO (by simp [vp_updL, nI_clamp])
  refine lv_goto (tgt := 15) hx hb dL_pass_9 (by decide) ?_
  refine lv_iconst (v := 0) hx hb dL_pass_15 (by decide) ?_
  refine W.widen (k := 1) (n := 6) (by omega) (by omega) ?_
  exact z_iret hx hb hr hlocks dL_pass_16 (fun t ht hW => ⟨rfl, by rw [ht]; exact hP, by rw [ht]; exact hO, hS.F ht⟩) hS.2.2 rfl

set_option maxHeartbeats 4000000 in
set_option maxRecDepth 100000 in
theorem v_L_pass_1 (l : Launch) (G : z_GT) (ad : Nat → Nat) (ox : Nat) (σ σ' : Nat → Nat → Int32) (κ κ' : Nat → Nat → Nat) (o : Int64) (p0 : Int32) (hinj : ∀ i j, i < 36 → j < 36 → ad i = ad j → i = j) (hox : ∀ k, k < 36 → ad k ≠ ox) (hM : vx_Met l yX4_pass wsX4_pass ({ frames := 7, cells := 1, slots := 6, locals := 102 } : Room) (z_Pt G [.ref (ad 0), .int p0] (z_wC G ad σ κ) (z_A 36 ad)) z_No (z_Xq G "java/lang/IllegalArgumentException" (z_wC G ad σ' κ') (z_A 36 ad)) 1 6 (z_A 36 ad)) : Met l yL_pass wsL_pass ({ frames := 8, cells := 1, slots := 6, locals := 140 } : Room) (z_Pl G ad ox σ κ o [.ref (ad 0), .int p0, .ref ox]) (z_Ql G ad ox σ' κ' o 1) 1 6 (z_Al ad ox) := by
  refine va_MetW (cc := cL_pass) (maxL := 4) (ret := (some .int)) (by decide) rfl ?_
  intro p e s m args below meth c s₁ B hml hw0
  obtain ⟨rfl, hX, hP, hO, hT⟩ := hw0
  have hK := hX.1
  have hx := B.exec
  have hb := B.bytes
  have hr := B.returns
  have hts := atoms_spec (ws := wsL_pass) B.pre
  have hown : s.vm.findClass RL = some m.cls := findClass_of_methodNamed B.named
  have hlocks := B.notSynchronized
  have hS : va_S (z_Al ad ox) s.heap s.heap [] := va_S.rf
  have hl := lv_entry ([.ref (ad 0), .int p0, .ref ox]) (n := 4) (Nat.le_of_ble_eq_true rfl)
  rw [lg_entry_eq]
  generalize (lg_sl ([.ref (ad 0), .int p0, .ref ox]) ++ List.replicate (4 - (lg_sl ([.ref (ad 0), .int p0, .ref ox])).length) Slot.unset).toArray = ls at hl ⊢
  have hl : lv_has ls 4 [(0, .ref (ad 0)), (1, .int p0), (2, .ref ox)] := hl
  have hTab : c.exceptionTable.toList = tableOf [(0, 9, 12, 13)] := vx_table (x := yL_pass) B (hts (.codeWith yL_pass cL_pass 4 (some .int) [(0, 9, 12, 13)]) List.mem_cons_self)
  refine lv_aload_n hx hb dL_pass_0 rfl (lv_at hl 2 rfl) ?_
  refine lv_iconst (v := nI 0) hx hb dL_pass_1 (by decide) ?_
  refine lv_aload_n hx hb dL_pass_2 rfl (lv_at hl 0 rfl) ?_
  refine lv_iload_n hx hb dL_pass_3 rfl (lv_at hl 1 rfl) ?_
  refine z_callx (vx_runV (As := [.int p0]) (rest := [.int (nI 0), .ref ox]) ⟨hx, hb, hml, hown, hts⟩ hM (cwV 1 hts gL_pass_X4_pass rfl rfl rfl (by decide +kernel) ⟨Nat.le_of_ble_eq_true rfl, Nat.le_of_ble_eq_true rfl⟩) (z_ptV (ci := 4) (k := 0) hX hP hT rfl z_g0) rfl rfl hl.1 rfl (lv_room (Nat.le_of_ble_eq_true rfl)) dL_pass_4 ⟨Nat.le_of_ble_eq_true rfl, Nat.le_of_ble_eq_true rfl⟩) hS (fun _ _ h9 => Or.inl h9) (fun _ h9 => Or.inl h9) (fun ce q H locs hP hz9 hk9 hS hce hcv hcl => ?_)
  have hO : va_P (z_DD G) vwCl (z_wO G ox o) H := z_keep1 hO (hk9 _ (z_lt1 hO) (fun ⟨k, hk, e9⟩ => hox k hk e9.symm))
  refine vx_catch (name := "java/lang/IllegalArgumentException") (E := "java/lang/IllegalArgumentException") hown [] ⟨0, 9, 12, 13⟩ [] (hTab.trans rfl) (fun z h9 => nomatch h9) rfl (by decide) (hts (.classLink RL 13 "java/lang/IllegalArgumentException") (by decide +kernel)) (va_Nw.use rfl (hT.2.2.1.1 "java/lang/IllegalArgumentException" (by decide))) hce hcv hcl ?_
  refine lv_astore_n (lv' := [(3, .ref q), (0, .ref (ad 0)), (1, .int p0), (2, .ref ox)]) hx hb dL_pass_12 rfl hl (by decide) rfl (fun ls hl => ?_)
  refine lv_iconst (v := 1) hx hb dL_pass_13 (by decide) ?_
  exact z_iret hx hb hr hlocks dL_pass_14 (fun t ht hW => ⟨rfl, by rw [ht]; exact hP, by rw [ht]; exact hO, hS.F ht⟩) hS.2.2 rfl

set_option maxHeartbeats 4000000 in
set_option maxRecDepth 100000 in
theorem w_L_joy (l : Launch) (G : z_GT) (ad : Nat → Nat) (ox : Nat) (σ σ' : Nat → Nat → Int32) (κ κ' : Nat → Nat → Nat) (o : Int64) (v : Int32) (p0 : Int32) (p1 : Int32) (hinj : ∀ i j, i < 36 → j < 36 → ad i = ad j → i = j) (hox : ∀ k, k < 36 → ad k ≠ ox) (hM : Met l yX4_joy wsX4_joy ({ frames := 3, cells := 0, slots := 0, locals := 69 } : Room) (z_Pr G [.ref (ad 0), .int p0, .int p1] (z_wC G ad σ κ)) (z_Qm G (some (.int v)) (z_wC G ad σ' κ') (z_A 36 ad)) 0 0 (z_A 36 ad)) : Met l yL_joy wsL_joy ({ frames := 8, cells := 1, slots := 6, locals := 125 } : Room) (z_Pl G ad ox σ κ o [.ref (ad 0), .int p0, .int p1, .ref ox]) (z_Ql G ad ox σ' κ' v.toInt64 0) 1 6 (z_Al ad ox) := by
  refine va_MetW (cc := cL_joy) (maxL := 5) (ret := (some .int)) (by decide) rfl ?_
  intro p e s m args below meth c s₁ B hml hw0
  obtain ⟨rfl, hX, hP, hO, hT⟩ := hw0
  have hK := hX.1
  have hx := B.exec
  have hb := B.bytes
  have hr := B.returns
  have hts := atoms_spec (ws := wsL_joy) B.pre
  have hown : s.vm.findClass RL = some m.cls := findClass_of_methodNamed B.named
  have hlocks := B.notSynchronized
  have hS : va_S (z_Al ad ox) s.heap s.heap [] := va_S.rf
  have hl := lv_entry ([.ref (ad 0), .int p0, .int p1, .ref ox]) (n := 5) (Nat.le_of_ble_eq_true rfl)
  rw [lg_entry_eq]
  generalize (lg_sl ([.ref (ad 0), .int p0, .int p1, .ref ox]) ++ List.replicate (5 - (lg_sl ([.ref (ad 0), .int p0, .int p1, .ref ox])).length) Slot.unset).toArray = ls at hl ⊢
  have hl : lv_has ls 5 [(0, .ref (ad 0)), (1, .int p0), (2, .int p1), (3, .ref ox)] := hl
  refine lv_aload_n hx hb dL_joy_0 rfl (lv_at hl 3 rfl) ?_
  refine lv_iconst (v := nI 0) hx hb dL_joy_1 (by decide) ?_
  refine lv_aload_n hx hb dL_joy_2 rfl (lv_at hl 0 rfl) ?_
  refine lv_iload_n hx hb dL_joy_3 rfl (lv_at hl 1 rfl) ?_
  refine lv_iload_n hx hb dL_joy_4 rfl (lv_at hl 2 rfl) ?_
  refine z_callm (va_runV (As := [.int p0, .int p1]) (rest := [.int (nI 0), .ref ox]) ⟨hx, hb, hml, hown, hts⟩ hM (cwV 2 hts gL_joy_X4_joy rfl rfl rfl (by decide +kernel) ⟨Nat.le_of_ble_eq_true rfl, Nat.le_of_ble_eq_true rfl⟩) (z_prV (ci := 4) (k := 0) hX hP rfl z_g0) rfl rfl hl.1 rfl (lv_room (Nat.le_of_ble_eq_true rfl)) dL_joy_5 ⟨Nat.le_of_ble_eq_true rfl, Nat.le_of_ble_eq_true rfl⟩) hS (fun _ _ h9 => Or.inl h9) (fun _ h9 => Or.inl h9) (fun H locs hP hz9 hk9 hS => ?_)
  have hO : va_P (z_DD G) vwCl (z_wO G ox o) H := z_keep1 hO (hk9 _ (z_lt1 hO) (fun ⟨k, hk, e9⟩ => hox k hk e9.symm))
  refine W.eq (g2 := F0 m 8 ls [.int v, .int (nI 0), .ref ox]) rfl ?_
  refine lv_i2l hx hb dL_joy_8 rfl ?_
  refine va_last (i := nI 0) (f := fun _ => o) hx hb hK (hP.app hO) (z_apD hinj (fun k hk => Or.inl ⟨k, hk, rfl⟩) (Or.inr rfl) hox) hS 36 4 z_apR rfl (vp_in_nI (by decide) (by decide)) dL_joy_9 (fun H locs hP hD hS => ?_)
  rw [z_apS] at hP
  obtain ⟨hP, hO⟩ := z_apP hP
  have hO : va_P (z_DD G) vwCl (z_wO G ox v.toInt64) H := z_atO hO (by simp [vp_updL, nI_clamp])
  refine lv_goto (tgt := 21) hx hb dL_joy_10 (by decide) ?_
  refine lv_iconst (v := 0) hx hb dL_joy_21 (by decide) ?_
  refine W.widen (k := 1) (n := 6) (by omega) (by omega) ?_
  exact z_iret hx hb hr hlocks dL_joy_22 (fun t ht hW => ⟨rfl, by rw [ht]; exact hP, by rw [ht]; exact hO, hS.F ht⟩) hS.2.2 rfl

set_option maxHeartbeats 4000000 in
set_option maxRecDepth 100000 in
theorem v_L_joy_1 (l : Launch) (G : z_GT) (ad : Nat → Nat) (ox : Nat) (σ σ' : Nat → Nat → Int32) (κ κ' : Nat → Nat → Nat) (o : Int64) (p0 : Int32) (p1 : Int32) (hinj : ∀ i j, i < 36 → j < 36 → ad i = ad j → i = j) (hox : ∀ k, k < 36 → ad k ≠ ox) (hM : vx_Met l yX4_joy wsX4_joy ({ frames := 7, cells := 1, slots := 6, locals := 103 } : Room) (z_Pt G [.ref (ad 0), .int p0, .int p1] (z_wC G ad σ κ) (z_A 36 ad)) z_No (z_Xq G "java/lang/IndexOutOfBoundsException" (z_wC G ad σ' κ') (z_A 36 ad)) 1 6 (z_A 36 ad)) : Met l yL_joy wsL_joy ({ frames := 8, cells := 1, slots := 6, locals := 125 } : Room) (z_Pl G ad ox σ κ o [.ref (ad 0), .int p0, .int p1, .ref ox]) (z_Ql G ad ox σ' κ' o 1) 1 6 (z_Al ad ox) := by
  refine va_MetW (cc := cL_joy) (maxL := 5) (ret := (some .int)) (by decide) rfl ?_
  intro p e s m args below meth c s₁ B hml hw0
  obtain ⟨rfl, hX, hP, hO, hT⟩ := hw0
  have hK := hX.1
  have hx := B.exec
  have hb := B.bytes
  have hr := B.returns
  have hts := atoms_spec (ws := wsL_joy) B.pre
  have hown : s.vm.findClass RL = some m.cls := findClass_of_methodNamed B.named
  have hlocks := B.notSynchronized
  have hS : va_S (z_Al ad ox) s.heap s.heap [] := va_S.rf
  have hl := lv_entry ([.ref (ad 0), .int p0, .int p1, .ref ox]) (n := 5) (Nat.le_of_ble_eq_true rfl)
  rw [lg_entry_eq]
  generalize (lg_sl ([.ref (ad 0), .int p0, .int p1, .ref ox]) ++ List.replicate (5 - (lg_sl ([.ref (ad 0), .int p0, .int p1, .ref ox])).length) Slot.unset).toArray = ls at hl ⊢
  have hl : lv_has ls 5 [(0, .ref (ad 0)), (1, .int p0), (2, .int p1), (3, .ref ox)] := hl
  have hTab : c.exceptionTable.toList = tableOf [(0, 10, 13, 20), (0, 10, 17, 13)] := vx_table (x := yL_joy) B (hts (.codeWith yL_joy cL_joy 5 (some .int) [(0, 10, 13, 20), (0, 10, 17, 13)]) List.mem_cons_self)
  refine lv_aload_n hx hb dL_joy_0 rfl (lv_at hl 3 rfl) ?_
  refine lv_iconst (v := nI 0) hx hb dL_joy_1 (by decide) ?_
  refine lv_aload_n hx hb dL_joy_2 rfl (lv_at hl 0 rfl) ?_
  refine lv_iload_n hx hb dL_joy_3 rfl (lv_at hl 1 rfl) ?_
  refine lv_iload_n hx hb dL_joy_4 rfl (lv_at hl 2 rfl) ?_
  refine z_callx (vx_runV (As := [.int p0, .int p1]) (rest := [.int (nI 0), .ref ox]) ⟨hx, hb, hml, hown, hts⟩ hM (cwV 2 hts gL_joy_X4_joy rfl rfl rfl (by decide +kernel) ⟨Nat.le_of_ble_eq_true rfl, Nat.le_of_ble_eq_true rfl⟩) (z_ptV (ci := 4) (k := 0) hX hP hT rfl z_g0) rfl rfl hl.1 rfl (lv_room (Nat.le_of_ble_eq_true rfl)) dL_joy_5 ⟨Nat.le_of_ble_eq_true rfl, Nat.le_of_ble_eq_true rfl⟩) hS (fun _ _ h9 => Or.inl h9) (fun _ h9 => Or.inl h9) (fun ce q H locs hP hz9 hk9 hS hce hcv hcl => ?_)
  have hO : va_P (z_DD G) vwCl (z_wO G ox o) H := z_keep1 hO (hk9 _ (z_lt1 hO) (fun ⟨k, hk, e9⟩ => hox k hk e9.symm))
  refine vx_catch (name := "java/lang/IndexOutOfBoundsException") (E := "java/lang/IndexOutOfBoundsException") hown [] ⟨0, 10, 13, 20⟩ [⟨0, 10, 17, 13⟩] (hTab.trans rfl) (fun z h9 => nomatch h9) rfl (by decide) (hts (.classLink RL 20 "java/lang/IndexOutOfBoundsException") (by decide +kernel)) (va_Nw.use rfl (hT.2.2.1.1 "java/lang/IndexOutOfBoundsException" (by decide))) hce hcv hcl ?_
  refine lv_astore (lv' := [(4, .ref q), (0, .ref (ad 0)), (1, .int p0), (2, .int p1), (3, .ref ox)]) hx hb dL_joy_13 hl (by decide) rfl (fun ls hl => ?_)
  refine lv_iconst (v := 1) hx hb dL_joy_15 (by decide) ?_
  exact z_iret hx hb hr hlocks dL_joy_16 (fun t ht hW => ⟨rfl, by rw [ht]; exact hP, by rw [ht]; exact hO, hS.F ht⟩) hS.2.2 rfl

set_option maxHeartbeats 4000000 in
set_option maxRecDepth 100000 in
theorem v_L_joy_2 (l : Launch) (G : z_GT) (ad : Nat → Nat) (ox : Nat) (σ σ' : Nat → Nat → Int32) (κ κ' : Nat → Nat → Nat) (o : Int64) (p0 : Int32) (p1 : Int32) (hinj : ∀ i j, i < 36 → j < 36 → ad i = ad j → i = j) (hox : ∀ k, k < 36 → ad k ≠ ox) (hM : vx_Met l yX4_joy wsX4_joy ({ frames := 7, cells := 1, slots := 6, locals := 103 } : Room) (z_Pt G [.ref (ad 0), .int p0, .int p1] (z_wC G ad σ κ) (z_A 36 ad)) z_No (z_Xq G "java/lang/IllegalArgumentException" (z_wC G ad σ' κ') (z_A 36 ad)) 1 6 (z_A 36 ad)) : Met l yL_joy wsL_joy ({ frames := 8, cells := 1, slots := 6, locals := 125 } : Room) (z_Pl G ad ox σ κ o [.ref (ad 0), .int p0, .int p1, .ref ox]) (z_Ql G ad ox σ' κ' o 2) 1 6 (z_Al ad ox) := by
  refine va_MetW (cc := cL_joy) (maxL := 5) (ret := (some .int)) (by decide) rfl ?_
  intro p e s m args below meth c s₁ B hml hw0
  obtain ⟨rfl, hX, hP, hO, hT⟩ := hw0
  have hK := hX.1
  have hx := B.exec
  have hb := B.bytes
  have hr := B.returns
  have hts := atoms_spec (ws := wsL_joy) B.pre
  have hown : s.vm.findClass RL = some m.cls := findClass_of_methodNamed B.named
  have hlocks := B.notSynchronized
  have hS : va_S (z_Al ad ox) s.heap s.heap [] := va_S.rf
  have hl := lv_entry ([.ref (ad 0), .int p0, .int p1, .ref ox]) (n := 5) (Nat.le_of_ble_eq_true rfl)
  rw [lg_entry_eq]
  generalize (lg_sl ([.ref (ad 0), .int p0, .int p1, .ref ox]) ++ List.replicate (5 - (lg_sl ([.ref (ad 0), .int p0, .int p1, .ref ox])).length) Slot.unset).toArray = ls at hl ⊢
  have hl : lv_has ls 5 [(0, .ref (ad 0)), (1, .int p0), (2, .int p1), (3, .ref ox)] := hl
  have hTab : c.exceptionTable.toList = tableOf [(0, 10, 13, 20), (0, 10, 17, 13)] := vx_table (x := yL_joy) B (hts (.codeWith yL_joy cL_joy 5 (some .int) [(0, 10, 13, 20), (0, 10, 17, 13)]) List.mem_cons_self)
  refine lv_aload_n hx hb dL_joy_0 rfl (lv_at hl 3 rfl) ?_
  refine lv_iconst (v := nI 0) hx hb dL_joy_1 (by decide) ?_
  refine lv_aload_n hx hb dL_joy_2 rfl (lv_at hl 0 rfl) ?_
  refine lv_iload_n hx hb dL_joy_3 rfl (lv_at hl 1 rfl) ?_
  refine lv_iload_n hx hb dL_joy_4 rfl (lv_at hl 2 rfl) ?_
  refine z_callx (vx_runV (As := [.int p0, .int p1]) (rest := [.int (nI 0), .ref ox]) ⟨hx, hb, hml, hown, hts⟩ hM (cwV 2 hts gL_joy_X4_joy rfl rfl rfl (by decide +kernel) ⟨Nat.le_of_ble_eq_true rfl, Nat.le_of_ble_eq_true rfl⟩) (z_ptV (ci := 4) (k := 0) hX hP hT rfl z_g0) rfl rfl hl.1 rfl (lv_room (Nat.le_of_ble_eq_true rfl)) dL_joy_5 ⟨Nat.le_of_ble_eq_true rfl, Nat.le_of_ble_eq_true rfl⟩) hS (fun _ _ h9 => Or.inl h9) (fun _ h9 => Or.inl h9) (fun ce q H locs hP hz9 hk9 hS hce hcv hcl => ?_)
  have hO : va_P (z_DD G) vwCl (z_wO G ox o) H := z_keep1 hO (hk9 _ (z_lt1 hO) (fun ⟨k, hk, e9⟩ => hox k hk e9.symm))
  refine vx_catch (name := "java/lang/IllegalArgumentException") (E := "java/lang/IllegalArgumentException") hown [⟨0, 10, 13, 20⟩] ⟨0, 10, 17, 13⟩ [] (hTab.trans rfl) (fun z h9 => by
    simp only [List.mem_cons, List.not_mem_nil, or_false] at h9
    rcases h9 with rfl
    · exact Or.inr ⟨by decide, "java/lang/IndexOutOfBoundsException", hts (.classLink RL 20 "java/lang/IndexOutOfBoundsException") (by decide +kernel), hT.2.2.2 "java/lang/IllegalArgumentException" (by decide) "java/lang/IndexOutOfBoundsException" (by decide) (by decide)⟩) rfl (by decide) (hts (.classLink RL 13 "java/lang/IllegalArgumentException") (by decide +kernel)) (va_Nw.use rfl (hT.2.2.1.1 "java/lang/IllegalArgumentException" (by decide))) hce hcv hcl ?_
  refine lv_astore (lv' := [(4, .ref q), (0, .ref (ad 0)), (1, .int p0), (2, .int p1), (3, .ref ox)]) hx hb dL_joy_17 hl (by decide) rfl (fun ls hl => ?_)
  refine lv_iconst (v := 2) hx hb dL_joy_19 (by decide) ?_
  exact z_iret hx hb hr hlocks dL_joy_20 (fun t ht hW => ⟨rfl, by rw [ht]; exact hP, by rw [ht]; exact hO, hS.F ht⟩) hS.2.2 rfl

set_option maxHeartbeats 4000000 in
set_option maxRecDepth 100000 in
theorem w_L_best (l : Launch) (G : z_GT) (ad : Nat → Nat) (ox : Nat) (σ σ' : Nat → Nat → Int32) (κ κ' : Nat → Nat → Nat) (o : Int64) (v : Int32) (p0 : Int32) (hinj : ∀ i j, i < 36 → j < 36 → ad i = ad j → i = j) (hox : ∀ k, k < 36 → ad k ≠ ox) (hM : Met l yX4_best wsX4_best ({ frames := 3, cells := 0, slots := 0, locals := 69 } : Room) (z_Pr G [.ref (ad 0), .int p0] (z_wC G ad σ κ)) (z_Qm G (some (.int v)) (z_wC G ad σ' κ') (z_A 36 ad)) 0 0 (z_A 36 ad)) : Met l yL_best wsL_best ({ frames := 8, cells := 1, slots := 6, locals := 128 } : Room) (z_Pl G ad ox σ κ o [.ref (ad 0), .int p0, .ref ox]) (z_Ql G ad ox σ' κ' v.toInt64 0) 1 6 (z_Al ad ox) := by
  refine va_MetW (cc := cL_best) (maxL := 4) (ret := (some .int)) (by decide) rfl ?_
  intro p e s m args below meth c s₁ B hml hw0
  obtain ⟨rfl, hX, hP, hO, hT⟩ := hw0
  have hK := hX.1
  have hx := B.exec
  have hb := B.bytes
  have hr := B.returns
  have hts := atoms_spec (ws := wsL_best) B.pre
  have hown : s.vm.findClass RL = some m.cls := findClass_of_methodNamed B.named
  have hlocks := B.notSynchronized
  have hS : va_S (z_Al ad ox) s.heap s.heap [] := va_S.rf
  have hl := lv_entry ([.ref (ad 0), .int p0, .ref ox]) (n := 4) (Nat.le_of_ble_eq_true rfl)
  rw [lg_entry_eq]
  generalize (lg_sl ([.ref (ad 0), .int p0, .ref ox]) ++ List.replicate (4 - (lg_sl ([.ref (ad 0), .int p0, .ref ox])).length) Slot.unset).toArray = ls at hl ⊢
  have hl : lv_has ls 4 [(0, .ref (ad 0)), (1, .int p0), (2, .ref ox)] := hl
  refine lv_aload_n hx hb dL_best_0 rfl (lv_at hl 2 rfl) ?_
  refine lv_iconst (v := nI 0) hx hb dL_best_1 (by decide) ?_
  refine lv_aload_n hx hb dL_best_2 rfl (lv_at hl 0 rfl) ?_
  refine lv_iload_n hx hb dL_best_3 rfl (lv_at hl 1 rfl) ?_
  refine z_callm (va_runV (As := [.int p0]) (rest := [.int (nI 0), .ref ox]) ⟨hx, hb, hml, hown, hts⟩ hM (cwV 1 hts gL_best_X4_best rfl rfl rfl (by decide +kernel) ⟨Nat.le_of_ble_eq_true rfl, Nat.le_of_ble_eq_true rfl⟩) (z_prV (ci := 4) (k := 0) hX hP rfl z_g0) rfl rfl hl.1 rfl (lv_room (Nat.le_of_ble_eq_true rfl)) dL_best_4 ⟨Nat.le_of_ble_eq_true rfl, Nat.le_of_ble_eq_true rfl⟩) hS (fun _ _ h9 => Or.inl h9) (fun _ h9 => Or.inl h9) (fun H locs hP hz9 hk9 hS => ?_)
  have hO : va_P (z_DD G) vwCl (z_wO G ox o) H := z_keep1 hO (hk9 _ (z_lt1 hO) (fun ⟨k, hk, e9⟩ => hox k hk e9.symm))
  refine W.eq (g2 := F0 m 7 ls [.int v, .int (nI 0), .ref ox]) rfl ?_
  refine lv_i2l hx hb dL_best_7 rfl ?_
  refine va_last (i := nI 0) (f := fun _ => o) hx hb hK (hP.app hO) (z_apD hinj (fun k hk => Or.inl ⟨k, hk, rfl⟩) (Or.inr rfl) hox) hS 36 4 z_apR rfl (vp_in_nI (by decide) (by decide)) dL_best_8 (fun H locs hP hD hS => ?_)
  rw [z_apS] at hP
  obtain ⟨hP, hO⟩ := z_apP hP
  have hO : va_P (z_DD G) vwCl (z_wO G ox v.toInt64) H := z_atO hO (by simp [vp_updL, nI_clamp])
  refine lv_goto (tgt := 15) hx hb dL_best_9 (by decide) ?_
  refine lv_iconst (v := 0) hx hb dL_best_15 (by decide) ?_
  refine W.widen (k := 1) (n := 6) (by omega) (by omega) ?_
  exact z_iret hx hb hr hlocks dL_best_16 (fun t ht hW => ⟨rfl, by rw [ht]; exact hP, by rw [ht]; exact hO, hS.F ht⟩) hS.2.2 rfl

set_option maxHeartbeats 4000000 in
set_option maxRecDepth 100000 in
theorem v_L_best_1 (l : Launch) (G : z_GT) (ad : Nat → Nat) (ox : Nat) (σ σ' : Nat → Nat → Int32) (κ κ' : Nat → Nat → Nat) (o : Int64) (p0 : Int32) (hinj : ∀ i j, i < 36 → j < 36 → ad i = ad j → i = j) (hox : ∀ k, k < 36 → ad k ≠ ox) (hM : vx_Met l yX4_best wsX4_best ({ frames := 7, cells := 1, slots := 6, locals := 103 } : Room) (z_Pt G [.ref (ad 0), .int p0] (z_wC G ad σ κ) (z_A 36 ad)) z_No (z_Xq G "java/lang/IndexOutOfBoundsException" (z_wC G ad σ' κ') (z_A 36 ad)) 1 6 (z_A 36 ad)) : Met l yL_best wsL_best ({ frames := 8, cells := 1, slots := 6, locals := 128 } : Room) (z_Pl G ad ox σ κ o [.ref (ad 0), .int p0, .ref ox]) (z_Ql G ad ox σ' κ' o 1) 1 6 (z_Al ad ox) := by
  refine va_MetW (cc := cL_best) (maxL := 4) (ret := (some .int)) (by decide) rfl ?_
  intro p e s m args below meth c s₁ B hml hw0
  obtain ⟨rfl, hX, hP, hO, hT⟩ := hw0
  have hK := hX.1
  have hx := B.exec
  have hb := B.bytes
  have hr := B.returns
  have hts := atoms_spec (ws := wsL_best) B.pre
  have hown : s.vm.findClass RL = some m.cls := findClass_of_methodNamed B.named
  have hlocks := B.notSynchronized
  have hS : va_S (z_Al ad ox) s.heap s.heap [] := va_S.rf
  have hl := lv_entry ([.ref (ad 0), .int p0, .ref ox]) (n := 4) (Nat.le_of_ble_eq_true rfl)
  rw [lg_entry_eq]
  generalize (lg_sl ([.ref (ad 0), .int p0, .ref ox]) ++ List.replicate (4 - (lg_sl ([.ref (ad 0), .int p0, .ref ox])).length) Slot.unset).toArray = ls at hl ⊢
  have hl : lv_has ls 4 [(0, .ref (ad 0)), (1, .int p0), (2, .ref ox)] := hl
  have hTab : c.exceptionTable.toList = tableOf [(0, 9, 12, 20)] := vx_table (x := yL_best) B (hts (.codeWith yL_best cL_best 4 (some .int) [(0, 9, 12, 20)]) List.mem_cons_self)
  refine lv_aload_n hx hb dL_best_0 rfl (lv_at hl 2 rfl) ?_
  refine lv_iconst (v := nI 0) hx hb dL_best_1 (by decide) ?_
  refine lv_aload_n hx hb dL_best_2 rfl (lv_at hl 0 rfl) ?_
  refine lv_iload_n hx hb dL_best_3 rfl (lv_at hl 1 rfl) ?_
  refine z_callx (vx_runV (As := [.int p0]) (rest := [.int (nI 0), .ref ox]) ⟨hx, hb, hml, hown, hts⟩ hM (cwV 1 hts gL_best_X4_best rfl rfl rfl (by decide +kernel) ⟨Nat.le_of_ble_eq_true rfl, Nat.le_of_ble_eq_true rfl⟩) (z_ptV (ci := 4) (k := 0) hX hP hT rfl z_g0) rfl rfl hl.1 rfl (lv_room (Nat.le_of_ble_eq_true rfl)) dL_best_4 ⟨Nat.le_of_ble_eq_true rfl, Nat.le_of_ble_eq_true rfl⟩) hS (fun _ _ h9 => Or.inl h9) (fun _ h9 => Or.inl h9) (fun ce q H locs hP hz9 hk9 hS hce hcv hcl => ?_)
  have hO : va_P (z_DD G) vwCl (z_wO G ox o) H := z_keep1 hO (hk9 _ (z_lt1 hO) (fun ⟨k, hk, e9⟩ => hox k hk e9.symm))
  refine vx_catch (name := "java/lang/IndexOutOfBoundsException") (E := "java/lang/IndexOutOfBoundsException") hown [] ⟨0, 9, 12, 20⟩ [] (hTab.trans rfl) (fun z h9 => nomatch h9) rfl (by decide) (hts (.classLink RL 20 "java/lang/IndexOutOfBoundsException") (by decide +kernel)) (va_Nw.use rfl (hT.2.2.1.1 "java/lang/IndexOutOfBoundsException" (by decide))) hce hcv hcl ?_
  refine lv_astore_n (lv' := [(3, .ref q), (0, .ref (ad 0)), (1, .int p0), (2, .ref ox)]) hx hb dL_best_12 rfl hl (by decide) rfl (fun ls hl => ?_)
  refine lv_iconst (v := 1) hx hb dL_best_13 (by decide) ?_
  exact z_iret hx hb hr hlocks dL_best_14 (fun t ht hW => ⟨rfl, by rw [ht]; exact hP, by rw [ht]; exact hO, hS.F ht⟩) hS.2.2 rfl

set_option maxHeartbeats 4000000 in
set_option maxRecDepth 100000 in
theorem w_L_advise (l : Launch) (G : z_GT) (ad : Nat → Nat) (ox : Nat) (σ σ' : Nat → Nat → Int32) (κ κ' : Nat → Nat → Nat) (o : Int64) (v : Int32) (p0 : Int32) (hinj : ∀ i j, i < 36 → j < 36 → ad i = ad j → i = j) (hox : ∀ k, k < 36 → ad k ≠ ox) (hM : Met l yX4_advise wsX4_advise ({ frames := 6, cells := 0, slots := 0, locals := 132 } : Room) (z_Pr G [.ref (ad 0), .int p0] (z_wC G ad σ κ)) (z_Qm G (some (.int v)) (z_wC G ad σ' κ') (z_A 36 ad)) 0 0 (z_A 36 ad)) : Met l yL_advise wsL_advise ({ frames := 8, cells := 1, slots := 6, locals := 158 } : Room) (z_Pl G ad ox σ κ o [.ref (ad 0), .int p0, .ref ox]) (z_Ql G ad ox σ' κ' v.toInt64 0) 1 6 (z_Al ad ox) := by
  refine va_MetW (cc := cL_advise) (maxL := 4) (ret := (some .int)) (by decide) rfl ?_
  intro p e s m args below meth c s₁ B hml hw0
  obtain ⟨rfl, hX, hP, hO, hT⟩ := hw0
  have hK := hX.1
  have hx := B.exec
  have hb := B.bytes
  have hr := B.returns
  have hts := atoms_spec (ws := wsL_advise) B.pre
  have hown : s.vm.findClass RL = some m.cls := findClass_of_methodNamed B.named
  have hlocks := B.notSynchronized
  have hS : va_S (z_Al ad ox) s.heap s.heap [] := va_S.rf
  have hl := lv_entry ([.ref (ad 0), .int p0, .ref ox]) (n := 4) (Nat.le_of_ble_eq_true rfl)
  rw [lg_entry_eq]
  generalize (lg_sl ([.ref (ad 0), .int p0, .ref ox]) ++ List.replicate (4 - (lg_sl ([.ref (ad 0), .int p0, .ref ox])).length) Slot.unset).toArray = ls at hl ⊢
  have hl : lv_has ls 4 [(0, .ref (ad 0)), (1, .int p0), (2, .ref ox)] := hl
  refine lv_aload_n hx hb dL_advise_0 rfl (lv_at hl 2 rfl) ?_
  refine lv_iconst (v := nI 0) hx hb dL_advise_1 (by decide) ?_
  refine lv_aload_n hx hb dL_advise_2 rfl (lv_at hl 0 rfl) ?_
  refine lv_iload_n hx hb dL_advise_3 rfl (lv_at hl 1 rfl) ?_
  refine z_callm (va_runV (As := [.int p0]) (rest := [.int (nI 0), .ref ox]) ⟨hx, hb, hml, hown, hts⟩ hM (cwV 1 hts gL_advise_X4_advise rfl rfl rfl (by decide +kernel) ⟨Nat.le_of_ble_eq_true rfl, Nat.le_of_ble_eq_true rfl⟩) (z_prV (ci := 4) (k := 0) hX hP rfl z_g0) rfl rfl hl.1 rfl (lv_room (Nat.le_of_ble_eq_true rfl)) dL_advise_4 ⟨Nat.le_of_ble_eq_true rfl, Nat.le_of_ble_eq_true rfl⟩) hS (fun _ _ h9 => Or.inl h9) (fun _ h9 => Or.inl h9) (fun H locs hP hz9 hk9 hS => ?_)
  have hO : va_P (z_DD G) vwCl (z_wO G ox o) H := z_keep1 hO (hk9 _ (z_lt1 hO) (fun ⟨k, hk, e9⟩ => hox k hk e9.symm))
  refine W.eq (g2 := F0 m 7 ls [.int v, .int (nI 0), .ref ox]) rfl ?_
  refine lv_i2l hx hb dL_advise_7 rfl ?_
  refine va_last (i := nI 0) (f := fun _ => o) hx hb hK (hP.app hO) (z_apD hinj (fun k hk => Or.inl ⟨k, hk, rfl⟩) (Or.inr rfl) hox) hS 36 4 z_apR rfl (vp_in_nI (by decide) (by decide)) dL_advise_8 (fun H locs hP hD hS => ?_)
  rw [z_apS] at hP
  obtain ⟨hP, hO⟩ := z_apP hP
  have hO : va_P (z_DD G) vwCl (z_wO G ox v.toInt64) H := z_atO hO (by simp [vp_updL, nI_clamp])
  refine lv_goto (tgt := 15) hx hb dL_advise_9 (by decide) ?_
  refine lv_iconst (v := 0) hx hb dL_advise_15 (by decide) ?_
  refine W.widen (k := 1) (n := 6) (by omega) (by omega) ?_
  exact z_iret hx hb hr hlocks dL_advise_16 (fun t ht hW => ⟨rfl, by rw [ht]; exact hP, by rw [ht]; exact hO, hS.F ht⟩) hS.2.2 rfl

set_option maxHeartbeats 4000000 in
set_option maxRecDepth 100000 in
theorem v_L_advise_1 (l : Launch) (G : z_GT) (ad : Nat → Nat) (ox : Nat) (σ σ' : Nat → Nat → Int32) (κ κ' : Nat → Nat → Nat) (o : Int64) (p0 : Int32) (hinj : ∀ i j, i < 36 → j < 36 → ad i = ad j → i = j) (hox : ∀ k, k < 36 → ad k ≠ ox) (hM : vx_Met l yX4_advise wsX4_advise ({ frames := 7, cells := 1, slots := 6, locals := 103 } : Room) (z_Pt G [.ref (ad 0), .int p0] (z_wC G ad σ κ) (z_A 36 ad)) z_No (z_Xq G "java/lang/IndexOutOfBoundsException" (z_wC G ad σ' κ') (z_A 36 ad)) 1 6 (z_A 36 ad)) : Met l yL_advise wsL_advise ({ frames := 8, cells := 1, slots := 6, locals := 158 } : Room) (z_Pl G ad ox σ κ o [.ref (ad 0), .int p0, .ref ox]) (z_Ql G ad ox σ' κ' o 1) 1 6 (z_Al ad ox) := by
  refine va_MetW (cc := cL_advise) (maxL := 4) (ret := (some .int)) (by decide) rfl ?_
  intro p e s m args below meth c s₁ B hml hw0
  obtain ⟨rfl, hX, hP, hO, hT⟩ := hw0
  have hK := hX.1
  have hx := B.exec
  have hb := B.bytes
  have hr := B.returns
  have hts := atoms_spec (ws := wsL_advise) B.pre
  have hown : s.vm.findClass RL = some m.cls := findClass_of_methodNamed B.named
  have hlocks := B.notSynchronized
  have hS : va_S (z_Al ad ox) s.heap s.heap [] := va_S.rf
  have hl := lv_entry ([.ref (ad 0), .int p0, .ref ox]) (n := 4) (Nat.le_of_ble_eq_true rfl)
  rw [lg_entry_eq]
  generalize (lg_sl ([.ref (ad 0), .int p0, .ref ox]) ++ List.replicate (4 - (lg_sl ([.ref (ad 0), .int p0, .ref ox])).length) Slot.unset).toArray = ls at hl ⊢
  have hl : lv_has ls 4 [(0, .ref (ad 0)), (1, .int p0), (2, .ref ox)] := hl
  have hTab : c.exceptionTable.toList = tableOf [(0, 9, 12, 20)] := vx_table (x := yL_advise) B (hts (.codeWith yL_advise cL_advise 4 (some .int) [(0, 9, 12, 20)]) List.mem_cons_self)
  refine lv_aload_n hx hb dL_advise_0 rfl (lv_at hl 2 rfl) ?_
  refine lv_iconst (v := nI 0) hx hb dL_advise_1 (by decide) ?_
  refine lv_aload_n hx hb dL_advise_2 rfl (lv_at hl 0 rfl) ?_
  refine lv_iload_n hx hb dL_advise_3 rfl (lv_at hl 1 rfl) ?_
  refine z_callx (vx_runV (As := [.int p0]) (rest := [.int (nI 0), .ref ox]) ⟨hx, hb, hml, hown, hts⟩ hM (cwV 1 hts gL_advise_X4_advise rfl rfl rfl (by decide +kernel) ⟨Nat.le_of_ble_eq_true rfl, Nat.le_of_ble_eq_true rfl⟩) (z_ptV (ci := 4) (k := 0) hX hP hT rfl z_g0) rfl rfl hl.1 rfl (lv_room (Nat.le_of_ble_eq_true rfl)) dL_advise_4 ⟨Nat.le_of_ble_eq_true rfl, Nat.le_of_ble_eq_true rfl⟩) hS (fun _ _ h9 => Or.inl h9) (fun _ h9 => Or.inl h9) (fun ce q H locs hP hz9 hk9 hS hce hcv hcl => ?_)
  have hO : va_P (z_DD G) vwCl (z_wO G ox o) H := z_keep1 hO (hk9 _ (z_lt1 hO) (fun ⟨k, hk, e9⟩ => hox k hk e9.symm))
  refine vx_catch (name := "java/lang/IndexOutOfBoundsException") (E := "java/lang/IndexOutOfBoundsException") hown [] ⟨0, 9, 12, 20⟩ [] (hTab.trans rfl) (fun z h9 => nomatch h9) rfl (by decide) (hts (.classLink RL 20 "java/lang/IndexOutOfBoundsException") (by decide +kernel)) (va_Nw.use rfl (hT.2.2.1.1 "java/lang/IndexOutOfBoundsException" (by decide))) hce hcv hcl ?_
  refine lv_astore_n (lv' := [(3, .ref q), (0, .ref (ad 0)), (1, .int p0), (2, .ref ox)]) hx hb dL_advise_12 rfl hl (by decide) rfl (fun ls hl => ?_)
  refine lv_iconst (v := 1) hx hb dL_advise_13 (by decide) ?_
  exact z_iret hx hb hr hlocks dL_advise_14 (fun t ht hW => ⟨rfl, by rw [ht]; exact hP, by rw [ht]; exact hO, hS.F ht⟩) hS.2.2 rfl

set_option maxHeartbeats 4000000 in
set_option maxRecDepth 100000 in
theorem w_L_foresee (l : Launch) (G : z_GT) (ad : Nat → Nat) (ox : Nat) (σ σ' : Nat → Nat → Int32) (κ κ' : Nat → Nat → Nat) (o : Int64) (v : Int32) (p0 : Int32) (p1 : Int32) (hinj : ∀ i j, i < 36 → j < 36 → ad i = ad j → i = j) (hox : ∀ k, k < 36 → ad k ≠ ox) (hM : Met l yX4_foresee wsX4_foresee ({ frames := 5, cells := 0, slots := 0, locals := 118 } : Room) (z_Pr G [.ref (ad 0), .int p0, .int p1] (z_wC G ad σ κ)) (z_Qm G (some (.int v)) (z_wC G ad σ' κ') (z_A 36 ad)) 0 0 (z_A 36 ad)) : Met l yL_foresee wsL_foresee ({ frames := 8, cells := 1, slots := 6, locals := 140 } : Room) (z_Pl G ad ox σ κ o [.ref (ad 0), .int p0, .int p1, .ref ox]) (z_Ql G ad ox σ' κ' v.toInt64 0) 1 6 (z_Al ad ox) := by
  refine va_MetW (cc := cL_foresee) (maxL := 5) (ret := (some .int)) (by decide) rfl ?_
  intro p e s m args below meth c s₁ B hml hw0
  obtain ⟨rfl, hX, hP, hO, hT⟩ := hw0
  have hK := hX.1
  have hx := B.exec
  have hb := B.bytes
  have hr := B.returns
  have hts := atoms_spec (ws := wsL_foresee) B.pre
  have hown : s.vm.findClass RL = some m.cls := findClass_of_methodNamed B.named
  have hlocks := B.notSynchronized
  have hS : va_S (z_Al ad ox) s.heap s.heap [] := va_S.rf
  have hl := lv_entry ([.ref (ad 0), .int p0, .int p1, .ref ox]) (n := 5) (Nat.le_of_ble_eq_true rfl)
  rw [lg_entry_eq]
  generalize (lg_sl ([.ref (ad 0), .int p0, .int p1, .ref ox]) ++ List.replicate (5 - (lg_sl ([.ref (ad 0), .int p0, .int p1, .ref ox])).length) Slot.unset).toArray = ls at hl ⊢
  have hl : lv_has ls 5 [(0, .ref (ad 0)), (1, .int p0), (2, .int p1), (3, .ref ox)] := hl
  refine lv_aload_n hx hb dL_foresee_0 rfl (lv_at hl 3 rfl) ?_
  refine lv_iconst (v := nI 0) hx hb dL_foresee_1 (by decide) ?_
  refine lv_aload_n hx hb dL_foresee_2 rfl (lv_at hl 0 rfl) ?_
  refine lv_iload_n hx hb dL_foresee_3 rfl (lv_at hl 1 rfl) ?_
  refine lv_iload_n hx hb dL_foresee_4 rfl (lv_at hl 2 rfl) ?_
  refine z_callm (va_runV (As := [.int p0, .int p1]) (rest := [.int (nI 0), .ref ox]) ⟨hx, hb, hml, hown, hts⟩ hM (cwV 2 hts gL_foresee_X4_foresee rfl rfl rfl (by decide +kernel) ⟨Nat.le_of_ble_eq_true rfl, Nat.le_of_ble_eq_true rfl⟩) (z_prV (ci := 4) (k := 0) hX hP rfl z_g0) rfl rfl hl.1 rfl (lv_room (Nat.le_of_ble_eq_true rfl)) dL_foresee_5 ⟨Nat.le_of_ble_eq_true rfl, Nat.le_of_ble_eq_true rfl⟩) hS (fun _ _ h9 => Or.inl h9) (fun _ h9 => Or.inl h9) (fun H locs hP hz9 hk9 hS => ?_)
  have hO : va_P (z_DD G) vwCl (z_wO G ox o) H := z_keep1 hO (hk9 _ (z_lt1 hO) (fun ⟨k, hk, e9⟩ => hox k hk e9.symm))
  refine W.eq (g2 := F0 m 8 ls [.int v, .int (nI 0), .ref ox]) rfl ?_
  refine lv_i2l hx hb dL_foresee_8 rfl ?_
  refine va_last (i := nI 0) (f := fun _ => o) hx hb hK (hP.app hO) (z_apD hinj (fun k hk => Or.inl ⟨k, hk, rfl⟩) (Or.inr rfl) hox) hS 36 4 z_apR rfl (vp_in_nI (by decide) (by decide)) dL_foresee_9 (fun H locs hP hD hS => ?_)
  rw [z_apS] at hP
  obtain ⟨hP, hO⟩ := z_apP hP
  have hO : va_P (z_DD G) vwCl (z_wO G ox v.toInt64) H := z_atO hO (by simp [vp_updL, nI_clamp])
  refine lv_goto (tgt := 21) hx hb dL_foresee_10 (by decide) ?_
  refine lv_iconst (v := 0) hx hb dL_foresee_21 (by decide) ?_
  refine W.widen (k := 1) (n := 6) (by omega) (by omega) ?_
  exact z_iret hx hb hr hlocks dL_foresee_22 (fun t ht hW => ⟨rfl, by rw [ht]; exact hP, by rw [ht]; exact hO, hS.F ht⟩) hS.2.2 rfl

set_option maxHeartbeats 4000000 in
set_option maxRecDepth 100000 in
theorem v_L_foresee_1 (l : Launch) (G : z_GT) (ad : Nat → Nat) (ox : Nat) (σ σ' : Nat → Nat → Int32) (κ κ' : Nat → Nat → Nat) (o : Int64) (p0 : Int32) (p1 : Int32) (hinj : ∀ i j, i < 36 → j < 36 → ad i = ad j → i = j) (hox : ∀ k, k < 36 → ad k ≠ ox) (hM : vx_Met l yX4_foresee wsX4_foresee ({ frames := 7, cells := 1, slots := 6, locals := 118 } : Room) (z_Pt G [.ref (ad 0), .int p0, .int p1] (z_wC G ad σ κ) (z_A 36 ad)) z_No (z_Xq G "java/lang/IllegalArgumentException" (z_wC G ad σ' κ') (z_A 36 ad)) 1 6 (z_A 36 ad)) : Met l yL_foresee wsL_foresee ({ frames := 8, cells := 1, slots := 6, locals := 140 } : Room) (z_Pl G ad ox σ κ o [.ref (ad 0), .int p0, .int p1, .ref ox]) (z_Ql G ad ox σ' κ' o 1) 1 6 (z_Al ad ox) := by
  refine va_MetW (cc := cL_foresee) (maxL := 5) (ret := (some .int)) (by decide) rfl ?_
  intro p e s m args below meth c s₁ B hml hw0
  obtain ⟨rfl, hX, hP, hO, hT⟩ := hw0
  have hK := hX.1
  have hx := B.exec
  have hb := B.bytes
  have hr := B.returns
  have hts := atoms_spec (ws := wsL_foresee) B.pre
  have hown : s.vm.findClass RL = some m.cls := findClass_of_methodNamed B.named
  have hlocks := B.notSynchronized
  have hS : va_S (z_Al ad ox) s.heap s.heap [] := va_S.rf
  have hl := lv_entry ([.ref (ad 0), .int p0, .int p1, .ref ox]) (n := 5) (Nat.le_of_ble_eq_true rfl)
  rw [lg_entry_eq]
  generalize (lg_sl ([.ref (ad 0), .int p0, .int p1, .ref ox]) ++ List.replicate (5 - (lg_sl ([.ref (ad 0), .int p0, .int p1, .ref ox])).length) Slot.unset).toArray = ls at hl ⊢
  have hl : lv_has ls 5 [(0, .ref (ad 0)), (1, .int p0), (2, .int p1), (3, .ref ox)] := hl
  have hTab : c.exceptionTable.toList = tableOf [(0, 10, 13, 13), (0, 10, 17, 20)] := vx_table (x := yL_foresee) B (hts (.codeWith yL_foresee cL_foresee 5 (some .int) [(0, 10, 13, 13), (0, 10, 17, 20)]) List.mem_cons_self)
  refine lv_aload_n hx hb dL_foresee_0 rfl (lv_at hl 3 rfl) ?_
  refine lv_iconst (v := nI 0) hx hb dL_foresee_1 (by decide) ?_
  refine lv_aload_n hx hb dL_foresee_2 rfl (lv_at hl 0 rfl) ?_
  refine lv_iload_n hx hb dL_foresee_3 rfl (lv_at hl 1 rfl) ?_
  refine lv_iload_n hx hb dL_foresee_4 rfl (lv_at hl 2 rfl) ?_
  refine z_callx (vx_runV (As := [.int p0, .int p1]) (rest := [.int (nI 0), .ref ox]) ⟨hx, hb, hml, hown, hts⟩ hM (cwV 2 hts gL_foresee_X4_foresee rfl rfl rfl (by decide +kernel) ⟨Nat.le_of_ble_eq_true rfl, Nat.le_of_ble_eq_true rfl⟩) (z_ptV (ci := 4) (k := 0) hX hP hT rfl z_g0) rfl rfl hl.1 rfl (lv_room (Nat.le_of_ble_eq_true rfl)) dL_foresee_5 ⟨Nat.le_of_ble_eq_true rfl, Nat.le_of_ble_eq_true rfl⟩) hS (fun _ _ h9 => Or.inl h9) (fun _ h9 => Or.inl h9) (fun ce q H locs hP hz9 hk9 hS hce hcv hcl => ?_)
  have hO : va_P (z_DD G) vwCl (z_wO G ox o) H := z_keep1 hO (hk9 _ (z_lt1 hO) (fun ⟨k, hk, e9⟩ => hox k hk e9.symm))
  refine vx_catch (name := "java/lang/IllegalArgumentException") (E := "java/lang/IllegalArgumentException") hown [] ⟨0, 10, 13, 13⟩ [⟨0, 10, 17, 20⟩] (hTab.trans rfl) (fun z h9 => nomatch h9) rfl (by decide) (hts (.classLink RL 13 "java/lang/IllegalArgumentException") (by decide +kernel)) (va_Nw.use rfl (hT.2.2.1.1 "java/lang/IllegalArgumentException" (by decide))) hce hcv hcl ?_
  refine lv_astore (lv' := [(4, .ref q), (0, .ref (ad 0)), (1, .int p0), (2, .int p1), (3, .ref ox)]) hx hb dL_foresee_13 hl (by decide) rfl (fun ls hl => ?_)
  refine lv_iconst (v := 1) hx hb dL_foresee_15 (by decide) ?_
  exact z_iret hx hb hr hlocks dL_foresee_16 (fun t ht hW => ⟨rfl, by rw [ht]; exact hP, by rw [ht]; exact hO, hS.F ht⟩) hS.2.2 rfl

set_option maxHeartbeats 4000000 in
set_option maxRecDepth 100000 in
theorem v_L_foresee_2 (l : Launch) (G : z_GT) (ad : Nat → Nat) (ox : Nat) (σ σ' : Nat → Nat → Int32) (κ κ' : Nat → Nat → Nat) (o : Int64) (p0 : Int32) (p1 : Int32) (hinj : ∀ i j, i < 36 → j < 36 → ad i = ad j → i = j) (hox : ∀ k, k < 36 → ad k ≠ ox) (hM : vx_Met l yX4_foresee wsX4_foresee ({ frames := 7, cells := 1, slots := 6, locals := 118 } : Room) (z_Pt G [.ref (ad 0), .int p0, .int p1] (z_wC G ad σ κ) (z_A 36 ad)) z_No (z_Xq G "java/lang/IndexOutOfBoundsException" (z_wC G ad σ' κ') (z_A 36 ad)) 1 6 (z_A 36 ad)) : Met l yL_foresee wsL_foresee ({ frames := 8, cells := 1, slots := 6, locals := 140 } : Room) (z_Pl G ad ox σ κ o [.ref (ad 0), .int p0, .int p1, .ref ox]) (z_Ql G ad ox σ' κ' o 2) 1 6 (z_Al ad ox) := by
  refine va_MetW (cc := cL_foresee) (maxL := 5) (ret := (some .int)) (by decide) rfl ?_
  intro p e s m args below meth c s₁ B hml hw0
  obtain ⟨rfl, hX, hP, hO, hT⟩ := hw0
  have hK := hX.1
  have hx := B.exec
  have hb := B.bytes
  have hr := B.returns
  have hts := atoms_spec (ws := wsL_foresee) B.pre
  have hown : s.vm.findClass RL = some m.cls := findClass_of_methodNamed B.named
  have hlocks := B.notSynchronized
  have hS : va_S (z_Al ad ox) s.heap s.heap [] := va_S.rf
  have hl := lv_entry ([.ref (ad 0), .int p0, .int p1, .ref ox]) (n := 5) (Nat.le_of_ble_eq_true rfl)
  rw [lg_entry_eq]
  generalize (lg_sl ([.ref (ad 0), .int p0, .int p1, .ref ox]) ++ List.replicate (5 - (lg_sl ([.ref (ad 0), .int p0, .int p1, .ref ox])).length) Slot.unset).toArray = ls at hl ⊢
  have hl : lv_has ls 5 [(0, .ref (ad 0)), (1, .int p0), (2, .int p1), (3, .ref ox)] := hl
  have hTab : c.exceptionTable.toList = tableOf [(0, 10, 13, 13), (0, 10, 17, 20)] := vx_table (x := yL_foresee) B (hts (.codeWith yL_foresee cL_foresee 5 (some .int) [(0, 10, 13, 13), (0, 10, 17, 20)]) List.mem_cons_self)
  refine lv_aload_n hx hb dL_foresee_0 rfl (lv_at hl 3 rfl) ?_
  refine lv_iconst (v := nI 0) hx hb dL_foresee_1 (by decide) ?_
  refine lv_aload_n hx hb dL_foresee_2 rfl (lv_at hl 0 rfl) ?_
  refine lv_iload_n hx hb dL_foresee_3 rfl (lv_at hl 1 rfl) ?_
  refine lv_iload_n hx hb dL_foresee_4 rfl (lv_at hl 2 rfl) ?_
  refine z_callx (vx_runV (As := [.int p0, .int p1]) (rest := [.int (nI 0), .ref ox]) ⟨hx, hb, hml, hown, hts⟩ hM (cwV 2 hts gL_foresee_X4_foresee rfl rfl rfl (by decide +kernel) ⟨Nat.le_of_ble_eq_true rfl, Nat.le_of_ble_eq_true rfl⟩) (z_ptV (ci := 4) (k := 0) hX hP hT rfl z_g0) rfl rfl hl.1 rfl (lv_room (Nat.le_of_ble_eq_true rfl)) dL_foresee_5 ⟨Nat.le_of_ble_eq_true rfl, Nat.le_of_ble_eq_true rfl⟩) hS (fun _ _ h9 => Or.inl h9) (fun _ h9 => Or.inl h9) (fun ce q H locs hP hz9 hk9 hS hce hcv hcl => ?_)
  have hO : va_P (z_DD G) vwCl (z_wO G ox o) H := z_keep1 hO (hk9 _ (z_lt1 hO) (fun ⟨k, hk, e9⟩ => hox k hk e9.symm))
  refine vx_catch (name := "java/lang/IndexOutOfBoundsException") (E := "java/lang/IndexOutOfBoundsException") hown [⟨0, 10, 13, 13⟩] ⟨0, 10, 17, 20⟩ [] (hTab.trans rfl) (fun z h9 => by
    simp only [List.mem_cons, List.not_mem_nil, or_false] at h9
    rcases h9 with rfl
    · exact Or.inr ⟨by decide, "java/lang/IllegalArgumentException", hts (.classLink RL 13 "java/lang/IllegalArgumentException") (by decide +kernel), hT.2.2.2 "java/lang/IndexOutOfBoundsException" (by decide) "java/lang/IllegalArgumentException" (by decide) (by decide)⟩) rfl (by decide) (hts (.classLink RL 20 "java/lang/IndexOutOfBoundsException") (by decide +kernel)) (va_Nw.use rfl (hT.2.2.1.1 "java/lang/IndexOutOfBoundsException" (by decide))) hce hcv hcl ?_
  refine lv_astore (lv' := [(4, .ref q), (0, .ref (ad 0)), (1, .int p0), (2, .int p1), (3, .ref ox)]) hx hb dL_foresee_17 hl (by decide) rfl (fun ls hl => ?_)
  refine lv_iconst (v := 2) hx hb dL_foresee_19 (by decide) ?_
  exact z_iret hx hb hr hlocks dL_foresee_20 (fun t ht hW => ⟨rfl, by rw [ht]; exact hP, by rw [ht]; exact hO, hS.F ht⟩) hS.2.2 rfl
