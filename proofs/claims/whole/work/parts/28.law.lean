/-! Part 28: the law's loop, and its start. -/
theorem q_and (v : Int32) : ∃ j : Nat, j < 32 ∧ v &&& nI 31 = nI j := by
  refine ⟨(v &&& nI 31).toBitVec.toNat, ?_, ?_⟩
  · rw [Int32.toBitVec_and, BitVec.toNat_and]
    have h : (nI 31).toBitVec.toNat = 31 := by decide
    rw [h]
    exact Nat.lt_succ_of_le Nat.and_le_right
  · apply Int32.toBitVec_inj.mp
    show _ = BitVec.ofNat 32 _
    rw [BitVec.ofNat_toNat, BitVec.setWidth_eq]
theorem q_room {L i : Nat} (hL : L ≤ 2048) (hi : 4 * i ≤ L) (h : ¬ nI L - nI 4 < nI (4 * i)) : 4 * i + 4 ≤ L := by
  have e4 : (nI 4).toInt = 4 := nI_toInt (by decide)
  have eL : (nI L).toInt = (L : Int) := nI_toInt (by omega)
  have ei : (nI (4 * i)).toInt = ((4 * i : Nat) : Int) := nI_toInt (by omega)
  have e : (nI L - nI 4).toInt = (L : Int) - 4 := by
    rw [r_toI_sub (by omega) (by omega), e4, eL]
  rw [Int32.lt_iff_toInt_lt, e, ei] at h
  omega
theorem z_spl {D : va_G} {cl : List vw_C} {w1 w2 : va_W} {H : Heap} (h : va_P D cl (w1 ++ w2) H) : va_P D cl w1 H ∧ va_P D cl w2 H := by
  refine ⟨fun k q hk => h k q ?_, fun k q hk => h (w1.length + k) q ?_⟩
  · rw [List.getElem?_append_left (List.getElem?_eq_some_iff.mp hk).1]
    exact hk
  · rw [List.getElem?_append_right (by omega), show w1.length + k - w1.length = k by omega]
    exact hk
theorem z_neL {A : Nat → Prop} {w : va_W} {x : Nat} {e : va_E} (h : va_D A (w ++ [(x, e)])) {k : Nat} {q : Nat × va_E} (hk : w[k]? = some q) : q.1 ≠ x := fun e1 => by
  have hl := (List.getElem?_eq_some_iff.mp hk).1
  have h1 : (w ++ [(x, e)])[k]? = some q := by rw [List.getElem?_append_left hl]; exact hk
  have h2 : (w ++ [(x, e)])[w.length]? = some (x, e) := by simp
  have := h.1 k w.length q (x, e) h1 h2 e1
  omega
theorem z_raL {G : z_GT} {cA : ClassId} {s : State} (h : va_K (z_DD G) vwCl (z_ty G ++ [(cA, .long)]) s) : z_L G = cA := Option.some.inj ((h.2 4 _ rfl).2.symm.trans (h.2 5 _ rfl).2)
theorem q_st {l : Launch} (h : l.flags = flags0) : l.stackTraces = false := by
  unfold Launch.stackTraces
  rw [h]
  decide +kernel
set_option maxHeartbeats 8000000 in
set_option maxRecDepth 100000 in
theorem q_loop {p : Program} {l : Launch} {e : Env} {s : State} {m : MethodId} {below : List Frame} {meth : Method} {c : Code} {b L : Nat} {xs : Nat → Int32} {Q : State → Prop} {G : z_GT} {ad am : Nat → Nat} {ox : Nat} (hx : p.tables.exec = Jvm.exec) (hb : c.code = cL_law) (hml : c.maxLocals = 9) (hown : s.vm.findClass RL = some m.cls) (hts : ∀ w ∈ wsL_law, w.before #[Value.ref b] s = true) (hXs : va_X b L xs s s.heap) (hbl : b < s.heap.size) (hst : l.stackTraces = false) (hF : q_F G ad am ox s) (hL : L ≤ 2048)
    (hend : ∀ (i : Nat) (H : Heap) (locs : List Loc) (ls : Array Slot), 4 * i ≤ L → q_I G ad am ox s i H locs → W p l e room_1 s m #[Value.ref b] below meth c H locs (47 + 12 * i) (365 + 100 * i) Q (F0 m 1225 ls [])) : ∀ (fu i : Nat), 4 * i ≤ L → L < 4 * (i + fu) → ∀ (H : Heap) (locs : List Loc) (ls : Array Slot), q_I G ad am ox s i H locs → lv_has ls 9 [(0, .ref b), (1, .ref (ad 0)), (2, .ref (am 0)), (3, .ref ox), (4, .int (nI (4 * i)))] → W p l e room_1 s m #[Value.ref b] below meth c H locs (47 + 12 * i) (365 + 100 * i) Q (F0 m 23 ls []) := by
  intro fu
  induction fu with
  | zero => intro i h1 h2; exfalso; omega
  | succ fu ih =>
    intro i h1 h2 H locs ls hI hl
    have hbA : ¬ (fun q : Nat => s.heap.size ≤ q) b := Nat.not_le.mpr hbl
    have hS : va_S (fun q => s.heap.size ≤ q) s.heap H locs := by obtain ⟨_, _, _, _, _, _, _, -, -, -, -, -, hS⟩ := hI; exact hS
    refine lv_iload hx hb dL_law_23 (lv_at hl 4 rfl) ?_
    refine lv_aload_n hx hb dL_law_25 rfl (lv_at hl 0 rfl) ?_
    refine va_slen hx hb hXs hbl hbA hS dL_law_26 ?_
    refine lv_iconst (v := nI 4) hx hb dL_law_27 (by decide) ?_
    refine lv_isub hx hb dL_law_28 ?_
    refine lv_icmp_gt (tgt := 1225) hx hb dL_law_29 (by decide) (fun _ => hend i H locs ls h1 hI) (fun c1 => ?_)
    have hi : 4 * i + 4 ≤ L := q_room hL h1 c1
    have hc : ∀ (H : Heap) (locs : List Loc) (ls : Array Slot), q_I G ad am ox s (i + 1) H locs → lv_has ls 9 [(0, .ref b), (1, .ref (ad 0)), (2, .ref (am 0)), (3, .ref ox), (4, .int (nI (4 * i)))] → W p l e room_1 s m #[Value.ref b] below meth c H locs (47 + 12 * (i + 1)) (365 + 100 * (i + 1)) Q (F0 m 1219 ls []) := by
      intro H locs ls hI hl
      refine lv_iinc (v := nI (4 * (i + 1))) (lv' := [(4, .int (nI (4 * (i + 1)))), (0, .ref b), (1, .ref (ad 0)), (2, .ref (am 0)), (3, .ref ox)]) hx hb dL_law_1219 hl (k := 4) rfl (by rw [show Int32.ofInt 4 = nI 4 by decide, nI_add]; rfl) (by decide) rfl (fun ls hl => ?_)
      refine lv_goto (tgt := 23) hx hb dL_law_1222 (by decide) ?_
      exact ih (i + 1) (by omega) (by omega) H locs ls hI (lv_sub hl [1, 2, 3, 4, 0] rfl)
    refine lv_aload_n hx hb dL_law_32 rfl (lv_at hl 0 rfl) ?_
    refine lv_iload hx hb dL_law_33 (lv_at hl 4 rfl) ?_
    refine va_sld (i := nI (4 * i)) hx hb hXs hbl hbA hS (vp_in_nI (by omega) (by omega)) dL_law_35 ?_
    refine lv_bipush (v := nI 31) hx hb dL_law_36 (by decide) ?_
    refine lv_iand hx hb dL_law_38 ?_
    obtain ⟨j, hj, ej⟩ := q_and (xs (nI (4 * i)).toNatClampNeg)
    refine z_top (show (.int (xs (nI (4 * i)).toNatClampNeg &&& nI 31) : Value) = .int (nI j) from congrArg Value.int ej) ?_
    rcases (show j = 0 ∨ j = 1 ∨ j = 2 ∨ j = 3 ∨ j = 4 ∨ j = 5 ∨ j = 6 ∨ j = 7 ∨ j = 8 ∨ j = 9 ∨ j = 10 ∨ j = 11 ∨ j = 12 ∨ j = 13 ∨ j = 14 ∨ j = 15 ∨ j = 16 ∨ j = 17 ∨ j = 18 ∨ j = 19 ∨ j = 20 ∨ j = 21 ∨ j = 22 ∨ j = 23 ∨ j = 24 ∨ j = 25 ∨ j = 26 ∨ j = 27 ∨ j = 28 ∨ j = 29 ∨ j = 30 ∨ j = 31 by omega) with rfl | rfl | rfl | rfl | rfl | rfl | rfl | rfl | rfl | rfl | rfl | rfl | rfl | rfl | rfl | rfl | rfl | rfl | rfl | rfl | rfl | rfl | rfl | rfl | rfl | rfl | rfl | rfl | rfl | rfl | rfl | rfl
    · refine lv_tableIn (x := nI 0) (off := 85) (tgt := 124) hx hb dL_law_39 (by decide) (by decide) rfl (by decide) ?_
      exact k_valley hx hb hml hown hts hXs hbl hst hF hL hi hI hl hc
    · refine lv_tableIn (x := nI 1) (off := 165) (tgt := 204) hx hb dL_law_39 (by decide) (by decide) rfl (by decide) ?_
      exact k_road hx hb hml hown hts hXs hbl hst hF hL hi hI hl hc
    · refine lv_tableIn (x := nI 2) (off := 245) (tgt := 284) hx hb dL_law_39 (by decide) (by decide) rfl (by decide) ?_
      exact k_setHeat hx hb hml hown hts hXs hbl hst hF hL hi hI hl hc
    · refine lv_tableIn (x := nI 3) (off := 313) (tgt := 352) hx hb dL_law_39 (by decide) (by decide) rfl (by decide) ?_
      exact k_bloom hx hb hml hown hts hXs hbl hst hF hL hi hI hl hc
    · refine lv_tableIn (x := nI 4) (off := 381) (tgt := 420) hx hb dL_law_39 (by decide) (by decide) rfl (by decide) ?_
      exact k_way hx hb hml hown hts hXs hbl hst hF hL hi hI hl hc
    · refine lv_tableIn (x := nI 5) (off := 449) (tgt := 488) hx hb dL_law_39 (by decide) (by decide) rfl (by decide) ?_
      exact k_tour hx hb hml hown hts hXs hbl hst hF hL hi hI hl hc
    · refine lv_tableIn (x := nI 6) (off := 505) (tgt := 544) hx hb dL_law_39 (by decide) (by decide) rfl (by decide) ?_
      exact k_add hx hb hml hown hts hXs hbl hst hF hL hi hI hl hc
    · refine lv_tableIn (x := nI 7) (off := 573) (tgt := 612) hx hb dL_law_39 (by decide) (by decide) rfl (by decide) ?_
      exact k_cut hx hb hml hown hts hXs hbl hst hF hL hi hI hl hc
    · refine lv_tableIn (x := nI 8) (off := 629) (tgt := 668) hx hb dL_law_39 (by decide) (by decide) rfl (by decide) ?_
      exact k_told hx hb hml hown hts hXs hbl hst hF hL hi hI hl hc
    · refine lv_tableIn (x := nI 9) (off := 697) (tgt := 736) hx hb dL_law_39 (by decide) (by decide) rfl (by decide) ?_
      exact k_about hx hb hml hown hts hXs hbl hst hF hL hi hI hl hc
    · refine lv_tableIn (x := nI 10) (off := 765) (tgt := 804) hx hb dL_law_39 (by decide) (by decide) rfl (by decide) ?_
      exact k_count hx hb hml hown hts hXs hbl hst hF hL hi hI hl hc
    · refine lv_tableIn (x := nI 11) (off := 821) (tgt := 860) hx hb dL_law_39 (by decide) (by decide) rfl (by decide) ?_
      exact k_pass hx hb hml hown hts hXs hbl hst hF hL hi hI hl hc
    · refine lv_tableIn (x := nI 12) (off := 877) (tgt := 916) hx hb dL_law_39 (by decide) (by decide) rfl (by decide) ?_
      exact k_joy hx hb hml hown hts hXs hbl hst hF hL hi hI hl hc
    · refine lv_tableIn (x := nI 13) (off := 945) (tgt := 984) hx hb dL_law_39 (by decide) (by decide) rfl (by decide) ?_
      exact k_best hx hb hml hown hts hXs hbl hst hF hL hi hI hl hc
    · refine lv_tableIn (x := nI 14) (off := 1001) (tgt := 1040) hx hb dL_law_39 (by decide) (by decide) rfl (by decide) ?_
      exact k_advise hx hb hml hown hts hXs hbl hst hF hL hi hI hl hc
    · refine lv_tableIn (x := nI 15) (off := 1057) (tgt := 1096) hx hb dL_law_39 (by decide) (by decide) rfl (by decide) ?_
      exact k_foresee hx hb hml hown hts hXs hbl hst hF hL hi hI hl hc
    · refine lv_tableIn (x := nI 16) (off := 1125) (tgt := 1164) hx hb dL_law_39 (by decide) (by decide) rfl (by decide) ?_
      exact k_mean hx hb hml hown hts hXs hbl hst hF hL hi hI hl hc
    · refine lv_tableIn (x := nI 17) (off := 1166) (tgt := 1205) hx hb dL_law_39 (by decide) (by decide) rfl (by decide) ?_
      exact k_digest hx hb hml hown hts hXs hbl hst hF hL hi hI hl hc
    · refine lv_tableOut (x := nI 18) (tgt := 1219) hx hb dL_law_39 (by decide) (by decide) ?_
      refine W.widen (k := 47 + 12 * (i + 1)) (n := 365 + 100 * (i + 1)) (by omega) (by omega) ?_
      obtain ⟨E, σ, κ, μ, ν, T, o, a1, a2, a3⟩ := hI
      exact hc H locs ls ⟨E, σ, κ, μ, ν, T, o, a1, by omega, a3⟩ hl
    · refine lv_tableOut (x := nI 19) (tgt := 1219) hx hb dL_law_39 (by decide) (by decide) ?_
      refine W.widen (k := 47 + 12 * (i + 1)) (n := 365 + 100 * (i + 1)) (by omega) (by omega) ?_
      obtain ⟨E, σ, κ, μ, ν, T, o, a1, a2, a3⟩ := hI
      exact hc H locs ls ⟨E, σ, κ, μ, ν, T, o, a1, by omega, a3⟩ hl
    · refine lv_tableOut (x := nI 20) (tgt := 1219) hx hb dL_law_39 (by decide) (by decide) ?_
      refine W.widen (k := 47 + 12 * (i + 1)) (n := 365 + 100 * (i + 1)) (by omega) (by omega) ?_
      obtain ⟨E, σ, κ, μ, ν, T, o, a1, a2, a3⟩ := hI
      exact hc H locs ls ⟨E, σ, κ, μ, ν, T, o, a1, by omega, a3⟩ hl
    · refine lv_tableOut (x := nI 21) (tgt := 1219) hx hb dL_law_39 (by decide) (by decide) ?_
      refine W.widen (k := 47 + 12 * (i + 1)) (n := 365 + 100 * (i + 1)) (by omega) (by omega) ?_
      obtain ⟨E, σ, κ, μ, ν, T, o, a1, a2, a3⟩ := hI
      exact hc H locs ls ⟨E, σ, κ, μ, ν, T, o, a1, by omega, a3⟩ hl
    · refine lv_tableOut (x := nI 22) (tgt := 1219) hx hb dL_law_39 (by decide) (by decide) ?_
      refine W.widen (k := 47 + 12 * (i + 1)) (n := 365 + 100 * (i + 1)) (by omega) (by omega) ?_
      obtain ⟨E, σ, κ, μ, ν, T, o, a1, a2, a3⟩ := hI
      exact hc H locs ls ⟨E, σ, κ, μ, ν, T, o, a1, by omega, a3⟩ hl
    · refine lv_tableOut (x := nI 23) (tgt := 1219) hx hb dL_law_39 (by decide) (by decide) ?_
      refine W.widen (k := 47 + 12 * (i + 1)) (n := 365 + 100 * (i + 1)) (by omega) (by omega) ?_
      obtain ⟨E, σ, κ, μ, ν, T, o, a1, a2, a3⟩ := hI
      exact hc H locs ls ⟨E, σ, κ, μ, ν, T, o, a1, by omega, a3⟩ hl
    · refine lv_tableOut (x := nI 24) (tgt := 1219) hx hb dL_law_39 (by decide) (by decide) ?_
      refine W.widen (k := 47 + 12 * (i + 1)) (n := 365 + 100 * (i + 1)) (by omega) (by omega) ?_
      obtain ⟨E, σ, κ, μ, ν, T, o, a1, a2, a3⟩ := hI
      exact hc H locs ls ⟨E, σ, κ, μ, ν, T, o, a1, by omega, a3⟩ hl
    · refine lv_tableOut (x := nI 25) (tgt := 1219) hx hb dL_law_39 (by decide) (by decide) ?_
      refine W.widen (k := 47 + 12 * (i + 1)) (n := 365 + 100 * (i + 1)) (by omega) (by omega) ?_
      obtain ⟨E, σ, κ, μ, ν, T, o, a1, a2, a3⟩ := hI
      exact hc H locs ls ⟨E, σ, κ, μ, ν, T, o, a1, by omega, a3⟩ hl
    · refine lv_tableOut (x := nI 26) (tgt := 1219) hx hb dL_law_39 (by decide) (by decide) ?_
      refine W.widen (k := 47 + 12 * (i + 1)) (n := 365 + 100 * (i + 1)) (by omega) (by omega) ?_
      obtain ⟨E, σ, κ, μ, ν, T, o, a1, a2, a3⟩ := hI
      exact hc H locs ls ⟨E, σ, κ, μ, ν, T, o, a1, by omega, a3⟩ hl
    · refine lv_tableOut (x := nI 27) (tgt := 1219) hx hb dL_law_39 (by decide) (by decide) ?_
      refine W.widen (k := 47 + 12 * (i + 1)) (n := 365 + 100 * (i + 1)) (by omega) (by omega) ?_
      obtain ⟨E, σ, κ, μ, ν, T, o, a1, a2, a3⟩ := hI
      exact hc H locs ls ⟨E, σ, κ, μ, ν, T, o, a1, by omega, a3⟩ hl
    · refine lv_tableOut (x := nI 28) (tgt := 1219) hx hb dL_law_39 (by decide) (by decide) ?_
      refine W.widen (k := 47 + 12 * (i + 1)) (n := 365 + 100 * (i + 1)) (by omega) (by omega) ?_
      obtain ⟨E, σ, κ, μ, ν, T, o, a1, a2, a3⟩ := hI
      exact hc H locs ls ⟨E, σ, κ, μ, ν, T, o, a1, by omega, a3⟩ hl
    · refine lv_tableOut (x := nI 29) (tgt := 1219) hx hb dL_law_39 (by decide) (by decide) ?_
      refine W.widen (k := 47 + 12 * (i + 1)) (n := 365 + 100 * (i + 1)) (by omega) (by omega) ?_
      obtain ⟨E, σ, κ, μ, ν, T, o, a1, a2, a3⟩ := hI
      exact hc H locs ls ⟨E, σ, κ, μ, ν, T, o, a1, by omega, a3⟩ hl
    · refine lv_tableOut (x := nI 30) (tgt := 1219) hx hb dL_law_39 (by decide) (by decide) ?_
      refine W.widen (k := 47 + 12 * (i + 1)) (n := 365 + 100 * (i + 1)) (by omega) (by omega) ?_
      obtain ⟨E, σ, κ, μ, ν, T, o, a1, a2, a3⟩ := hI
      exact hc H locs ls ⟨E, σ, κ, μ, ν, T, o, a1, by omega, a3⟩ hl
    · refine lv_tableOut (x := nI 31) (tgt := 1219) hx hb dL_law_39 (by decide) (by decide) ?_
      refine W.widen (k := 47 + 12 * (i + 1)) (n := 365 + 100 * (i + 1)) (by omega) (by omega) ?_
      obtain ⟨E, σ, κ, μ, ν, T, o, a1, a2, a3⟩ := hI
      exact hc H locs ls ⟨E, σ, κ, μ, ν, T, o, a1, by omega, a3⟩ hl

theorem va_AO_A {s : State} {b : Nat} (hts : ∀ w ∈ lw_tbl, w.before #[Value.ref b] s = true) : va_AOA .int s := hts _ q_aA
set_option maxHeartbeats 8000000 in
set_option maxRecDepth 100000 in
theorem whole_start {p : Program} {e : Env} {s : State} {m : MethodId} {below : List Frame} {meth : Method} {c : Code} (l : Launch) (hflags : l.flags = flags0) {b L : Nat} {xs : Nat → Int32} (hL : L ≤ 2048) (C0 : lw_At p s m meth c b L xs) : W p l e room_1 s m #[Value.ref b] below meth c s.heap [] 0 0 (lw_Z below #[Value.ref b] s) (entryFrame m ([Value.ref b] : List Value).toArray 9) := by
  obtain ⟨hx, hb, hr, hml, hown0, hts0, hXs, hbl, hlocks, hgv⟩ := id C0
  have hown : s.vm.findClass RL = some m.cls := hown0
  have hts : ∀ w ∈ wsL_law, w.before #[Value.ref b] s = true := fun w hw => hts0 w (wsL_law_in w hw)
  have hst := q_st hflags
  obtain ⟨G, hK⟩ := q_K hts0
  have hX : z_cx G s := ⟨hK, q_env hts0⟩
  have hZ : va_Nw (.castable "[I" "java/lang/Cloneable") s := va_Nw.of rfl (hts0 _ q_cl)
  have hTh := q_th hts0 hgv
  generalize hAe : (fun q : Nat => s.heap.size ≤ q) = z9A
  have hA : ∀ q : Nat, s.heap.size ≤ q → z9A q := fun q h => by rw [← hAe]; exact h
  have hA2 : ∀ q : Nat, z9A q → s.heap.size ≤ q := fun q h => by rw [← hAe] at h; exact h
  have hS : va_S z9A s.heap s.heap [] := va_S.rf
  have hl := lv_entry ([.ref b]) (n := 9) (Nat.le_of_ble_eq_true rfl)
  rw [lg_entry_eq]
  generalize (lg_sl ([.ref b]) ++ List.replicate (9 - (lg_sl ([.ref b])).length) Slot.unset).toArray = ls at hl ⊢
  have hl : lv_has ls 9 [(0, .ref b)] := hl
  refine va_new (ws := []) (ci := 4) (fs := [.null, .null, .null, .null, .null, .null, .int 0, .int 0, .int 0]) (C := RX4) (T := TX4) (N := 9) hx hb hts0 wsL_law_k4 tyX4 tyX4_ok hown (hts (.classLink RL 8 RX4) (by decide +kernel)) (hts (.instantiable RX4 9) (by decide +kernel)) (hts (.initialized RX4) (by decide +kernel)) hK z_P0 z_D0 hS hA rfl (fun j hj => by rcases (show j = 0 ∨ j = 1 ∨ j = 2 ∨ j = 3 ∨ j = 4 ∨ j = 5 ∨ j = 6 ∨ j = 7 ∨ j = 8 by omega) with rfl | rfl | rfl | rfl | rfl | rfl | rfl | rfl | rfl <;> rfl) (Nat.le_of_ble_eq_true rfl) (Nat.le_of_ble_eq_true rfl) dL_law_0 (fun q4 H hP hD hS => ?_)
  have hAq : z9A q4 := hD.2 0 _ rfl
  refine lv_dup hx hb dL_law_3 rfl ?_
  have hsz : s.heap.size ≤ H.size := hS.1
  refine z_calln (h0 := q4) (va_runI (As := []) (rest := [.ref q4]) ⟨hx, hb, hml, hown, hts⟩ (c_X4_init l G q4) (cwI 0 hts gL_law_X4_init rfl rfl rfl (hts (.initialized RX4) (by decide +kernel)) (hts (.methodLink RL 66 yX4_init) (by decide +kernel)) (hts (.instanceMethod yX4_init) (by decide +kernel)) rfl (by decide +kernel) ⟨Nat.le_of_ble_eq_true rfl, Nat.le_of_ble_eq_true rfl⟩) (z_pxS ⟨va_AO_A hts0, hts0 _ q_a3, hts0 _ q_a2⟩ hX hP) rfl rfl hl.1 rfl (lv_room (Nat.le_of_ble_eq_true rfl)) dL_law_4 ⟨Nat.le_of_ble_eq_true rfl, Nat.le_of_ble_eq_true rfl⟩) hS hAq (fun H1 locs hz9 hk9 hB hS => ?_)
  obtain ⟨ad, rfl, hinj, hnew, hP⟩ := hB
  have hadA : ∀ k, k < 36 → z9A (ad k) := fun k hk => by
    rcases Nat.eq_zero_or_pos k with q | q
    · rw [q]; exact hAq
    · exact hA _ (Nat.le_trans hsz (hnew k q hk))
  refine W.eq (g2 := F0 m 7 ls [.ref (ad 0)]) rfl ?_
  refine lv_astore_n (lv' := [(1, .ref (ad 0)), (0, .ref b)]) hx hb dL_law_7 rfl hl (by decide) rfl (fun ls hl => ?_)
  refine va_new (ws := (z_wC G ad z_s0 z_k0)) (ci := 5) (fs := [.int 0, .int 0, .null, .null, .null, .int 0, .null, .null, .int 0, .null, .null, .null, .null]) (C := RX5) (T := TX5) (N := 13) hx hb hts0 wsL_law_k5 tyX5 tyX5_ok hown (hts (.classLink RL 67 RX5) (by decide +kernel)) (hts (.instantiable RX5 13) (by decide +kernel)) (hts (.initialized RX5) (by decide +kernel)) hK hP (z_D hinj _ hadA) hS hA rfl (fun j hj => by rcases (show j = 0 ∨ j = 1 ∨ j = 2 ∨ j = 3 ∨ j = 4 ∨ j = 5 ∨ j = 6 ∨ j = 7 ∨ j = 8 ∨ j = 9 ∨ j = 10 ∨ j = 11 ∨ j = 12 by omega) with rfl | rfl | rfl | rfl | rfl | rfl | rfl | rfl | rfl | rfl | rfl | rfl | rfl <;> rfl) (Nat.le_of_ble_eq_true rfl) (Nat.le_of_ble_eq_true rfl) dL_law_8 (fun q5 H hP hD hS => ?_)
  have hne : ∀ k, k < 36 → ad k ≠ q5 := z_ne9 hD
  have hAq : z9A q5 := hD.2 36 _ z_apR
  obtain ⟨hPc, hP5⟩ := z_apP hP
  have hlt : ∀ k, k < 36 → ad k < H.size := fun k hk => (hPc k _ (z_w_at hk)).lt
  have hsz : s.heap.size ≤ H.size := hS.1
  refine lv_dup hx hb dL_law_11 rfl ?_
  refine z_calln (h0 := q5) (va_runI (As := []) (rest := [.ref q5]) ⟨hx, hb, hml, hown, hts⟩ (c_X5_init l G q5) (cwI 0 hts gL_law_X5_init rfl rfl rfl (hts (.initialized RX5) (by decide +kernel)) (hts (.methodLink RL 69 yX5_init) (by decide +kernel)) (hts (.instanceMethod yX5_init) (by decide +kernel)) rfl (by decide +kernel) ⟨Nat.le_of_ble_eq_true rfl, Nat.le_of_ble_eq_true rfl⟩) (z_prS hX hP5) rfl rfl hl.1 rfl (lv_room (Nat.le_of_ble_eq_true rfl)) dL_law_12 ⟨Nat.le_of_ble_eq_true rfl, Nat.le_of_ble_eq_true rfl⟩) hS hAq (fun H1 locs hz9 hk9 hB hS => ?_)
  obtain ⟨am, rfl, hinm, hnewm, hM⟩ := hB
  have hP : va_P (z_DD G) vwCl (z_wC G ad z_s0 z_k0) H1 := z_Pk hPc hk9 hne
  have hda : ∀ j k, j < 36 → k < 10 → ad j ≠ am k := fun j k hj hk h9 => by
    rcases Nat.eq_zero_or_pos k with q | q
    · rw [q] at h9; exact hne j hj h9
    · have h1 := hnewm k q hk
      have h2 := hlt j hj
      omega
  have hamA : ∀ k, k < 10 → z9A (am k) := fun k hk => by
    rcases Nat.eq_zero_or_pos k with q | q
    · rw [q]; exact hAq
    · exact hA _ (Nat.le_trans hsz (hnewm k q hk))
  refine W.eq (g2 := F0 m 15 ls [.ref (am 0)]) rfl ?_
  refine lv_astore_n (lv' := [(2, .ref (am 0)), (1, .ref (ad 0)), (0, .ref b)]) hx hb dL_law_15 rfl hl (by decide) rfl (fun ls hl => ?_)
  refine lv_iconst (v := nI 1) hx hb dL_law_16 (by decide) ?_
  have hD2 : va_D z9A (z_wC G ad z_s0 z_k0 ++ z_wM G am z_e0 z_k0) := va_D.app (z_D hinj _ hadA) (z_D hinm _ hamA) (fun i j p q h1 h2 => by obtain ⟨a1, rfl⟩ := z_w_of h1; obtain ⟨a2, rfl⟩ := z_w_of h2; exact hda i j a1 a2)
  refine va_newa (ws := z_wC G ad z_s0 z_k0 ++ z_wM G am z_e0 z_k0) (atype := .long) (ty := .long) (a0 := (1, .inr (.inl (fun _ => 0)))) hx hb (hts0 _ q_aL) rfl hK (hP.app hM) hD2 hS hA (fun _ => rfl) (by decide) (by decide) (by decide) (Nat.le_of_ble_eq_true rfl) (Nat.le_of_ble_eq_true rfl) dL_law_17 (fun ox cA H hKq hPq hDq hS => ?_)
  obtain rfl := z_raL hKq
  obtain ⟨hPP, hO⟩ := z_spl hPq
  obtain ⟨hP, hM⟩ := z_spl hPP
  have hox : ∀ k, k < 36 → ad k ≠ ox := fun k hk => z_neL hDq (k := k) (q := (ad k, z_cC G ad z_s0 z_k0 k)) (by rw [List.getElem?_append_left (by simp [z_w]; omega)]; exact z_w_at hk)
  have hom : ∀ k, k < 10 → am k ≠ ox := fun k hk => z_neL hDq (k := 36 + k) (q := (am k, z_cM G am z_e0 z_k0 k)) (by rw [List.getElem?_append_right (by simp [z_w])]; simp only [z_w, List.length_map, List.length_range]; rw [show 36 + k - 36 = k by omega]; exact z_w_at hk)
  have hoA : z9A ox := hDq.2 46 _ (by rw [List.getElem?_append_right (by simp [z_w])]; simp [z_w]; rfl)
  have hF : q_F G ad am ox s := ⟨hinj, hinm, hox, hom, hda, fun k hk => hA2 _ (hadA k hk), fun k hk => hA2 _ (hamA k hk), hA2 _ hoA, hX, hTh, hZ⟩
  refine lv_astore_n (lv' := [(3, .ref ox), (2, .ref (am 0)), (1, .ref (ad 0)), (0, .ref b)]) hx hb dL_law_19 rfl hl (by decide) rfl (fun ls hl => ?_)
  refine lv_iconst (v := nI 0) hx hb dL_law_20 (by decide) ?_
  refine lv_istore (lv' := [(4, .int (nI 0)), (3, .ref ox), (2, .ref (am 0)), (1, .ref (ad 0)), (0, .ref b)]) hx hb dL_law_21 hl (by decide) rfl (fun ls hl => ?_)
  have hS : va_S (fun q => s.heap.size ≤ q) s.heap H locs := by rw [hAe]; exact hS
  refine W.widen (k := 47 + 12 * 0) (n := 365 + 100 * 0) (by omega) (by omega) ?_
  refine q_loop hx hb hml hown hts hXs hbl hst hF hL (fun i H locs ls hi hI => ?_) (L + 1) 0 (by omega) (by omega) H locs ls ⟨r_E0, z_s0, z_k0, z_e0, z_k0, 0, 0, r_start, by omega, hP, hM, hO, hS⟩ (lv_sub hl [4, 3, 2, 1, 0] rfl)
  obtain ⟨_, _, _, _, _, _, _, -, -, -, -, -, hS⟩ := hI
  refine lv_iconst (v := 1) hx hb dL_law_1225 (by decide) ?_
  refine va_forget (fun q h => hS.2.2 q h) ?_
  refine W.widen (k := 601024) (n := 7293034) (by omega) (by omega) ?_
  refine W.base ?_
  exact lw_ret (Drawn.sameBut.refl s.drawn lw_cs) hx hb hr hlocks dL_law_1226
