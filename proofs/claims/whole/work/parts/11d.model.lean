/-! Part 11d: the reference: counts and days. -/
set_option maxHeartbeats 4000000 in
set_option maxRecDepth 100000 in
theorem c_X5_counted (l : Launch) (G : z_GT) (am : Nat → Nat) (x : Nat) (μ : Nat → Nat → Int32) (ν : Nat → Nat → Nat) (hy : y_wf μ ν) (w9 : Nat) (h9 : w9 < 9) : Met l yX5_counted wsX5_counted ({ frames := 3, cells := 1, slots := 9, locals := 67 } : Room) (z_Pr G [.ref (am 0), .ref x, .int (nI w9)] (z_wN G am x μ ν)) (z_Qm G (some (.int (y_cnt μ ν w9))) (z_wN G am x μ ν) (fun _ => False)) 1 9 (fun _ => False) := by
  refine Met.ofW (cc := cX5_counted) (maxL := 6) (ret := (some .int)) (by decide) rfl ?_
  intro p e s m args below meth c s₁ B hml hw0
  obtain ⟨rfl, hX, hP⟩ := hw0
  have hK := hX.1
  have hx := B.exec
  have hb := B.bytes
  have hr := B.returns
  have hts := atoms_spec (ws := wsX5_counted) B.pre
  have hown : s.vm.findClass RX5 = some m.cls := findClass_of_methodNamed B.named
  have hlocks := B.notSynchronized
  have hl := lv_entry ([.ref (am 0), .ref x, .int (nI w9)]) (n := 6) (Nat.le_of_ble_eq_true rfl)
  rw [lg_entry_eq]
  generalize (lg_sl ([.ref (am 0), .ref x, .int (nI w9)]) ++ List.replicate (6 - (lg_sl ([.ref (am 0), .ref x, .int (nI w9)])).length) Slot.unset).toArray = ls at hl ⊢
  have hl : lv_has ls 6 [(0, .ref (am 0)), (1, .ref x), (2, .int (nI w9))] := hl
  have hf_RX5_41 : (Cond.fieldLink RX5 41 "BlossomToursModel" "valleys" "I").before ([.ref (am 0), .ref x, .int (nI w9)] : List Value).toArray s = true := hts _ (by decide +kernel)
  have hf_RX5_48 : (Cond.fieldLink RX5 48 "BlossomToursModel" "tours" "I").before ([.ref (am 0), .ref x, .int (nI w9)] : List Value).toArray s = true := hts _ (by decide +kernel)
  have hf_RX5_59 : (Cond.fieldLink RX5 59 "BlossomToursModel" "roads" "I").before ([.ref (am 0), .ref x, .int (nI w9)] : List Value).toArray s = true := hts _ (by decide +kernel)
  have hi_RX5 : ∀ w ∈ u_ws RX5 TX5 13, w ∈ wsX5_counted := by decide +kernel
  have hm6 := hy.2.1
  have hn8 := hy.1
  refine lv_iconst (v := 0) hx hb dX5_counted_0 (by decide) ?_
  refine lv_istore_n (lv' := [(3, .int 0), (0, .ref (am 0)), (1, .ref x), (2, .int (nI w9))]) hx hb dX5_counted_1 rfl hl (by decide) rfl (fun ls hl => ?_)
  refine lv_iconst (v := 0) hx hb dX5_counted_2 (by decide) ?_
  refine lv_istore (lv' := [(4, .int 0), (3, .int 0), (0, .ref (am 0)), (1, .ref x), (2, .int (nI w9))]) hx hb dX5_counted_3 hl (by decide) rfl (fun ls hl => ?_)
  refine lv_iconst (v := nI 0) hx hb dX5_counted_5 (by decide) ?_
  refine lv_istore (lv' := [(5, .int (nI 0)), (4, .int 0), (3, .int 0), (0, .ref (am 0)), (1, .ref x), (2, .int (nI w9))]) hx hb dX5_counted_6 hl (by decide) rfl (fun ls hl => ?_)
  have lp8 : ∀ (fu8 : Nat) (i : Nat), i ≤ ν 0 0 → ν 0 0 < i + fu8 → ∀ (ls : Array Slot), lv_has ls 6 [(0, .ref (am 0)), (1, .ref x), (2, .int (nI w9)), (3, .int (z_sm (y_bn μ (μ 9 0)) i)), (4, .int 0), (5, .int (nI i))] → W p l e (headSpec wsX5_counted ({ frames := 3, cells := 1, slots := 9, locals := 67 } : Room)).room s m ([.ref (am 0), .ref x, .int (nI w9)] : List Value).toArray below meth c s.heap [] 0 0 (MQ below (z_Qm G (some (.int (y_cnt μ ν w9))) (z_wN G am x μ ν) (fun _ => False)) ([.ref (am 0), .ref x, .int (nI w9)] : List Value).toArray s 1 9 (fun _ => False)) (F0 m 8 ls []) := by
    intro fu8
    induction fu8 with
    | zero =>
      intro i h1 h2
      exfalso; omega
    | succ fu8 ih8 =>
      intro i h1 h2 ls hl
      refine lv_iload hx hb dX5_counted_8 (lv_at hl 5 rfl) ?_
      refine lv_aload_n hx hb dX5_counted_10 rfl (lv_at hl 0 rfl) ?_
      refine va_get (D := z_DD G) (ci := 5) (v := .int (nI (ν 0 0))) (C := RX5) (T := TX5) (N := 13) hx hb hts hi_RX5 hown hK hP 0 z_n0 rfl 1 (by decide) hf_RX5_41 (fun _ h9 => h9) rfl dX5_counted_11 ?_
      refine lv_icmp_ge (tgt := 43) hx hb dX5_counted_14 (by decide) (fun c14 => ?_) (fun c14 => ?_)
      · skip
        have hi : i = ν 0 0 := Nat.le_antisymm h1 (z_ge (by omega) (by omega) c14)
        rw [show (z_sm (y_bn μ (μ 9 0)) i : Int32) = z_sm (y_bn μ (μ 9 0)) (ν 0 0) from by rw [hi]] at hl
        refine lv_iconst (v := nI 0) hx hb dX5_counted_43 (by decide) ?_
        refine lv_istore (lv' := [(5, .int (nI 0)), (0, .ref (am 0)), (1, .ref x), (2, .int (nI w9)), (3, .int (z_sm (y_bn μ (μ 9 0)) (ν 0 0))), (4, .int 0)]) hx hb dX5_counted_44 hl (by decide) rfl (fun ls hl => ?_)
        have lp46 : ∀ (fu46 : Nat) (i : Nat), i ≤ ν 0 1 → ν 0 1 < i + fu46 → ∀ (ls : Array Slot), lv_has ls 6 [(0, .ref (am 0)), (1, .ref x), (2, .int (nI w9)), (3, .int (z_sm (y_bn μ (μ 9 0)) (ν 0 0))), (4, .int (z_sm (y_gn μ ν) i)), (5, .int (nI i))] → W p l e (headSpec wsX5_counted ({ frames := 3, cells := 1, slots := 9, locals := 67 } : Room)).room s m ([.ref (am 0), .ref x, .int (nI w9)] : List Value).toArray below meth c s.heap [] 0 0 (MQ below (z_Qm G (some (.int (y_cnt μ ν w9))) (z_wN G am x μ ν) (fun _ => False)) ([.ref (am 0), .ref x, .int (nI w9)] : List Value).toArray s 1 9 (fun _ => False)) (F0 m 46 ls []) := by
          intro fu46
          induction fu46 with
          | zero =>
            intro i h1 h2
            exfalso; omega
          | succ fu46 ih46 =>
            intro i h1 h2 ls hl
            refine lv_iload hx hb dX5_counted_46 (lv_at hl 5 rfl) ?_
            refine lv_aload_n hx hb dX5_counted_48 rfl (lv_at hl 0 rfl) ?_
            refine va_get (D := z_DD G) (ci := 5) (v := .int (nI (ν 0 1))) (C := RX5) (T := TX5) (N := 13) hx hb hts hi_RX5 hown hK hP 0 z_n0 rfl 8 (by decide) hf_RX5_48 (fun _ h9 => h9) rfl dX5_counted_49 ?_
            refine lv_icmp_ge (tgt := 80) hx hb dX5_counted_52 (by decide) (fun c52 => ?_) (fun c52 => ?_)
            · skip
              have hi : i = ν 0 1 := Nat.le_antisymm h1 (z_ge (by omega) (by omega) c52)
              rw [show (z_sm (y_gn μ ν) i : Int32) = z_sm (y_gn μ ν) (ν 0 1) from by rw [hi]] at hl
              refine lv_bipush (v := nI 9) hx hb dX5_counted_80 (by decide) ?_
              have hP0 := hP
              have hS : va_S (fun q => s.heap.size ≤ q) s.heap s.heap [] := va_S.rf
              refine va_newa (ws := []) (A := fun q => s.heap.size ≤ q) (atype := .int) (ty := .int) (a0 := (9, .inl (z_cf (y_cnt μ ν) 0))) hx hb (hts (.arrayClass .int) (by decide +kernel)) rfl hK z_P0 z_D0 hS (fun _ h9 => h9) (fun cA => z_cf0 cA _ 9) (by decide) (by decide) (by decide) (Nat.le_of_ble_eq_true rfl) (Nat.le_of_ble_eq_true rfl) dX5_counted_82 (fun q9 cA H hKq hPq hDq hS => ?_)
              have hP := z_kp hP0 hS
              refine lv_dup hx hb dX5_counted_84 rfl ?_
              refine lv_iconst (v := nI 0) hx hb dX5_counted_85 (by decide) ?_
              refine lv_aload_n hx hb dX5_counted_86 rfl (lv_at hl 1 rfl) ?_
              refine lv_iconst (v := 0) hx hb dX5_counted_87 (by decide) ?_
              refine z_iald (k := 0) (f := fun z9 => μ 9 z9) hx hb hK hP 9 0 z_n9 rfl (by decide) (by decide) dX5_counted_88 ?_
              refine va_iast (f := z_cf (y_cnt μ ν) 0) hx hb hKq hPq hDq hS 0 5 rfl rfl (i := nI 0) (x := y_cnt μ ν 0) (vp_in_nI (by decide) (by decide)) dX5_counted_89 (fun H locs hPq hDq hS => ?_)
              have hPq : va_P (z_DD G) vwCl [(q9, .inl (cA, 9, .inl (z_cf (y_cnt μ ν) 1)))] H := Eq.mp (congrArg (fun f => va_P (z_DD G) vwCl [(q9, .inl (cA, 9, .inl f))] H) (z_cfs (y_cnt μ ν) 0 (by decide))) hPq
              have hDq : va_D (fun q => s.heap.size ≤ q) [(q9, .inl (cA, 9, .inl (z_cf (y_cnt μ ν) 1)))] := Eq.mp (congrArg (fun f => va_D (fun q => s.heap.size ≤ q) [(q9, .inl (cA, 9, .inl f))]) (z_cfs (y_cnt μ ν) 0 (by decide))) hDq
              have hP := z_kp hP0 hS
              refine lv_dup hx hb dX5_counted_90 rfl ?_
              refine lv_iconst (v := nI 1) hx hb dX5_counted_91 (by decide) ?_
              refine lv_aload_n hx hb dX5_counted_92 rfl (lv_at hl 0 rfl) ?_
              refine va_get (D := z_DD G) (ci := 5) (v := .int (nI (ν 0 0))) (C := RX5) (T := TX5) (N := 13) hx hb hts hi_RX5 hown hK hP 0 z_n0 rfl 1 (by decide) hf_RX5_41 (fun _ h9 => h9) rfl dX5_counted_93 ?_
              refine va_iast (f := z_cf (y_cnt μ ν) 1) hx hb hKq hPq hDq hS 0 5 rfl rfl (i := nI 1) (x := y_cnt μ ν 1) (vp_in_nI (by decide) (by decide)) dX5_counted_96 (fun H locs hPq hDq hS => ?_)
              have hPq : va_P (z_DD G) vwCl [(q9, .inl (cA, 9, .inl (z_cf (y_cnt μ ν) 2)))] H := Eq.mp (congrArg (fun f => va_P (z_DD G) vwCl [(q9, .inl (cA, 9, .inl f))] H) (z_cfs (y_cnt μ ν) 1 (by decide))) hPq
              have hDq : va_D (fun q => s.heap.size ≤ q) [(q9, .inl (cA, 9, .inl (z_cf (y_cnt μ ν) 2)))] := Eq.mp (congrArg (fun f => va_D (fun q => s.heap.size ≤ q) [(q9, .inl (cA, 9, .inl f))]) (z_cfs (y_cnt μ ν) 1 (by decide))) hDq
              have hP := z_kp hP0 hS
              refine lv_dup hx hb dX5_counted_97 rfl ?_
              refine lv_iconst (v := nI 2) hx hb dX5_counted_98 (by decide) ?_
              refine lv_aload_n hx hb dX5_counted_99 rfl (lv_at hl 0 rfl) ?_
              refine va_get (D := z_DD G) (ci := 5) (v := .int (μ 8 0)) (C := RX5) (T := TX5) (N := 13) hx hb hts hi_RX5 hown hK hP 0 z_n0 rfl 5 (by decide) hf_RX5_59 (fun _ h9 => h9) rfl dX5_counted_100 ?_
              refine va_iast (f := z_cf (y_cnt μ ν) 2) hx hb hKq hPq hDq hS 0 5 rfl rfl (i := nI 2) (x := y_cnt μ ν 2) (vp_in_nI (by decide) (by decide)) dX5_counted_103 (fun H locs hPq hDq hS => ?_)
              have hPq : va_P (z_DD G) vwCl [(q9, .inl (cA, 9, .inl (z_cf (y_cnt μ ν) 3)))] H := Eq.mp (congrArg (fun f => va_P (z_DD G) vwCl [(q9, .inl (cA, 9, .inl f))] H) (z_cfs (y_cnt μ ν) 2 (by decide))) hPq
              have hDq : va_D (fun q => s.heap.size ≤ q) [(q9, .inl (cA, 9, .inl (z_cf (y_cnt μ ν) 3)))] := Eq.mp (congrArg (fun f => va_D (fun q => s.heap.size ≤ q) [(q9, .inl (cA, 9, .inl f))]) (z_cfs (y_cnt μ ν) 2 (by decide))) hDq
              have hP := z_kp hP0 hS
              refine lv_dup hx hb dX5_counted_104 rfl ?_
              refine lv_iconst (v := nI 3) hx hb dX5_counted_105 (by decide) ?_
              refine lv_aload_n hx hb dX5_counted_106 rfl (lv_at hl 0 rfl) ?_
              refine va_get (D := z_DD G) (ci := 5) (v := .int (nI (ν 0 1))) (C := RX5) (T := TX5) (N := 13) hx hb hts hi_RX5 hown hK hP 0 z_n0 rfl 8 (by decide) hf_RX5_48 (fun _ h9 => h9) rfl dX5_counted_107 ?_
              refine va_iast (f := z_cf (y_cnt μ ν) 3) hx hb hKq hPq hDq hS 0 5 rfl rfl (i := nI 3) (x := y_cnt μ ν 3) (vp_in_nI (by decide) (by decide)) dX5_counted_110 (fun H locs hPq hDq hS => ?_)
              have hPq : va_P (z_DD G) vwCl [(q9, .inl (cA, 9, .inl (z_cf (y_cnt μ ν) 4)))] H := Eq.mp (congrArg (fun f => va_P (z_DD G) vwCl [(q9, .inl (cA, 9, .inl f))] H) (z_cfs (y_cnt μ ν) 3 (by decide))) hPq
              have hDq : va_D (fun q => s.heap.size ≤ q) [(q9, .inl (cA, 9, .inl (z_cf (y_cnt μ ν) 4)))] := Eq.mp (congrArg (fun f => va_D (fun q => s.heap.size ≤ q) [(q9, .inl (cA, 9, .inl f))]) (z_cfs (y_cnt μ ν) 3 (by decide))) hDq
              have hP := z_kp hP0 hS
              refine lv_dup hx hb dX5_counted_111 rfl ?_
              refine lv_iconst (v := nI 4) hx hb dX5_counted_112 (by decide) ?_
              refine lv_iload hx hb dX5_counted_113 (lv_at hl 4 rfl) ?_
              refine va_iast (f := z_cf (y_cnt μ ν) 4) hx hb hKq hPq hDq hS 0 5 rfl rfl (i := nI 4) (x := y_cnt μ ν 4) (vp_in_nI (by decide) (by decide)) dX5_counted_115 (fun H locs hPq hDq hS => ?_)
              have hPq : va_P (z_DD G) vwCl [(q9, .inl (cA, 9, .inl (z_cf (y_cnt μ ν) 5)))] H := Eq.mp (congrArg (fun f => va_P (z_DD G) vwCl [(q9, .inl (cA, 9, .inl f))] H) (z_cfs (y_cnt μ ν) 4 (by decide))) hPq
              have hDq : va_D (fun q => s.heap.size ≤ q) [(q9, .inl (cA, 9, .inl (z_cf (y_cnt μ ν) 5)))] := Eq.mp (congrArg (fun f => va_D (fun q => s.heap.size ≤ q) [(q9, .inl (cA, 9, .inl f))]) (z_cfs (y_cnt μ ν) 4 (by decide))) hDq
              have hP := z_kp hP0 hS
              refine lv_dup hx hb dX5_counted_116 rfl ?_
              refine lv_iconst (v := nI 5) hx hb dX5_counted_117 (by decide) ?_
              refine lv_iload_n hx hb dX5_counted_118 rfl (lv_at hl 3 rfl) ?_
              refine va_iast (f := z_cf (y_cnt μ ν) 5) hx hb hKq hPq hDq hS 0 5 rfl rfl (i := nI 5) (x := y_cnt μ ν 5) (vp_in_nI (by decide) (by decide)) dX5_counted_119 (fun H locs hPq hDq hS => ?_)
              have hPq : va_P (z_DD G) vwCl [(q9, .inl (cA, 9, .inl (z_cf (y_cnt μ ν) 6)))] H := Eq.mp (congrArg (fun f => va_P (z_DD G) vwCl [(q9, .inl (cA, 9, .inl f))] H) (z_cfs (y_cnt μ ν) 5 (by decide))) hPq
              have hDq : va_D (fun q => s.heap.size ≤ q) [(q9, .inl (cA, 9, .inl (z_cf (y_cnt μ ν) 6)))] := Eq.mp (congrArg (fun f => va_D (fun q => s.heap.size ≤ q) [(q9, .inl (cA, 9, .inl f))]) (z_cfs (y_cnt μ ν) 5 (by decide))) hDq
              have hP := z_kp hP0 hS
              refine lv_dup hx hb dX5_counted_120 rfl ?_
              refine lv_bipush (v := nI 6) hx hb dX5_counted_121 (by decide) ?_
              refine lv_aload_n hx hb dX5_counted_123 rfl (lv_at hl 1 rfl) ?_
              refine lv_iconst (v := 1) hx hb dX5_counted_124 (by decide) ?_
              refine z_iald (k := 1) (f := fun z9 => μ 9 z9) hx hb hK hP 9 0 z_n9 rfl (by decide) (by decide) dX5_counted_125 ?_
              refine va_iast (f := z_cf (y_cnt μ ν) 6) hx hb hKq hPq hDq hS 0 5 rfl rfl (i := nI 6) (x := y_cnt μ ν 6) (vp_in_nI (by decide) (by decide)) dX5_counted_126 (fun H locs hPq hDq hS => ?_)
              have hPq : va_P (z_DD G) vwCl [(q9, .inl (cA, 9, .inl (z_cf (y_cnt μ ν) 7)))] H := Eq.mp (congrArg (fun f => va_P (z_DD G) vwCl [(q9, .inl (cA, 9, .inl f))] H) (z_cfs (y_cnt μ ν) 6 (by decide))) hPq
              have hDq : va_D (fun q => s.heap.size ≤ q) [(q9, .inl (cA, 9, .inl (z_cf (y_cnt μ ν) 7)))] := Eq.mp (congrArg (fun f => va_D (fun q => s.heap.size ≤ q) [(q9, .inl (cA, 9, .inl f))]) (z_cfs (y_cnt μ ν) 6 (by decide))) hDq
              have hP := z_kp hP0 hS
              refine lv_dup hx hb dX5_counted_127 rfl ?_
              refine lv_bipush (v := nI 7) hx hb dX5_counted_128 (by decide) ?_
              refine lv_aload_n hx hb dX5_counted_130 rfl (lv_at hl 1 rfl) ?_
              refine lv_iconst (v := 2) hx hb dX5_counted_131 (by decide) ?_
              refine z_iald (k := 2) (f := fun z9 => μ 9 z9) hx hb hK hP 9 0 z_n9 rfl (by decide) (by decide) dX5_counted_132 ?_
              refine va_iast (f := z_cf (y_cnt μ ν) 7) hx hb hKq hPq hDq hS 0 5 rfl rfl (i := nI 7) (x := y_cnt μ ν 7) (vp_in_nI (by decide) (by decide)) dX5_counted_133 (fun H locs hPq hDq hS => ?_)
              have hPq : va_P (z_DD G) vwCl [(q9, .inl (cA, 9, .inl (z_cf (y_cnt μ ν) 8)))] H := Eq.mp (congrArg (fun f => va_P (z_DD G) vwCl [(q9, .inl (cA, 9, .inl f))] H) (z_cfs (y_cnt μ ν) 7 (by decide))) hPq
              have hDq : va_D (fun q => s.heap.size ≤ q) [(q9, .inl (cA, 9, .inl (z_cf (y_cnt μ ν) 8)))] := Eq.mp (congrArg (fun f => va_D (fun q => s.heap.size ≤ q) [(q9, .inl (cA, 9, .inl f))]) (z_cfs (y_cnt μ ν) 7 (by decide))) hDq
              have hP := z_kp hP0 hS
              refine lv_dup hx hb dX5_counted_134 rfl ?_
              refine lv_bipush (v := nI 8) hx hb dX5_counted_135 (by decide) ?_
              refine lv_aload_n hx hb dX5_counted_137 rfl (lv_at hl 1 rfl) ?_
              refine lv_iconst (v := 3) hx hb dX5_counted_138 (by decide) ?_
              refine z_iald (k := 3) (f := fun z9 => μ 9 z9) hx hb hK hP 9 0 z_n9 rfl (by decide) (by decide) dX5_counted_139 ?_
              refine va_iast (f := z_cf (y_cnt μ ν) 8) hx hb hKq hPq hDq hS 0 5 rfl rfl (i := nI 8) (x := y_cnt μ ν 8) (vp_in_nI (by decide) (by decide)) dX5_counted_140 (fun H locs hPq hDq hS => ?_)
              have hPq : va_P (z_DD G) vwCl [(q9, .inl (cA, 9, .inl (z_cf (y_cnt μ ν) 9)))] H := Eq.mp (congrArg (fun f => va_P (z_DD G) vwCl [(q9, .inl (cA, 9, .inl f))] H) (z_cfs (y_cnt μ ν) 8 (by decide))) hPq
              have hDq : va_D (fun q => s.heap.size ≤ q) [(q9, .inl (cA, 9, .inl (z_cf (y_cnt μ ν) 9)))] := Eq.mp (congrArg (fun f => va_D (fun q => s.heap.size ≤ q) [(q9, .inl (cA, 9, .inl f))]) (z_cfs (y_cnt μ ν) 8 (by decide))) hDq
              have hP := z_kp hP0 hS
              refine lv_astore (lv' := [(5, .ref q9), (0, .ref (am 0)), (1, .ref x), (2, .int (nI w9)), (3, .int (z_sm (y_bn μ (μ 9 0)) (ν 0 0))), (4, .int (z_sm (y_gn μ ν) (ν 0 1)))]) hx hb dX5_counted_141 hl (by decide) rfl (fun ls hl => ?_)
              refine lv_aload hx hb dX5_counted_143 (lv_at hl 0 rfl) ?_
              refine lv_iload_n hx hb dX5_counted_145 rfl (lv_at hl 3 rfl) ?_
              refine va_iald (f := z_cf (y_cnt μ ν) 9) hx hb hKq hPq 0 5 rfl rfl (i := nI w9) (vp_in_nI h9 (by decide)) dX5_counted_146 ?_
              refine z_top (show Value.int (z_cf (y_cnt μ ν) 9 (nI w9).toNatClampNeg) = .int (y_cnt μ ν w9) from congrArg Value.int (z_cf9 _ h9)) ?_
              refine va_forget (fun q h8 => hS.2.2 q h8) ?_
              exact z_iret hx hb hr hlocks dX5_counted_147 (fun t ht hW => ⟨rfl, by rw [ht]; exact hP, by rw [ht]; exact hS.1, fun q h1 _ => by rw [ht]; exact hS.2.1 q h1 (Nat.not_le.mpr h1)⟩) (fun _ h8 => nomatch h8) rfl
            · skip
              have hi := z_ng (by omega) (by omega) c52
              refine lv_iload hx hb dX5_counted_55 (lv_at hl 4 rfl) ?_
              refine lv_aload_n hx hb dX5_counted_57 rfl (lv_at hl 0 rfl) ?_
              refine lv_iload hx hb dX5_counted_58 (lv_at hl 5 rfl) ?_
              refine z_call (va_runV (As := [.int (nI i)]) (rest := [.int (z_sm (y_gn μ ν) i)]) ⟨hx, hb, hml, hown, hts⟩ (c_X5_goes l G am x μ ν hy i (by omega)) (cwV 1 hts gX5_counted_X5_goes rfl rfl rfl (by decide +kernel) ⟨Nat.le_of_ble_eq_true rfl, Nat.le_of_ble_eq_true rfl⟩) (z_prV (ci := 5) (k := 0) hX hP rfl z_n0) rfl rfl hl.1 rfl (lv_room (Nat.le_of_ble_eq_true rfl)) dX5_counted_60 ⟨Nat.le_of_ble_eq_true rfl, Nat.le_of_ble_eq_true rfl⟩) (fun _ h9 => h9) ?_
              refine W.eq (g2 := F0 m 63 ls [.int (y_go μ ν i), .int (z_sm (y_gn μ ν) i)]) rfl ?_
              refine lv_if_eq (tgt := 70) hx hb dX5_counted_63 (by decide) (fun c63 => ?_) (fun c63 => ?_)
              · skip
                refine lv_iconst (v := 0) hx hb dX5_counted_70 (by decide) ?_
                refine lv_iadd hx hb dX5_counted_71 ?_
                refine lv_istore (lv' := [(4, .int ((z_sm (y_gn μ ν) i) + 0)), (0, .ref (am 0)), (1, .ref x), (2, .int (nI w9)), (3, .int (z_sm (y_bn μ (μ 9 0)) (ν 0 0))), (5, .int (nI i))]) hx hb dX5_counted_72 hl (by decide) rfl (fun ls hl => ?_)
                refine lv_iinc (v := nI (i + 1)) (lv' := [(5, .int (nI (i + 1))), (4, .int ((z_sm (y_gn μ ν) i) + 0)), (0, .ref (am 0)), (1, .ref x), (2, .int (nI w9)), (3, .int (z_sm (y_bn μ (μ 9 0)) (ν 0 0)))]) hx hb dX5_counted_74 hl (k := 5) rfl (z_inc _) (by decide) rfl (fun ls hl => ?_)
                refine lv_goto (tgt := 46) hx hb dX5_counted_77 (by decide) ?_
                -- back to 46
                rw [show ((z_sm (y_gn μ ν) i) + 0 : Int32) = z_sm (y_gn μ ν) (i + 1) from by first | (show _ = z_sm (y_gn μ ν) i + y_gn μ ν i; rw [y_gn, if_pos c63]; done) | (show _ = z_sm (y_gn μ ν) i + y_gn μ ν i; rw [y_gn, if_neg c63]; done)] at hl
                exact ih46 (i + 1) (by omega) (by omega) ls (lv_sub hl [2, 3, 4, 5, 1, 0] rfl)
              · skip
                refine lv_iconst (v := 1) hx hb dX5_counted_66 (by decide) ?_
                refine lv_goto (tgt := 71) hx hb dX5_counted_67 (by decide) ?_
                refine lv_iadd hx hb dX5_counted_71 ?_
                refine lv_istore (lv' := [(4, .int ((z_sm (y_gn μ ν) i) + 1)), (0, .ref (am 0)), (1, .ref x), (2, .int (nI w9)), (3, .int (z_sm (y_bn μ (μ 9 0)) (ν 0 0))), (5, .int (nI i))]) hx hb dX5_counted_72 hl (by decide) rfl (fun ls hl => ?_)
                refine lv_iinc (v := nI (i + 1)) (lv' := [(5, .int (nI (i + 1))), (4, .int ((z_sm (y_gn μ ν) i) + 1)), (0, .ref (am 0)), (1, .ref x), (2, .int (nI w9)), (3, .int (z_sm (y_bn μ (μ 9 0)) (ν 0 0)))]) hx hb dX5_counted_74 hl (k := 5) rfl (z_inc _) (by decide) rfl (fun ls hl => ?_)
                refine lv_goto (tgt := 46) hx hb dX5_counted_77 (by decide) ?_
                -- back to 46
                rw [show ((z_sm (y_gn μ ν) i) + 1 : Int32) = z_sm (y_gn μ ν) (i + 1) from by first | (show _ = z_sm (y_gn μ ν) i + y_gn μ ν i; rw [y_gn, if_pos c63]; done) | (show _ = z_sm (y_gn μ ν) i + y_gn μ ν i; rw [y_gn, if_neg c63]; done)] at hl
                exact ih46 (i + 1) (by omega) (by omega) ls (lv_sub hl [2, 3, 4, 5, 1, 0] rfl)
        rw [show (0 : Int32) = z_sm (y_gn μ ν) 0 from by rfl] at hl
        exact lp46 (ν 0 1 + 1) 0 (by omega) (by omega) ls (lv_sub hl [1, 2, 3, 4, 5, 0] rfl)
      · skip
        have hi := z_ng (by omega) (by omega) c14
        refine lv_iload_n hx hb dX5_counted_17 rfl (lv_at hl 3 rfl) ?_
        refine lv_aload_n hx hb dX5_counted_18 rfl (lv_at hl 0 rfl) ?_
        refine lv_iload hx hb dX5_counted_19 (lv_at hl 5 rfl) ?_
        refine lv_aload_n hx hb dX5_counted_21 rfl (lv_at hl 1 rfl) ?_
        refine lv_iconst (v := 0) hx hb dX5_counted_22 (by decide) ?_
        refine z_iald (k := 0) (f := fun z9 => μ 9 z9) hx hb hK hP 9 0 z_n9 rfl (by decide) (by decide) dX5_counted_23 ?_
        refine z_call (va_runV (As := [.int (nI i), .int (μ 9 0)]) (rest := [.int (z_sm (y_bn μ (μ 9 0)) i)]) ⟨hx, hb, hml, hown, hts⟩ (c_X5_blooms l G am x μ ν i (μ 9 0) (by omega) (hy.2.2.2.2.1 i hi)) (cwV 2 hts gX5_counted_X5_blooms rfl rfl rfl (by decide +kernel) ⟨Nat.le_of_ble_eq_true rfl, Nat.le_of_ble_eq_true rfl⟩) (z_prV (ci := 5) (k := 0) hX hP rfl z_n0) rfl rfl hl.1 rfl (lv_room (Nat.le_of_ble_eq_true rfl)) dX5_counted_24 ⟨Nat.le_of_ble_eq_true rfl, Nat.le_of_ble_eq_true rfl⟩) (fun _ h9 => h9) ?_
        refine W.eq (g2 := F0 m 27 ls [.int (y_bl (μ 0 i) (μ 1 i) (μ 9 0)), .int (z_sm (y_bn μ (μ 9 0)) i)]) rfl ?_
        refine lv_if_le (tgt := 34) hx hb dX5_counted_27 (by decide) (fun c27 => ?_) (fun c27 => ?_)
        · skip
          refine lv_iconst (v := 0) hx hb dX5_counted_34 (by decide) ?_
          refine lv_iadd hx hb dX5_counted_35 ?_
          refine lv_istore_n (lv' := [(3, .int ((z_sm (y_bn μ (μ 9 0)) i) + 0)), (0, .ref (am 0)), (1, .ref x), (2, .int (nI w9)), (4, .int 0), (5, .int (nI i))]) hx hb dX5_counted_36 rfl hl (by decide) rfl (fun ls hl => ?_)
          refine lv_iinc (v := nI (i + 1)) (lv' := [(5, .int (nI (i + 1))), (3, .int ((z_sm (y_bn μ (μ 9 0)) i) + 0)), (0, .ref (am 0)), (1, .ref x), (2, .int (nI w9)), (4, .int 0)]) hx hb dX5_counted_37 hl (k := 5) rfl (z_inc _) (by decide) rfl (fun ls hl => ?_)
          refine lv_goto (tgt := 8) hx hb dX5_counted_40 (by decide) ?_
          -- back to 8
          rw [show ((z_sm (y_bn μ (μ 9 0)) i) + 0 : Int32) = z_sm (y_bn μ (μ 9 0)) (i + 1) from by first | (show _ = z_sm (y_bn μ (μ 9 0)) i + y_bn μ (μ 9 0) i; rw [y_bn, if_pos c27]; done) | (show _ = z_sm (y_bn μ (μ 9 0)) i + y_bn μ (μ 9 0) i; rw [y_bn, if_neg c27]; done)] at hl
          exact ih8 (i + 1) (by omega) (by omega) ls (lv_sub hl [2, 3, 4, 1, 5, 0] rfl)
        · skip
          refine lv_iconst (v := 1) hx hb dX5_counted_30 (by decide) ?_
          refine lv_goto (tgt := 35) hx hb dX5_counted_31 (by decide) ?_
          refine lv_iadd hx hb dX5_counted_35 ?_
          refine lv_istore_n (lv' := [(3, .int ((z_sm (y_bn μ (μ 9 0)) i) + 1)), (0, .ref (am 0)), (1, .ref x), (2, .int (nI w9)), (4, .int 0), (5, .int (nI i))]) hx hb dX5_counted_36 rfl hl (by decide) rfl (fun ls hl => ?_)
          refine lv_iinc (v := nI (i + 1)) (lv' := [(5, .int (nI (i + 1))), (3, .int ((z_sm (y_bn μ (μ 9 0)) i) + 1)), (0, .ref (am 0)), (1, .ref x), (2, .int (nI w9)), (4, .int 0)]) hx hb dX5_counted_37 hl (k := 5) rfl (z_inc _) (by decide) rfl (fun ls hl => ?_)
          refine lv_goto (tgt := 8) hx hb dX5_counted_40 (by decide) ?_
          -- back to 8
          rw [show ((z_sm (y_bn μ (μ 9 0)) i) + 1 : Int32) = z_sm (y_bn μ (μ 9 0)) (i + 1) from by first | (show _ = z_sm (y_bn μ (μ 9 0)) i + y_bn μ (μ 9 0) i; rw [y_bn, if_pos c27]; done) | (show _ = z_sm (y_bn μ (μ 9 0)) i + y_bn μ (μ 9 0) i; rw [y_bn, if_neg c27]; done)] at hl
          exact ih8 (i + 1) (by omega) (by omega) ls (lv_sub hl [2, 3, 4, 1, 5, 0] rfl)
  rw [show (0 : Int32) = z_sm (y_bn μ (μ 9 0)) 0 from by rfl] at hl
  exact lp8 (ν 0 0 + 1) 0 (by omega) (by omega) ls (lv_sub hl [3, 4, 5, 2, 1, 0] rfl)

set_option maxHeartbeats 4000000 in
set_option maxRecDepth 100000 in
theorem c_X5_pass (l : Launch) (G : z_GT) (am : Nat → Nat) (x : Nat) (μ : Nat → Nat → Int32) (ν : Nat → Nat → Nat) (hinj : ∀ i j, i < 10 → j < 10 → (fun k => if k = 9 then x else am k) i = (fun k => if k = 9 then x else am k) j → i = j) (hy : y_wf μ ν) (d : Nat) (hd9 : μ 9 0 = nI d) (hd : d < 2 ^ 31) : Met l yX5_pass wsX5_pass ({ frames := 5, cells := 0, slots := 0, locals := 114 } : Room) (z_Pr G [.ref (am 0), .ref x] (z_wN G am x μ ν)) (z_Qm G none (z_wN G am x (y_d1 μ ν d) ν) (z_A 10 (fun k => if k = 9 then x else am k))) 0 0 (z_A 10 (fun k => if k = 9 then x else am k)) := by
  refine Met.ofW (cc := cX5_pass) (maxL := 4) (ret := none) (by decide) rfl ?_
  intro p e s m args below meth c s₁ B hml hw0
  obtain ⟨rfl, hX, hP⟩ := hw0
  have hK := hX.1
  have hx := B.exec
  have hb := B.bytes
  have hr := B.returns
  have hts := atoms_spec (ws := wsX5_pass) B.pre
  have hown : s.vm.findClass RX5 = some m.cls := findClass_of_methodNamed B.named
  have hlocks := B.notSynchronized
  have hl := lv_entry ([.ref (am 0), .ref x]) (n := 4) (Nat.le_of_ble_eq_true rfl)
  rw [lg_entry_eq]
  generalize (lg_sl ([.ref (am 0), .ref x]) ++ List.replicate (4 - (lg_sl ([.ref (am 0), .ref x])).length) Slot.unset).toArray = ls at hl ⊢
  have hl : lv_has ls 4 [(0, .ref (am 0)), (1, .ref x)] := hl
  have hf_RX5_22 : (Cond.fieldLink RX5 22 "BlossomToursModel" "heat" "[I").before ([.ref (am 0), .ref x] : List Value).toArray s = true := hts _ (by decide +kernel)
  have hf_RX5_25 : (Cond.fieldLink RX5 25 "BlossomToursModel" "tourists" "[I").before ([.ref (am 0), .ref x] : List Value).toArray s = true := hts _ (by decide +kernel)
  have hf_RX5_48 : (Cond.fieldLink RX5 48 "BlossomToursModel" "tours" "I").before ([.ref (am 0), .ref x] : List Value).toArray s = true := hts _ (by decide +kernel)
  have hi_RX5 : ∀ w ∈ u_ws RX5 TX5 13, w ∈ wsX5_pass := by decide +kernel
  have hm6 := hy.2.1
  have hS : va_S (z_A 10 (fun k => if k = 9 then x else am k)) s.heap s.heap [] := va_S.rf
  have hD := z_Dm hinj (z_cM G am μ ν)
  refine lv_iconst (v := nI 0) hx hb dX5_pass_0 (by decide) ?_
  refine lv_istore_n (lv' := [(2, .int (nI 0)), (0, .ref (am 0)), (1, .ref x)]) hx hb dX5_pass_1 rfl hl (by decide) rfl (fun ls hl => ?_)
  have lp2 : ∀ (fu2 : Nat) (t : Nat), t ≤ ν 0 1 → ν 0 1 < t + fu2 → ∀ (H : Heap) (locs : List Loc), va_P (z_DD G) vwCl (z_wN G am x (y_n3 μ (μ 9 1 + z_sm (y_fc μ ν d) t) (μ 9 2 + z_sm (y_fj μ ν d) t) (μ 9 3 + z_sm (y_fs μ ν d) t)) ν) H → va_S (z_A 10 (fun k => if k = 9 then x else am k)) s.heap H locs → ∀ (ls : Array Slot), lv_has ls 4 [(0, .ref (am 0)), (1, .ref x), (2, .int (nI t))] → W p l e (headSpec wsX5_pass ({ frames := 5, cells := 0, slots := 0, locals := 114 } : Room)).room s m ([.ref (am 0), .ref x] : List Value).toArray below meth c H locs 0 0 (MQ below (z_Qm G none (z_wN G am x (y_d1 μ ν d) ν) (z_A 10 (fun k => if k = 9 then x else am k))) ([.ref (am 0), .ref x] : List Value).toArray s 0 0 (z_A 10 (fun k => if k = 9 then x else am k))) (F0 m 2 ls []) := by
    intro fu2
    induction fu2 with
    | zero =>
      intro t h1 h2
      exfalso; omega
    | succ fu2 ih2 =>
      intro t h1 h2 H locs hP hS ls hl
      have hD := z_Dm hinj (z_cM G am (y_n3 μ (μ 9 1 + z_sm (y_fc μ ν d) t) (μ 9 2 + z_sm (y_fj μ ν d) t) (μ 9 3 + z_sm (y_fs μ ν d) t)) ν)
      refine lv_iload_n hx hb dX5_pass_2 rfl (lv_at hl 2 rfl) ?_
      refine lv_aload_n hx hb dX5_pass_3 rfl (lv_at hl 0 rfl) ?_
      refine va_get (D := z_DD G) (ci := 5) (v := .int (nI (ν 0 1))) (C := RX5) (T := TX5) (N := 13) hx hb hts hi_RX5 hown hK hP 0 z_n0 rfl 8 (by decide) hf_RX5_48 (fun _ h9 => h9) rfl dX5_pass_4 ?_
      refine lv_icmp_ge (tgt := 96) hx hb dX5_pass_7 (by decide) (fun c7 => ?_) (fun c7 => ?_)
      · skip
        have hi : t = ν 0 1 := Nat.le_antisymm h1 (z_ge (by omega) (by omega) c7)
        refine lv_aload_n hx hb dX5_pass_96 rfl (lv_at hl 1 rfl) ?_
        refine lv_iconst (v := 0) hx hb dX5_pass_97 (by decide) ?_
        refine lv_dup2_11 hx hb dX5_pass_98 rfl rfl ?_
        refine z_iald (k := 0) (f := fun z9 => (y_n3 μ (μ 9 1 + z_sm (y_fc μ ν d) t) (μ 9 2 + z_sm (y_fj μ ν d) t) (μ 9 3 + z_sm (y_fs μ ν d) t)) 9 z9) hx hb hK hP 9 0 z_n9 rfl (by decide) (by decide) dX5_pass_99 ?_
        refine z_top (show (.int ((y_n3 μ (μ 9 1 + z_sm (y_fc μ ν d) t) (μ 9 2 + z_sm (y_fj μ ν d) t) (μ 9 3 + z_sm (y_fs μ ν d) t)) 9 0) : Value) = .int (nI d) from by (show Value.int (μ 9 0) = _; rw [hd9])) ?_
        refine lv_iconst (v := 1) hx hb dX5_pass_100 (by decide) ?_
        refine lv_iadd hx hb dX5_pass_101 ?_
        refine z_top (show (.int ((nI d) + 1) : Value) = .int (nI (d + 1)) from by (show Value.int (nI d + 1) = _; rw [nI_1])) ?_
        refine va_iast (f := fun z9 => (y_n3 μ (μ 9 1 + z_sm (y_fc μ ν d) t) (μ 9 2 + z_sm (y_fj μ ν d) t) (μ 9 3 + z_sm (y_fs μ ν d) t)) 9 z9) hx hb hK hP hD hS 9 0 z_n9 rfl (vp_in_nI (by decide) (by omega)) dX5_pass_102 (fun H locs hP hD hS => ?_)
        have hP : va_P (z_DD G) vwCl (z_wN G am x (z_up (y_n3 μ (μ 9 1 + z_sm (y_fc μ ν d) t) (μ 9 2 + z_sm (y_fj μ ν d) t) (μ 9 3 + z_sm (y_fs μ ν d) t)) 9 0 (nI (d + 1))) ν) H := Eq.mp (congrArg (fun w => va_P (z_DD G) vwCl w H) (z_sN9 (by omega))) hP
        have hD := z_Dm hinj (z_cM G am (z_up (y_n3 μ (μ 9 1 + z_sm (y_fc μ ν d) t) (μ 9 2 + z_sm (y_fj μ ν d) t) (μ 9 3 + z_sm (y_fs μ ν d) t)) 9 0 (nI (d + 1))) ν)
        have hPf : va_P (z_DD G) vwCl (z_wN G am x (y_d1 μ ν d) ν) H := by rw [hi, y_n3_day] at hP; exact hP
        exact W.vret hx hb hr (fun t ht hW => ⟨rfl, by rw [ht]; exact hPf, hS.F ht⟩) hS.2.2 dX5_pass_103
      · skip
        have hi := z_ng (by omega) (by omega) c7
        refine lv_aload_n hx hb dX5_pass_10 rfl (lv_at hl 0 rfl) ?_
        refine lv_iload_n hx hb dX5_pass_11 rfl (lv_at hl 2 rfl) ?_
        refine z_call (va_runV (As := [.int (nI t)]) (rest := []) ⟨hx, hb, hml, hown, hts⟩ (c_X5_goes l G am x (y_n3 μ (μ 9 1 + z_sm (y_fc μ ν d) t) (μ 9 2 + z_sm (y_fj μ ν d) t) (μ 9 3 + z_sm (y_fs μ ν d) t)) ν hy t (by omega)) (cwV 1 hts gX5_pass_X5_goes rfl rfl rfl (by decide +kernel) ⟨Nat.le_of_ble_eq_true rfl, Nat.le_of_ble_eq_true rfl⟩) (z_prV (ci := 5) (k := 0) hX hP rfl z_n0) rfl rfl hl.1 rfl (lv_room (Nat.le_of_ble_eq_true rfl)) dX5_pass_12 ⟨Nat.le_of_ble_eq_true rfl, Nat.le_of_ble_eq_true rfl⟩) (fun _ h9 => h9) ?_
        refine W.eq (g2 := F0 m 15 ls [.int (y_go (y_n3 μ (μ 9 1 + z_sm (y_fc μ ν d) t) (μ 9 2 + z_sm (y_fj μ ν d) t) (μ 9 3 + z_sm (y_fs μ ν d) t)) ν t)]) rfl ?_
        refine z_top (show (.int (y_go (y_n3 μ (μ 9 1 + z_sm (y_fc μ ν d) t) (μ 9 2 + z_sm (y_fj μ ν d) t) (μ 9 3 + z_sm (y_fs μ ν d) t)) ν t) : Value) = .int (y_go μ ν t) from by rfl) ?_
        refine lv_if_ne (tgt := 21) hx hb dX5_pass_15 (by decide) (fun c15 => ?_) (fun c15 => ?_)
        · skip
          refine lv_aload_n hx hb dX5_pass_21 rfl (lv_at hl 0 rfl) ?_
          refine lv_iload_n hx hb dX5_pass_22 rfl (lv_at hl 2 rfl) ?_
          refine lv_aload_n hx hb dX5_pass_23 rfl (lv_at hl 1 rfl) ?_
          refine lv_iconst (v := 0) hx hb dX5_pass_24 (by decide) ?_
          refine z_iald (k := 0) (f := fun z9 => (y_n3 μ (μ 9 1 + z_sm (y_fc μ ν d) t) (μ 9 2 + z_sm (y_fj μ ν d) t) (μ 9 3 + z_sm (y_fs μ ν d) t)) 9 z9) hx hb hK hP 9 0 z_n9 rfl (by decide) (by decide) dX5_pass_25 ?_
          refine z_top (show (.int ((y_n3 μ (μ 9 1 + z_sm (y_fc μ ν d) t) (μ 9 2 + z_sm (y_fj μ ν d) t) (μ 9 3 + z_sm (y_fs μ ν d) t)) 9 0) : Value) = .int (nI d) from by (show Value.int (μ 9 0) = _; rw [hd9])) ?_
          refine z_call (va_runV (As := [.int (nI t), .int (nI d)]) (rest := []) ⟨hx, hb, hml, hown, hts⟩ (c_X5_joyOf l G am x (y_n3 μ (μ 9 1 + z_sm (y_fc μ ν d) t) (μ 9 2 + z_sm (y_fj μ ν d) t) (μ 9 3 + z_sm (y_fs μ ν d) t)) ν hy t (by omega) (nI d)) (cwV 2 hts gX5_pass_X5_joyOf rfl rfl rfl (by decide +kernel) ⟨Nat.le_of_ble_eq_true rfl, Nat.le_of_ble_eq_true rfl⟩) (z_prV (ci := 5) (k := 0) hX hP rfl z_n0) rfl rfl hl.1 rfl (lv_room (Nat.le_of_ble_eq_true rfl)) dX5_pass_26 ⟨Nat.le_of_ble_eq_true rfl, Nat.le_of_ble_eq_true rfl⟩) (fun _ h9 => h9) ?_
          refine W.eq (g2 := F0 m 29 ls [.int (y_joy (y_n3 μ (μ 9 1 + z_sm (y_fc μ ν d) t) (μ 9 2 + z_sm (y_fj μ ν d) t) (μ 9 3 + z_sm (y_fs μ ν d) t)) ν t (nI d))]) rfl ?_
          refine z_top (show (.int (y_joy (y_n3 μ (μ 9 1 + z_sm (y_fc μ ν d) t) (μ 9 2 + z_sm (y_fj μ ν d) t) (μ 9 3 + z_sm (y_fs μ ν d) t)) ν t (nI d)) : Value) = .int (y_joy μ ν t (nI d)) from by rfl) ?_
          refine lv_istore_n (lv' := [(3, .int (y_joy μ ν t (nI d))), (0, .ref (am 0)), (1, .ref x), (2, .int (nI t))]) hx hb dX5_pass_29 rfl hl (by decide) rfl (fun ls hl => ?_)
          refine lv_aload_n hx hb dX5_pass_30 rfl (lv_at hl 2 rfl) ?_
          refine lv_iconst (v := 1) hx hb dX5_pass_31 (by decide) ?_
          refine lv_dup2_11 hx hb dX5_pass_32 rfl rfl ?_
          refine z_iald (k := 1) (f := fun z9 => (y_n3 μ (μ 9 1 + z_sm (y_fc μ ν d) t) (μ 9 2 + z_sm (y_fj μ ν d) t) (μ 9 3 + z_sm (y_fs μ ν d) t)) 9 z9) hx hb hK hP 9 0 z_n9 rfl (by decide) (by decide) dX5_pass_33 ?_
          refine z_top (show (.int ((y_n3 μ (μ 9 1 + z_sm (y_fc μ ν d) t) (μ 9 2 + z_sm (y_fj μ ν d) t) (μ 9 3 + z_sm (y_fs μ ν d) t)) 9 1) : Value) = .int (μ 9 1 + z_sm (y_fc μ ν d) t) from by rfl) ?_
          refine lv_iload_n hx hb dX5_pass_34 rfl (lv_at hl 0 rfl) ?_
          refine lv_aload_n hx hb dX5_pass_35 rfl (lv_at hl 1 rfl) ?_
          refine va_get (D := z_DD G) (ci := 5) (v := .ref (am 6)) (C := RX5) (T := TX5) (N := 13) hx hb hts hi_RX5 hown hK hP 0 z_n0 rfl 9 (by decide) hf_RX5_25 (fun _ h9 => h9) rfl dX5_pass_36 ?_
          refine lv_iload_n hx hb dX5_pass_39 rfl (lv_at hl 3 rfl) ?_
          refine z_iald (k := t) (f := fun z9 => (y_n3 μ (μ 9 1 + z_sm (y_fc μ ν d) t) (μ 9 2 + z_sm (y_fj μ ν d) t) (μ 9 3 + z_sm (y_fs μ ν d) t)) 5 z9) hx hb hK hP 6 0 z_n6 rfl (by omega) (by decide) dX5_pass_40 ?_
          refine z_top (show (.int ((y_n3 μ (μ 9 1 + z_sm (y_fc μ ν d) t) (μ 9 2 + z_sm (y_fj μ ν d) t) (μ 9 3 + z_sm (y_fs μ ν d) t)) 5 t) : Value) = .int (μ 5 t) from by rfl) ?_
          refine lv_imul hx hb dX5_pass_41 ?_
          refine lv_bipush (v := 100) hx hb dX5_pass_42 (by decide) ?_
          refine lv_idiv hx hb dX5_pass_44 (by decide) ?_
          refine lv_aload_n hx hb dX5_pass_45 rfl (lv_at hl 1 rfl) ?_
          refine va_get (D := z_DD G) (ci := 5) (v := .ref (am 6)) (C := RX5) (T := TX5) (N := 13) hx hb hts hi_RX5 hown hK hP 0 z_n0 rfl 9 (by decide) hf_RX5_25 (fun _ h9 => h9) rfl dX5_pass_46 ?_
          refine lv_iload_n hx hb dX5_pass_49 rfl (lv_at hl 3 rfl) ?_
          refine z_iald (k := t) (f := fun z9 => (y_n3 μ (μ 9 1 + z_sm (y_fc μ ν d) t) (μ 9 2 + z_sm (y_fj μ ν d) t) (μ 9 3 + z_sm (y_fs μ ν d) t)) 5 z9) hx hb hK hP 6 0 z_n6 rfl (by omega) (by decide) dX5_pass_50 ?_
          refine z_top (show (.int ((y_n3 μ (μ 9 1 + z_sm (y_fc μ ν d) t) (μ 9 2 + z_sm (y_fj μ ν d) t) (μ 9 3 + z_sm (y_fs μ ν d) t)) 5 t) : Value) = .int (μ 5 t) from by rfl) ?_
          refine lv_aload_n hx hb dX5_pass_51 rfl (lv_at hl 1 rfl) ?_
          refine va_get (D := z_DD G) (ci := 5) (v := .ref (am 5)) (C := RX5) (T := TX5) (N := 13) hx hb hts hi_RX5 hown hK hP 0 z_n0 rfl 7 (by decide) hf_RX5_22 (fun _ h9 => h9) rfl dX5_pass_52 ?_
          refine lv_aload_n hx hb dX5_pass_55 rfl (lv_at hl 2 rfl) ?_
          refine lv_iconst (v := 0) hx hb dX5_pass_56 (by decide) ?_
          refine z_iald (k := 0) (f := fun z9 => (y_n3 μ (μ 9 1 + z_sm (y_fc μ ν d) t) (μ 9 2 + z_sm (y_fj μ ν d) t) (μ 9 3 + z_sm (y_fs μ ν d) t)) 9 z9) hx hb hK hP 9 0 z_n9 rfl (by decide) (by decide) dX5_pass_57 ?_
          refine z_top (show (.int ((y_n3 μ (μ 9 1 + z_sm (y_fc μ ν d) t) (μ 9 2 + z_sm (y_fj μ ν d) t) (μ 9 3 + z_sm (y_fs μ ν d) t)) 9 0) : Value) = .int (nI d) from by (show Value.int (μ 9 0) = _; rw [hd9])) ?_
          refine lv_bipush (v := 10) hx hb dX5_pass_58 (by decide) ?_
          refine lv_irem hx hb dX5_pass_60 (by decide) ?_
          refine z_top (show (.int ((nI d) - (nI d) / 10 * 10) : Value) = .int (nI (d % 10)) from by exact congrArg Value.int (pk_rem (d := 10) hd (by decide) (by decide))) ?_
          refine z_iald (k := (d % 10)) (f := fun z9 => (y_n3 μ (μ 9 1 + z_sm (y_fc μ ν d) t) (μ 9 2 + z_sm (y_fj μ ν d) t) (μ 9 3 + z_sm (y_fs μ ν d) t)) 7 z9) hx hb hK hP 5 0 z_n5 rfl (Nat.mod_lt _ (by decide)) (by decide) dX5_pass_61 ?_
          refine z_top (show (.int ((y_n3 μ (μ 9 1 + z_sm (y_fc μ ν d) t) (μ 9 2 + z_sm (y_fj μ ν d) t) (μ 9 3 + z_sm (y_fs μ ν d) t)) 7 (d % 10)) : Value) = .int (μ 7 (d % 10)) from by rfl) ?_
          refine lv_imul hx hb dX5_pass_62 ?_
          refine lv_bipush (v := 40) hx hb dX5_pass_63 (by decide) ?_
          refine lv_idiv hx hb dX5_pass_65 (by decide) ?_
          refine lv_iadd hx hb dX5_pass_66 ?_
          refine lv_iadd hx hb dX5_pass_67 ?_
          refine va_iast (f := fun z9 => (y_n3 μ (μ 9 1 + z_sm (y_fc μ ν d) t) (μ 9 2 + z_sm (y_fj μ ν d) t) (μ 9 3 + z_sm (y_fs μ ν d) t)) 9 z9) hx hb hK hP hD hS 9 0 z_n9 rfl (vp_in_nI (by decide) (by omega)) dX5_pass_68 (fun H locs hP hD hS => ?_)
          have hP : va_P (z_DD G) vwCl (z_wN G am x (z_up (y_n3 μ (μ 9 1 + z_sm (y_fc μ ν d) t) (μ 9 2 + z_sm (y_fj μ ν d) t) (μ 9 3 + z_sm (y_fs μ ν d) t)) 9 1 ((μ 9 1 + z_sm (y_fc μ ν d) t) + ((((y_joy μ ν t (nI d)) * (μ 5 t)) / 100) + (((μ 5 t) * (μ 7 (d % 10))) / 40)))) ν) H := Eq.mp (congrArg (fun w => va_P (z_DD G) vwCl w H) (z_sN9 (by omega))) hP
          have hD := z_Dm hinj (z_cM G am (z_up (y_n3 μ (μ 9 1 + z_sm (y_fc μ ν d) t) (μ 9 2 + z_sm (y_fj μ ν d) t) (μ 9 3 + z_sm (y_fs μ ν d) t)) 9 1 ((μ 9 1 + z_sm (y_fc μ ν d) t) + ((((y_joy μ ν t (nI d)) * (μ 5 t)) / 100) + (((μ 5 t) * (μ 7 (d % 10))) / 40)))) ν)
          refine lv_aload_n hx hb dX5_pass_69 rfl (lv_at hl 2 rfl) ?_
          refine lv_iconst (v := 2) hx hb dX5_pass_70 (by decide) ?_
          refine lv_dup2_11 hx hb dX5_pass_71 rfl rfl ?_
          refine z_iald (k := 2) (f := fun z9 => (z_up (y_n3 μ (μ 9 1 + z_sm (y_fc μ ν d) t) (μ 9 2 + z_sm (y_fj μ ν d) t) (μ 9 3 + z_sm (y_fs μ ν d) t)) 9 1 ((μ 9 1 + z_sm (y_fc μ ν d) t) + ((((y_joy μ ν t (nI d)) * (μ 5 t)) / 100) + (((μ 5 t) * (μ 7 (d % 10))) / 40)))) 9 z9) hx hb hK hP 9 0 z_n9 rfl (by decide) (by decide) dX5_pass_72 ?_
          refine z_top (show (.int ((z_up (y_n3 μ (μ 9 1 + z_sm (y_fc μ ν d) t) (μ 9 2 + z_sm (y_fj μ ν d) t) (μ 9 3 + z_sm (y_fs μ ν d) t)) 9 1 ((μ 9 1 + z_sm (y_fc μ ν d) t) + ((((y_joy μ ν t (nI d)) * (μ 5 t)) / 100) + (((μ 5 t) * (μ 7 (d % 10))) / 40)))) 9 2) : Value) = .int (μ 9 2 + z_sm (y_fj μ ν d) t) from by rfl) ?_
          refine lv_iload_n hx hb dX5_pass_73 rfl (lv_at hl 0 rfl) ?_
          refine lv_iadd hx hb dX5_pass_74 ?_
          refine va_iast (f := fun z9 => (z_up (y_n3 μ (μ 9 1 + z_sm (y_fc μ ν d) t) (μ 9 2 + z_sm (y_fj μ ν d) t) (μ 9 3 + z_sm (y_fs μ ν d) t)) 9 1 ((μ 9 1 + z_sm (y_fc μ ν d) t) + ((((y_joy μ ν t (nI d)) * (μ 5 t)) / 100) + (((μ 5 t) * (μ 7 (d % 10))) / 40)))) 9 z9) hx hb hK hP hD hS 9 0 z_n9 rfl (vp_in_nI (by decide) (by omega)) dX5_pass_75 (fun H locs hP hD hS => ?_)
          have hP : va_P (z_DD G) vwCl (z_wN G am x (z_up (z_up (y_n3 μ (μ 9 1 + z_sm (y_fc μ ν d) t) (μ 9 2 + z_sm (y_fj μ ν d) t) (μ 9 3 + z_sm (y_fs μ ν d) t)) 9 1 ((μ 9 1 + z_sm (y_fc μ ν d) t) + ((((y_joy μ ν t (nI d)) * (μ 5 t)) / 100) + (((μ 5 t) * (μ 7 (d % 10))) / 40)))) 9 2 ((μ 9 2 + z_sm (y_fj μ ν d) t) + (y_joy μ ν t (nI d)))) ν) H := Eq.mp (congrArg (fun w => va_P (z_DD G) vwCl w H) (z_sN9 (by omega))) hP
          have hD := z_Dm hinj (z_cM G am (z_up (z_up (y_n3 μ (μ 9 1 + z_sm (y_fc μ ν d) t) (μ 9 2 + z_sm (y_fj μ ν d) t) (μ 9 3 + z_sm (y_fs μ ν d) t)) 9 1 ((μ 9 1 + z_sm (y_fc μ ν d) t) + ((((y_joy μ ν t (nI d)) * (μ 5 t)) / 100) + (((μ 5 t) * (μ 7 (d % 10))) / 40)))) 9 2 ((μ 9 2 + z_sm (y_fj μ ν d) t) + (y_joy μ ν t (nI d)))) ν)
          refine lv_aload_n hx hb dX5_pass_76 rfl (lv_at hl 2 rfl) ?_
          refine lv_iconst (v := 3) hx hb dX5_pass_77 (by decide) ?_
          refine lv_dup2_11 hx hb dX5_pass_78 rfl rfl ?_
          refine z_iald (k := 3) (f := fun z9 => (z_up (z_up (y_n3 μ (μ 9 1 + z_sm (y_fc μ ν d) t) (μ 9 2 + z_sm (y_fj μ ν d) t) (μ 9 3 + z_sm (y_fs μ ν d) t)) 9 1 ((μ 9 1 + z_sm (y_fc μ ν d) t) + ((((y_joy μ ν t (nI d)) * (μ 5 t)) / 100) + (((μ 5 t) * (μ 7 (d % 10))) / 40)))) 9 2 ((μ 9 2 + z_sm (y_fj μ ν d) t) + (y_joy μ ν t (nI d)))) 9 z9) hx hb hK hP 9 0 z_n9 rfl (by decide) (by decide) dX5_pass_79 ?_
          refine z_top (show (.int ((z_up (z_up (y_n3 μ (μ 9 1 + z_sm (y_fc μ ν d) t) (μ 9 2 + z_sm (y_fj μ ν d) t) (μ 9 3 + z_sm (y_fs μ ν d) t)) 9 1 ((μ 9 1 + z_sm (y_fc μ ν d) t) + ((((y_joy μ ν t (nI d)) * (μ 5 t)) / 100) + (((μ 5 t) * (μ 7 (d % 10))) / 40)))) 9 2 ((μ 9 2 + z_sm (y_fj μ ν d) t) + (y_joy μ ν t (nI d)))) 9 3) : Value) = .int (μ 9 3 + z_sm (y_fs μ ν d) t) from by rfl) ?_
          refine lv_aload_n hx hb dX5_pass_80 rfl (lv_at hl 1 rfl) ?_
          refine lv_iload_n hx hb dX5_pass_81 rfl (lv_at hl 3 rfl) ?_
          refine lv_aload_n hx hb dX5_pass_82 rfl (lv_at hl 2 rfl) ?_
          refine lv_iconst (v := 0) hx hb dX5_pass_83 (by decide) ?_
          refine z_iald (k := 0) (f := fun z9 => (z_up (z_up (y_n3 μ (μ 9 1 + z_sm (y_fc μ ν d) t) (μ 9 2 + z_sm (y_fj μ ν d) t) (μ 9 3 + z_sm (y_fs μ ν d) t)) 9 1 ((μ 9 1 + z_sm (y_fc μ ν d) t) + ((((y_joy μ ν t (nI d)) * (μ 5 t)) / 100) + (((μ 5 t) * (μ 7 (d % 10))) / 40)))) 9 2 ((μ 9 2 + z_sm (y_fj μ ν d) t) + (y_joy μ ν t (nI d)))) 9 z9) hx hb hK hP 9 0 z_n9 rfl (by decide) (by decide) dX5_pass_84 ?_
          refine z_top (show (.int ((z_up (z_up (y_n3 μ (μ 9 1 + z_sm (y_fc μ ν d) t) (μ 9 2 + z_sm (y_fj μ ν d) t) (μ 9 3 + z_sm (y_fs μ ν d) t)) 9 1 ((μ 9 1 + z_sm (y_fc μ ν d) t) + ((((y_joy μ ν t (nI d)) * (μ 5 t)) / 100) + (((μ 5 t) * (μ 7 (d % 10))) / 40)))) 9 2 ((μ 9 2 + z_sm (y_fj μ ν d) t) + (y_joy μ ν t (nI d)))) 9 0) : Value) = .int (nI d) from by (show Value.int (μ 9 0) = _; rw [hd9])) ?_
          refine z_call (va_runV (As := [.int (nI t), .int (nI d)]) (rest := [.int (μ 9 3 + z_sm (y_fs μ ν d) t), .int 3, .ref x]) ⟨hx, hb, hml, hown, hts⟩ (c_X5_stingsOf l G am x (z_up (z_up (y_n3 μ (μ 9 1 + z_sm (y_fc μ ν d) t) (μ 9 2 + z_sm (y_fj μ ν d) t) (μ 9 3 + z_sm (y_fs μ ν d) t)) 9 1 ((μ 9 1 + z_sm (y_fc μ ν d) t) + ((((y_joy μ ν t (nI d)) * (μ 5 t)) / 100) + (((μ 5 t) * (μ 7 (d % 10))) / 40)))) 9 2 ((μ 9 2 + z_sm (y_fj μ ν d) t) + (y_joy μ ν t (nI d)))) ν hy t (by omega) (nI d)) (cwV 2 hts gX5_pass_X5_stingsOf rfl rfl rfl (by decide +kernel) ⟨Nat.le_of_ble_eq_true rfl, Nat.le_of_ble_eq_true rfl⟩) (z_prV (ci := 5) (k := 0) hX hP rfl z_n0) rfl rfl hl.1 rfl (lv_room (Nat.le_of_ble_eq_true rfl)) dX5_pass_85 ⟨Nat.le_of_ble_eq_true rfl, Nat.le_of_ble_eq_true rfl⟩) (fun _ h9 => h9) ?_
          refine W.eq (g2 := F0 m 88 ls [.int (y_stg (z_up (z_up (y_n3 μ (μ 9 1 + z_sm (y_fc μ ν d) t) (μ 9 2 + z_sm (y_fj μ ν d) t) (μ 9 3 + z_sm (y_fs μ ν d) t)) 9 1 ((μ 9 1 + z_sm (y_fc μ ν d) t) + ((((y_joy μ ν t (nI d)) * (μ 5 t)) / 100) + (((μ 5 t) * (μ 7 (d % 10))) / 40)))) 9 2 ((μ 9 2 + z_sm (y_fj μ ν d) t) + (y_joy μ ν t (nI d)))) ν t (nI d)), .int (μ 9 3 + z_sm (y_fs μ ν d) t), .int 3, .ref x]) rfl ?_
          refine z_top (show (.int (y_stg (z_up (z_up (y_n3 μ (μ 9 1 + z_sm (y_fc μ ν d) t) (μ 9 2 + z_sm (y_fj μ ν d) t) (μ 9 3 + z_sm (y_fs μ ν d) t)) 9 1 ((μ 9 1 + z_sm (y_fc μ ν d) t) + ((((y_joy μ ν t (nI d)) * (μ 5 t)) / 100) + (((μ 5 t) * (μ 7 (d % 10))) / 40)))) 9 2 ((μ 9 2 + z_sm (y_fj μ ν d) t) + (y_joy μ ν t (nI d)))) ν t (nI d)) : Value) = .int (y_stg μ ν t (nI d)) from by rfl) ?_
          refine lv_iadd hx hb dX5_pass_88 ?_
          refine va_iast (f := fun z9 => (z_up (z_up (y_n3 μ (μ 9 1 + z_sm (y_fc μ ν d) t) (μ 9 2 + z_sm (y_fj μ ν d) t) (μ 9 3 + z_sm (y_fs μ ν d) t)) 9 1 ((μ 9 1 + z_sm (y_fc μ ν d) t) + ((((y_joy μ ν t (nI d)) * (μ 5 t)) / 100) + (((μ 5 t) * (μ 7 (d % 10))) / 40)))) 9 2 ((μ 9 2 + z_sm (y_fj μ ν d) t) + (y_joy μ ν t (nI d)))) 9 z9) hx hb hK hP hD hS 9 0 z_n9 rfl (vp_in_nI (by decide) (by omega)) dX5_pass_89 (fun H locs hP hD hS => ?_)
          have hP : va_P (z_DD G) vwCl (z_wN G am x (z_up (z_up (z_up (y_n3 μ (μ 9 1 + z_sm (y_fc μ ν d) t) (μ 9 2 + z_sm (y_fj μ ν d) t) (μ 9 3 + z_sm (y_fs μ ν d) t)) 9 1 ((μ 9 1 + z_sm (y_fc μ ν d) t) + ((((y_joy μ ν t (nI d)) * (μ 5 t)) / 100) + (((μ 5 t) * (μ 7 (d % 10))) / 40)))) 9 2 ((μ 9 2 + z_sm (y_fj μ ν d) t) + (y_joy μ ν t (nI d)))) 9 3 ((μ 9 3 + z_sm (y_fs μ ν d) t) + (y_stg μ ν t (nI d)))) ν) H := Eq.mp (congrArg (fun w => va_P (z_DD G) vwCl w H) (z_sN9 (by omega))) hP
          have hD := z_Dm hinj (z_cM G am (z_up (z_up (z_up (y_n3 μ (μ 9 1 + z_sm (y_fc μ ν d) t) (μ 9 2 + z_sm (y_fj μ ν d) t) (μ 9 3 + z_sm (y_fs μ ν d) t)) 9 1 ((μ 9 1 + z_sm (y_fc μ ν d) t) + ((((y_joy μ ν t (nI d)) * (μ 5 t)) / 100) + (((μ 5 t) * (μ 7 (d % 10))) / 40)))) 9 2 ((μ 9 2 + z_sm (y_fj μ ν d) t) + (y_joy μ ν t (nI d)))) 9 3 ((μ 9 3 + z_sm (y_fs μ ν d) t) + (y_stg μ ν t (nI d)))) ν)
          refine lv_iinc (v := nI (t + 1)) (lv' := [(2, .int (nI (t + 1))), (3, .int (y_joy μ ν t (nI d))), (0, .ref (am 0)), (1, .ref x)]) hx hb dX5_pass_90 hl (k := 3) rfl (z_inc _) (by decide) rfl (fun ls hl => ?_)
          refine lv_goto (tgt := 2) hx hb dX5_pass_93 (by decide) ?_
          -- back to 2
          have hP : va_P (z_DD G) vwCl (z_wN G am x (y_n3 μ (μ 9 1 + z_sm (y_fc μ ν d) (t + 1)) (μ 9 2 + z_sm (y_fj μ ν d) (t + 1)) (μ 9 3 + z_sm (y_fs μ ν d) (t + 1))) ν) H := by 
            have e1 : y_fc μ ν d t = y_joy μ ν t (nI d) * μ 5 t / 100 + μ 5 t * μ 7 (d % 10) / 40 := if_neg c15
            have e2 : y_fj μ ν d t = y_joy μ ν t (nI d) := if_neg c15
            have e3 : y_fs μ ν d t = y_stg μ ν t (nI d) := if_neg c15
            have e0 : (z_up (z_up (z_up (y_n3 μ (μ 9 1 + z_sm (y_fc μ ν d) t) (μ 9 2 + z_sm (y_fj μ ν d) t) (μ 9 3 + z_sm (y_fs μ ν d) t)) 9 1 ((μ 9 1 + z_sm (y_fc μ ν d) t) + ((((y_joy μ ν t (nI d)) * (μ 5 t)) / 100) + (((μ 5 t) * (μ 7 (d % 10))) / 40)))) 9 2 ((μ 9 2 + z_sm (y_fj μ ν d) t) + (y_joy μ ν t (nI d)))) 9 3 ((μ 9 3 + z_sm (y_fs μ ν d) t) + (y_stg μ ν t (nI d)))) = (y_n3 μ (μ 9 1 + z_sm (y_fc μ ν d) (t + 1)) (μ 9 2 + z_sm (y_fj μ ν d) (t + 1)) (μ 9 3 + z_sm (y_fs μ ν d) (t + 1))) := (y_n3_up μ _ _ _ _ _ _).trans (congr (congr (congrArg (y_n3 μ) (z_acc _ _ e1.symm)) (z_acc _ _ e2.symm)) (z_acc _ _ e3.symm))
            rw [← e0]
            exact hP
          exact ih2 (t + 1) (by omega) (by omega) _ _ hP hS ls (lv_sub hl [2, 3, 0] rfl)
        · skip
          refine lv_goto (tgt := 90) hx hb dX5_pass_18 (by decide) ?_
          refine lv_iinc (v := nI (t + 1)) (lv' := [(2, .int (nI (t + 1))), (0, .ref (am 0)), (1, .ref x)]) hx hb dX5_pass_90 hl (k := 2) rfl (z_inc _) (by decide) rfl (fun ls hl => ?_)
          refine lv_goto (tgt := 2) hx hb dX5_pass_93 (by decide) ?_
          -- back to 2
          have hP : va_P (z_DD G) vwCl (z_wN G am x (y_n3 μ (μ 9 1 + z_sm (y_fc μ ν d) (t + 1)) (μ 9 2 + z_sm (y_fj μ ν d) (t + 1)) (μ 9 3 + z_sm (y_fs μ ν d) (t + 1))) ν) H := by 
            have e1 : z_sm (y_fc μ ν d) (t + 1) = z_sm (y_fc μ ν d) t := by show _ + y_fc μ ν d t = _; rw [y_fc, if_pos c15, Int32.add_zero]
            have e2 : z_sm (y_fj μ ν d) (t + 1) = z_sm (y_fj μ ν d) t := by show _ + y_fj μ ν d t = _; rw [y_fj, if_pos c15, Int32.add_zero]
            have e3 : z_sm (y_fs μ ν d) (t + 1) = z_sm (y_fs μ ν d) t := by show _ + y_fs μ ν d t = _; rw [y_fs, if_pos c15, Int32.add_zero]
            rw [e1, e2, e3]
            exact hP
          exact ih2 (t + 1) (by omega) (by omega) _ _ hP hS ls (lv_sub hl [1, 2, 0] rfl)
  have hP : va_P (z_DD G) vwCl (z_wN G am x (y_n3 μ (μ 9 1 + z_sm (y_fc μ ν d) 0) (μ 9 2 + z_sm (y_fj μ ν d) 0) (μ 9 3 + z_sm (y_fs μ ν d) 0)) ν) s.heap := by show va_P (z_DD G) vwCl (z_wN G am x (y_n3 μ (μ 9 1 + 0) (μ 9 2 + 0) (μ 9 3 + 0)) ν) s.heap; rw [Int32.add_zero, Int32.add_zero, Int32.add_zero, y_n3_id]; exact hP
  exact lp2 (ν 0 1 + 1) 0 (by omega) (by omega) _ _ hP hS ls (lv_sub hl [1, 2, 0] rfl)

set_option maxHeartbeats 4000000 in
set_option maxRecDepth 100000 in
theorem c_X5_count (l : Launch) (G : z_GT) (am : Nat → Nat) (μ : Nat → Nat → Int32) (ν : Nat → Nat → Nat) (hinj : ∀ i j, i < 10 → j < 10 → am i = am j → i = j) (hy : y_wf μ ν) (w9 : Nat) (h9 : w9 < 9) : Met l yX5_count wsX5_count ({ frames := 4, cells := 1, slots := 9, locals := 92 } : Room) (z_Pr G [.ref (am 0), .int (nI w9)] (z_wM G am μ ν)) (z_Qm G (some (.int (y_cnt (z_up μ 8 1 0) ν w9))) (z_wM G am (z_up μ 8 1 0) ν) (z_A 10 am)) 1 9 (z_A 10 am) := by
  refine Met.ofW (cc := cX5_count) (maxL := 2) (ret := (some .int)) (by decide) rfl ?_
  intro p e s m args below meth c s₁ B hml hw0
  obtain ⟨rfl, hX, hP⟩ := hw0
  have hK := hX.1
  have hx := B.exec
  have hb := B.bytes
  have hr := B.returns
  have hts := atoms_spec (ws := wsX5_count) B.pre
  have hown : s.vm.findClass RX5 = some m.cls := findClass_of_methodNamed B.named
  have hlocks := B.notSynchronized
  have hl := lv_entry ([.ref (am 0), .int (nI w9)]) (n := 2) (Nat.le_of_ble_eq_true rfl)
  rw [lg_entry_eq]
  generalize (lg_sl ([.ref (am 0), .int (nI w9)]) ++ List.replicate (2 - (lg_sl ([.ref (am 0), .int (nI w9)])).length) Slot.unset).toArray = ls at hl ⊢
  have hl : lv_has ls 2 [(0, .ref (am 0)), (1, .int (nI w9))] := hl
  have hf_RX5_34 : (Cond.fieldLink RX5 34 "BlossomToursModel" "numbers" "[I").before ([.ref (am 0), .int (nI w9)] : List Value).toArray s = true := hts _ (by decide +kernel)
  have hf_RX5_37 : (Cond.fieldLink RX5 37 "BlossomToursModel" "thrown" "I").before ([.ref (am 0), .int (nI w9)] : List Value).toArray s = true := hts _ (by decide +kernel)
  have hi_RX5 : ∀ w ∈ u_ws RX5 TX5 13, w ∈ wsX5_count := by decide +kernel
  have hS : va_S (z_A 10 am) s.heap s.heap [] := va_S.rf
  have hD := z_Dm hinj (z_cM G am μ ν)
  refine lv_aload_n hx hb dX5_count_0 rfl (lv_at hl 0 rfl) ?_
  refine lv_iconst (v := 0) hx hb dX5_count_1 (by decide) ?_
  refine va_put (D := z_DD G) (ci := 5) (v := .int 0) (ty := .int) (C := RX5) (T := TX5) (N := 13) hx hb hts hi_RX5 tyX5 tyX5_ok nmX5 hown hK hP hD hS 0 z_m0 rfl 0 (by decide) hf_RX5_37 (fun _ h9 => h9) rfl (by decide +kernel) rfl rfl (Nat.le_of_ble_eq_true rfl) dX5_count_2 (fun H locs hP hD hS => ?_)
  have hP : va_P (z_DD G) vwCl (z_wM G am (z_up μ 8 1 0) ν) H := Eq.mp (congrArg (fun w => va_P (z_DD G) vwCl w H) z_tM0) hP
  have hD := z_Dm hinj (z_cM G am (z_up μ 8 1 0) ν)
  refine lv_iload_n hx hb dX5_count_5 rfl (lv_at hl 1 rfl) ?_
  refine lv_iconst (v := 0) hx hb dX5_count_6 (by decide) ?_
  refine lv_bipush (v := nI 9 - 1) hx hb dX5_count_7 (by decide) ?_
  refine z_call (va_runS (As := [.int (nI w9), .int 0, .int (nI 9 - 1)]) (rest := []) ⟨hx, hb, hml, hown, hts⟩ (c_X5_isIn l G (nI w9) 0 (nI 9 - 1)) (va_cwS 3 hts gX5_count_X5_isIn rfl rfl rfl (by decide +kernel) ⟨Nat.le_of_ble_eq_true rfl, Nat.le_of_ble_eq_true rfl⟩) (z_prS hX z_P0) rfl rfl hl.1 rfl (lv_room (Nat.le_of_ble_eq_true rfl)) dX5_count_9 ⟨Nat.le_of_ble_eq_true rfl, Nat.le_of_ble_eq_true rfl⟩) (fun _ h9 => h9) ?_
  refine W.eq (g2 := F0 m 12 ls [.int (z_wi (nI w9) 0 (nI 9 - 1))]) rfl ?_
  refine lv_if_eq (tgt := 27) hx hb dX5_count_12 (by decide) (fun c12 => ?_) (fun c12 => ?_)
  · skip
    exact absurd c12 (z_iv_t h9 (by omega))
  · skip
    refine lv_aload_n hx hb dX5_count_15 rfl (lv_at hl 0 rfl) ?_
    refine lv_aload_n hx hb dX5_count_16 rfl (lv_at hl 0 rfl) ?_
    refine va_get (D := z_DD G) (ci := 5) (v := .ref (am 9)) (C := RX5) (T := TX5) (N := 13) hx hb hts hi_RX5 hown hK hP 0 z_m0 rfl 12 (by decide) hf_RX5_34 (fun _ h9 => h9) rfl dX5_count_17 ?_
    refine lv_iload_n hx hb dX5_count_20 rfl (lv_at hl 1 rfl) ?_
    refine z_callm (va_runV (As := [.ref (am 9), .int (nI w9)]) (rest := []) ⟨hx, hb, hml, hown, hts⟩ (c_X5_counted l G am (am 9) (z_up μ 8 1 0) ν hy w9 h9) (cwV 2 hts gX5_count_X5_counted rfl rfl rfl (by decide +kernel) ⟨Nat.le_of_ble_eq_true rfl, Nat.le_of_ble_eq_true rfl⟩) (z_prW (ci := 5) (k := 0) hX hP (z_NM hP) rfl z_m0) rfl rfl hl.1 rfl (lv_room (Nat.le_of_ble_eq_true rfl)) dX5_count_21 ⟨Nat.le_of_ble_eq_true rfl, Nat.le_of_ble_eq_true rfl⟩) hS (fun _ _ h8 => h8.elim) (fun _ h8 => h8.elim) (fun H locs hP hz9 hk9 hS => ?_)
    have hP := z_MN hP
    have hD := z_Dm hinj (z_cM G am (z_up μ 8 1 0) ν)
    refine W.eq (g2 := F0 m 24 ls [.int (y_cnt (z_up μ 8 1 0) ν w9)]) rfl ?_
    refine lv_goto (tgt := 32) hx hb dX5_count_24 (by decide) ?_
    have hPf : va_P (z_DD G) vwCl (z_wM G am (z_up μ 8 1 0) ν) H := by exact hP
    refine z_iret hx hb hr hlocks dX5_count_32 (fun t ht hW => ⟨rfl, by rw [ht]; exact hPf, hS.F ht⟩) hS.2.2 ?_
    rfl

set_option maxHeartbeats 4000000 in
set_option maxRecDepth 100000 in
theorem x_X5_count_1 (l : Launch) (G : z_GT) (am : Nat → Nat) (μ : Nat → Nat → Int32) (ν : Nat → Nat → Nat) (hinj : ∀ i j, i < 10 → j < 10 → am i = am j → i = j) (w : Int32) (h : w < 0 ∨ ¬ w < nI 9) : Met l yX5_count wsX5_count ({ frames := 4, cells := 1, slots := 9, locals := 92 } : Room) (z_Pr G [.ref (am 0), .int w] (z_wM G am μ ν)) (z_Qm G (some (.int 0)) (z_wM G am (y_no μ 1) ν) (z_A 10 am)) 1 9 (z_A 10 am) := by
  refine Met.ofW (cc := cX5_count) (maxL := 2) (ret := (some .int)) (by decide) rfl ?_
  intro p e s m args below meth c s₁ B hml hw0
  obtain ⟨rfl, hX, hP⟩ := hw0
  have hK := hX.1
  have hx := B.exec
  have hb := B.bytes
  have hr := B.returns
  have hts := atoms_spec (ws := wsX5_count) B.pre
  have hown : s.vm.findClass RX5 = some m.cls := findClass_of_methodNamed B.named
  have hlocks := B.notSynchronized
  have hl := lv_entry ([.ref (am 0), .int w]) (n := 2) (Nat.le_of_ble_eq_true rfl)
  rw [lg_entry_eq]
  generalize (lg_sl ([.ref (am 0), .int w]) ++ List.replicate (2 - (lg_sl ([.ref (am 0), .int w])).length) Slot.unset).toArray = ls at hl ⊢
  have hl : lv_has ls 2 [(0, .ref (am 0)), (1, .int w)] := hl
  have hf_RX5_37 : (Cond.fieldLink RX5 37 "BlossomToursModel" "thrown" "I").before ([.ref (am 0), .int w] : List Value).toArray s = true := hts _ (by decide +kernel)
  have hi_RX5 : ∀ w ∈ u_ws RX5 TX5 13, w ∈ wsX5_count := by decide +kernel
  have hS : va_S (z_A 10 am) s.heap s.heap [] := va_S.rf
  have hD := z_Dm hinj (z_cM G am μ ν)
  refine lv_aload_n hx hb dX5_count_0 rfl (lv_at hl 0 rfl) ?_
  refine lv_iconst (v := 0) hx hb dX5_count_1 (by decide) ?_
  refine va_put (D := z_DD G) (ci := 5) (v := .int 0) (ty := .int) (C := RX5) (T := TX5) (N := 13) hx hb hts hi_RX5 tyX5 tyX5_ok nmX5 hown hK hP hD hS 0 z_m0 rfl 0 (by decide) hf_RX5_37 (fun _ h9 => h9) rfl (by decide +kernel) rfl rfl (Nat.le_of_ble_eq_true rfl) dX5_count_2 (fun H locs hP hD hS => ?_)
  have hP : va_P (z_DD G) vwCl (z_wM G am (z_up μ 8 1 0) ν) H := Eq.mp (congrArg (fun w => va_P (z_DD G) vwCl w H) z_tM0) hP
  have hD := z_Dm hinj (z_cM G am (z_up μ 8 1 0) ν)
  refine lv_iload_n hx hb dX5_count_5 rfl (lv_at hl 1 rfl) ?_
  refine lv_iconst (v := 0) hx hb dX5_count_6 (by decide) ?_
  refine lv_bipush (v := nI 9 - 1) hx hb dX5_count_7 (by decide) ?_
  refine z_call (va_runS (As := [.int w, .int 0, .int (nI 9 - 1)]) (rest := []) ⟨hx, hb, hml, hown, hts⟩ (c_X5_isIn l G w 0 (nI 9 - 1)) (va_cwS 3 hts gX5_count_X5_isIn rfl rfl rfl (by decide +kernel) ⟨Nat.le_of_ble_eq_true rfl, Nat.le_of_ble_eq_true rfl⟩) (z_prS hX z_P0) rfl rfl hl.1 rfl (lv_room (Nat.le_of_ble_eq_true rfl)) dX5_count_9 ⟨Nat.le_of_ble_eq_true rfl, Nat.le_of_ble_eq_true rfl⟩) (fun _ h9 => h9) ?_
  refine W.eq (g2 := F0 m 12 ls [.int (z_wi w 0 (nI 9 - 1))]) rfl ?_
  refine lv_if_eq (tgt := 27) hx hb dX5_count_12 (by decide) (fun c12 => ?_) (fun c12 => ?_)
  · skip
    refine lv_aload_n hx hb dX5_count_27 rfl (lv_at hl 0 rfl) ?_
    refine lv_iconst (v := 1) hx hb dX5_count_28 (by decide) ?_
    refine z_callm (va_runV (As := [.int 1]) (rest := []) ⟨hx, hb, hml, hown, hts⟩ (c_X5_no l G am (z_up μ 8 1 0) ν hinj 1) (cwV 1 hts gX5_count_X5_no rfl rfl rfl (by decide +kernel) ⟨Nat.le_of_ble_eq_true rfl, Nat.le_of_ble_eq_true rfl⟩) (z_prV (ci := 5) (k := 0) hX hP rfl z_m0) rfl rfl hl.1 rfl (lv_room (Nat.le_of_ble_eq_true rfl)) dX5_count_29 ⟨Nat.le_of_ble_eq_true rfl, Nat.le_of_ble_eq_true rfl⟩) hS (fun _ _ h9 => h9) (fun _ h9 => h9) (fun H locs hP hz9 hk9 hS => ?_)
    have hD := z_Dm hinj (z_cM G am (z_up (z_up μ 8 1 0) 8 1 1) ν)
    refine W.eq (g2 := F0 m 32 ls [.int 0]) rfl ?_
    have hPf : va_P (z_DD G) vwCl (z_wM G am (y_no μ 1) ν) H := by exact hP
    refine W.widen (k := 1) (n := 9) (by omega) (by omega) ?_
    refine z_iret hx hb hr hlocks dX5_count_32 (fun t ht hW => ⟨rfl, by rw [ht]; exact hPf, hS.F ht⟩) hS.2.2 ?_
    rfl
  · skip
    exact absurd (z_iv_f (by omega) h) c12

set_option maxHeartbeats 4000000 in
set_option maxRecDepth 100000 in
theorem c_X5_pass_ (l : Launch) (G : z_GT) (am : Nat → Nat) (μ : Nat → Nat → Int32) (ν : Nat → Nat → Nat) (hinj : ∀ i j, i < 10 → j < 10 → am i = am j → i = j) (hy : y_wf μ ν) (T n : Nat) (hT9 : μ 9 0 = nI T) (hT2 : T + n < 2 ^ 31) (g : ¬ z_wi (nI n) 1 60 = 0) : Met l yX5_pass_ wsX5_pass_ ({ frames := 6, cells := 0, slots := 0, locals := 137 } : Room) (z_Pr G [.ref (am 0), .int (nI n)] (z_wM G am μ ν)) (z_Qm G (some (.int ((y_dn (z_up μ 8 1 0) ν T n) 9 1 - μ 9 1))) (z_wM G am (y_dn (z_up μ 8 1 0) ν T n) ν) (z_A 10 am)) 0 0 (z_A 10 am) := by
  refine Met.ofW (cc := cX5_pass_) (maxL := 4) (ret := (some .int)) (by decide) rfl ?_
  intro p e s m args below meth c s₁ B hml hw0
  obtain ⟨rfl, hX, hP⟩ := hw0
  have hK := hX.1
  have hx := B.exec
  have hb := B.bytes
  have hr := B.returns
  have hts := atoms_spec (ws := wsX5_pass_) B.pre
  have hown : s.vm.findClass RX5 = some m.cls := findClass_of_methodNamed B.named
  have hlocks := B.notSynchronized
  have hl := lv_entry ([.ref (am 0), .int (nI n)]) (n := 4) (Nat.le_of_ble_eq_true rfl)
  rw [lg_entry_eq]
  generalize (lg_sl ([.ref (am 0), .int (nI n)]) ++ List.replicate (4 - (lg_sl ([.ref (am 0), .int (nI n)])).length) Slot.unset).toArray = ls at hl ⊢
  have hl : lv_has ls 4 [(0, .ref (am 0)), (1, .int (nI n))] := hl
  have hf_RX5_34 : (Cond.fieldLink RX5 34 "BlossomToursModel" "numbers" "[I").before ([.ref (am 0), .int (nI n)] : List Value).toArray s = true := hts _ (by decide +kernel)
  have hf_RX5_37 : (Cond.fieldLink RX5 37 "BlossomToursModel" "thrown" "I").before ([.ref (am 0), .int (nI n)] : List Value).toArray s = true := hts _ (by decide +kernel)
  have hi_RX5 : ∀ w ∈ u_ws RX5 TX5 13, w ∈ wsX5_pass_ := by decide +kernel
  have hS : va_S (z_A 10 am) s.heap s.heap [] := va_S.rf
  have hD := z_Dm hinj (z_cM G am μ ν)
  refine lv_aload_n hx hb dX5_pass__0 rfl (lv_at hl 0 rfl) ?_
  refine lv_iconst (v := 0) hx hb dX5_pass__1 (by decide) ?_
  refine va_put (D := z_DD G) (ci := 5) (v := .int 0) (ty := .int) (C := RX5) (T := TX5) (N := 13) hx hb hts hi_RX5 tyX5 tyX5_ok nmX5 hown hK hP hD hS 0 z_m0 rfl 0 (by decide) hf_RX5_37 (fun _ h9 => h9) rfl (by decide +kernel) rfl rfl (Nat.le_of_ble_eq_true rfl) dX5_pass__2 (fun H locs hP hD hS => ?_)
  have hP : va_P (z_DD G) vwCl (z_wM G am (z_up μ 8 1 0) ν) H := Eq.mp (congrArg (fun w => va_P (z_DD G) vwCl w H) z_tM0) hP
  have hD := z_Dm hinj (z_cM G am (z_up μ 8 1 0) ν)
  refine lv_iload_n hx hb dX5_pass__5 rfl (lv_at hl 1 rfl) ?_
  refine lv_iconst (v := 1) hx hb dX5_pass__6 (by decide) ?_
  refine lv_bipush (v := 60) hx hb dX5_pass__7 (by decide) ?_
  refine z_call (va_runS (As := [.int (nI n), .int 1, .int 60]) (rest := []) ⟨hx, hb, hml, hown, hts⟩ (c_X5_isIn l G (nI n) 1 60) (va_cwS 3 hts gX5_pass__X5_isIn rfl rfl rfl (by decide +kernel) ⟨Nat.le_of_ble_eq_true rfl, Nat.le_of_ble_eq_true rfl⟩) (z_prS hX z_P0) rfl rfl hl.1 rfl (lv_room (Nat.le_of_ble_eq_true rfl)) dX5_pass__9 ⟨Nat.le_of_ble_eq_true rfl, Nat.le_of_ble_eq_true rfl⟩) (fun _ h9 => h9) ?_
  refine W.eq (g2 := F0 m 12 ls [.int (z_wi (nI n) 1 60)]) rfl ?_
  refine lv_if_ne (tgt := 21) hx hb dX5_pass__12 (by decide) (fun c12 => ?_) (fun c12 => ?_)
  · skip
    refine lv_aload_n hx hb dX5_pass__21 rfl (lv_at hl 0 rfl) ?_
    refine va_get (D := z_DD G) (ci := 5) (v := .ref (am 9)) (C := RX5) (T := TX5) (N := 13) hx hb hts hi_RX5 hown hK hP 0 z_m0 rfl 12 (by decide) hf_RX5_34 (fun _ h9 => h9) rfl dX5_pass__22 ?_
    refine lv_iconst (v := 1) hx hb dX5_pass__25 (by decide) ?_
    refine z_iald (k := 1) (f := fun z9 => (z_up μ 8 1 0) 9 z9) hx hb hK hP 9 0 z_m9 rfl (by decide) (by decide) dX5_pass__26 ?_
    refine lv_istore_n (lv' := [(2, .int ((z_up μ 8 1 0) 9 1)), (0, .ref (am 0)), (1, .int (nI n))]) hx hb dX5_pass__27 rfl hl (by decide) rfl (fun ls hl => ?_)
    refine lv_iconst (v := nI 0) hx hb dX5_pass__28 (by decide) ?_
    refine lv_istore_n (lv' := [(3, .int (nI 0)), (2, .int ((z_up μ 8 1 0) 9 1)), (0, .ref (am 0)), (1, .int (nI n))]) hx hb dX5_pass__29 rfl hl (by decide) rfl (fun ls hl => ?_)
    have lp30 : ∀ (fu30 : Nat) (i : Nat), i ≤ n → n < i + fu30 → ∀ (H : Heap) (locs : List Loc), va_P (z_DD G) vwCl (z_wM G am (y_dn (z_up μ 8 1 0) ν T i) ν) H → va_S (z_A 10 am) s.heap H locs → ∀ (ls : Array Slot), lv_has ls 4 [(0, .ref (am 0)), (1, .int (nI n)), (2, .int (μ 9 1)), (3, .int (nI i))] → W p l e (headSpec wsX5_pass_ ({ frames := 6, cells := 0, slots := 0, locals := 137 } : Room)).room s m ([.ref (am 0), .int (nI n)] : List Value).toArray below meth c H locs 0 0 (MQ below (z_Qm G (some (.int ((y_dn (z_up μ 8 1 0) ν T n) 9 1 - μ 9 1))) (z_wM G am (y_dn (z_up μ 8 1 0) ν T n) ν) (z_A 10 am)) ([.ref (am 0), .int (nI n)] : List Value).toArray s 0 0 (z_A 10 am)) (F0 m 30 ls []) := by
      intro fu30
      induction fu30 with
      | zero =>
        intro i h1 h2
        exfalso; omega
      | succ fu30 ih30 =>
        intro i h1 h2 H locs hP hS ls hl
        have hD := z_Dm hinj (z_cM G am (y_dn (z_up μ 8 1 0) ν T i) ν)
        refine lv_iload_n hx hb dX5_pass__30 rfl (lv_at hl 3 rfl) ?_
        refine lv_iload_n hx hb dX5_pass__31 rfl (lv_at hl 1 rfl) ?_
        refine lv_icmp_ge (tgt := 49) hx hb dX5_pass__32 (by decide) (fun c32 => ?_) (fun c32 => ?_)
        · skip
          have hi : i = n := Nat.le_antisymm h1 (z_ge (by omega) (by omega) c32)
          refine lv_aload_n hx hb dX5_pass__49 rfl (lv_at hl 0 rfl) ?_
          refine va_get (D := z_DD G) (ci := 5) (v := .ref (am 9)) (C := RX5) (T := TX5) (N := 13) hx hb hts hi_RX5 hown hK hP 0 z_m0 rfl 12 (by decide) hf_RX5_34 (fun _ h9 => h9) rfl dX5_pass__50 ?_
          refine lv_iconst (v := 1) hx hb dX5_pass__53 (by decide) ?_
          refine z_iald (k := 1) (f := fun z9 => (y_dn (z_up μ 8 1 0) ν T i) 9 z9) hx hb hK hP 9 0 z_m9 rfl (by decide) (by decide) dX5_pass__54 ?_
          refine lv_iload_n hx hb dX5_pass__55 rfl (lv_at hl 2 rfl) ?_
          refine lv_isub hx hb dX5_pass__56 ?_
          have hPf : va_P (z_DD G) vwCl (z_wM G am (y_dn (z_up μ 8 1 0) ν T n) ν) H := by rw [hi] at hP; exact hP
          refine z_iret hx hb hr hlocks dX5_pass__57 (fun t ht hW => ⟨rfl, by rw [ht]; exact hPf, hS.F ht⟩) hS.2.2 ?_
          rw [hi]
        · skip
          have hi := z_ng (by omega) (by omega) c32
          refine lv_aload_n hx hb dX5_pass__35 rfl (lv_at hl 0 rfl) ?_
          refine lv_aload_n hx hb dX5_pass__36 rfl (lv_at hl 0 rfl) ?_
          refine va_get (D := z_DD G) (ci := 5) (v := .ref (am 9)) (C := RX5) (T := TX5) (N := 13) hx hb hts hi_RX5 hown hK hP 0 z_m0 rfl 12 (by decide) hf_RX5_34 (fun _ h9 => h9) rfl dX5_pass__37 ?_
          refine z_callm (va_runV (As := [.ref (am 9)]) (rest := []) ⟨hx, hb, hml, hown, hts⟩ (c_X5_pass l G am (am 9) (y_dn (z_up μ 8 1 0) ν T i) ν (z_inj9 hinj) (y_dn_wf (σ := (z_up μ 8 1 0)) hy _) (T + i) (y_dn_day (z_up μ 8 1 0) _ hT9 _) (by omega)) (cwV 1 hts gX5_pass__X5_pass rfl rfl rfl (by decide +kernel) ⟨Nat.le_of_ble_eq_true rfl, Nat.le_of_ble_eq_true rfl⟩) (z_prW (ci := 5) (k := 0) hX hP (z_NM hP) rfl z_m0) rfl rfl hl.1 rfl (lv_room (Nat.le_of_ble_eq_true rfl)) dX5_pass__40 ⟨Nat.le_of_ble_eq_true rfl, Nat.le_of_ble_eq_true rfl⟩) hS (fun _ _ h8 => z_A9 h8) (fun _ h8 => z_A9 h8) (fun H locs hP hz9 hk9 hS => ?_)
          have hP := z_MN hP
          have hD := z_Dm hinj (z_cM G am (y_dn (z_up μ 8 1 0) ν T (i + 1)) ν)
          refine lv_iinc (v := nI (i + 1)) (lv' := [(3, .int (nI (i + 1))), (0, .ref (am 0)), (1, .int (nI n)), (2, .int (μ 9 1))]) hx hb dX5_pass__43 hl (k := 3) rfl (z_inc _) (by decide) rfl (fun ls hl => ?_)
          refine lv_goto (tgt := 30) hx hb dX5_pass__46 (by decide) ?_
          -- back to 30
          exact ih30 (i + 1) (by omega) (by omega) _ _ hP hS ls (lv_sub hl [1, 2, 3, 0] rfl)
    rw [show ((z_up μ 8 1 0) 9 1 : Int32) = μ 9 1 from by rfl] at hl
    exact lp30 (n + 1) 0 (by omega) (by omega) _ _ hP hS ls (lv_sub hl [2, 3, 1, 0] rfl)
  · skip
    exact absurd c12 g

set_option maxHeartbeats 4000000 in
set_option maxRecDepth 100000 in
theorem x_X5_pass_1 (l : Launch) (G : z_GT) (am : Nat → Nat) (μ : Nat → Nat → Int32) (ν : Nat → Nat → Nat) (hinj : ∀ i j, i < 10 → j < 10 → am i = am j → i = j) (v : Int32) (g : z_wi v 1 60 = 0) : Met l yX5_pass_ wsX5_pass_ ({ frames := 6, cells := 0, slots := 0, locals := 137 } : Room) (z_Pr G [.ref (am 0), .int v] (z_wM G am μ ν)) (z_Qm G (some (.int 0)) (z_wM G am (y_no μ 1) ν) (z_A 10 am)) 0 0 (z_A 10 am) := by
  refine Met.ofW (cc := cX5_pass_) (maxL := 4) (ret := (some .int)) (by decide) rfl ?_
  intro p e s m args below meth c s₁ B hml hw0
  obtain ⟨rfl, hX, hP⟩ := hw0
  have hK := hX.1
  have hx := B.exec
  have hb := B.bytes
  have hr := B.returns
  have hts := atoms_spec (ws := wsX5_pass_) B.pre
  have hown : s.vm.findClass RX5 = some m.cls := findClass_of_methodNamed B.named
  have hlocks := B.notSynchronized
  have hl := lv_entry ([.ref (am 0), .int v]) (n := 4) (Nat.le_of_ble_eq_true rfl)
  rw [lg_entry_eq]
  generalize (lg_sl ([.ref (am 0), .int v]) ++ List.replicate (4 - (lg_sl ([.ref (am 0), .int v])).length) Slot.unset).toArray = ls at hl ⊢
  have hl : lv_has ls 4 [(0, .ref (am 0)), (1, .int v)] := hl
  have hf_RX5_37 : (Cond.fieldLink RX5 37 "BlossomToursModel" "thrown" "I").before ([.ref (am 0), .int v] : List Value).toArray s = true := hts _ (by decide +kernel)
  have hi_RX5 : ∀ w ∈ u_ws RX5 TX5 13, w ∈ wsX5_pass_ := by decide +kernel
  have hS : va_S (z_A 10 am) s.heap s.heap [] := va_S.rf
  have hD := z_Dm hinj (z_cM G am μ ν)
  refine lv_aload_n hx hb dX5_pass__0 rfl (lv_at hl 0 rfl) ?_
  refine lv_iconst (v := 0) hx hb dX5_pass__1 (by decide) ?_
  refine va_put (D := z_DD G) (ci := 5) (v := .int 0) (ty := .int) (C := RX5) (T := TX5) (N := 13) hx hb hts hi_RX5 tyX5 tyX5_ok nmX5 hown hK hP hD hS 0 z_m0 rfl 0 (by decide) hf_RX5_37 (fun _ h9 => h9) rfl (by decide +kernel) rfl rfl (Nat.le_of_ble_eq_true rfl) dX5_pass__2 (fun H locs hP hD hS => ?_)
  have hP : va_P (z_DD G) vwCl (z_wM G am (z_up μ 8 1 0) ν) H := Eq.mp (congrArg (fun w => va_P (z_DD G) vwCl w H) z_tM0) hP
  have hD := z_Dm hinj (z_cM G am (z_up μ 8 1 0) ν)
  refine lv_iload_n hx hb dX5_pass__5 rfl (lv_at hl 1 rfl) ?_
  refine lv_iconst (v := 1) hx hb dX5_pass__6 (by decide) ?_
  refine lv_bipush (v := 60) hx hb dX5_pass__7 (by decide) ?_
  refine z_call (va_runS (As := [.int v, .int 1, .int 60]) (rest := []) ⟨hx, hb, hml, hown, hts⟩ (c_X5_isIn l G v 1 60) (va_cwS 3 hts gX5_pass__X5_isIn rfl rfl rfl (by decide +kernel) ⟨Nat.le_of_ble_eq_true rfl, Nat.le_of_ble_eq_true rfl⟩) (z_prS hX z_P0) rfl rfl hl.1 rfl (lv_room (Nat.le_of_ble_eq_true rfl)) dX5_pass__9 ⟨Nat.le_of_ble_eq_true rfl, Nat.le_of_ble_eq_true rfl⟩) (fun _ h9 => h9) ?_
  refine W.eq (g2 := F0 m 12 ls [.int (z_wi v 1 60)]) rfl ?_
  refine lv_if_ne (tgt := 21) hx hb dX5_pass__12 (by decide) (fun c12 => ?_) (fun c12 => ?_)
  · skip
    exact absurd g c12
  · skip
    refine lv_aload_n hx hb dX5_pass__15 rfl (lv_at hl 0 rfl) ?_
    refine lv_iconst (v := 1) hx hb dX5_pass__16 (by decide) ?_
    refine z_callm (va_runV (As := [.int 1]) (rest := []) ⟨hx, hb, hml, hown, hts⟩ (c_X5_no l G am (z_up μ 8 1 0) ν hinj 1) (cwV 1 hts gX5_pass__X5_no rfl rfl rfl (by decide +kernel) ⟨Nat.le_of_ble_eq_true rfl, Nat.le_of_ble_eq_true rfl⟩) (z_prV (ci := 5) (k := 0) hX hP rfl z_m0) rfl rfl hl.1 rfl (lv_room (Nat.le_of_ble_eq_true rfl)) dX5_pass__17 ⟨Nat.le_of_ble_eq_true rfl, Nat.le_of_ble_eq_true rfl⟩) hS (fun _ _ h9 => h9) (fun _ h9 => h9) (fun H locs hP hz9 hk9 hS => ?_)
    have hD := z_Dm hinj (z_cM G am (z_up (z_up μ 8 1 0) 8 1 1) ν)
    refine W.eq (g2 := F0 m 20 ls [.int 0]) rfl ?_
    have hPf : va_P (z_DD G) vwCl (z_wM G am (y_no μ 1) ν) H := by exact hP
    refine z_iret hx hb hr hlocks dX5_pass__20 (fun t ht hW => ⟨rfl, by rw [ht]; exact hPf, hS.F ht⟩) hS.2.2 ?_
    rfl

set_option maxHeartbeats 4000000 in
set_option maxRecDepth 100000 in
theorem c_X5_foresee (l : Launch) (G : z_GT) (am : Nat → Nat) (μ : Nat → Nat → Int32) (ν : Nat → Nat → Nat) (hinj : ∀ i j, i < 10 → j < 10 → am i = am j → i = j) (hy : y_wf μ ν) (T n : Nat) (hT9 : μ 9 0 = nI T) (hT2 : T + n < 2 ^ 31) (g : ¬ z_wi (nI n) 1 60 = 0) (w9 : Nat) (h9 : w9 < 9) (g8 : ¬ z_wi (nI w9) 5 8 = 0) : Met l yX5_foresee wsX5_foresee ({ frames := 6, cells := 2, slots := 13, locals := 137 } : Room) (z_Pc G [.ref (am 0), .int (nI n), .int (nI w9)] (z_wM G am μ ν)) (z_Qm G (some (.int (y_fo (z_up μ 8 1 0) ν T n w9))) (z_wM G am (z_up μ 8 1 0) ν) (z_A 10 am)) 2 13 (z_A 10 am) := by
  refine Met.ofW (cc := cX5_foresee) (maxL := 5) (ret := (some .int)) (by decide) rfl ?_
  intro p e s m args below meth c s₁ B hml hw0
  obtain ⟨⟨rfl, hX, hP⟩, hcln⟩ := hw0
  have hK := hX.1
  have hx := B.exec
  have hb := B.bytes
  have hr := B.returns
  have hts := atoms_spec (ws := wsX5_foresee) B.pre
  have hown : s.vm.findClass RX5 = some m.cls := findClass_of_methodNamed B.named
  have hlocks := B.notSynchronized
  have hl := lv_entry ([.ref (am 0), .int (nI n), .int (nI w9)]) (n := 5) (Nat.le_of_ble_eq_true rfl)
  rw [lg_entry_eq]
  generalize (lg_sl ([.ref (am 0), .int (nI n), .int (nI w9)]) ++ List.replicate (5 - (lg_sl ([.ref (am 0), .int (nI n), .int (nI w9)])).length) Slot.unset).toArray = ls at hl ⊢
  have hl : lv_has ls 5 [(0, .ref (am 0)), (1, .int (nI n)), (2, .int (nI w9))] := hl
  have hf_RX5_34 : (Cond.fieldLink RX5 34 "BlossomToursModel" "numbers" "[I").before ([.ref (am 0), .int (nI n), .int (nI w9)] : List Value).toArray s = true := hts _ (by decide +kernel)
  have hf_RX5_37 : (Cond.fieldLink RX5 37 "BlossomToursModel" "thrown" "I").before ([.ref (am 0), .int (nI n), .int (nI w9)] : List Value).toArray s = true := hts _ (by decide +kernel)
  have hi_RX5 : ∀ w ∈ u_ws RX5 TX5 13, w ∈ wsX5_foresee := by decide +kernel
  have hS : va_S (z_A 10 am) s.heap s.heap [] := va_S.rf
  have hD := z_Dm hinj (z_cM G am μ ν)
  refine lv_aload_n hx hb dX5_foresee_0 rfl (lv_at hl 0 rfl) ?_
  refine lv_iconst (v := 0) hx hb dX5_foresee_1 (by decide) ?_
  refine va_put (D := z_DD G) (ci := 5) (v := .int 0) (ty := .int) (C := RX5) (T := TX5) (N := 13) hx hb hts hi_RX5 tyX5 tyX5_ok nmX5 hown hK hP hD hS 0 z_m0 rfl 0 (by decide) hf_RX5_37 (fun _ h9 => h9) rfl (by decide +kernel) rfl rfl (Nat.le_of_ble_eq_true rfl) dX5_foresee_2 (fun H locs hP hD hS => ?_)
  have hP : va_P (z_DD G) vwCl (z_wM G am (z_up μ 8 1 0) ν) H := Eq.mp (congrArg (fun w => va_P (z_DD G) vwCl w H) z_tM0) hP
  have hD := z_Dm hinj (z_cM G am (z_up μ 8 1 0) ν)
  refine lv_iload_n hx hb dX5_foresee_5 rfl (lv_at hl 1 rfl) ?_
  refine lv_iconst (v := 1) hx hb dX5_foresee_6 (by decide) ?_
  refine lv_bipush (v := 60) hx hb dX5_foresee_7 (by decide) ?_
  refine z_call (va_runS (As := [.int (nI n), .int 1, .int 60]) (rest := []) ⟨hx, hb, hml, hown, hts⟩ (c_X5_isIn l G (nI n) 1 60) (va_cwS 3 hts gX5_foresee_X5_isIn rfl rfl rfl (by decide +kernel) ⟨Nat.le_of_ble_eq_true rfl, Nat.le_of_ble_eq_true rfl⟩) (z_prS hX z_P0) rfl rfl hl.1 rfl (lv_room (Nat.le_of_ble_eq_true rfl)) dX5_foresee_9 ⟨Nat.le_of_ble_eq_true rfl, Nat.le_of_ble_eq_true rfl⟩) (fun _ h9 => h9) ?_
  refine W.eq (g2 := F0 m 12 ls [.int (z_wi (nI n) 1 60)]) rfl ?_
  refine lv_if_ne (tgt := 21) hx hb dX5_foresee_12 (by decide) (fun c12 => ?_) (fun c12 => ?_)
  · skip
    refine lv_iload_n hx hb dX5_foresee_21 rfl (lv_at hl 2 rfl) ?_
    refine lv_iconst (v := 5) hx hb dX5_foresee_22 (by decide) ?_
    refine lv_bipush (v := 8) hx hb dX5_foresee_23 (by decide) ?_
    refine z_call (va_runS (As := [.int (nI w9), .int 5, .int 8]) (rest := []) ⟨hx, hb, hml, hown, hts⟩ (c_X5_isIn l G (nI w9) 5 8) (va_cwS 3 hts gX5_foresee_X5_isIn rfl rfl rfl (by decide +kernel) ⟨Nat.le_of_ble_eq_true rfl, Nat.le_of_ble_eq_true rfl⟩) (z_prS hX z_P0) rfl rfl hl.1 rfl (lv_room (Nat.le_of_ble_eq_true rfl)) dX5_foresee_25 ⟨Nat.le_of_ble_eq_true rfl, Nat.le_of_ble_eq_true rfl⟩) (fun _ h9 => h9) ?_
    refine W.eq (g2 := F0 m 28 ls [.int (z_wi (nI w9) 5 8)]) rfl ?_
    refine lv_if_ne (tgt := 37) hx hb dX5_foresee_28 (by decide) (fun c28 => ?_) (fun c28 => ?_)
    · skip
      refine lv_aload_n hx hb dX5_foresee_37 rfl (lv_at hl 0 rfl) ?_
      refine va_get (D := z_DD G) (ci := 5) (v := .ref (am 9)) (C := RX5) (T := TX5) (N := 13) hx hb hts hi_RX5 hown hK hP 0 z_m0 rfl 12 (by decide) hf_RX5_34 (fun _ h9 => h9) rfl dX5_foresee_38 ?_
      have hP0 := hP
      have hS : va_S (fun q => z_A 10 am q ∨ s.heap.size ≤ q) s.heap H locs := z_S2 hS
      have hD2 : va_D (fun q => z_A 10 am q ∨ s.heap.size ≤ q) (z_wM G am (z_up μ 8 1 0) ν) := hD.weaken (fun _ _ _ h8 => Or.inl h8)
      have hIf : s.vm.findClass "[I" = some (z_I G) := (hK.2 0 _ rfl).2
      refine va_clone (A := (fun q => z_A 10 am q ∨ s.heap.size ≤ q)) hx hb (hml.trans hl.1.symm) hown (hts (.methodLink RX5 117 ⟨"[I", "clone", "()Ljava/lang/Object;"⟩) (by decide +kernel)) (hts (.sameMethod "[I" "java/lang/Object" "clone" "()Ljava/lang/Object;") (by decide +kernel)) (hts (.native ⟨"java/lang/Object", "clone", "()Ljava/lang/Object;"⟩) (by decide +kernel)) (hts (.instanceMethod ⟨"java/lang/Object", "clone", "()Ljava/lang/Object;"⟩) (by decide +kernel)) (hts (.selects "[I" ⟨"[I", "clone", "()Ljava/lang/Object;"⟩ ⟨"java/lang/Object", "clone", "()Ljava/lang/Object;"⟩) (by decide +kernel)) hcln hK hP hD2 hS (fun _ h8 => Or.inr h8) 9 0 z_m9 rfl hIf (z_fitI _ _ _) (Nat.le_of_ble_eq_true rfl) (Nat.le_of_ble_eq_true rfl) (Nat.le_of_ble_eq_true rfl) (Nat.le_of_ble_eq_true rfl) dX5_foresee_41 (fun q9 H hKq hPq hDq hS => ?_)
      have hne : ∀ k, k < 10 → am k ≠ q9 := z_ne9 hDq
      have hq9 : s.heap.size ≤ q9 := z_new9 hDq hne
      have hne9 : am 9 ≠ q9 := hne 9 (by decide)
      have hinj9 := z_inj9q hinj hne
      have hP9 : va_P (z_DD G) vwCl [(am 9, .inl (z_I G, 4, .inl (fun j => (z_up μ 8 1 0) 9 j)))] H := hPq.sub [9] rfl
      have hP := z_clN hPq
      have hD := z_Dm hinj9 (z_cM G am (z_up μ 8 1 0) ν)
      refine va_castA hx hb hown (hts (.classLink RX5 118 "[I") (by decide +kernel)) hP 9 z_n9 hIf dX5_foresee_44 ?_
      refine lv_astore_n (lv' := [(3, .ref q9), (0, .ref (am 0)), (1, .int (nI n)), (2, .int (nI w9))]) hx hb dX5_foresee_47 rfl hl (by decide) rfl (fun ls hl => ?_)
      refine lv_iconst (v := nI 0) hx hb dX5_foresee_48 (by decide) ?_
      refine lv_istore (lv' := [(4, .int (nI 0)), (3, .ref q9), (0, .ref (am 0)), (1, .int (nI n)), (2, .int (nI w9))]) hx hb dX5_foresee_49 hl (by decide) rfl (fun ls hl => ?_)
      have lp51 : ∀ (fu51 : Nat) (i : Nat), i ≤ n → n < i + fu51 → ∀ (H : Heap) (locs : List Loc), va_P (z_DD G) vwCl (z_wN G am q9 (y_dn (z_up μ 8 1 0) ν T i) ν) H → va_P (z_DD G) vwCl [(am 9, .inl (z_I G, 4, .inl (fun j => (z_up μ 8 1 0) 9 j)))] H → va_S (fun q => z_A 10 am q ∨ s.heap.size ≤ q) s.heap H locs → ∀ (ls : Array Slot), lv_has ls 5 [(0, .ref (am 0)), (1, .int (nI n)), (2, .int (nI w9)), (3, .ref q9), (4, .int (nI i))] → W p l e (headSpec wsX5_foresee ({ frames := 6, cells := 2, slots := 13, locals := 137 } : Room)).room s m ([.ref (am 0), .int (nI n), .int (nI w9)] : List Value).toArray below meth c H locs (0 + 1) (0 + 4) (MQ below (z_Qm G (some (.int (y_fo (z_up μ 8 1 0) ν T n w9))) (z_wM G am (z_up μ 8 1 0) ν) (z_A 10 am)) ([.ref (am 0), .int (nI n), .int (nI w9)] : List Value).toArray s 2 13 (z_A 10 am)) (F0 m 51 ls []) := by
        intro fu51
        induction fu51 with
        | zero =>
          intro i h1 h2
          exfalso; omega
        | succ fu51 ih51 =>
          intro i h1 h2 H locs hP hP9 hS ls hl
          have hD := z_Dm hinj9 (z_cM G am (y_dn (z_up μ 8 1 0) ν T i) ν)
          refine lv_iload hx hb dX5_foresee_51 (lv_at hl 4 rfl) ?_
          refine lv_iload_n hx hb dX5_foresee_53 rfl (lv_at hl 1 rfl) ?_
          refine lv_icmp_ge (tgt := 68) hx hb dX5_foresee_54 (by decide) (fun c54 => ?_) (fun c54 => ?_)
          · skip
            have hi : i = n := Nat.le_antisymm h1 (z_ge (by omega) (by omega) c54)
            have hP : va_P (z_DD G) vwCl (z_wN G am q9 (y_dn (z_up μ 8 1 0) ν T n) ν) H := by rw [hi] at hP; exact hP
            have hD := z_Dm hinj9 (z_cM G am (y_dn (z_up μ 8 1 0) ν T n) ν)
            refine lv_aload_n hx hb dX5_foresee_68 rfl (lv_at hl 0 rfl) ?_
            refine lv_aload_n hx hb dX5_foresee_69 rfl (lv_at hl 3 rfl) ?_
            refine lv_iload_n hx hb dX5_foresee_70 rfl (lv_at hl 2 rfl) ?_
            refine z_callm (va_runV (As := [.ref q9, .int (nI w9)]) (rest := []) ⟨hx, hb, hml, hown, hts⟩ (c_X5_counted l G am q9 (y_dn (z_up μ 8 1 0) ν T n) ν (y_dn_wf (σ := (z_up μ 8 1 0)) hy _) w9 h9) (cwV 2 hts gX5_foresee_X5_counted rfl rfl rfl (by decide +kernel) ⟨Nat.le_of_ble_eq_true rfl, Nat.le_of_ble_eq_true rfl⟩) (z_prV (ci := 5) (k := 0) hX hP rfl z_n0) rfl rfl hl.1 rfl (lv_room (Nat.le_of_ble_eq_true rfl)) dX5_foresee_71 ⟨Nat.le_of_ble_eq_true rfl, Nat.le_of_ble_eq_true rfl⟩) hS (fun _ _ h8 => h8.elim) (fun _ h8 => h8.elim) (fun H locs hP hz9 hk9 hS => ?_)
            have hP9 : va_P (z_DD G) vwCl [(am 9, .inl (z_I G, 4, .inl (fun j => (z_up μ 8 1 0) 9 j)))] H := z_keep1 hP9 (hk9 _ (z_lt1 hP9) (fun h7 => h7))
            have hD := z_Dm hinj9 (z_cM G am (y_dn (z_up μ 8 1 0) ν T n) ν)
            refine W.eq (g2 := F0 m 74 ls [.int (y_cnt (y_dn (z_up μ 8 1 0) ν T n) ν w9)]) rfl ?_
            have hPf : va_P (z_DD G) vwCl (z_wM G am (z_up μ 8 1 0) ν) H := z_back hP hP9 (fun a b h8 => y_dn_o _ _ _ h8 _)
            refine z_fresh (locs2 := locs.filter (fun y => decide (y.base < s.heap.size))) (fun y h8 h7 => List.mem_filter.mpr ⟨h8, decide_eq_true h7⟩) ?_
            exact z_iret hx hb hr hlocks dX5_foresee_74 (fun t ht hW => ⟨rfl, by rw [ht]; exact hPf, by rw [ht]; exact hS.1, fun q h1 h2 => by rw [ht]; exact hS.2.1 q h1 (fun h8 => h8.elim h2 (Nat.not_le.mpr h1))⟩) (fun y h8 => (hS.2.2 y (List.mem_filter.mp h8).1).resolve_right (Nat.not_le.mpr (of_decide_eq_true (List.mem_filter.mp h8).2))) rfl
          · skip
            have hi := z_ng (by omega) (by omega) c54
            refine lv_aload_n hx hb dX5_foresee_57 rfl (lv_at hl 0 rfl) ?_
            refine lv_aload_n hx hb dX5_foresee_58 rfl (lv_at hl 3 rfl) ?_
            refine z_callm (va_runV (As := [.ref q9]) (rest := []) ⟨hx, hb, hml, hown, hts⟩ (c_X5_pass l G am q9 (y_dn (z_up μ 8 1 0) ν T i) ν hinj9 (y_dn_wf (σ := (z_up μ 8 1 0)) hy _) (T + i) (y_dn_day (z_up μ 8 1 0) _ hT9 _) (by omega)) (cwV 1 hts gX5_foresee_X5_pass rfl rfl rfl (by decide +kernel) ⟨Nat.le_of_ble_eq_true rfl, Nat.le_of_ble_eq_true rfl⟩) (z_prV (ci := 5) (k := 0) hX hP rfl z_n0) rfl rfl hl.1 rfl (lv_room (Nat.le_of_ble_eq_true rfl)) dX5_foresee_59 ⟨Nat.le_of_ble_eq_true rfl, Nat.le_of_ble_eq_true rfl⟩) hS (fun _ _ h8 => z_A29 hq9 h8) (fun _ h8 => z_A29 hq9 h8) (fun H locs hP hz9 hk9 hS => ?_)
            have hP9 : va_P (z_DD G) vwCl [(am 9, .inl (z_I G, 4, .inl (fun j => (z_up μ 8 1 0) 9 j)))] H := z_keep1 hP9 (hk9 _ (z_lt1 hP9) (z_n9A hinj hne9))
            have hD := z_Dm hinj9 (z_cM G am (y_dn (z_up μ 8 1 0) ν T (i + 1)) ν)
            refine lv_iinc (v := nI (i + 1)) (lv' := [(4, .int (nI (i + 1))), (0, .ref (am 0)), (1, .int (nI n)), (2, .int (nI w9)), (3, .ref q9)]) hx hb dX5_foresee_62 hl (k := 4) rfl (z_inc _) (by decide) rfl (fun ls hl => ?_)
            refine lv_goto (tgt := 51) hx hb dX5_foresee_65 (by decide) ?_
            -- back to 51
            exact ih51 (i + 1) (by omega) (by omega) _ _ hP hP9 hS ls (lv_sub hl [1, 2, 3, 4, 0] rfl)
      exact lp51 (n + 1) 0 (by omega) (by omega) _ _ hP hP9 hS ls (lv_sub hl [2, 3, 4, 1, 0] rfl)
    · skip
      exact absurd c28 g8
  · skip
    exact absurd c12 g

set_option maxHeartbeats 4000000 in
set_option maxRecDepth 100000 in
theorem x_X5_foresee_1 (l : Launch) (G : z_GT) (am : Nat → Nat) (μ : Nat → Nat → Int32) (ν : Nat → Nat → Nat) (hinj : ∀ i j, i < 10 → j < 10 → am i = am j → i = j) (v w : Int32) (g : z_wi v 1 60 = 0) : Met l yX5_foresee wsX5_foresee ({ frames := 6, cells := 2, slots := 13, locals := 137 } : Room) (z_Pr G [.ref (am 0), .int v, .int w] (z_wM G am μ ν)) (z_Qm G (some (.int 0)) (z_wM G am (y_no μ 1) ν) (z_A 10 am)) 2 13 (z_A 10 am) := by
  refine Met.ofW (cc := cX5_foresee) (maxL := 5) (ret := (some .int)) (by decide) rfl ?_
  intro p e s m args below meth c s₁ B hml hw0
  obtain ⟨rfl, hX, hP⟩ := hw0
  have hK := hX.1
  have hx := B.exec
  have hb := B.bytes
  have hr := B.returns
  have hts := atoms_spec (ws := wsX5_foresee) B.pre
  have hown : s.vm.findClass RX5 = some m.cls := findClass_of_methodNamed B.named
  have hlocks := B.notSynchronized
  have hl := lv_entry ([.ref (am 0), .int v, .int w]) (n := 5) (Nat.le_of_ble_eq_true rfl)
  rw [lg_entry_eq]
  generalize (lg_sl ([.ref (am 0), .int v, .int w]) ++ List.replicate (5 - (lg_sl ([.ref (am 0), .int v, .int w])).length) Slot.unset).toArray = ls at hl ⊢
  have hl : lv_has ls 5 [(0, .ref (am 0)), (1, .int v), (2, .int w)] := hl
  have hf_RX5_37 : (Cond.fieldLink RX5 37 "BlossomToursModel" "thrown" "I").before ([.ref (am 0), .int v, .int w] : List Value).toArray s = true := hts _ (by decide +kernel)
  have hi_RX5 : ∀ w ∈ u_ws RX5 TX5 13, w ∈ wsX5_foresee := by decide +kernel
  have hS : va_S (z_A 10 am) s.heap s.heap [] := va_S.rf
  have hD := z_Dm hinj (z_cM G am μ ν)
  refine lv_aload_n hx hb dX5_foresee_0 rfl (lv_at hl 0 rfl) ?_
  refine lv_iconst (v := 0) hx hb dX5_foresee_1 (by decide) ?_
  refine va_put (D := z_DD G) (ci := 5) (v := .int 0) (ty := .int) (C := RX5) (T := TX5) (N := 13) hx hb hts hi_RX5 tyX5 tyX5_ok nmX5 hown hK hP hD hS 0 z_m0 rfl 0 (by decide) hf_RX5_37 (fun _ h9 => h9) rfl (by decide +kernel) rfl rfl (Nat.le_of_ble_eq_true rfl) dX5_foresee_2 (fun H locs hP hD hS => ?_)
  have hP : va_P (z_DD G) vwCl (z_wM G am (z_up μ 8 1 0) ν) H := Eq.mp (congrArg (fun w => va_P (z_DD G) vwCl w H) z_tM0) hP
  have hD := z_Dm hinj (z_cM G am (z_up μ 8 1 0) ν)
  refine lv_iload_n hx hb dX5_foresee_5 rfl (lv_at hl 1 rfl) ?_
  refine lv_iconst (v := 1) hx hb dX5_foresee_6 (by decide) ?_
  refine lv_bipush (v := 60) hx hb dX5_foresee_7 (by decide) ?_
  refine z_call (va_runS (As := [.int v, .int 1, .int 60]) (rest := []) ⟨hx, hb, hml, hown, hts⟩ (c_X5_isIn l G v 1 60) (va_cwS 3 hts gX5_foresee_X5_isIn rfl rfl rfl (by decide +kernel) ⟨Nat.le_of_ble_eq_true rfl, Nat.le_of_ble_eq_true rfl⟩) (z_prS hX z_P0) rfl rfl hl.1 rfl (lv_room (Nat.le_of_ble_eq_true rfl)) dX5_foresee_9 ⟨Nat.le_of_ble_eq_true rfl, Nat.le_of_ble_eq_true rfl⟩) (fun _ h9 => h9) ?_
  refine W.eq (g2 := F0 m 12 ls [.int (z_wi v 1 60)]) rfl ?_
  refine lv_if_ne (tgt := 21) hx hb dX5_foresee_12 (by decide) (fun c12 => ?_) (fun c12 => ?_)
  · skip
    exact absurd g c12
  · skip
    refine lv_aload_n hx hb dX5_foresee_15 rfl (lv_at hl 0 rfl) ?_
    refine lv_iconst (v := 1) hx hb dX5_foresee_16 (by decide) ?_
    refine z_callm (va_runV (As := [.int 1]) (rest := []) ⟨hx, hb, hml, hown, hts⟩ (c_X5_no l G am (z_up μ 8 1 0) ν hinj 1) (cwV 1 hts gX5_foresee_X5_no rfl rfl rfl (by decide +kernel) ⟨Nat.le_of_ble_eq_true rfl, Nat.le_of_ble_eq_true rfl⟩) (z_prV (ci := 5) (k := 0) hX hP rfl z_m0) rfl rfl hl.1 rfl (lv_room (Nat.le_of_ble_eq_true rfl)) dX5_foresee_17 ⟨Nat.le_of_ble_eq_true rfl, Nat.le_of_ble_eq_true rfl⟩) hS (fun _ _ h9 => h9) (fun _ h9 => h9) (fun H locs hP hz9 hk9 hS => ?_)
    have hD := z_Dm hinj (z_cM G am (z_up (z_up μ 8 1 0) 8 1 1) ν)
    refine W.eq (g2 := F0 m 20 ls [.int 0]) rfl ?_
    have hPf : va_P (z_DD G) vwCl (z_wM G am (y_no μ 1) ν) H := by exact hP
    refine W.widen (k := 2) (n := 13) (by omega) (by omega) ?_
    refine z_iret hx hb hr hlocks dX5_foresee_20 (fun t ht hW => ⟨rfl, by rw [ht]; exact hPf, hS.F ht⟩) hS.2.2 ?_
    rfl

set_option maxHeartbeats 4000000 in
set_option maxRecDepth 100000 in
theorem x_X5_foresee_2 (l : Launch) (G : z_GT) (am : Nat → Nat) (μ : Nat → Nat → Int32) (ν : Nat → Nat → Nat) (hinj : ∀ i j, i < 10 → j < 10 → am i = am j → i = j) (v w : Int32) (g : ¬ z_wi v 1 60 = 0) (g8 : z_wi w 5 8 = 0) : Met l yX5_foresee wsX5_foresee ({ frames := 6, cells := 2, slots := 13, locals := 137 } : Room) (z_Pr G [.ref (am 0), .int v, .int w] (z_wM G am μ ν)) (z_Qm G (some (.int 0)) (z_wM G am (y_no μ 2) ν) (z_A 10 am)) 2 13 (z_A 10 am) := by
  refine Met.ofW (cc := cX5_foresee) (maxL := 5) (ret := (some .int)) (by decide) rfl ?_
  intro p e s m args below meth c s₁ B hml hw0
  obtain ⟨rfl, hX, hP⟩ := hw0
  have hK := hX.1
  have hx := B.exec
  have hb := B.bytes
  have hr := B.returns
  have hts := atoms_spec (ws := wsX5_foresee) B.pre
  have hown : s.vm.findClass RX5 = some m.cls := findClass_of_methodNamed B.named
  have hlocks := B.notSynchronized
  have hl := lv_entry ([.ref (am 0), .int v, .int w]) (n := 5) (Nat.le_of_ble_eq_true rfl)
  rw [lg_entry_eq]
  generalize (lg_sl ([.ref (am 0), .int v, .int w]) ++ List.replicate (5 - (lg_sl ([.ref (am 0), .int v, .int w])).length) Slot.unset).toArray = ls at hl ⊢
  have hl : lv_has ls 5 [(0, .ref (am 0)), (1, .int v), (2, .int w)] := hl
  have hf_RX5_37 : (Cond.fieldLink RX5 37 "BlossomToursModel" "thrown" "I").before ([.ref (am 0), .int v, .int w] : List Value).toArray s = true := hts _ (by decide +kernel)
  have hi_RX5 : ∀ w ∈ u_ws RX5 TX5 13, w ∈ wsX5_foresee := by decide +kernel
  have hS : va_S (z_A 10 am) s.heap s.heap [] := va_S.rf
  have hD := z_Dm hinj (z_cM G am μ ν)
  refine lv_aload_n hx hb dX5_foresee_0 rfl (lv_at hl 0 rfl) ?_
  refine lv_iconst (v := 0) hx hb dX5_foresee_1 (by decide) ?_
  refine va_put (D := z_DD G) (ci := 5) (v := .int 0) (ty := .int) (C := RX5) (T := TX5) (N := 13) hx hb hts hi_RX5 tyX5 tyX5_ok nmX5 hown hK hP hD hS 0 z_m0 rfl 0 (by decide) hf_RX5_37 (fun _ h9 => h9) rfl (by decide +kernel) rfl rfl (Nat.le_of_ble_eq_true rfl) dX5_foresee_2 (fun H locs hP hD hS => ?_)
  have hP : va_P (z_DD G) vwCl (z_wM G am (z_up μ 8 1 0) ν) H := Eq.mp (congrArg (fun w => va_P (z_DD G) vwCl w H) z_tM0) hP
  have hD := z_Dm hinj (z_cM G am (z_up μ 8 1 0) ν)
  refine lv_iload_n hx hb dX5_foresee_5 rfl (lv_at hl 1 rfl) ?_
  refine lv_iconst (v := 1) hx hb dX5_foresee_6 (by decide) ?_
  refine lv_bipush (v := 60) hx hb dX5_foresee_7 (by decide) ?_
  refine z_call (va_runS (As := [.int v, .int 1, .int 60]) (rest := []) ⟨hx, hb, hml, hown, hts⟩ (c_X5_isIn l G v 1 60) (va_cwS 3 hts gX5_foresee_X5_isIn rfl rfl rfl (by decide +kernel) ⟨Nat.le_of_ble_eq_true rfl, Nat.le_of_ble_eq_true rfl⟩) (z_prS hX z_P0) rfl rfl hl.1 rfl (lv_room (Nat.le_of_ble_eq_true rfl)) dX5_foresee_9 ⟨Nat.le_of_ble_eq_true rfl, Nat.le_of_ble_eq_true rfl⟩) (fun _ h9 => h9) ?_
  refine W.eq (g2 := F0 m 12 ls [.int (z_wi v 1 60)]) rfl ?_
  refine lv_if_ne (tgt := 21) hx hb dX5_foresee_12 (by decide) (fun c12 => ?_) (fun c12 => ?_)
  · skip
    refine lv_iload_n hx hb dX5_foresee_21 rfl (lv_at hl 2 rfl) ?_
    refine lv_iconst (v := 5) hx hb dX5_foresee_22 (by decide) ?_
    refine lv_bipush (v := 8) hx hb dX5_foresee_23 (by decide) ?_
    refine z_call (va_runS (As := [.int w, .int 5, .int 8]) (rest := []) ⟨hx, hb, hml, hown, hts⟩ (c_X5_isIn l G w 5 8) (va_cwS 3 hts gX5_foresee_X5_isIn rfl rfl rfl (by decide +kernel) ⟨Nat.le_of_ble_eq_true rfl, Nat.le_of_ble_eq_true rfl⟩) (z_prS hX z_P0) rfl rfl hl.1 rfl (lv_room (Nat.le_of_ble_eq_true rfl)) dX5_foresee_25 ⟨Nat.le_of_ble_eq_true rfl, Nat.le_of_ble_eq_true rfl⟩) (fun _ h9 => h9) ?_
    refine W.eq (g2 := F0 m 28 ls [.int (z_wi w 5 8)]) rfl ?_
    refine lv_if_ne (tgt := 37) hx hb dX5_foresee_28 (by decide) (fun c28 => ?_) (fun c28 => ?_)
    · skip
      exact absurd g8 c28
    · skip
      refine lv_aload_n hx hb dX5_foresee_31 rfl (lv_at hl 0 rfl) ?_
      refine lv_iconst (v := 2) hx hb dX5_foresee_32 (by decide) ?_
      refine z_callm (va_runV (As := [.int 2]) (rest := []) ⟨hx, hb, hml, hown, hts⟩ (c_X5_no l G am (z_up μ 8 1 0) ν hinj 2) (cwV 1 hts gX5_foresee_X5_no rfl rfl rfl (by decide +kernel) ⟨Nat.le_of_ble_eq_true rfl, Nat.le_of_ble_eq_true rfl⟩) (z_prV (ci := 5) (k := 0) hX hP rfl z_m0) rfl rfl hl.1 rfl (lv_room (Nat.le_of_ble_eq_true rfl)) dX5_foresee_33 ⟨Nat.le_of_ble_eq_true rfl, Nat.le_of_ble_eq_true rfl⟩) hS (fun _ _ h9 => h9) (fun _ h9 => h9) (fun H locs hP hz9 hk9 hS => ?_)
      have hD := z_Dm hinj (z_cM G am (z_up (z_up μ 8 1 0) 8 1 2) ν)
      refine W.eq (g2 := F0 m 36 ls [.int 0]) rfl ?_
      have hPf : va_P (z_DD G) vwCl (z_wM G am (y_no μ 2) ν) H := by exact hP
      refine W.widen (k := 2) (n := 13) (by omega) (by omega) ?_
      refine z_iret hx hb hr hlocks dX5_foresee_36 (fun t ht hW => ⟨rfl, by rw [ht]; exact hPf, hS.F ht⟩) hS.2.2 ?_
      rfl
  · skip
    exact absurd c12 g

set_option maxHeartbeats 4000000 in
set_option maxRecDepth 100000 in
theorem c_X5_digest (l : Launch) (G : z_GT) (am : Nat → Nat) (μ : Nat → Nat → Int32) (ν : Nat → Nat → Nat) (hinj : ∀ i j, i < 10 → j < 10 → am i = am j → i = j) (hy : y_wf μ ν) : Met l yX5_digest wsX5_digest ({ frames := 6, cells := 9, slots := 81, locals := 136 } : Room) (z_Pr G [.ref (am 0)] (z_wM G am μ ν)) (z_Qm G (some (.long (y_dg (z_up μ 8 1 0) ν))) (z_wM G am (z_up μ 8 1 0) ν) (z_A 10 am)) 9 81 (z_A 10 am) := by
  refine Met.ofW (cc := cX5_digest) (maxL := 7) (ret := (some .long)) (by decide) rfl ?_
  intro p e s m args below meth c s₁ B hml hw0
  obtain ⟨rfl, hX, hP⟩ := hw0
  have hK := hX.1
  have hx := B.exec
  have hb := B.bytes
  have hr := B.returns
  have hts := atoms_spec (ws := wsX5_digest) B.pre
  have hown : s.vm.findClass RX5 = some m.cls := findClass_of_methodNamed B.named
  have hlocks := B.notSynchronized
  have hl := lv_entry ([.ref (am 0)]) (n := 7) (Nat.le_of_ble_eq_true rfl)
  rw [lg_entry_eq]
  generalize (lg_sl ([.ref (am 0)]) ++ List.replicate (7 - (lg_sl ([.ref (am 0)])).length) Slot.unset).toArray = ls at hl ⊢
  have hl : lv_has ls 7 [(0, .ref (am 0))] := hl
  have hf_RX5_19 : (Cond.fieldLink RX5 19 "BlossomToursModel" "ways" "[I").before ([.ref (am 0)] : List Value).toArray s = true := hts _ (by decide +kernel)
  have hf_RX5_22 : (Cond.fieldLink RX5 22 "BlossomToursModel" "heat" "[I").before ([.ref (am 0)] : List Value).toArray s = true := hts _ (by decide +kernel)
  have hf_RX5_28 : (Cond.fieldLink RX5 28 "BlossomToursModel" "many" "[I").before ([.ref (am 0)] : List Value).toArray s = true := hts _ (by decide +kernel)
  have hf_RX5_34 : (Cond.fieldLink RX5 34 "BlossomToursModel" "numbers" "[I").before ([.ref (am 0)] : List Value).toArray s = true := hts _ (by decide +kernel)
  have hf_RX5_37 : (Cond.fieldLink RX5 37 "BlossomToursModel" "thrown" "I").before ([.ref (am 0)] : List Value).toArray s = true := hts _ (by decide +kernel)
  have hf_RX5_41 : (Cond.fieldLink RX5 41 "BlossomToursModel" "valleys" "I").before ([.ref (am 0)] : List Value).toArray s = true := hts _ (by decide +kernel)
  have hf_RX5_48 : (Cond.fieldLink RX5 48 "BlossomToursModel" "tours" "I").before ([.ref (am 0)] : List Value).toArray s = true := hts _ (by decide +kernel)
  have hi_RX5 : ∀ w ∈ u_ws RX5 TX5 13, w ∈ wsX5_digest := by decide +kernel
  have hn8 := hy.1
  have hm6 := hy.2.1
  have hS : va_S (z_A 10 am) s.heap s.heap [] := va_S.rf
  have hD := z_Dm hinj (z_cM G am μ ν)
  refine lv_aload_n hx hb dX5_digest_0 rfl (lv_at hl 0 rfl) ?_
  refine lv_iconst (v := 0) hx hb dX5_digest_1 (by decide) ?_
  refine va_put (D := z_DD G) (ci := 5) (v := .int 0) (ty := .int) (C := RX5) (T := TX5) (N := 13) hx hb hts hi_RX5 tyX5 tyX5_ok nmX5 hown hK hP hD hS 0 z_m0 rfl 0 (by decide) hf_RX5_37 (fun _ h9 => h9) rfl (by decide +kernel) rfl rfl (Nat.le_of_ble_eq_true rfl) dX5_digest_2 (fun H locs hP hD hS => ?_)
  have hP : va_P (z_DD G) vwCl (z_wM G am (z_up μ 8 1 0) ν) H := Eq.mp (congrArg (fun w => va_P (z_DD G) vwCl w H) z_tM0) hP
  have hD := z_Dm hinj (z_cM G am (z_up μ 8 1 0) ν)
  refine lv_ldc2 (v := 1213) hx hb hown (hts (.constantLong RX5 122 (1213)) (by decide +kernel)) dX5_digest_5 ?_
  refine lv_lstore_n (lv' := [(1, .long 1213), (0, .ref (am 0))]) hx hb dX5_digest_8 rfl hl (by decide) rfl (fun ls hl => ?_)
  refine lv_iconst (v := nI 0) hx hb dX5_digest_9 (by decide) ?_
  refine lv_istore_n (lv' := [(3, .int (nI 0)), (1, .long 1213), (0, .ref (am 0))]) hx hb dX5_digest_10 rfl hl (by decide) rfl (fun ls hl => ?_)
  have lp11 : ∀ (fu11 : Nat) (i : Nat), i ≤ 9 → 9 < i + fu11 → ∀ (H : Heap) (locs : List Loc), va_P (z_DD G) vwCl (z_wM G am (z_up μ 8 1 0) ν) H → va_S (z_A 10 am) s.heap H locs → ∀ (ls : Array Slot), lv_has ls 7 [(0, .ref (am 0)), (1, .long (z_mx (y_cnt (z_up μ 8 1 0) ν) 1213 i)), (3, .int (nI i))] → W p l e (headSpec wsX5_digest ({ frames := 6, cells := 9, slots := 81, locals := 136 } : Room)).room s m ([.ref (am 0)] : List Value).toArray below meth c H locs i (9 * i) (MQ below (z_Qm G (some (.long (y_dg (z_up μ 8 1 0) ν))) (z_wM G am (z_up μ 8 1 0) ν) (z_A 10 am)) ([.ref (am 0)] : List Value).toArray s 9 81 (z_A 10 am)) (F0 m 11 ls []) := by
    intro fu11
    induction fu11 with
    | zero =>
      intro i h11 g11
      exfalso; omega
    | succ fu11 ih11 =>
      intro i h11 g11 H locs hP hS ls hl
      have hD := z_Dm hinj (z_cM G am (z_up μ 8 1 0) ν)
      refine lv_iload_n hx hb dX5_digest_11 rfl (lv_at hl 2 rfl) ?_
      refine lv_bipush (v := nI 8) hx hb dX5_digest_12 (by decide) ?_
      refine lv_icmp_gt (tgt := 40) hx hb dX5_digest_14 (by decide) (fun c14 => ?_) (fun c14 => ?_)
      · skip
        have hi : i = 9 := Nat.le_antisymm h11 (by have := z_gI c14 (by omega) (by omega); omega)
        rw [show (z_mx (y_cnt (z_up μ 8 1 0) ν) 1213 i : Int64) = z_mx (y_cnt (z_up μ 8 1 0) ν) 1213 9 from by rw [hi]] at hl
        subst hi
        refine lv_aload_n hx hb dX5_digest_40 rfl (lv_at hl 0 rfl) ?_
        refine va_get (D := z_DD G) (ci := 5) (v := .ref (am 5)) (C := RX5) (T := TX5) (N := 13) hx hb hts hi_RX5 hown hK hP 0 z_m0 rfl 7 (by decide) hf_RX5_22 (fun _ h9 => h9) rfl dX5_digest_41 ?_
        refine lv_astore_n (lv' := [(3, .ref (am 5)), (0, .ref (am 0)), (1, .long (z_mx (y_cnt (z_up μ 8 1 0) ν) 1213 9))]) hx hb dX5_digest_44 rfl hl (by decide) rfl (fun ls hl => ?_)
        refine lv_aload_n hx hb dX5_digest_45 rfl (lv_at hl 0 rfl) ?_
        refine va_alen (v := nI 10) hx hb hK hP 5 0 z_m5 rfl rfl dX5_digest_46 ?_
        refine lv_istore (lv' := [(4, .int (nI 10)), (3, .ref (am 5)), (0, .ref (am 0)), (1, .long (z_mx (y_cnt (z_up μ 8 1 0) ν) 1213 9))]) hx hb dX5_digest_47 hl (by decide) rfl (fun ls hl => ?_)
        refine lv_iconst (v := nI 0) hx hb dX5_digest_49 (by decide) ?_
        refine lv_istore (lv' := [(5, .int (nI 0)), (4, .int (nI 10)), (3, .ref (am 5)), (0, .ref (am 0)), (1, .long (z_mx (y_cnt (z_up μ 8 1 0) ν) 1213 9))]) hx hb dX5_digest_50 hl (by decide) rfl (fun ls hl => ?_)
        have lp52 : ∀ (fu52 : Nat) (j : Nat), j ≤ 10 → 10 < j + fu52 → ∀ (ls : Array Slot), lv_has ls 7 [(0, .ref (am 0)), (1, .long (z_mx (fun i => μ 7 i) (z_mx (y_cnt (z_up μ 8 1 0) ν) 1213 9) j)), (3, .ref (am 5)), (4, .int (nI 10)), (5, .int (nI j))] → W p l e (headSpec wsX5_digest ({ frames := 6, cells := 9, slots := 81, locals := 136 } : Room)).room s m ([.ref (am 0)] : List Value).toArray below meth c H locs 9 (9 * 9) (MQ below (z_Qm G (some (.long (y_dg (z_up μ 8 1 0) ν))) (z_wM G am (z_up μ 8 1 0) ν) (z_A 10 am)) ([.ref (am 0)] : List Value).toArray s 9 81 (z_A 10 am)) (F0 m 52 ls []) := by
          intro fu52
          induction fu52 with
          | zero =>
            intro j h52 g52
            exfalso; omega
          | succ fu52 ih52 =>
            intro j h52 g52 ls hl
            refine lv_iload hx hb dX5_digest_52 (lv_at hl 4 rfl) ?_
            refine lv_iload hx hb dX5_digest_54 (lv_at hl 3 rfl) ?_
            refine lv_icmp_ge (tgt := 81) hx hb dX5_digest_56 (by decide) (fun c56 => ?_) (fun c56 => ?_)
            · skip
              have hj : j = 10 := Nat.le_antisymm h52 (z_ge (by omega) (by omega) c56)
              rw [show (z_mx (fun i => μ 7 i) (z_mx (y_cnt (z_up μ 8 1 0) ν) 1213 9) j : Int64) = z_mx (fun i => μ 7 i) (z_mx (y_cnt (z_up μ 8 1 0) ν) 1213 9) 10 from by rw [hj]] at hl
              refine lv_iconst (v := nI 0) hx hb dX5_digest_81 (by decide) ?_
              refine lv_istore_n (lv' := [(3, .int (nI 0)), (0, .ref (am 0)), (1, .long (z_mx (fun i => μ 7 i) (z_mx (y_cnt (z_up μ 8 1 0) ν) 1213 9) 10)), (4, .int (nI 10)), (5, .int (nI j))]) hx hb dX5_digest_82 rfl hl (by decide) rfl (fun ls hl => ?_)
              have lp83 : ∀ (fu83 : Nat) (v : Nat), v ≤ ν 0 0 → ν 0 0 < v + fu83 → ∀ (ls : Array Slot), lv_has ls 7 [(0, .ref (am 0)), (1, .long (z_my (y_mv (z_up μ 8 1 0) ν) (z_mx (fun i => μ 7 i) (z_mx (y_cnt (z_up μ 8 1 0) ν) 1213 9) 10) v)), (3, .int (nI v))] → W p l e (headSpec wsX5_digest ({ frames := 6, cells := 9, slots := 81, locals := 136 } : Room)).room s m ([.ref (am 0)] : List Value).toArray below meth c H locs 9 (9 * 9) (MQ below (z_Qm G (some (.long (y_dg (z_up μ 8 1 0) ν))) (z_wM G am (z_up μ 8 1 0) ν) (z_A 10 am)) ([.ref (am 0)] : List Value).toArray s 9 81 (z_A 10 am)) (F0 m 83 ls []) := by
                intro fu83
                induction fu83 with
                | zero =>
                  intro v h83 g83
                  exfalso; omega
                | succ fu83 ih83 =>
                  intro v h83 g83 ls hl
                  refine lv_iload_n hx hb dX5_digest_83 rfl (lv_at hl 2 rfl) ?_
                  refine lv_aload_n hx hb dX5_digest_84 rfl (lv_at hl 0 rfl) ?_
                  refine va_get (D := z_DD G) (ci := 5) (v := .int (nI (ν 0 0))) (C := RX5) (T := TX5) (N := 13) hx hb hts hi_RX5 hown hK hP 0 z_m0 rfl 1 (by decide) hf_RX5_41 (fun _ h9 => h9) rfl dX5_digest_85 ?_
                  refine lv_icmp_ge (tgt := 165) hx hb dX5_digest_88 (by decide) (fun c88 => ?_) (fun c88 => ?_)
                  · skip
                    have hv : v = ν 0 0 := Nat.le_antisymm h83 (z_ge (by omega) (by omega) c88)
                    rw [show (z_my (y_mv (z_up μ 8 1 0) ν) (z_mx (fun i => μ 7 i) (z_mx (y_cnt (z_up μ 8 1 0) ν) 1213 9) 10) v : Int64) = z_my (y_mv (z_up μ 8 1 0) ν) (z_mx (fun i => μ 7 i) (z_mx (y_cnt (z_up μ 8 1 0) ν) 1213 9) 10) (ν 0 0) from by rw [hv]] at hl
                    refine lv_iconst (v := nI 0) hx hb dX5_digest_165 (by decide) ?_
                    refine lv_istore_n (lv' := [(3, .int (nI 0)), (0, .ref (am 0)), (1, .long (z_my (y_mv (z_up μ 8 1 0) ν) (z_mx (fun i => μ 7 i) (z_mx (y_cnt (z_up μ 8 1 0) ν) 1213 9) 10) (ν 0 0)))]) hx hb dX5_digest_166 rfl hl (by decide) rfl (fun ls hl => ?_)
                    have lp167 : ∀ (fu167 : Nat) (t : Nat), t ≤ ν 0 1 → ν 0 1 < t + fu167 → ∀ (ls : Array Slot), lv_has ls 7 [(0, .ref (am 0)), (1, .long (z_my (y_mtr (z_up μ 8 1 0) ν) (z_my (y_mv (z_up μ 8 1 0) ν) (z_mx (fun i => μ 7 i) (z_mx (y_cnt (z_up μ 8 1 0) ν) 1213 9) 10) (ν 0 0)) t)), (3, .int (nI t))] → W p l e (headSpec wsX5_digest ({ frames := 6, cells := 9, slots := 81, locals := 136 } : Room)).room s m ([.ref (am 0)] : List Value).toArray below meth c H locs 9 (9 * 9) (MQ below (z_Qm G (some (.long (y_dg (z_up μ 8 1 0) ν))) (z_wM G am (z_up μ 8 1 0) ν) (z_A 10 am)) ([.ref (am 0)] : List Value).toArray s 9 81 (z_A 10 am)) (F0 m 167 ls []) := by
                      intro fu167
                      induction fu167 with
                      | zero =>
                        intro t h167 g167
                        exfalso; omega
                      | succ fu167 ih167 =>
                        intro t h167 g167 ls hl
                        refine lv_iload_n hx hb dX5_digest_167 rfl (lv_at hl 2 rfl) ?_
                        refine lv_aload_n hx hb dX5_digest_168 rfl (lv_at hl 0 rfl) ?_
                        refine va_get (D := z_DD G) (ci := 5) (v := .int (nI (ν 0 1))) (C := RX5) (T := TX5) (N := 13) hx hb hts hi_RX5 hown hK hP 0 z_m0 rfl 8 (by decide) hf_RX5_48 (fun _ h9 => h9) rfl dX5_digest_169 ?_
                        refine lv_icmp_ge (tgt := 246) hx hb dX5_digest_172 (by decide) (fun c172 => ?_) (fun c172 => ?_)
                        · skip
                          have ht : t = ν 0 1 := Nat.le_antisymm h167 (z_ge (by omega) (by omega) c172)
                          rw [show (z_my (y_mtr (z_up μ 8 1 0) ν) (z_my (y_mv (z_up μ 8 1 0) ν) (z_mx (fun i => μ 7 i) (z_mx (y_cnt (z_up μ 8 1 0) ν) 1213 9) 10) (ν 0 0)) t : Int64) = z_my (y_mtr (z_up μ 8 1 0) ν) (z_my (y_mv (z_up μ 8 1 0) ν) (z_mx (fun i => μ 7 i) (z_mx (y_cnt (z_up μ 8 1 0) ν) 1213 9) 10) (ν 0 0)) (ν 0 1) from by rw [ht]] at hl
                          refine lv_lload_n hx hb dX5_digest_246 rfl (lv_at hl 1 rfl) ?_
                          have hPf : va_P (z_DD G) vwCl (z_wM G am (z_up μ 8 1 0) ν) H := by exact hP
                          refine z_lret hx hb hr hlocks dX5_digest_247 (fun t ht hW => ⟨rfl, by rw [ht]; exact hPf, hS.F ht⟩) hS.2.2 ?_
                          rfl
                        · skip
                          have ht := (fun a b => z_ng a b c172) (by omega) (by omega)
                          refine lv_iconst (v := nI 0) hx hb dX5_digest_175 (by decide) ?_
                          refine lv_istore (lv' := [(4, .int (nI 0)), (0, .ref (am 0)), (1, .long (z_my (y_mtr (z_up μ 8 1 0) ν) (z_my (y_mv (z_up μ 8 1 0) ν) (z_mx (fun i => μ 7 i) (z_mx (y_cnt (z_up μ 8 1 0) ν) 1213 9) 10) (ν 0 0)) t)), (3, .int (nI t))]) hx hb dX5_digest_176 hl (by decide) rfl (fun ls hl => ?_)
                          have lp178 : ∀ (fu178 : Nat) (r : Nat), r ≤ 6 → 6 < r + fu178 → ∀ (ls : Array Slot), lv_has ls 7 [(0, .ref (am 0)), (1, .long (z_mx (y_tld (z_up μ 8 1 0) ν t) (z_my (y_mtr (z_up μ 8 1 0) ν) (z_my (y_mv (z_up μ 8 1 0) ν) (z_mx (fun i => μ 7 i) (z_mx (y_cnt (z_up μ 8 1 0) ν) 1213 9) 10) (ν 0 0)) t) r)), (3, .int (nI t)), (4, .int (nI r))] → W p l e (headSpec wsX5_digest ({ frames := 6, cells := 9, slots := 81, locals := 136 } : Room)).room s m ([.ref (am 0)] : List Value).toArray below meth c H locs 9 (9 * 9) (MQ below (z_Qm G (some (.long (y_dg (z_up μ 8 1 0) ν))) (z_wM G am (z_up μ 8 1 0) ν) (z_A 10 am)) ([.ref (am 0)] : List Value).toArray s 9 81 (z_A 10 am)) (F0 m 178 ls []) := by
                            intro fu178
                            induction fu178 with
                            | zero =>
                              intro r h178 g178
                              exfalso; omega
                            | succ fu178 ih178 =>
                              intro r h178 g178 ls hl
                              refine lv_iload hx hb dX5_digest_178 (lv_at hl 3 rfl) ?_
                              refine lv_iconst (v := nI 5) hx hb dX5_digest_180 (by decide) ?_
                              refine lv_icmp_gt (tgt := 205) hx hb dX5_digest_181 (by decide) (fun c181 => ?_) (fun c181 => ?_)
                              · skip
                                have hq : r = 6 := Nat.le_antisymm h178 (by have := z_gI c181 (by omega) (by omega); omega)
                                rw [show (z_mx (y_tld (z_up μ 8 1 0) ν t) (z_my (y_mtr (z_up μ 8 1 0) ν) (z_my (y_mv (z_up μ 8 1 0) ν) (z_mx (fun i => μ 7 i) (z_mx (y_cnt (z_up μ 8 1 0) ν) 1213 9) 10) (ν 0 0)) t) r : Int64) = z_mx (y_tld (z_up μ 8 1 0) ν t) (z_my (y_mtr (z_up μ 8 1 0) ν) (z_my (y_mv (z_up μ 8 1 0) ν) (z_mx (fun i => μ 7 i) (z_mx (y_cnt (z_up μ 8 1 0) ν) 1213 9) 10) (ν 0 0)) t) 6 from by rw [hq]] at hl
                                refine lv_iconst (v := nI 0) hx hb dX5_digest_205 (by decide) ?_
                                refine lv_istore (lv' := [(4, .int (nI 0)), (0, .ref (am 0)), (1, .long (z_mx (y_tld (z_up μ 8 1 0) ν t) (z_my (y_mtr (z_up μ 8 1 0) ν) (z_my (y_mv (z_up μ 8 1 0) ν) (z_mx (fun i => μ 7 i) (z_mx (y_cnt (z_up μ 8 1 0) ν) 1213 9) 10) (ν 0 0)) t) 6)), (3, .int (nI t))]) hx hb dX5_digest_206 hl (by decide) rfl (fun ls hl => ?_)
                                have lp208 : ∀ (fu208 : Nat) (k : Nat), k ≤ ν 1 t → ν 1 t < k + fu208 → ∀ (ls : Array Slot), lv_has ls 7 [(0, .ref (am 0)), (1, .long (z_mx (fun k => nI (ν 2 (5 * t + k))) (z_mx (y_tld (z_up μ 8 1 0) ν t) (z_my (y_mtr (z_up μ 8 1 0) ν) (z_my (y_mv (z_up μ 8 1 0) ν) (z_mx (fun i => μ 7 i) (z_mx (y_cnt (z_up μ 8 1 0) ν) 1213 9) 10) (ν 0 0)) t) 6) k)), (3, .int (nI t)), (4, .int (nI k))] → W p l e (headSpec wsX5_digest ({ frames := 6, cells := 9, slots := 81, locals := 136 } : Room)).room s m ([.ref (am 0)] : List Value).toArray below meth c H locs 9 (9 * 9) (MQ below (z_Qm G (some (.long (y_dg (z_up μ 8 1 0) ν))) (z_wM G am (z_up μ 8 1 0) ν) (z_A 10 am)) ([.ref (am 0)] : List Value).toArray s 9 81 (z_A 10 am)) (F0 m 208 ls []) := by
                                  intro fu208
                                  induction fu208 with
                                  | zero =>
                                    intro k h208 g208
                                    exfalso; omega
                                  | succ fu208 ih208 =>
                                    intro k h208 g208 ls hl
                                    have hk5 := hy.2.2.1 t (by omega)
                                    refine lv_iload hx hb dX5_digest_208 (lv_at hl 3 rfl) ?_
                                    refine lv_aload_n hx hb dX5_digest_210 rfl (lv_at hl 0 rfl) ?_
                                    refine va_get (D := z_DD G) (ci := 5) (v := .ref (am 7)) (C := RX5) (T := TX5) (N := 13) hx hb hts hi_RX5 hown hK hP 0 z_m0 rfl 10 (by decide) hf_RX5_28 (fun _ h9 => h9) rfl dX5_digest_211 ?_
                                    refine lv_iload_n hx hb dX5_digest_214 rfl (lv_at hl 2 rfl) ?_
                                    refine z_iald (k := t) (f := fun z9 => nI (ν 1 z9)) hx hb hK hP 7 0 z_m7 rfl (by omega) (by decide) dX5_digest_215 ?_
                                    refine lv_icmp_ge (tgt := 240) hx hb dX5_digest_216 (by decide) (fun c216 => ?_) (fun c216 => ?_)
                                    · skip
                                      have hk : k = ν 1 t := Nat.le_antisymm h208 (z_ge (by omega) (by omega) c216)
                                      rw [show (z_mx (fun k => nI (ν 2 (5 * t + k))) (z_mx (y_tld (z_up μ 8 1 0) ν t) (z_my (y_mtr (z_up μ 8 1 0) ν) (z_my (y_mv (z_up μ 8 1 0) ν) (z_mx (fun i => μ 7 i) (z_mx (y_cnt (z_up μ 8 1 0) ν) 1213 9) 10) (ν 0 0)) t) 6) k : Int64) = z_mx (fun k => nI (ν 2 (5 * t + k))) (z_mx (y_tld (z_up μ 8 1 0) ν t) (z_my (y_mtr (z_up μ 8 1 0) ν) (z_my (y_mv (z_up μ 8 1 0) ν) (z_mx (fun i => μ 7 i) (z_mx (y_cnt (z_up μ 8 1 0) ν) 1213 9) 10) (ν 0 0)) t) 6) (ν 1 t) from by rw [hk]] at hl
                                      refine lv_iinc (v := nI (t + 1)) (lv' := [(3, .int (nI (t + 1))), (0, .ref (am 0)), (1, .long (z_mx (fun k => nI (ν 2 (5 * t + k))) (z_mx (y_tld (z_up μ 8 1 0) ν t) (z_my (y_mtr (z_up μ 8 1 0) ν) (z_my (y_mv (z_up μ 8 1 0) ν) (z_mx (fun i => μ 7 i) (z_mx (y_cnt (z_up μ 8 1 0) ν) 1213 9) 10) (ν 0 0)) t) 6) (ν 1 t))), (4, .int (nI k))]) hx hb dX5_digest_240 hl (k := 2) rfl (z_inc _) (by decide) rfl (fun ls hl => ?_)
                                      refine lv_goto (tgt := 167) hx hb dX5_digest_243 (by decide) ?_
                                      -- back to 167
                                      rw [show (z_mx (fun k => nI (ν 2 (5 * t + k))) (z_mx (y_tld (z_up μ 8 1 0) ν t) (z_my (y_mtr (z_up μ 8 1 0) ν) (z_my (y_mv (z_up μ 8 1 0) ν) (z_mx (fun i => μ 7 i) (z_mx (y_cnt (z_up μ 8 1 0) ν) 1213 9) 10) (ν 0 0)) t) 6) (ν 1 t) : Int64) = z_my (y_mtr (z_up μ 8 1 0) ν) (z_my (y_mv (z_up μ 8 1 0) ν) (z_mx (fun i => μ 7 i) (z_mx (y_cnt (z_up μ 8 1 0) ν) 1213 9) 10) (ν 0 0)) (t + 1) from by rfl] at hl
                                      exact ih167 (t + 1) (by omega) (by omega) ls (lv_sub hl [1, 2, 0] rfl)
                                    · skip
                                      have hk := (fun a b => z_ng a b c216) (by omega) (by omega)
                                      refine lv_lload_n hx hb dX5_digest_219 rfl (lv_at hl 1 rfl) ?_
                                      refine lv_ldc2 (v := 31) hx hb hown (hts (.constantLong RX5 124 (31)) (by decide +kernel)) dX5_digest_220 ?_
                                      refine lv_lmul hx hb dX5_digest_223 ?_
                                      refine lv_aload_n hx hb dX5_digest_224 rfl (lv_at hl 0 rfl) ?_
                                      refine lv_iload_n hx hb dX5_digest_225 rfl (lv_at hl 2 rfl) ?_
                                      refine lv_iload hx hb dX5_digest_226 (lv_at hl 3 rfl) ?_
                                      refine z_call (va_runV (As := [.int (nI t), .int (nI k)]) (rest := [.long ((z_mx (fun k => nI (ν 2 (5 * t + k))) (z_mx (y_tld (z_up μ 8 1 0) ν t) (z_my (y_mtr (z_up μ 8 1 0) ν) (z_my (y_mv (z_up μ 8 1 0) ν) (z_mx (fun i => μ 7 i) (z_mx (y_cnt (z_up μ 8 1 0) ν) 1213 9) 10) (ν 0 0)) t) 6) k) * 31)]) ⟨hx, hb, hml, hown, hts⟩ (c_X5_at l G am (am 9) (z_up μ 8 1 0) ν t k (by omega) (by have := hy.2.2.1 t (by omega); omega)) (cwV 2 hts gX5_digest_X5_at rfl rfl rfl (by decide +kernel) ⟨Nat.le_of_ble_eq_true rfl, Nat.le_of_ble_eq_true rfl⟩) (z_prW (ci := 5) (k := 0) hX hP (z_NM hP) rfl z_m0) rfl rfl hl.1 rfl (lv_room (Nat.le_of_ble_eq_true rfl)) dX5_digest_228 ⟨Nat.le_of_ble_eq_true rfl, Nat.le_of_ble_eq_true rfl⟩) (fun _ h9 => h9) ?_
                                      refine W.eq (g2 := F0 m 231 ls [.int (nI (ν 2 (5 * t + k))), .long ((z_mx (fun k => nI (ν 2 (5 * t + k))) (z_mx (y_tld (z_up μ 8 1 0) ν t) (z_my (y_mtr (z_up μ 8 1 0) ν) (z_my (y_mv (z_up μ 8 1 0) ν) (z_mx (fun i => μ 7 i) (z_mx (y_cnt (z_up μ 8 1 0) ν) 1213 9) 10) (ν 0 0)) t) 6) k) * 31)]) rfl ?_
                                      refine lv_i2l hx hb dX5_digest_231 rfl ?_
                                      refine lv_ladd hx hb dX5_digest_232 ?_
                                      refine lv_lstore_n (lv' := [(1, .long (((z_mx (fun k => nI (ν 2 (5 * t + k))) (z_mx (y_tld (z_up μ 8 1 0) ν t) (z_my (y_mtr (z_up μ 8 1 0) ν) (z_my (y_mv (z_up μ 8 1 0) ν) (z_mx (fun i => μ 7 i) (z_mx (y_cnt (z_up μ 8 1 0) ν) 1213 9) 10) (ν 0 0)) t) 6) k) * 31) + ((nI (ν 2 (5 * t + k))).toInt64))), (0, .ref (am 0)), (3, .int (nI t)), (4, .int (nI k))]) hx hb dX5_digest_233 rfl hl (by decide) rfl (fun ls hl => ?_)
                                      refine lv_iinc (v := nI (k + 1)) (lv' := [(4, .int (nI (k + 1))), (1, .long (((z_mx (fun k => nI (ν 2 (5 * t + k))) (z_mx (y_tld (z_up μ 8 1 0) ν t) (z_my (y_mtr (z_up μ 8 1 0) ν) (z_my (y_mv (z_up μ 8 1 0) ν) (z_mx (fun i => μ 7 i) (z_mx (y_cnt (z_up μ 8 1 0) ν) 1213 9) 10) (ν 0 0)) t) 6) k) * 31) + ((nI (ν 2 (5 * t + k))).toInt64))), (0, .ref (am 0)), (3, .int (nI t))]) hx hb dX5_digest_234 hl (k := 3) rfl (z_inc _) (by decide) rfl (fun ls hl => ?_)
                                      refine lv_goto (tgt := 208) hx hb dX5_digest_237 (by decide) ?_
                                      -- back to 208
                                      rw [show (((z_mx (fun k => nI (ν 2 (5 * t + k))) (z_mx (y_tld (z_up μ 8 1 0) ν t) (z_my (y_mtr (z_up μ 8 1 0) ν) (z_my (y_mv (z_up μ 8 1 0) ν) (z_mx (fun i => μ 7 i) (z_mx (y_cnt (z_up μ 8 1 0) ν) 1213 9) 10) (ν 0 0)) t) 6) k) * 31) + ((nI (ν 2 (5 * t + k))).toInt64) : Int64) = z_mx (fun k => nI (ν 2 (5 * t + k))) (z_mx (y_tld (z_up μ 8 1 0) ν t) (z_my (y_mtr (z_up μ 8 1 0) ν) (z_my (y_mv (z_up μ 8 1 0) ν) (z_mx (fun i => μ 7 i) (z_mx (y_cnt (z_up μ 8 1 0) ν) 1213 9) 10) (ν 0 0)) t) 6) (k + 1) from by rfl] at hl
                                      exact ih208 (k + 1) (by omega) (by omega) ls (lv_sub hl [2, 1, 3, 0] rfl)
                                rw [show (z_mx (y_tld (z_up μ 8 1 0) ν t) (z_my (y_mtr (z_up μ 8 1 0) ν) (z_my (y_mv (z_up μ 8 1 0) ν) (z_mx (fun i => μ 7 i) (z_mx (y_cnt (z_up μ 8 1 0) ν) 1213 9) 10) (ν 0 0)) t) 6 : Int64) = z_mx (fun k => nI (ν 2 (5 * t + k))) (z_mx (y_tld (z_up μ 8 1 0) ν t) (z_my (y_mtr (z_up μ 8 1 0) ν) (z_my (y_mv (z_up μ 8 1 0) ν) (z_mx (fun i => μ 7 i) (z_mx (y_cnt (z_up μ 8 1 0) ν) 1213 9) 10) (ν 0 0)) t) 6) 0 from by rfl] at hl
                                exact lp208 (ν 1 t + 1) 0 (by omega) (by omega) ls (lv_sub hl [1, 2, 3, 0] rfl)
                              · skip
                                have hq := (fun a b => z_lI c181 a b) (by omega) (by omega)
                                refine lv_lload_n hx hb dX5_digest_184 rfl (lv_at hl 1 rfl) ?_
                                refine lv_ldc2 (v := 31) hx hb hown (hts (.constantLong RX5 124 (31)) (by decide +kernel)) dX5_digest_185 ?_
                                refine lv_lmul hx hb dX5_digest_188 ?_
                                refine lv_aload_n hx hb dX5_digest_189 rfl (lv_at hl 0 rfl) ?_
                                refine lv_iload_n hx hb dX5_digest_190 rfl (lv_at hl 2 rfl) ?_
                                refine lv_iload hx hb dX5_digest_191 (lv_at hl 3 rfl) ?_
                                refine z_call (va_runV (As := [.int (nI t), .int (nI r)]) (rest := [.long ((z_mx (y_tld (z_up μ 8 1 0) ν t) (z_my (y_mtr (z_up μ 8 1 0) ν) (z_my (y_mv (z_up μ 8 1 0) ν) (z_mx (fun i => μ 7 i) (z_mx (y_cnt (z_up μ 8 1 0) ν) 1213 9) 10) (ν 0 0)) t) r) * 31)]) ⟨hx, hb, hml, hown, hts⟩ (c_X5_tourTold l G am (z_up μ 8 1 0) ν hy t r (by omega) (by omega)) (cwV 2 hts gX5_digest_X5_tourTold rfl rfl rfl (by decide +kernel) ⟨Nat.le_of_ble_eq_true rfl, Nat.le_of_ble_eq_true rfl⟩) (z_prV (ci := 5) (k := 0) hX hP rfl z_m0) rfl rfl hl.1 rfl (lv_room (Nat.le_of_ble_eq_true rfl)) dX5_digest_193 ⟨Nat.le_of_ble_eq_true rfl, Nat.le_of_ble_eq_true rfl⟩) (fun _ h9 => h9) ?_
                                refine W.eq (g2 := F0 m 196 ls [.int (y_tld (z_up μ 8 1 0) ν t r), .long ((z_mx (y_tld (z_up μ 8 1 0) ν t) (z_my (y_mtr (z_up μ 8 1 0) ν) (z_my (y_mv (z_up μ 8 1 0) ν) (z_mx (fun i => μ 7 i) (z_mx (y_cnt (z_up μ 8 1 0) ν) 1213 9) 10) (ν 0 0)) t) r) * 31)]) rfl ?_
                                refine lv_i2l hx hb dX5_digest_196 rfl ?_
                                refine lv_ladd hx hb dX5_digest_197 ?_
                                refine lv_lstore_n (lv' := [(1, .long (((z_mx (y_tld (z_up μ 8 1 0) ν t) (z_my (y_mtr (z_up μ 8 1 0) ν) (z_my (y_mv (z_up μ 8 1 0) ν) (z_mx (fun i => μ 7 i) (z_mx (y_cnt (z_up μ 8 1 0) ν) 1213 9) 10) (ν 0 0)) t) r) * 31) + ((y_tld (z_up μ 8 1 0) ν t r).toInt64))), (0, .ref (am 0)), (3, .int (nI t)), (4, .int (nI r))]) hx hb dX5_digest_198 rfl hl (by decide) rfl (fun ls hl => ?_)
                                refine lv_iinc (v := nI (r + 1)) (lv' := [(4, .int (nI (r + 1))), (1, .long (((z_mx (y_tld (z_up μ 8 1 0) ν t) (z_my (y_mtr (z_up μ 8 1 0) ν) (z_my (y_mv (z_up μ 8 1 0) ν) (z_mx (fun i => μ 7 i) (z_mx (y_cnt (z_up μ 8 1 0) ν) 1213 9) 10) (ν 0 0)) t) r) * 31) + ((y_tld (z_up μ 8 1 0) ν t r).toInt64))), (0, .ref (am 0)), (3, .int (nI t))]) hx hb dX5_digest_199 hl (k := 3) rfl (z_inc _) (by decide) rfl (fun ls hl => ?_)
                                refine lv_goto (tgt := 178) hx hb dX5_digest_202 (by decide) ?_
                                -- back to 178
                                rw [show (((z_mx (y_tld (z_up μ 8 1 0) ν t) (z_my (y_mtr (z_up μ 8 1 0) ν) (z_my (y_mv (z_up μ 8 1 0) ν) (z_mx (fun i => μ 7 i) (z_mx (y_cnt (z_up μ 8 1 0) ν) 1213 9) 10) (ν 0 0)) t) r) * 31) + ((y_tld (z_up μ 8 1 0) ν t r).toInt64) : Int64) = z_mx (y_tld (z_up μ 8 1 0) ν t) (z_my (y_mtr (z_up μ 8 1 0) ν) (z_my (y_mv (z_up μ 8 1 0) ν) (z_mx (fun i => μ 7 i) (z_mx (y_cnt (z_up μ 8 1 0) ν) 1213 9) 10) (ν 0 0)) t) (r + 1) from by rfl] at hl
                                exact ih178 (r + 1) (by omega) (by omega) ls (lv_sub hl [2, 1, 3, 0] rfl)
                          rw [show (z_my (y_mtr (z_up μ 8 1 0) ν) (z_my (y_mv (z_up μ 8 1 0) ν) (z_mx (fun i => μ 7 i) (z_mx (y_cnt (z_up μ 8 1 0) ν) 1213 9) 10) (ν 0 0)) t : Int64) = z_mx (y_tld (z_up μ 8 1 0) ν t) (z_my (y_mtr (z_up μ 8 1 0) ν) (z_my (y_mv (z_up μ 8 1 0) ν) (z_mx (fun i => μ 7 i) (z_mx (y_cnt (z_up μ 8 1 0) ν) 1213 9) 10) (ν 0 0)) t) 0 from by rfl] at hl
                          exact lp178 (6 + 1) 0 (by omega) (by omega) ls (lv_sub hl [1, 2, 3, 0] rfl)
                    rw [show (z_my (y_mv (z_up μ 8 1 0) ν) (z_mx (fun i => μ 7 i) (z_mx (y_cnt (z_up μ 8 1 0) ν) 1213 9) 10) (ν 0 0) : Int64) = z_my (y_mtr (z_up μ 8 1 0) ν) (z_my (y_mv (z_up μ 8 1 0) ν) (z_mx (fun i => μ 7 i) (z_mx (y_cnt (z_up μ 8 1 0) ν) 1213 9) 10) (ν 0 0)) 0 from by rfl] at hl
                    exact lp167 (ν 0 1 + 1) 0 (by omega) (by omega) ls (lv_sub hl [1, 2, 0] rfl)
                  · skip
                    have hv := (fun a b => z_ng a b c88) (by omega) (by omega)
                    refine lv_iconst (v := nI 0) hx hb dX5_digest_91 (by decide) ?_
                    refine lv_istore (lv' := [(4, .int (nI 0)), (0, .ref (am 0)), (1, .long (z_my (y_mv (z_up μ 8 1 0) ν) (z_mx (fun i => μ 7 i) (z_mx (y_cnt (z_up μ 8 1 0) ν) 1213 9) 10) v)), (3, .int (nI v))]) hx hb dX5_digest_92 hl (by decide) rfl (fun ls hl => ?_)
                    have lp94 : ∀ (fu94 : Nat) (a6 : Nat), a6 ≤ 6 → 6 < a6 + fu94 → ∀ (ls : Array Slot), lv_has ls 7 [(0, .ref (am 0)), (1, .long (z_mx (y_abt (z_up μ 8 1 0) ν v) (z_my (y_mv (z_up μ 8 1 0) ν) (z_mx (fun i => μ 7 i) (z_mx (y_cnt (z_up μ 8 1 0) ν) 1213 9) 10) v) a6)), (3, .int (nI v)), (4, .int (nI a6))] → W p l e (headSpec wsX5_digest ({ frames := 6, cells := 9, slots := 81, locals := 136 } : Room)).room s m ([.ref (am 0)] : List Value).toArray below meth c H locs 9 (9 * 9) (MQ below (z_Qm G (some (.long (y_dg (z_up μ 8 1 0) ν))) (z_wM G am (z_up μ 8 1 0) ν) (z_A 10 am)) ([.ref (am 0)] : List Value).toArray s 9 81 (z_A 10 am)) (F0 m 94 ls []) := by
                      intro fu94
                      induction fu94 with
                      | zero =>
                        intro a6 h94 g94
                        exfalso; omega
                      | succ fu94 ih94 =>
                        intro a6 h94 g94 ls hl
                        refine lv_iload hx hb dX5_digest_94 (lv_at hl 3 rfl) ?_
                        refine lv_iconst (v := nI 5) hx hb dX5_digest_96 (by decide) ?_
                        refine lv_icmp_gt (tgt := 121) hx hb dX5_digest_97 (by decide) (fun c97 => ?_) (fun c97 => ?_)
                        · skip
                          have hp : a6 = 6 := Nat.le_antisymm h94 (by have := z_gI c97 (by omega) (by omega); omega)
                          rw [show (z_mx (y_abt (z_up μ 8 1 0) ν v) (z_my (y_mv (z_up μ 8 1 0) ν) (z_mx (fun i => μ 7 i) (z_mx (y_cnt (z_up μ 8 1 0) ν) 1213 9) 10) v) a6 : Int64) = z_mx (y_abt (z_up μ 8 1 0) ν v) (z_my (y_mv (z_up μ 8 1 0) ν) (z_mx (fun i => μ 7 i) (z_mx (y_cnt (z_up μ 8 1 0) ν) 1213 9) 10) v) 6 from by rw [hp]] at hl
                          refine lv_iconst (v := nI 0) hx hb dX5_digest_121 (by decide) ?_
                          refine lv_istore (lv' := [(4, .int (nI 0)), (0, .ref (am 0)), (1, .long (z_mx (y_abt (z_up μ 8 1 0) ν v) (z_my (y_mv (z_up μ 8 1 0) ν) (z_mx (fun i => μ 7 i) (z_mx (y_cnt (z_up μ 8 1 0) ν) 1213 9) 10) v) 6)), (3, .int (nI v))]) hx hb dX5_digest_122 hl (by decide) rfl (fun ls hl => ?_)
                          have lp124 : ∀ (fu124 : Nat) (u : Nat), u ≤ ν 0 0 → ν 0 0 < u + fu124 → ∀ (ls : Array Slot), lv_has ls 7 [(0, .ref (am 0)), (1, .long (z_mx (fun u => μ 10 (8 * v + u)) (z_mx (y_abt (z_up μ 8 1 0) ν v) (z_my (y_mv (z_up μ 8 1 0) ν) (z_mx (fun i => μ 7 i) (z_mx (y_cnt (z_up μ 8 1 0) ν) 1213 9) 10) v) 6) u)), (3, .int (nI v)), (4, .int (nI u))] → W p l e (headSpec wsX5_digest ({ frames := 6, cells := 9, slots := 81, locals := 136 } : Room)).room s m ([.ref (am 0)] : List Value).toArray below meth c H locs 9 (9 * 9) (MQ below (z_Qm G (some (.long (y_dg (z_up μ 8 1 0) ν))) (z_wM G am (z_up μ 8 1 0) ν) (z_A 10 am)) ([.ref (am 0)] : List Value).toArray s 9 81 (z_A 10 am)) (F0 m 124 ls []) := by
                            intro fu124
                            induction fu124 with
                            | zero =>
                              intro u h124 g124
                              exfalso; omega
                            | succ fu124 ih124 =>
                              intro u h124 g124 ls hl
                              refine lv_iload hx hb dX5_digest_124 (lv_at hl 3 rfl) ?_
                              refine lv_aload_n hx hb dX5_digest_126 rfl (lv_at hl 0 rfl) ?_
                              refine va_get (D := z_DD G) (ci := 5) (v := .int (nI (ν 0 0))) (C := RX5) (T := TX5) (N := 13) hx hb hts hi_RX5 hown hK hP 0 z_m0 rfl 1 (by decide) hf_RX5_41 (fun _ h9 => h9) rfl dX5_digest_127 ?_
                              refine lv_icmp_ge (tgt := 159) hx hb dX5_digest_130 (by decide) (fun c130 => ?_) (fun c130 => ?_)
                              · skip
                                have hu : u = ν 0 0 := Nat.le_antisymm h124 (z_ge (by omega) (by omega) c130)
                                rw [show (z_mx (fun u => μ 10 (8 * v + u)) (z_mx (y_abt (z_up μ 8 1 0) ν v) (z_my (y_mv (z_up μ 8 1 0) ν) (z_mx (fun i => μ 7 i) (z_mx (y_cnt (z_up μ 8 1 0) ν) 1213 9) 10) v) 6) u : Int64) = z_mx (fun u => μ 10 (8 * v + u)) (z_mx (y_abt (z_up μ 8 1 0) ν v) (z_my (y_mv (z_up μ 8 1 0) ν) (z_mx (fun i => μ 7 i) (z_mx (y_cnt (z_up μ 8 1 0) ν) 1213 9) 10) v) 6) (ν 0 0) from by rw [hu]] at hl
                                refine lv_iinc (v := nI (v + 1)) (lv' := [(3, .int (nI (v + 1))), (0, .ref (am 0)), (1, .long (z_mx (fun u => μ 10 (8 * v + u)) (z_mx (y_abt (z_up μ 8 1 0) ν v) (z_my (y_mv (z_up μ 8 1 0) ν) (z_mx (fun i => μ 7 i) (z_mx (y_cnt (z_up μ 8 1 0) ν) 1213 9) 10) v) 6) (ν 0 0))), (4, .int (nI u))]) hx hb dX5_digest_159 hl (k := 2) rfl (z_inc _) (by decide) rfl (fun ls hl => ?_)
                                refine lv_goto (tgt := 83) hx hb dX5_digest_162 (by decide) ?_
                                -- back to 83
                                rw [show (z_mx (fun u => μ 10 (8 * v + u)) (z_mx (y_abt (z_up μ 8 1 0) ν v) (z_my (y_mv (z_up μ 8 1 0) ν) (z_mx (fun i => μ 7 i) (z_mx (y_cnt (z_up μ 8 1 0) ν) 1213 9) 10) v) 6) (ν 0 0) : Int64) = z_my (y_mv (z_up μ 8 1 0) ν) (z_mx (fun i => μ 7 i) (z_mx (y_cnt (z_up μ 8 1 0) ν) 1213 9) 10) (v + 1) from by rfl] at hl
                                exact ih83 (v + 1) (by omega) (by omega) ls (lv_sub hl [1, 2, 0] rfl)
                              · skip
                                have hu := (fun a b => z_ng a b c130) (by omega) (by omega)
                                refine lv_lload_n hx hb dX5_digest_133 rfl (lv_at hl 1 rfl) ?_
                                refine lv_ldc2 (v := 31) hx hb hown (hts (.constantLong RX5 124 (31)) (by decide +kernel)) dX5_digest_134 ?_
                                refine lv_lmul hx hb dX5_digest_137 ?_
                                refine lv_aload_n hx hb dX5_digest_138 rfl (lv_at hl 0 rfl) ?_
                                refine va_get (D := z_DD G) (ci := 5) (v := .ref (am 4)) (C := RX5) (T := TX5) (N := 13) hx hb hts hi_RX5 hown hK hP 0 z_m0 rfl 6 (by decide) hf_RX5_19 (fun _ h9 => h9) rfl dX5_digest_139 ?_
                                refine lv_bipush (v := nI 8) hx hb dX5_digest_142 (by decide) ?_
                                refine lv_iload_n hx hb dX5_digest_144 rfl (lv_at hl 2 rfl) ?_
                                refine lv_imul hx hb dX5_digest_145 ?_
                                refine z_top (show (.int ((nI 8) * (nI v)) : Value) = .int (nI (8 * v)) from by rw [pk_mul]) ?_
                                refine lv_iload hx hb dX5_digest_146 (lv_at hl 3 rfl) ?_
                                refine lv_iadd hx hb dX5_digest_148 ?_
                                refine z_top (show (.int ((nI (8 * v)) + (nI u)) : Value) = .int (nI ((8 * v) + u)) from by rw [nI_add]) ?_
                                refine z_iald (k := ((8 * v) + u)) (f := fun z9 => (z_up μ 8 1 0) 10 z9) hx hb hK hP 4 0 z_m4 rfl (by omega) (by decide) dX5_digest_149 ?_
                                refine lv_i2l hx hb dX5_digest_150 rfl ?_
                                refine lv_ladd hx hb dX5_digest_151 ?_
                                refine lv_lstore_n (lv' := [(1, .long (((z_mx (fun u => μ 10 (8 * v + u)) (z_mx (y_abt (z_up μ 8 1 0) ν v) (z_my (y_mv (z_up μ 8 1 0) ν) (z_mx (fun i => μ 7 i) (z_mx (y_cnt (z_up μ 8 1 0) ν) 1213 9) 10) v) 6) u) * 31) + (((z_up μ 8 1 0) 10 ((8 * v) + u)).toInt64))), (0, .ref (am 0)), (3, .int (nI v)), (4, .int (nI u))]) hx hb dX5_digest_152 rfl hl (by decide) rfl (fun ls hl => ?_)
                                refine lv_iinc (v := nI (u + 1)) (lv' := [(4, .int (nI (u + 1))), (1, .long (((z_mx (fun u => μ 10 (8 * v + u)) (z_mx (y_abt (z_up μ 8 1 0) ν v) (z_my (y_mv (z_up μ 8 1 0) ν) (z_mx (fun i => μ 7 i) (z_mx (y_cnt (z_up μ 8 1 0) ν) 1213 9) 10) v) 6) u) * 31) + (((z_up μ 8 1 0) 10 ((8 * v) + u)).toInt64))), (0, .ref (am 0)), (3, .int (nI v))]) hx hb dX5_digest_153 hl (k := 3) rfl (z_inc _) (by decide) rfl (fun ls hl => ?_)
                                refine lv_goto (tgt := 124) hx hb dX5_digest_156 (by decide) ?_
                                -- back to 124
                                rw [show (((z_mx (fun u => μ 10 (8 * v + u)) (z_mx (y_abt (z_up μ 8 1 0) ν v) (z_my (y_mv (z_up μ 8 1 0) ν) (z_mx (fun i => μ 7 i) (z_mx (y_cnt (z_up μ 8 1 0) ν) 1213 9) 10) v) 6) u) * 31) + (((z_up μ 8 1 0) 10 ((8 * v) + u)).toInt64) : Int64) = z_mx (fun u => μ 10 (8 * v + u)) (z_mx (y_abt (z_up μ 8 1 0) ν v) (z_my (y_mv (z_up μ 8 1 0) ν) (z_mx (fun i => μ 7 i) (z_mx (y_cnt (z_up μ 8 1 0) ν) 1213 9) 10) v) 6) (u + 1) from by rfl] at hl
                                exact ih124 (u + 1) (by omega) (by omega) ls (lv_sub hl [2, 1, 3, 0] rfl)
                          rw [show (z_mx (y_abt (z_up μ 8 1 0) ν v) (z_my (y_mv (z_up μ 8 1 0) ν) (z_mx (fun i => μ 7 i) (z_mx (y_cnt (z_up μ 8 1 0) ν) 1213 9) 10) v) 6 : Int64) = z_mx (fun u => μ 10 (8 * v + u)) (z_mx (y_abt (z_up μ 8 1 0) ν v) (z_my (y_mv (z_up μ 8 1 0) ν) (z_mx (fun i => μ 7 i) (z_mx (y_cnt (z_up μ 8 1 0) ν) 1213 9) 10) v) 6) 0 from by rfl] at hl
                          exact lp124 (ν 0 0 + 1) 0 (by omega) (by omega) ls (lv_sub hl [1, 2, 3, 0] rfl)
                        · skip
                          have hp := (fun a b => z_lI c97 a b) (by omega) (by omega)
                          refine lv_lload_n hx hb dX5_digest_100 rfl (lv_at hl 1 rfl) ?_
                          refine lv_ldc2 (v := 31) hx hb hown (hts (.constantLong RX5 124 (31)) (by decide +kernel)) dX5_digest_101 ?_
                          refine lv_lmul hx hb dX5_digest_104 ?_
                          refine lv_aload_n hx hb dX5_digest_105 rfl (lv_at hl 0 rfl) ?_
                          refine lv_iload_n hx hb dX5_digest_106 rfl (lv_at hl 2 rfl) ?_
                          refine lv_iload hx hb dX5_digest_107 (lv_at hl 3 rfl) ?_
                          refine z_call (va_runV (As := [.int (nI v), .int (nI a6)]) (rest := [.long ((z_mx (y_abt (z_up μ 8 1 0) ν v) (z_my (y_mv (z_up μ 8 1 0) ν) (z_mx (fun i => μ 7 i) (z_mx (y_cnt (z_up μ 8 1 0) ν) 1213 9) 10) v) a6) * 31)]) ⟨hx, hb, hml, hown, hts⟩ (c_X5_valleyTold l G am (z_up μ 8 1 0) ν hy v a6 hv (by omega)) (cwV 2 hts gX5_digest_X5_valleyTold rfl rfl rfl (by decide +kernel) ⟨Nat.le_of_ble_eq_true rfl, Nat.le_of_ble_eq_true rfl⟩) (z_prV (ci := 5) (k := 0) hX hP rfl z_m0) rfl rfl hl.1 rfl (lv_room (Nat.le_of_ble_eq_true rfl)) dX5_digest_109 ⟨Nat.le_of_ble_eq_true rfl, Nat.le_of_ble_eq_true rfl⟩) (fun _ h9 => h9) ?_
                          refine W.eq (g2 := F0 m 112 ls [.int (y_abt (z_up μ 8 1 0) ν v a6), .long ((z_mx (y_abt (z_up μ 8 1 0) ν v) (z_my (y_mv (z_up μ 8 1 0) ν) (z_mx (fun i => μ 7 i) (z_mx (y_cnt (z_up μ 8 1 0) ν) 1213 9) 10) v) a6) * 31)]) rfl ?_
                          refine lv_i2l hx hb dX5_digest_112 rfl ?_
                          refine lv_ladd hx hb dX5_digest_113 ?_
                          refine lv_lstore_n (lv' := [(1, .long (((z_mx (y_abt (z_up μ 8 1 0) ν v) (z_my (y_mv (z_up μ 8 1 0) ν) (z_mx (fun i => μ 7 i) (z_mx (y_cnt (z_up μ 8 1 0) ν) 1213 9) 10) v) a6) * 31) + ((y_abt (z_up μ 8 1 0) ν v a6).toInt64))), (0, .ref (am 0)), (3, .int (nI v)), (4, .int (nI a6))]) hx hb dX5_digest_114 rfl hl (by decide) rfl (fun ls hl => ?_)
                          refine lv_iinc (v := nI (a6 + 1)) (lv' := [(4, .int (nI (a6 + 1))), (1, .long (((z_mx (y_abt (z_up μ 8 1 0) ν v) (z_my (y_mv (z_up μ 8 1 0) ν) (z_mx (fun i => μ 7 i) (z_mx (y_cnt (z_up μ 8 1 0) ν) 1213 9) 10) v) a6) * 31) + ((y_abt (z_up μ 8 1 0) ν v a6).toInt64))), (0, .ref (am 0)), (3, .int (nI v))]) hx hb dX5_digest_115 hl (k := 3) rfl (z_inc _) (by decide) rfl (fun ls hl => ?_)
                          refine lv_goto (tgt := 94) hx hb dX5_digest_118 (by decide) ?_
                          -- back to 94
                          rw [show (((z_mx (y_abt (z_up μ 8 1 0) ν v) (z_my (y_mv (z_up μ 8 1 0) ν) (z_mx (fun i => μ 7 i) (z_mx (y_cnt (z_up μ 8 1 0) ν) 1213 9) 10) v) a6) * 31) + ((y_abt (z_up μ 8 1 0) ν v a6).toInt64) : Int64) = z_mx (y_abt (z_up μ 8 1 0) ν v) (z_my (y_mv (z_up μ 8 1 0) ν) (z_mx (fun i => μ 7 i) (z_mx (y_cnt (z_up μ 8 1 0) ν) 1213 9) 10) v) (a6 + 1) from by rfl] at hl
                          exact ih94 (a6 + 1) (by omega) (by omega) ls (lv_sub hl [2, 1, 3, 0] rfl)
                    rw [show (z_my (y_mv (z_up μ 8 1 0) ν) (z_mx (fun i => μ 7 i) (z_mx (y_cnt (z_up μ 8 1 0) ν) 1213 9) 10) v : Int64) = z_mx (y_abt (z_up μ 8 1 0) ν v) (z_my (y_mv (z_up μ 8 1 0) ν) (z_mx (fun i => μ 7 i) (z_mx (y_cnt (z_up μ 8 1 0) ν) 1213 9) 10) v) 0 from by rfl] at hl
                    exact lp94 (6 + 1) 0 (by omega) (by omega) ls (lv_sub hl [1, 2, 3, 0] rfl)
              rw [show (z_mx (fun i => μ 7 i) (z_mx (y_cnt (z_up μ 8 1 0) ν) 1213 9) 10 : Int64) = z_my (y_mv (z_up μ 8 1 0) ν) (z_mx (fun i => μ 7 i) (z_mx (y_cnt (z_up μ 8 1 0) ν) 1213 9) 10) 0 from by rfl] at hl
              exact lp83 (ν 0 0 + 1) 0 (by omega) (by omega) ls (lv_sub hl [1, 2, 0] rfl)
            · skip
              have hj := (fun a b => z_ng a b c56) (by omega) (by omega)
              refine lv_aload_n hx hb dX5_digest_59 rfl (lv_at hl 2 rfl) ?_
              refine lv_iload hx hb dX5_digest_60 (lv_at hl 4 rfl) ?_
              refine z_iald (k := j) (f := fun z9 => (z_up μ 8 1 0) 7 z9) hx hb hK hP 5 0 z_m5 rfl (by omega) (by decide) dX5_digest_62 ?_
              refine lv_istore (lv' := [(6, .int ((z_up μ 8 1 0) 7 j)), (0, .ref (am 0)), (1, .long (z_mx (fun i => μ 7 i) (z_mx (y_cnt (z_up μ 8 1 0) ν) 1213 9) j)), (3, .ref (am 5)), (4, .int (nI 10)), (5, .int (nI j))]) hx hb dX5_digest_63 hl (by decide) rfl (fun ls hl => ?_)
              refine lv_lload_n hx hb dX5_digest_65 rfl (lv_at hl 2 rfl) ?_
              refine lv_ldc2 (v := 31) hx hb hown (hts (.constantLong RX5 124 (31)) (by decide +kernel)) dX5_digest_66 ?_
              refine lv_lmul hx hb dX5_digest_69 ?_
              refine lv_iload hx hb dX5_digest_70 (lv_at hl 0 rfl) ?_
              refine lv_i2l hx hb dX5_digest_72 rfl ?_
              refine lv_ladd hx hb dX5_digest_73 ?_
              refine lv_lstore_n (lv' := [(1, .long (((z_mx (fun i => μ 7 i) (z_mx (y_cnt (z_up μ 8 1 0) ν) 1213 9) j) * 31) + (((z_up μ 8 1 0) 7 j).toInt64))), (6, .int ((z_up μ 8 1 0) 7 j)), (0, .ref (am 0)), (3, .ref (am 5)), (4, .int (nI 10)), (5, .int (nI j))]) hx hb dX5_digest_74 rfl hl (by decide) rfl (fun ls hl => ?_)
              refine lv_iinc (v := nI (j + 1)) (lv' := [(5, .int (nI (j + 1))), (1, .long (((z_mx (fun i => μ 7 i) (z_mx (y_cnt (z_up μ 8 1 0) ν) 1213 9) j) * 31) + (((z_up μ 8 1 0) 7 j).toInt64))), (6, .int ((z_up μ 8 1 0) 7 j)), (0, .ref (am 0)), (3, .ref (am 5)), (4, .int (nI 10))]) hx hb dX5_digest_75 hl (k := 5) rfl (z_inc _) (by decide) rfl (fun ls hl => ?_)
              refine lv_goto (tgt := 52) hx hb dX5_digest_78 (by decide) ?_
              -- back to 52
              rw [show (((z_mx (fun i => μ 7 i) (z_mx (y_cnt (z_up μ 8 1 0) ν) 1213 9) j) * 31) + (((z_up μ 8 1 0) 7 j).toInt64) : Int64) = z_mx (fun i => μ 7 i) (z_mx (y_cnt (z_up μ 8 1 0) ν) 1213 9) (j + 1) from by rfl] at hl
              exact ih52 (j + 1) (by omega) (by omega) ls (lv_sub hl [3, 1, 4, 5, 0] rfl)
        rw [show (z_mx (y_cnt (z_up μ 8 1 0) ν) 1213 9 : Int64) = z_mx (fun i => μ 7 i) (z_mx (y_cnt (z_up μ 8 1 0) ν) 1213 9) 0 from by rfl] at hl
        exact lp52 (10 + 1) 0 (by omega) (by omega) ls (lv_sub hl [3, 4, 2, 1, 0] rfl)
      · skip
        have hi := (fun a b => z_lI c14 a b) (by omega) (by omega)
        refine lv_lload_n hx hb dX5_digest_17 rfl (lv_at hl 1 rfl) ?_
        refine lv_ldc2 (v := 31) hx hb hown (hts (.constantLong RX5 124 (31)) (by decide +kernel)) dX5_digest_18 ?_
        refine lv_lmul hx hb dX5_digest_21 ?_
        refine lv_aload_n hx hb dX5_digest_22 rfl (lv_at hl 0 rfl) ?_
        refine lv_aload_n hx hb dX5_digest_23 rfl (lv_at hl 0 rfl) ?_
        refine va_get (D := z_DD G) (ci := 5) (v := .ref (am 9)) (C := RX5) (T := TX5) (N := 13) hx hb hts hi_RX5 hown hK hP 0 z_m0 rfl 12 (by decide) hf_RX5_34 (fun _ h9 => h9) rfl dX5_digest_24 ?_
        refine lv_iload_n hx hb dX5_digest_27 rfl (lv_at hl 2 rfl) ?_
        refine z_callm (va_runV (As := [.ref (am 9), .int (nI i)]) (rest := [.long ((z_mx (y_cnt (z_up μ 8 1 0) ν) 1213 i) * 31)]) ⟨hx, hb, hml, hown, hts⟩ (c_X5_counted l G am (am 9) (z_up μ 8 1 0) ν hy i (by omega)) (cwV 2 hts gX5_digest_X5_counted rfl rfl rfl (by decide +kernel) ⟨Nat.le_of_ble_eq_true rfl, Nat.le_of_ble_eq_true rfl⟩) (z_prW (ci := 5) (k := 0) hX hP (z_NM hP) rfl z_m0) rfl rfl hl.1 rfl (lv_room (Nat.le_of_ble_eq_true rfl)) dX5_digest_28 ⟨by show _ ≤ 9; omega, by show _ ≤ 81; omega⟩) hS (fun _ _ h8 => h8.elim) (fun _ h8 => h8.elim) (fun H locs hP hz9 hk9 hS => ?_)
        have hP := z_MN hP
        have hD := z_Dm hinj (z_cM G am (z_up μ 8 1 0) ν)
        refine W.eq (g2 := F0 m 31 ls [.int (y_cnt (z_up μ 8 1 0) ν i), .long ((z_mx (y_cnt (z_up μ 8 1 0) ν) 1213 i) * 31)]) rfl ?_
        refine lv_i2l hx hb dX5_digest_31 rfl ?_
        refine lv_ladd hx hb dX5_digest_32 ?_
        refine lv_lstore_n (lv' := [(1, .long (((z_mx (y_cnt (z_up μ 8 1 0) ν) 1213 i) * 31) + ((y_cnt (z_up μ 8 1 0) ν i).toInt64))), (0, .ref (am 0)), (3, .int (nI i))]) hx hb dX5_digest_33 rfl hl (by decide) rfl (fun ls hl => ?_)
        refine lv_iinc (v := nI (i + 1)) (lv' := [(3, .int (nI (i + 1))), (1, .long (((z_mx (y_cnt (z_up μ 8 1 0) ν) 1213 i) * 31) + ((y_cnt (z_up μ 8 1 0) ν i).toInt64))), (0, .ref (am 0))]) hx hb dX5_digest_34 hl (k := 2) rfl (z_inc _) (by decide) rfl (fun ls hl => ?_)
        refine lv_goto (tgt := 11) hx hb dX5_digest_37 (by decide) ?_
        -- back to 11
        rw [show (((z_mx (y_cnt (z_up μ 8 1 0) ν) 1213 i) * 31) + ((y_cnt (z_up μ 8 1 0) ν i).toInt64) : Int64) = z_mx (y_cnt (z_up μ 8 1 0) ν) 1213 (i + 1) from by rfl] at hl
        exact ih11 (i + 1) (by omega) (by omega) _ _ hP hS ls (lv_sub hl [2, 1, 0] rfl)
  rw [show (1213 : Int64) = z_mx (y_cnt (z_up μ 8 1 0) ν) 1213 0 from by rfl] at hl
  exact lp11 (9 + 1) 0 (by omega) (by omega) _ _ hP hS ls (lv_sub hl [2, 1, 0] rfl)
