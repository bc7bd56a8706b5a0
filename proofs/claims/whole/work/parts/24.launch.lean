/-! Part 24: the launch: what the law's entry gives to every method. -/
theorem q_nf : ∀ q ∈ z_nf, Cond.fieldLinkNest q.1 q.2.1 q.2.2.1 q.2.2.2.1 q.2.2.2.2.1 q.2.2.2.2.2 ∈ lw_tbl := by decide +kernel
theorem q_nm : ∀ q ∈ z_nm, Cond.methodLinkNest q.1 q.2.1 q.2.2.1 q.2.2.2 ∈ lw_tbl := by decide +kernel
theorem q_sl : ∀ q ∈ z_sl, Cond.stringRef q.1 q.2.1 q.2.2 ∈ lw_tbl := by decide +kernel
theorem q_ca : ∀ X ∈ z_ex, Cond.castable X X ∈ lw_tbl := by decide +kernel
theorem q_de : ∀ y ∈ z_dcl, Cond.declares y ∈ lw_tbl := by decide +kernel
theorem q_cl : Cond.castable "[I" "java/lang/Cloneable" ∈ lw_tbl := by decide +kernel
theorem q_aA : Cond.arrayOver (.array .int) ∈ lw_tbl := by decide +kernel
theorem q_a3 : Cond.arrayOver (.object RX3) ∈ lw_tbl := by decide +kernel
theorem q_a2 : Cond.arrayOver (.object RX2) ∈ lw_tbl := by decide +kernel
theorem q_aI : Cond.arrayClass .int ∈ lw_tbl := by decide +kernel
theorem q_aL : Cond.arrayClass .long ∈ lw_tbl := by decide +kernel
theorem q_ls1 : Cond.laysStatic Bundle.tN "UNASSIGNED_STACK" Bundle.steD ∈ lw_tbl := by decide +kernel
theorem q_ls2 : Cond.laysStatic Bundle.tN "SUPPRESSED_SENTINEL" Bundle.listD ∈ lw_tbl := by decide +kernel
theorem q_it : Cond.initialized Bundle.tN ∈ lw_tbl := by decide +kernel
section Q
variable {s : State} {b : Nat}
theorem q_nc (hgv : (Jvm.Cond.and given_1 narrow_1).before #[Value.ref b] s = true) : ∀ X ∈ z_ex, ∀ Y ∈ z_ex, X ≠ Y → va_Nc X Y s := by
  have hs := flat_of_before _ hgv
  have h1 : (Cond.not (.castable z_IA z_IS)).before #[Value.ref b] s = true := hs _ (by decide +kernel)
  have h2 : (Cond.not (.castable z_IA z_IO)).before #[Value.ref b] s = true := hs _ (by decide +kernel)
  have h3 : (Cond.not (.castable z_IS z_IA)).before #[Value.ref b] s = true := hs _ (by decide +kernel)
  have h4 : (Cond.not (.castable z_IS z_IO)).before #[Value.ref b] s = true := hs _ (by decide +kernel)
  have h5 : (Cond.not (.castable z_IO z_IA)).before #[Value.ref b] s = true := hs _ (by decide +kernel)
  have h6 : (Cond.not (.castable z_IO z_IS)).before #[Value.ref b] s = true := hs _ (by decide +kernel)
  intro X hX Y hY hn
  simp only [z_ex, List.mem_cons, List.not_mem_nil, or_false] at hX hY
  rcases hX with rfl | rfl | rfl <;> rcases hY with rfl | rfl | rfl
  · exact absurd rfl hn
  · exact va_Nc.of h1
  · exact va_Nc.of h2
  · exact va_Nc.of h3
  · exact absurd rfl hn
  · exact va_Nc.of h4
  · exact va_Nc.of h5
  · exact va_Nc.of h6
  · exact absurd rfl hn
theorem q_sr {A : Array Value} {own tx : String} {k : Nat} (h : (Cond.stringRef own k tx).before A s = true) : ∃ a, vk_R own k tx a s := by
  cases hc : s.vm.findClass own with
  | none => simp [Cond.before, Cond.holds, Cond.value, hc] at h
  | some cur =>
    obtain ⟨_, _, _, a, -, -, -, -, -, he⟩ := Cond.stringRef_spec hc h
    exact ⟨a, vk_R.of h he⟩
theorem q_th (hts : ∀ w ∈ lw_tbl, w.before #[Value.ref b] s = true) (hgv : (Jvm.Cond.and given_1 narrow_1).before #[Value.ref b] s = true) : z_th (fun q => s.heap.size ≤ q) s s.heap := by
  have hs := flat_of_before _ hgv
  have r1 : (Cond.isRef (.static Bundle.tN "UNASSIGNED_STACK" Bundle.steD)).before #[Value.ref b] s = true := hs _ (by decide +kernel)
  have r2 : (Cond.isRef (.static Bundle.tN "SUPPRESSED_SENTINEL" Bundle.listD)).before #[Value.ref b] s = true := hs _ (by decide +kernel)
  refine ⟨⟨vx_Zqof (hts _ q_ls1) (hts _ q_it) r1 (fun a ha => Nat.not_le.mpr ha), vx_Zqof (hts _ q_ls2) (hts _ q_it) r2 (fun a ha => Nat.not_le.mpr ha)⟩, fun q hq => ?_, ⟨fun X hX => va_Nw.of rfl (hts _ (q_ca X hX)), fun y hy => va_Nw.of rfl (hts _ (q_de y hy))⟩, q_nc hgv⟩
  exact q_sr (hts _ (q_sl q hq))
theorem q_env (hts : ∀ w ∈ lw_tbl, w.before #[Value.ref b] s = true) : z_env s := ⟨fun q hq => va_Nw.of rfl (hts _ (q_nf q hq)), fun q hq => va_Nw.of rfl (hts _ (q_nm q hq))⟩
theorem q_aW {A : Array Value} {t : FieldType} (h : (Cond.arrayOver (.array t)).before A s = true) : ∃ comp c k, s.vm.findClass (FieldType.array t).toString = some comp ∧ s.vm.classes[c]? = some k ∧ k.kind = .array comp (.array t) ∧ s.vm.findClass ("[" ++ (FieldType.array t).toString) = some c := by
  unfold Cond.before Cond.holds at h
  simp only [Cond.value, beq_iff_eq] at h
  cases hc : s.vm.findClass (FieldType.array t).toString with
  | none => simp [hc] at h
  | some comp =>
    simp only [hc, Option.bind_some, Option.bind_eq_some_iff, Option.map_eq_some_iff] at h
    obtain ⟨c, h1, k, h2, h3⟩ := h
    refine ⟨comp, c, k, rfl, h2, ?_⟩
    obtain ⟨hlt, hp, -⟩ := Array.findIdx?_eq_some_iff_getElem.mp h1
    have e : s.vm.classes[c] = k := (Array.getElem?_eq_some_iff.mp h2).2
    rw [e] at hp
    cases hk : k.kind with
    | array component ty =>
      rw [hk] at h3 hp
      simp at h3 hp
      exact ⟨by rw [hp, h3.1], h3.2⟩
    | _ =>
      rw [hk] at h3
      simp at h3
theorem q_K (hts : ∀ w ∈ lw_tbl, w.before #[Value.ref b] s = true) : ∃ G : z_GT, va_K (z_DD G) vwCl (z_ty G) s := by
  obtain ⟨c0, i0, k0⟩ := u_known (C := RX0) (T := TX0) (N := 3) (n := 3) hts wsL_law_k0 (hts (.instantiable RX0 3) (by decide +kernel))
  obtain ⟨c1, i1, k1⟩ := u_known (C := RX1) (T := TX1) (N := 2) (n := 2) hts wsL_law_k1 (hts (.instantiable RX1 2) (by decide +kernel))
  obtain ⟨c2, i2, k2⟩ := u_known (C := RX2) (T := TX2) (N := 4) (n := 4) hts wsL_law_k2 (hts (.instantiable RX2 4) (by decide +kernel))
  obtain ⟨c3, i3, k3⟩ := u_known (C := RX3) (T := TX3) (N := 5) (n := 5) hts wsL_law_k3 (hts (.instantiable RX3 5) (by decide +kernel))
  obtain ⟨c4, i4, k4⟩ := u_known (C := RX4) (T := TX4) (N := 9) (n := 9) hts wsL_law_k4 (hts (.instantiable RX4 9) (by decide +kernel))
  obtain ⟨c5, i5, k5⟩ := u_known (C := RX5) (T := TX5) (N := 13) (n := 13) hts wsL_law_k5 (hts (.instantiable RX5 13) (by decide +kernel))
  obtain ⟨aI, kI, cI, f1, f2, f3⟩ := Cond.arrayClass_spec (hts _ q_aI)
  obtain ⟨aL, kL, cL, g1, g2, g3⟩ := Cond.arrayClass_spec (hts _ q_aL)
  obtain ⟨p3, a3, m3, v1, -, v3, v4, v5⟩ := Cond.arrayOver_spec (hts _ q_a3)
  obtain ⟨p2, a2, m2, t1, -, t3, t4, t5⟩ := Cond.arrayOver_spec (hts _ q_a2)
  obtain ⟨pW, aW, mW, w1, w3, w4, w5⟩ := q_aW (hts _ q_aA)
  refine ⟨(fun k => if k = 0 then c0 else if k = 1 then c1 else if k = 2 then c2 else if k = 3 then c3 else if k = 4 then c4 else c5, fun k => if k = 0 then i0 else if k = 1 then i1 else if k = 2 then i2 else if k = 3 then i3 else if k = 4 then i4 else i5, aI, a3, a2, aW, aL), fun k q hq => ?_, fun k q hq => ?_⟩
  · match k, hq with
    | 0, hq => cases hq; exact k0
    | 1, hq => cases hq; exact k1
    | 2, hq => cases hq; exact k2
    | 3, hq => cases hq; exact k3
    | 4, hq => cases hq; exact k4
    | 5, hq => cases hq; exact k5
    | k + 6, hq => simp [vwCl] at hq
  · match k, hq with
    | 0, hq => cases hq; exact ⟨fun n z => ⟨fun k h => (by cases h), kI, f2, cI, f3⟩, f1⟩
    | 1, hq => cases hq; exact ⟨fun n z => ⟨fun k h => (by cases h), m3, v3, p3, v4⟩, m3, p3, v3, v4, v1, v5⟩
    | 2, hq => cases hq; exact ⟨fun n z => ⟨fun k h => (by cases h), m2, t3, p2, t4⟩, m2, p2, t3, t4, t1, t5⟩
    | 3, hq => cases hq; exact ⟨fun n z => ⟨fun k h => (by cases h), mW, w3, pW, w4⟩, w5⟩
    | 4, hq => cases hq; exact ⟨fun n z => ⟨fun k h => (by cases h), kL, g2, cL, g3⟩, g1⟩
    | k + 5, hq => simp at hq
end Q
