/-! Part 07: methods that throw: what they need of the launch, the throw, the call of a method that throws for sure. -/
abbrev z_IA : String := "java/lang/IllegalArgumentException"
abbrev z_IS : String := "java/lang/IllegalStateException"
abbrev z_IO : String := "java/lang/IndexOutOfBoundsException"
abbrev z_ex : List String := [z_IA, z_IS, z_IO]
abbrev z_up2 : List String := ["java/lang/RuntimeException", "java/lang/Exception"]
abbrev z_dcl : List MethodName := [Bundle.initS "java/lang/RuntimeException", Bundle.initS "java/lang/Exception", Bundle.initS Bundle.tN]
def z_th (A : Nat → Prop) (U : State) (H : Heap) : Prop := (vx_Zq Bundle.tN "UNASSIGNED_STACK" Bundle.steD A U H ∧ vx_Zq Bundle.tN "SUPPRESSED_SENTINEL" Bundle.listD A U H) ∧ (∀ q ∈ z_sl, ∃ sa : Nat, vk_R q.1 q.2.1 q.2.2 sa U) ∧ ((∀ X ∈ z_ex, va_Nw (.castable X X) U) ∧ ∀ y ∈ z_dcl, va_Nw (.declares y) U) ∧ ∀ X ∈ z_ex, ∀ Y ∈ z_ex, X ≠ Y → va_Nc X Y U
theorem z_th.warm {A : Nat → Prop} {s U : State} {H : Heap} (hW : s.WarmedH U.vm) (h : z_th A s H) : z_th A U H :=
  ⟨⟨vx_Zq.moved hW.alike h.1.1, vx_Zq.moved hW.alike h.1.2⟩, fun q hq => (h.2.1 q hq).imp fun sa hs => vk_R.warm hW hs, ⟨fun X hX => va_Nw.warmC hW (h.2.2.1.1 X hX), fun y hy => va_Nw.warmD hW (h.2.2.1.2 y hy)⟩, fun X hX Y hY hn => va_Nc.moved hW.alike (h.2.2.2 X hX Y hY hn)⟩
theorem z_th.same {A : Nat → Prop} {u U : State} {H : Heap} (e : u.vm = U.vm) (h : z_th A u H) : z_th A U H := by
  have ha : u.vm.Alike U.vm := by rw [e]; exact Vm.Alike.refl _
  exact ⟨⟨vx_Zq.moved ha h.1.1, vx_Zq.moved ha h.1.2⟩, fun q hq => (h.2.1 q hq).imp fun sa hs => vk_R.same e.symm hs, ⟨fun X hX => va_Nw.same rfl e (h.2.2.1.1 X hX), fun y hy => va_Nw.same rfl e (h.2.2.1.2 y hy)⟩, fun X hX Y hY hn => va_Nc.moved ha (h.2.2.2 X hX Y hY hn)⟩
theorem z_th.kept {A : Nat → Prop} {U : State} {H H1 : Heap} (h : z_th A U H) (hq : ∀ a : Nat, a < H.size → ¬ A a → H1[a]? = H[a]?) : z_th A U H1 := ⟨⟨h.1.1.kept hq, h.1.2.kept hq⟩, h.2⟩
theorem z_th.narrow {A B : Nat → Prop} {U : State} {H : Heap} (h : z_th A U H) (hAB : ∀ q, B q → A q) : z_th B U H := ⟨⟨h.1.1.narrow hAB, h.1.2.narrow hAB⟩, h.2⟩
/-- the start of a method that may throw -/
def z_Pt (G : z_GT) (av : List Value) (ws : va_W) (A : Nat → Prop) : Array Value → State → Prop := fun v U => v = av.toArray ∧ z_cx G U ∧ va_P (z_DD G) vwCl ws U.heap ∧ z_th A U U.heap
theorem z_Pt.blind {G : z_GT} {av : List Value} {ws : va_W} {A : Nat → Prop} : FrameBlind (z_Pt G av ws A) := fun a U g mk h => ⟨h.1, h.2.1.same rfl, h.2.2.1, h.2.2.2.same rfl⟩
theorem z_ptS {G : z_GT} {As : List Value} {ws : va_W} {A : Nat → Prop} {s : State} {H : Heap} (hX : z_cx G s) (hP : va_P (z_DD G) vwCl ws H) (hT : z_th A s H) : PreS s H (z_Pt G As ws A) As := ⟨z_Pt.blind, fun U hU hW => ⟨rfl, hX.warm hW, by rw [hU]; exact hP, by rw [hU]; exact hT.warm hW⟩⟩
theorem z_ptV {G : z_GT} {As : List Value} {ws : va_W} {A : Nat → Prop} {s : State} {H : Heap} {b k ci : Nat} {fs : List Value} {q : vw_C} (hX : z_cx G s) (hP : va_P (z_DD G) vwCl ws H) (hT : z_th A s H) (hc : vwCl[ci]? = some q) (he : ws[k]? = some (b, .inr (ci, fs))) : PreV s H q.1 b (z_Pt G (.ref b :: As) ws A) As := ⟨z_Pt.blind, va_recv hX.1 hP hc he, fun U hU hW => ⟨rfl, hX.warm hW, by rw [hU]; exact hP, by rw [hU]; exact hT.warm hW⟩⟩
/-- it throws E0 for sure; the cells are so then -/
def z_No : Array Value → State → Outcome → State → Prop := fun _ _ _ _ => False
def z_Xq (G : z_GT) (E0 : String) (ws : va_W) (A : Nat → Prop) : String → State → State → Prop := fun E st t => E = E0 ∧ va_P (z_DD G) vwCl ws t.heap ∧ va_F A st t
section ZT
variable {p : Program} {l : Launch} {e : Env} {R : Room} {s : State} {m : MethodId} {args : Array Value} {below : List Frame} {meth : Method} {c : Code} {H : Heap} {locs : List Loc} {cells slots : Nat} {Q : State → Prop}
variable {pc : Nat} {ls : Array Slot} {rest st0 : List Value} {a : Array Value} {G : z_GT}
theorem z_callx {E0 : String} {ws1 : va_W} {A0 A1 : Nat → Prop} {H0 : Heap} {mc ms : Nat} {free : Addr → Prop} (hr : vx_Run p l e R s m args below meth c H locs cells slots mc ms (F0 m pc ls st0) rest (z_No a) (z_Xq G E0 ws1 A1) free) (hS : va_S A0 H0 H locs) (hA : ∀ q, q < H.size → A1 q → A0 q) (hf : ∀ q, free q → A0 q)
    (kx : ∀ (ce : Cell) (q : Addr) (H1 : Heap) (locs1 : List Loc), va_P (z_DD G) vwCl ws1 H1 → H.size ≤ H1.size → (∀ q : Nat, q < H.size → ¬ A1 q → H1[q]? = H[q]?) → va_S A0 H0 H1 locs1 → H1[q]? = some ce → ce.vm = .none → s.vm.findClass E0 = some ce.cls → vx_W p l e R s m args below meth c H1 locs1 (cells + mc) (slots + ms) Q (F0 m pc ls rest) q) : W p l e R s m args below meth c H locs cells slots Q (F0 m pc ls st0) := by
  intro T hT X
  rcases hr T hT X with ⟨v, st₀, t, T', L, -, -, -, -, -, hq, -⟩ | ⟨q, st₀, t, T', L, E, ce, h0, X', hL, e1, e2, ⟨hE, hb, hz, hk⟩, hce, hcv, hcl, st⟩
  · exact absurd hq id
  · subst hE
    rw [h0] at hz hk
    obtain ⟨t2, a1, b1⟩ := kx ce q T'.heap (locs ++ L) (by rw [e1]; exact hb) (by rw [e1]; exact hz) (fun q h1 h2 => by rw [e1]; exact hk q h1 h2)
      ⟨Nat.le_trans hS.1 (by rw [e1]; exact hz), fun q h1 h2 => by rw [e1, hk q (Nat.lt_of_lt_of_le h1 hS.1) (fun z => h2 (hA q (Nat.lt_of_lt_of_le h1 hS.1) z))]; exact hS.2.1 q h1 h2, fun q hq => by
        rcases List.mem_append.mp hq with h | h
        · exact hS.2.2 q h
        · exact hf _ (hL q h)⟩ (by rw [e1]; exact hce) hcv hcl T' rfl X'
    exact ⟨t2, st.trans a1, b1⟩
theorem z_outx {E0 : String} {ce : Cell} {q : Addr} {ws1 : va_W} {A : Nat → Prop} {Qc : Array Value → State → Outcome → State → Prop} (hout : ∀ x ∈ c.exceptionTable.toList, False) (hlocks : meth.locks = false) (hP : va_P (z_DD G) vwCl ws1 H) (hS : va_S A s.heap H locs) (hce : H[q]? = some ce) (hcv : ce.vm = .none) (hcl : s.vm.findClass E0 = some ce.cls) (hc : cells ≤ 1) (hs : slots ≤ 6) :
    vx_W p l e R s m args below meth c H locs cells slots (vx_MQ below Qc (z_Xq G E0 ws1 A) args s 1 6 A) (F0 m pc ls rest) q :=
  vx_out (fun x hx => (hout x hx).elim) hlocks hce hcv hcl (fun t ht _ => ⟨rfl, by rw [ht]; exact hP, hS.F ht⟩) hS.2.2 hc hs
theorem z_throw {cc : ByteArray} {cls text : String} {ik is ic : Nat} {ws1 : va_W} {A : Nat → Prop} {Qc : Array Value → State → Outcome → State → Prop} (hexec : p.tables.exec = Jvm.exec) (hb : c.code = cc) (hl : l.stackTraces = false) (hown : s.vm.findClass RX4 = some m.cls) (hcls : cls ∈ z_ex)
    (hk : (Cond.classLink RX4 ik cls).before args s = true) (hini : (Cond.initialized cls).before args s = true) (hst : (RX4, is, text) ∈ z_sl) (hgw : ∀ w ∈ (vx_atS RX4 ic cls z_up2).filter goodWord, w.before args s = true)
    (hnw : ∀ w ∈ (vx_atS RX4 ic cls z_up2).filter (fun w => !goodWord w), w ∈ Cond.castable cls cls :: z_dcl.map Cond.declares) (hfit : Bundle.fit cls = true)
    (hgood : ∀ w ∈ Cond.classLink RX4 ik cls :: Cond.initialized cls :: vx_atS RX4 ic cls z_up2, vx_ot w = true) (hT : z_th A s s.heap) (hS : va_S A s.heap H locs) (hP : va_P (z_DD G) vwCl ws1 H) (hsize : ls.size = c.maxLocals)
    (d0 : decode cc pc = .ok (.new ik, 3)) (d3 : decode cc (pc + 3) = .ok (.dup, 1)) (d4 : decode cc (pc + 4) = .ok (.ldc is, 2)) (d6 : decode cc (pc + 6) = .ok (.invokespecial ic, 3)) (d9 : decode cc (pc + 9) = .ok (.athrow, 1))
    (hout : ∀ x ∈ c.exceptionTable.toList, False) (hRf : 5 < R.frames) (hRl : (rest.map fun v => v.category).sum + 82 ≤ R.locals) (hRc : 1 ≤ R.cells) (hRs : 6 ≤ R.slots) (hlocks : meth.locks = false) :
    W p l e R s m args below meth c H locs 0 0 (vx_MQ below Qc (z_Xq G cls ws1 A) args s 1 6 A) (F0 m pc ls rest) := by
  obtain ⟨sa, hsa⟩ := hT.2.1 _ hst
  refine vx_throwS hexec hb hl hown hfit (names := z_up2) (by decide) hk hini hsa (vx_hat hgw hnw (fun w hw => by
    rcases List.mem_cons.mp hw with h9 | h9
    · rw [h9]
      exact va_Nw.use rfl (hT.2.2.1.1 cls hcls)
    · obtain ⟨y, hy, rfl⟩ := List.mem_map.mp h9
      exact va_Nw.use rfl (hT.2.2.1.2 y hy))) hgood hT.1.1 hT.1.2 hS hsize d0 d3 d4 d6 d9 (fun x hx => (hout x hx).elim) hRf hRl (by omega) (by omega) hlocks (fun t _ hz hq => ⟨rfl, ?_, ?_, ?_⟩) hS.2.2 (by omega) (by omega)
  · exact hP.kept (fun k q hk => hq q.1 ((hP k q hk).lt))
  · exact Nat.le_trans hS.1 hz
  · intro q h1 h2
    rw [hq q (Nat.lt_of_lt_of_le h1 hS.1)]
    exact hS.2.1 q h1 h2
end ZT
