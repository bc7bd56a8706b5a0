/-! Part 02b: the launch as every method needs it; contracts' starts and ends; calls. -/
def z_nf : List (String × Nat × String × String × String × String) := [("BlossomTours", 85, "BlossomTours$Roads", "laid", "I", "BlossomTours"), ("BlossomTours", 182, "BlossomTours$Books", "coins", "I", "BlossomTours"), ("BlossomTours", 185, "BlossomTours$Books", "joyInAll", "I", "BlossomTours"), ("BlossomTours", 188, "BlossomTours$Books", "stingsInAll", "I", "BlossomTours"), ("BlossomTours", 68, "BlossomTours$Valley", "from", "I", "BlossomTours"), ("BlossomTours", 71, "BlossomTours$Valley", "length", "I", "BlossomTours"), ("BlossomTours", 74, "BlossomTours$Valley", "bees", "I", "BlossomTours"), ("BlossomTours", 170, "BlossomTours$Valley", "crowd", "I", "BlossomTours"), ("BlossomTours", 173, "BlossomTours$Valley", "visitingTours", "I", "BlossomTours"), ("BlossomTours", 231, "BlossomTours$Tour", "stops", "[I", "BlossomTours"), ("BlossomTours", 143, "BlossomTours$Tour", "stopCount", "I", "BlossomTours"), ("BlossomTours", 122, "BlossomTours$Tour", "tourists", "I", "BlossomTours"), ("BlossomTours", 152, "BlossomTours$Tour", "minutes", "I", "BlossomTours")]
def z_nm : List (String × Nat × MethodName × String) := [("BlossomTours", 27, ⟨"BlossomTours$Roads", "<init>", "()V"⟩, "BlossomTours"), ("BlossomTours", 34, ⟨"BlossomTours$Books", "<init>", "()V"⟩, "BlossomTours"), ("BlossomTours", 42, ⟨"BlossomTours$Valley", "<init>", "()V"⟩, "BlossomTours"), ("BlossomTours", 43, ⟨"BlossomTours$Tour", "<init>", "()V"⟩, "BlossomTours"), ("BlossomTours", 107, ⟨"BlossomTours$Valley", "bloomOn", "(I)I"⟩, "BlossomTours"), ("BlossomTours", 155, ⟨"BlossomTours$Tour", "canGo", "()Z"⟩, "BlossomTours"), ("BlossomTours$Tour", 32, ⟨"BlossomTours", "isWithin", "(III)Z"⟩, "BlossomTours"), ("BlossomTours", 111, ⟨"BlossomTours$Roads", "minutesBetween", "(II)I"⟩, "BlossomTours"), ("BlossomTours$Roads", 31, ⟨"BlossomTours", "isWithin", "(III)Z"⟩, "BlossomTours"), ("BlossomTours", 134, ⟨"BlossomTours$Tour", "visits", "(I)Z"⟩, "BlossomTours"), ("BlossomTours", 90, ⟨"BlossomTours$Roads", "lay", "(III)V"⟩, "BlossomTours"), ("BlossomTours", 244, ⟨"BlossomTours$Tour", "measure", "(LBlossomTours$Roads;)V"⟩, "BlossomTours"), ("BlossomTours$Tour", 23, ⟨"BlossomTours$Roads", "minutesBetween", "(II)I"⟩, "BlossomTours"), ("BlossomTours", 128, ⟨"BlossomTours$Tour", "isFull", "()Z"⟩, "BlossomTours"), ("BlossomTours", 140, ⟨"BlossomTours$Tour", "append", "(I)V"⟩, "BlossomTours"), ("BlossomTours", 148, ⟨"BlossomTours$Tour", "takeLast", "()I"⟩, "BlossomTours"), ("BlossomTours", 203, ⟨"BlossomTours$Books", "copyFrom", "(LBlossomTours$Books;)V"⟩, "BlossomTours")]
def z_sl : List (String × Nat × String) := [("BlossomTours", 191, "what is not 0 to 8"), ("BlossomTours", 236, "no such valley"), ("BlossomTours", 168, "what is not 0 to 5"), ("BlossomTours", 238, "no such tour"), ("BlossomTours", 50, "from is not 0 to 90"), ("BlossomTours", 55, "length is not 1 to 30"), ("BlossomTours", 57, "bees is not 0 to 50"), ("BlossomTours", 65, "there are 8 valleys"), ("BlossomTours", 81, "both valleys are the same"), ("BlossomTours", 83, "minutes is not 1 to 240"), ("BlossomTours", 88, "there are 20 roads"), ("BlossomTours", 99, "day is not 0 to 9"), ("BlossomTours", 102, "heat is not 0 to 40"), ("BlossomTours", 240, "day is less than 0"), ("BlossomTours", 115, "tourists is not 1 to 60"), ("BlossomTours", 120, "there are 6 tours"), ("BlossomTours", 132, "the tour has 5 valleys"), ("BlossomTours", 138, "the tour has this valley"), ("BlossomTours", 146, "the tour has no valley"), ("BlossomTours", 242, "days is not 1 to 60"), ("BlossomTours", 207, "what is not 5 to 8")]
def z_env (U : State) : Prop := (∀ q ∈ z_nf, va_Nw (.fieldLinkNest q.1 q.2.1 q.2.2.1 q.2.2.2.1 q.2.2.2.2.1 q.2.2.2.2.2) U) ∧ ∀ q ∈ z_nm, va_Nw (.methodLinkNest q.1 q.2.1 q.2.2.1 q.2.2.2) U
theorem z_env.warm {s U : State} (hW : s.WarmedH U.vm) (h : z_env s) : z_env U := ⟨fun q hq => va_Nw.warmF hW (h.1 q hq), fun q hq => va_Nw.warmM hW (h.2 q hq)⟩
theorem z_env.same {u U : State} (e : u.vm = U.vm) (h : z_env u) : z_env U := ⟨fun q hq => va_Nw.same rfl e (h.1 q hq), fun q hq => va_Nw.same rfl e (h.2 q hq)⟩
theorem z_nfw {A : Array Value} {U : State} (h : z_env U) (i : Nat) {o r f d hst : String} {n : Nat} (hi : z_nf[i]? = some (o, n, r, f, d, hst)) : (Cond.fieldLinkNest o n r f d hst).before A U = true := va_Nw.use rfl (h.1 _ (List.mem_of_getElem? hi))
theorem z_nmw {U : State} (h : z_env U) (i : Nat) {o hst : String} {n : Nat} {y : MethodName} (hi : z_nm[i]? = some (o, n, y, hst)) : va_Nw (.methodLinkNest o n y hst) U := h.2 _ (List.mem_of_getElem? hi)
/-- the launch: classes, array classes, links between nest mates -/
def z_cx (G : z_GT) (U : State) : Prop := va_K (z_DD G) vwCl (z_ty G) U ∧ z_env U
theorem z_cx.warm {G : z_GT} {s U : State} (hW : s.WarmedH U.vm) (h : z_cx G s) : z_cx G U := ⟨va_K.moved hW.alike h.1, h.2.warm hW⟩
theorem z_cx.same {G : z_GT} {u U : State} (e : u.vm = U.vm) (h : z_cx G u) : z_cx G U := ⟨va_K.moved (by rw [e]; exact Vm.Alike.refl _) h.1, h.2.same e⟩
/-- a contract's start: the arguments, the launch, the cells -/
def z_Pr (G : z_GT) (av : List Value) (ws : va_W) : Array Value → State → Prop := fun v U => v = av.toArray ∧ z_cx G U ∧ va_P (z_DD G) vwCl ws U.heap
theorem z_Pr.blind {G : z_GT} {av : List Value} {ws : va_W} : FrameBlind (z_Pr G av ws) := fun a U g mk h => ⟨h.1, h.2.1.same rfl, h.2.2⟩
theorem z_prS {G : z_GT} {As : List Value} {ws : va_W} {s : State} {H : Heap} (hX : z_cx G s) (hP : va_P (z_DD G) vwCl ws H) : PreS s H (z_Pr G As ws) As := ⟨z_Pr.blind, fun U hU hW => ⟨rfl, hX.warm hW, by rw [hU]; exact hP⟩⟩
theorem z_rec {G : z_GT} {ws : va_W} {s : State} {H : Heap} {b k ci : Nat} {fs : List Value} {q : vw_C} (hX : z_cx G s) (hP : va_P (z_DD G) vwCl ws H) (hc : vwCl[ci]? = some q) (he : ws[k]? = some (b, .inr (ci, fs))) : ∃ cell : Cell, H[b]? = some cell ∧ cell.vm.isStatics = false ∧ s.vm.findClass q.1 = some cell.cls := va_recv hX.1 hP hc he
theorem z_prV {G : z_GT} {As : List Value} {ws : va_W} {s : State} {H : Heap} {b k ci : Nat} {fs : List Value} {q : vw_C} (hX : z_cx G s) (hP : va_P (z_DD G) vwCl ws H) (hc : vwCl[ci]? = some q) (he : ws[k]? = some (b, .inr (ci, fs))) : PreV s H q.1 b (z_Pr G (.ref b :: As) ws) As := ⟨z_Pr.blind, va_recv hX.1 hP hc he, fun U hU hW => ⟨rfl, hX.warm hW, by rw [hU]; exact hP⟩⟩
theorem z_prW {G : z_GT} {As : List Value} {ws w1 : va_W} {s : State} {H : Heap} {b k ci : Nat} {fs : List Value} {q : vw_C} (hX : z_cx G s) (hP : va_P (z_DD G) vwCl ws H) (hP1 : va_P (z_DD G) vwCl w1 H) (hc : vwCl[ci]? = some q) (he : ws[k]? = some (b, .inr (ci, fs))) : PreV s H q.1 b (z_Pr G (.ref b :: As) w1) As := ⟨z_Pr.blind, va_recv hX.1 hP hc he, fun U hU hW => ⟨rfl, hX.warm hW, by rw [hU]; exact hP1⟩⟩
/-- a contract's end: it only read -/
def z_Qo (o : Option Value) : Array Value → State → Outcome → State → Prop := fun _ st oc t => oc = .returned o ∧ t.heap = st.heap
/-- a contract's end: the cells are so now; beyond A nothing changed -/
def z_Qm (G : z_GT) (o : Option Value) (ws : va_W) (A : Nat → Prop) : Array Value → State → Outcome → State → Prop := fun _ st oc t => oc = .returned o ∧ va_P (z_DD G) vwCl ws t.heap ∧ va_F A st t
section ZC
variable {p : Program} {l : Launch} {e : Env} {R : Room} {s : State} {m : MethodId} {args : Array Value} {below : List Frame} {meth : Method} {c : Code} {H : Heap} {locs : List Loc} {cells slots : Nat} {Q : State → Prop}
variable {pc : Nat} {ls : Array Slot} {rest st0 : List Value} {a : Array Value} {G : z_GT}
theorem z_call {o : Option Value} {free : Addr → Prop} (hr : va_Run p l e R s m args below meth c H locs cells slots 0 0 (F0 m pc ls st0) rest (z_Qo o a) free) (hf : ∀ q, ¬ free q)
    (kk : W p l e R s m args below meth c H locs cells slots Q (F0 m (pc + 3) ls (o.toList ++ rest))) : W p l e R s m args below meth c H locs cells slots Q (F0 m pc ls st0) := by
  intro T hT X
  obtain ⟨v, st₀, t, T', L, h0, X', hL, e1, -, ⟨hv, hh⟩, st⟩ := hr T hT X
  cases hv
  obtain ⟨t2, a1, b1⟩ := kk T' (by rw [e1, hh, h0]) (Stand.forget X' (fun q h => (hf _ (hL q h)).elim))
  exact ⟨t2, st t2 a1, b1⟩
theorem z_callm {o : Option Value} {ws1 : va_W} {A0 A1 : Nat → Prop} {H0 : Heap} {mc ms : Nat} {free : Addr → Prop} (hr : va_Run p l e R s m args below meth c H locs cells slots mc ms (F0 m pc ls st0) rest (z_Qm G o ws1 A1 a) free) (hS : va_S A0 H0 H locs) (hA : ∀ q, q < H.size → A1 q → A0 q) (hf : ∀ q, free q → A0 q)
    (kk : ∀ (H1 : Heap) (locs1 : List Loc), va_P (z_DD G) vwCl ws1 H1 → H.size ≤ H1.size → (∀ q : Nat, q < H.size → ¬ A1 q → H1[q]? = H[q]?) → va_S A0 H0 H1 locs1 → W p l e R s m args below meth c H1 locs1 (cells + mc) (slots + ms) Q (F0 m (pc + 3) ls (o.toList ++ rest))) : W p l e R s m args below meth c H locs cells slots Q (F0 m pc ls st0) := by
  intro T hT X
  obtain ⟨v, st₀, t, T', L, h0, X', hL, e1, e2, ⟨hv, hb, hz, hk⟩, st⟩ := hr T hT X
  cases hv
  rw [h0] at hz hk
  obtain ⟨t2, a1, b1⟩ := kk T'.heap (locs ++ L) (by rw [e1]; exact hb) (by rw [e1]; exact hz) (fun q h1 h2 => by rw [e1]; exact hk q h1 h2)
    ⟨Nat.le_trans hS.1 (by rw [e1]; exact hz), fun q h1 h2 => by rw [e1, hk q (Nat.lt_of_lt_of_le h1 hS.1) (fun z => h2 (hA q (Nat.lt_of_lt_of_le h1 hS.1) z))]; exact hS.2.1 q h1 h2, fun q hq => by
      rcases List.mem_append.mp hq with h | h
      · exact hS.2.2 q h
      · exact hf _ (hL q h)⟩ T' rfl X'
  exact ⟨t2, st t2 a1, b1⟩
theorem z_iret {cc : ByteArray} {Qc : Array Value → State → Outcome → State → Prop} {free : Addr → Prop} {v r : Int32} (hexec : p.tables.exec = Jvm.exec) (hb : c.code = cc) (hr : meth.sig.returnType = some .int) (hlocks : meth.locks = false) (hdg : decode cc pc = .ok (.ireturn, 1)) (hq : ∀ t : State, t.heap = H → s.WarmedH t.vm → Qc args s (.returned (some (.int r))) t) (hf : ∀ q ∈ locs, free q.base) (hv : v = r) : W p l e R s m args below meth c H locs cells slots (MQ below Qc args s cells slots free) (F0 m pc ls [.int v]) := by
  subst hv
  exact W.iret hexec hb hr hq hf hdg hlocks
theorem z_zret {cc : ByteArray} {Qc : Array Value → State → Outcome → State → Prop} {free : Addr → Prop} {v r : Int32} (hexec : p.tables.exec = Jvm.exec) (hb : c.code = cc) (hr : meth.sig.returnType = some .boolean) (hlocks : meth.locks = false) (hdg : decode cc pc = .ok (.ireturn, 1)) (hq : ∀ t : State, t.heap = H → s.WarmedH t.vm → Qc args s (.returned (some (.int r))) t) (hf : ∀ q ∈ locs, free q.base) (h01 : v = 0 ∨ v = 1) (hv : v = r) : W p l e R s m args below meth c H locs cells slots (MQ below Qc args s cells slots free) (F0 m pc ls [.int v]) := by
  subst hv
  exact W.zret hexec hb hr (by rcases h01 with h | h <;> rw [h] <;> rfl) hq hf hdg hlocks
theorem z_lret {cc : ByteArray} {Qc : Array Value → State → Outcome → State → Prop} {free : Addr → Prop} {v r : Int64} (hexec : p.tables.exec = Jvm.exec) (hb : c.code = cc) (hr : meth.sig.returnType = some .long) (hlocks : meth.locks = false) (hdg : decode cc pc = .ok (.lreturn, 1)) (hq : ∀ t : State, t.heap = H → s.WarmedH t.vm → Qc args s (.returned (some (.long r))) t) (hf : ∀ q ∈ locs, free q.base) (hv : v = r) : W p l e R s m args below meth c H locs cells slots (MQ below Qc args s cells slots free) (F0 m pc ls [.long v]) := by
  subst hv
  exact W.lret hexec hb hr hq hf hdg hlocks
theorem z_aldW {cc : ByteArray} {D : va_G} {cl : List vw_C} {ws : va_W} {tys : List (ClassId × FieldType)} {x : Nat} (hexec : p.tables.exec = Jvm.exec) (hb : c.code = cc) (hK : va_K D cl tys s) (hP : va_P D cl ws H) (q0 t0 : Nat) {cA : ClassId} {ty : FieldType} {n : Nat} {f : Nat → Option Nat} (ha : ws[q0]? = some (x, .inl (cA, n, .inr (.inr (.inr (.inr f)))))) (ht : tys[t0]? = some (cA, .array ty)) {i : Int32} (hin : vp_in i n) (hdg : decode cc pc = .ok (.aaload, 1))
    (kk : W p l e R s m args below meth c H locs cells slots Q (F0 m (pc + 1) ls (va_rf (f i.toNatClampNeg) :: rest))) : W p l e R s m args below meth c H locs cells slots Q (F0 m pc ls (.int i :: .ref x :: rest)) := by
  have hlt : i.toNatClampNeg < n := Nat.not_le.mp fun q => hin (Or.inr q)
  exact W.aald (v := va_rf (f i.toNatClampNeg)) (ty := .array ty) hexec hb (hP q0 _ ha) ((hK.2 t0 _ ht).1 n (fun j => va_rf (f j))) rfl (fun q => by cases q) (by show ¬ (i < 0 ∨ (arrV _ _ _).slots.size ≤ _); rw [arrV_size]; exact hin) (by show (arrV _ _ _).slots[_]? = _; rw [arrV_read _ _ hlt]) rfl rfl hdg kk
theorem z_ofWF {y : MethodName} {ws ws' : List Cond} {rm : Room} {Pc : Array Value → State → Prop} {Qc : Array Value → State → Outcome → State → Prop} {mc ms : Nat} {free : Addr → Prop} {cc : ByteArray} {maxL : Nat} {ret : Option FieldType}
    (hy : plainFor y = true) (hw : ws = Cond.code y cc maxL ret :: ws')
    (body : ∀ p e s m args below meth c s₁, BodyLoose p l y (headSpec ws rm) cc maxL ret e s m args below meth c s₁ → c.maxLocals = maxL → Pc args s →
      W p l e (headSpec ws rm).room s m args below meth c s.heap [] 0 0 (MQ below Qc args s mc ms free) (entryFrame m args maxL)) : Met l y ws rm Pc Qc mc ms free := by
  refine MetFree.of_bodySF (code := cc) (maxLocals := maxL) (ret := ret) hy ?_ ?_
  · intro args s m h hn
    obtain ⟨meth, c, h1, h2, h3, h4, h5, h6, -, -⟩ := Cond.code_spec hn (atoms_spec (ws := ws) h _ (by rw [hw]; exact List.mem_cons_self))
    exact ⟨meth, c, h1, h2, h3, h4, h5, h6⟩
  · intro p e s m args below meth c s₁ B hml hP _
    have hh0 : s₁.heap = s.heap := by rw [B.state]; rfl
    obtain ⟨t, a1, o, b1, b2, b3⟩ := body p e s m args below meth c s₁ B hml hP s₁ hh0 (Stand.of_body B)
    exact ⟨t, o, a1, b1, b2, ⟨b3.1, b3.2⟩⟩
/-- the same top of the stack by another name -/
theorem z_top {v w : Value} (h : v = w) (k : W p l e R s m args below meth c H locs cells slots Q (F0 m pc ls (w :: rest))) : W p l e R s m args below meth c H locs cells slots Q (F0 m pc ls (v :: rest)) := by
  subst h
  exact k
end ZC

