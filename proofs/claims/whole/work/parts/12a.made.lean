/-! Part 12a: what constructors need: the classes of new arrays, cells that are made, calls of constructors. -/
theorem z_raI {G : z_GT} {cA : ClassId} {s : State} (h : va_K (z_DD G) vwCl (z_ty G ++ [(cA, .int)]) s) : z_I G = cA := Option.some.inj ((h.2 0 _ rfl).2.symm.trans (h.2 5 _ rfl).2)
theorem z_raV {G : z_GT} {cA : ClassId} {s : State} (h : va_K (z_DD G) vwCl (z_ty G ++ [(cA, .object RX3)]) s) : z_V G = cA := by
  obtain ⟨_, _, -, -, -, h1⟩ := (h.2 1 _ rfl).2
  obtain ⟨_, _, -, -, -, h2⟩ := (h.2 5 _ rfl).2
  exact Option.some.inj (h1.symm.trans h2)
theorem z_raT {G : z_GT} {cA : ClassId} {s : State} (h : va_K (z_DD G) vwCl (z_ty G ++ [(cA, .object RX2)]) s) : z_T G = cA := by
  obtain ⟨_, _, -, -, -, h1⟩ := (h.2 2 _ rfl).2
  obtain ⟨_, _, -, -, -, h2⟩ := (h.2 5 _ rfl).2
  exact Option.some.inj (h1.symm.trans h2)
theorem z_raW {G : z_GT} {cA : ClassId} {s : State} (h : va_K (z_DD G) vwCl (z_ty G ++ [(cA, .array .int)]) s) : z_W G = cA := Option.some.inj ((h.2 3 _ rfl).2.symm.trans (h.2 5 _ rfl).2)
theorem z_D1 {A : Nat → Prop} {a : Nat} {e : va_E} (h : A a) : va_D A [(a, e)] := by
  refine ⟨fun i j p q h1 h2 _ => ?_, fun k q hk => ?_⟩
  · have a1 : i < 1 := (List.getElem?_eq_some_iff.mp h1).1
    have a2 : j < 1 := (List.getElem?_eq_some_iff.mp h2).1
    omega
  · have a1 : k < 1 := (List.getElem?_eq_some_iff.mp hk).1
    rw [show k = 0 by omega] at hk
    cases hk
    exact h
/-- a constructor's end -/
def z_Qn (h0 : Nat) (B : Nat → Heap → Prop) : Array Value → State → Outcome → State → Prop := fun _ st oc t => oc = .returned none ∧ B st.heap.size t.heap ∧ va_F (fun q => q = h0) st t
section ZCN
variable {p : Program} {l : Launch} {e : Env} {R : Room} {s : State} {m : MethodId} {args : Array Value} {below : List Frame} {meth : Method} {c : Code} {H : Heap} {locs : List Loc} {cells slots : Nat} {Q : State → Prop}
variable {pc : Nat} {ls : Array Slot} {rest st0 : List Value} {a : Array Value}
theorem z_calln {h0 : Nat} {B : Nat → Heap → Prop} {A0 : Nat → Prop} {H0 : Heap} {mc ms : Nat} (hr : va_Run p l e R s m args below meth c H locs cells slots mc ms (F0 m pc ls st0) rest (z_Qn h0 B a) (fun q => q = h0)) (hS : va_S A0 H0 H locs) (hA : A0 h0)
    (kk : ∀ (H1 : Heap) (locs1 : List Loc), H.size ≤ H1.size → (∀ q : Nat, q < H.size → q ≠ h0 → H1[q]? = H[q]?) → B H.size H1 → va_S A0 H0 H1 locs1 → W p l e R s m args below meth c H1 locs1 (cells + mc) (slots + ms) Q (F0 m (pc + 3) ls rest)) : W p l e R s m args below meth c H locs cells slots Q (F0 m pc ls st0) := by
  intro T hT X
  obtain ⟨v, st₀, t, T', L, h0', X', hL, e1, e2, ⟨hv, hb, hz, hk⟩, st⟩ := hr T hT X
  cases hv
  rw [h0'] at hz hk hb
  obtain ⟨t2, a1, b1⟩ := kk T'.heap (locs ++ L) (by rw [e1]; exact hz) (fun q h1 h2 => by rw [e1]; exact hk q h1 h2) (by rw [e1]; exact hb)
    ⟨Nat.le_trans hS.1 (by rw [e1]; exact hz), fun q h1 h2 => by rw [e1, hk q (Nat.lt_of_lt_of_le h1 hS.1) (fun z => h2 (z ▸ hA))]; exact hS.2.1 q h1 h2, fun q hq => by
      rcases List.mem_append.mp hq with h | h
      · exact hS.2.2 q h
      · exact (show q.base = h0 from hL q h) ▸ hA⟩ T' rfl X'
  exact ⟨t2, st t2 a1, b1⟩
end ZCN
theorem z_joinN {A : Nat → Prop} {D : va_G} {cl : List vw_C} {ws w1 : va_W} {H H1 : Heap} {p h0 : Nat} {e0 e1 : va_E} (hP : va_P D cl ws H) (hD : va_D A ws) (hp : ws[p]? = some (h0, e0)) (hP1 : va_P D cl ((h0, e1) :: w1) H1) (hD1 : va_D (fun y => H.size ≤ y) w1) (hk : ∀ y : Nat, y < H.size → y ≠ h0 → H1[y]? = H[y]?) (hA : ∀ y, H.size ≤ y → A y) : va_P D cl (ws.set p (h0, e1) ++ w1) H1 ∧ va_D A (ws.set p (h0, e1) ++ w1) := by
  have hpl : p < ws.length := (List.getElem?_eq_some_iff.mp hp).1
  have key : ∀ (k : Nat) (q : Nat × va_E), (ws.set p (h0, e1))[k]? = some q → q.1 < H.size ∧ va_at D cl q H1 := fun k q hk1 => by
    by_cases e : k = p
    · subst e
      rw [List.getElem?_set_self hpl] at hk1
      cases hk1
      exact ⟨(hP _ _ hp).lt, hP1 0 _ rfl⟩
    · rw [List.getElem?_set_ne (Ne.symm e)] at hk1
      have h1 := hP k q hk1
      have h2 : q.1 ≠ h0 := fun h => e (hD.1 k p _ _ hk1 hp h)
      exact ⟨h1.lt, h1.kept (hk _ h1.lt h2)⟩
  have hPw : va_P D cl w1 H1 := fun k q h => hP1 (k + 1) q h
  refine ⟨va_P.app (fun k q h => (key k q h).2) hPw, va_D.app (hD.set hp) (hD1.weaken (fun _ q _ h => hA q.1 h)) (fun i j p' q' h1 h2 h3 => ?_)⟩
  have a1 := (key i p' h1).1
  have a2 : H.size ≤ q'.1 := hD1.2 j q' h2
  omega
theorem z_end2 {h0 q sz : Nat} {e1 e2 : va_E} (hD : va_D (fun y => y = h0 ∨ sz ≤ y) [(h0, e1), (q, e2)]) : va_D (fun y => sz ≤ y) [(q, e2)] := by
  refine z_D1 ?_
  rcases hD.2 1 _ rfl with h | h
  · exact absurd (hD.1 1 0 _ _ rfl rfl h) (by decide)
  · exact h
/-- an array class over arrays is still known -/
theorem va_AOA.moved {t : FieldType} {u U : State} (hvm : u.vm.Alike U.vm) (h : va_AOA t u) : va_AOA t U := by
  unfold va_AOA Cond.before Cond.holds at h ⊢
  simp only [Cond.value, beq_iff_eq] at h ⊢
  rw [hvm.findClass]
  cases hc : u.vm.findClass (FieldType.array t).toString with
  | none => simp [hc] at h
  | some comp =>
    simp only [hc, Option.bind_some, Option.bind_eq_some_iff, Option.map_eq_some_iff] at h ⊢
    obtain ⟨c, h1, k, h2, h3⟩ := h
    obtain ⟨k', hk', he⟩ := hvm.2.2 _ _ h2
    refine ⟨c, ?_, k', hk', ?_⟩
    · have e := (va_idx_bare U.vm comp).symm
      first | rw [hvm.bare_eq] at e | rw [← hvm.bare_eq] at e
      exact (e.trans (va_idx_bare u.vm comp)).trans h1
    · rw [he, hvm.findClass]
      exact h3
def z_Pw (G : z_GT) (av : List Value) (ws : va_W) : Array Value → State → Prop := fun v U => z_Pr G av ws v U ∧ va_AOA .int U
theorem z_Pw.blind {G : z_GT} {av : List Value} {ws : va_W} : FrameBlind (z_Pw G av ws) := fun a U g mk h => ⟨z_Pr.blind a U g mk h.1, va_AOA.moved (u := U) (U := U.calling g mk a) (Vm.Alike.refl U.vm) h.2⟩
theorem z_pwS {G : z_GT} {As : List Value} {ws : va_W} {s : State} {H : Heap} (hZ : va_AOA .int s) (hX : z_cx G s) (hP : va_P (z_DD G) vwCl ws H) : PreS s H (z_Pw G As ws) As := ⟨z_Pw.blind, fun U hU hW => ⟨⟨rfl, hX.warm hW, by rw [hU]; exact hP⟩, hZ.moved hW.alike⟩⟩
def z_Px (G : z_GT) (av : List Value) (ws : va_W) : Array Value → State → Prop := fun v U => z_Pr G av ws v U ∧ va_AOA .int U ∧ va_AO RX3 U ∧ va_AO RX2 U
theorem z_Px.blind {G : z_GT} {av : List Value} {ws : va_W} : FrameBlind (z_Px G av ws) := fun a U g mk h => ⟨z_Pr.blind a U g mk h.1, va_AOA.moved (u := U) (U := U.calling g mk a) (Vm.Alike.refl U.vm) h.2.1, va_AO.moved (u := U) (U := U.calling g mk a) (Vm.Alike.refl U.vm) h.2.2.1, va_AO.moved (u := U) (U := U.calling g mk a) (Vm.Alike.refl U.vm) h.2.2.2⟩
theorem z_pxS {G : z_GT} {As : List Value} {ws : va_W} {s : State} {H : Heap} (hZ : va_AOA .int s ∧ va_AO RX3 s ∧ va_AO RX2 s) (hX : z_cx G s) (hP : va_P (z_DD G) vwCl ws H) : PreS s H (z_Px G As ws) As := ⟨z_Px.blind, fun U hU hW => ⟨⟨rfl, hX.warm hW, by rw [hU]; exact hP⟩, hZ.1.moved hW.alike, hZ.2.1.moved hW.alike, hZ.2.2.moved hW.alike⟩⟩
/-! a fresh net of ways -/
def z_i1 (τ : Nat → Nat → Int32) (a : Nat) : Nat → Nat → Nat → Int32
  | 0 => τ
  | b + 1 => z_up (z_i1 τ a b) a b (if a = b then 0 else 1000000)
def z_i2 : Nat → Nat → Nat → Int32
  | 0 => fun _ _ => 0
  | a + 1 => z_i1 (z_i2 a) a 8
theorem z_i2_eq : ∀ a, a < 8 → ∀ b, b < 8 → z_i2 8 a b = if a = b then 0 else 1000000 := by decide +kernel
def z_ar (h0 q : Nat) (r : Nat → Nat) : Nat → Nat
  | 0 => h0
  | 1 => q
  | k + 2 => r k
def z_cJ (G : z_GT) (q : Nat) (r : Nat → Nat) (τ : Nat → Nat → Int32) : Nat → va_E
  | 0 => .inr (1, [.ref q, .int 0])
  | 1 => .inl (z_W G, 8, .inr (.inr (.inr (.inr (fun i => if i < 8 then some (r i) else none)))))
  | k + 2 => .inl (z_I G, 8, .inl (fun b => τ k b))
abbrev z_wR (G : z_GT) (h0 q : Nat) (r : Nat → Nat) (τ : Nat → Nat → Int32) : va_W := z_w 10 (z_ar h0 q r) (z_cJ G q r τ)
abbrev z_w9 (G : z_GT) (q : Nat) (r : Nat → Nat) (τ : Nat → Nat → Int32) : va_W := [(q, .inl (z_W G, 8, .inr (.inr (.inr (.inr (fun i => if i < 8 then some (r i) else none)))))), (r 0, .inl (z_I G, 8, .inl (fun b => τ 0 b))), (r 1, .inl (z_I G, 8, .inl (fun b => τ 1 b))), (r 2, .inl (z_I G, 8, .inl (fun b => τ 2 b))), (r 3, .inl (z_I G, 8, .inl (fun b => τ 3 b))), (r 4, .inl (z_I G, 8, .inl (fun b => τ 4 b))), (r 5, .inl (z_I G, 8, .inl (fun b => τ 5 b))), (r 6, .inl (z_I G, 8, .inl (fun b => τ 6 b))), (r 7, .inl (z_I G, 8, .inl (fun b => τ 7 b)))]
theorem z_wR_9 {G : z_GT} {h0 q : Nat} {r : Nat → Nat} {τ : Nat → Nat → Int32} : z_wR G h0 q r τ = (h0, .inr (1, [.ref q, .int 0])) :: z_w9 G q r τ := rfl
theorem z_pl8 {w : va_W} {r : Nat → Nat} {f : Nat → va_E} {e : va_E} : w ++ va_pl ([] ++ (List.range 8).map r) (vr_up f ((List.range 8).map r) e) = w ++ (List.range 8).map (fun j => (r j, e)) := by
  congr 1
  show ((List.range 8).map r).map _ = _
  rw [List.map_map]
  apply List.map_congr_left
  intro j hj
  have hm : r j ∈ (List.range 8).map r := List.mem_map.mpr ⟨j, hj, rfl⟩
  simp only [Function.comp_apply, vr_up, hm, if_true]
theorem z_sW {G : z_GT} {h0 q a b : Nat} {r : Nat → Nat} {τ : Nat → Nat → Int32} {y : Int32} (hb : b < 2 ^ 31) : (z_wR G h0 q r τ).set (a + 2) (r a, .inl (z_I G, 8, .inl (upd (fun j => τ a j) (nI b).toNatClampNeg y))) = z_wR G h0 q r (z_up τ a b y) := by
  refine z_w_set (ad := z_ar h0 q r) (k := a + 2) ?_ (fun j hj => ?_)
  · show (Sum.inl (z_I G, 8, Sum.inl (fun j => z_up τ a b y a j)) : va_E) = _
    rw [nI_clamp hb]
    have e : (fun j => z_up τ a b y a j) = upd (fun j => τ a j) b y := by
      funext j
      by_cases hj : j = b <;> simp [z_up, upd, hj]
    rw [e]
  · match j, hj with
    | 0, _ => rfl
    | 1, _ => rfl
    | j + 2, hj =>
      have h2 : j ≠ a := fun h => hj (by rw [h])
      show (Sum.inl (z_I G, 8, Sum.inl (fun b' => z_up τ a b y j b')) : va_E) = Sum.inl (z_I G, 8, Sum.inl (fun b' => τ j b'))
      rw [show (fun b' => z_up τ a b y j b') = (fun b' => τ j b') from funext fun b' => z_up_1 _ _ h2]
theorem z_D9 {G : z_GT} {h0 q sz : Nat} {r : Nat → Nat} {τ : Nat → Nat → Int32} (hD : va_D (fun y => y = h0 ∨ sz ≤ y) (z_wR G h0 q r τ)) : va_D (fun y => sz ≤ y) (z_w9 G q r τ) := by
  rw [z_wR_9] at hD
  refine ⟨fun i j p q h1 h2 h3 => ?_, fun k q hk => ?_⟩
  · have := hD.1 (i + 1) (j + 1) p q h1 h2 h3
    omega
  · rcases hD.2 (k + 1) q hk with h | h
    · exact absurd (hD.1 (k + 1) 0 q _ hk rfl h) (by omega)
    · exact h
theorem z_inC (c : ClassId) : Jvm.Free.Multi.innerC c 8 (defaultValue .int) = vp_cell c (8, .inl (fun _ => 0)) := by
  rw [vp_cell_i, ← arrV_new]
  rfl
