/-! Part 25: the law's own state between two calls. -/
/-- the two objects' cells and the law's row lie apart, and are new -/
def q_F (G : z_GT) (ad am : Nat → Nat) (ox : Nat) (s : State) : Prop := (∀ i j, i < 36 → j < 36 → ad i = ad j → i = j) ∧ (∀ i j, i < 10 → j < 10 → am i = am j → i = j) ∧ (∀ k, k < 36 → ad k ≠ ox) ∧ (∀ k, k < 10 → am k ≠ ox) ∧ (∀ j k, j < 36 → k < 10 → ad j ≠ am k) ∧ (∀ k, k < 36 → s.heap.size ≤ ad k) ∧ (∀ k, k < 10 → s.heap.size ≤ am k) ∧ s.heap.size ≤ ox ∧ z_cx G s ∧ z_th (fun q => s.heap.size ≤ q) s s.heap ∧ va_Nw (.castable "[I" "java/lang/Cloneable") s
def q_I (G : z_GT) (ad am : Nat → Nat) (ox : Nat) (s : State) (i : Nat) (H : Heap) (locs : List Loc) : Prop := ∃ (E : Nat → Nat → Nat) (σ : Nat → Nat → Int32) (κ : Nat → Nat → Nat) (μ : Nat → Nat → Int32) (ν : Nat → Nat → Nat) (T : Nat) (o : Int64), r_R E σ κ μ ν T ∧ T ≤ 60 * i ∧ va_P (z_DD G) vwCl (z_wC G ad σ κ) H ∧ va_P (z_DD G) vwCl (z_wM G am μ ν) H ∧ va_P (z_DD G) vwCl (z_wO G ox o) H ∧ va_S (fun q => s.heap.size ≤ q) s.heap H locs
section QL
variable {p : Program} {l : Launch} {e : Env} {R : Room} {s : State} {m : MethodId} {args : Array Value} {below : List Frame} {meth : Method} {c : Code} {H : Heap} {locs : List Loc} {cells slots : Nat} {Q : State → Prop}
variable {pc : Nat} {ls : Array Slot} {rest st0 : List Value} {a : Array Value} {G : z_GT}
theorem z_calll {ad : Nat → Nat} {ox : Nat} {σ1 : Nat → Nat → Int32} {κ1 : Nat → Nat → Nat} {o1 : Int64} {k : Int32} {A0 : Nat → Prop} {H0 : Heap} {mc ms : Nat} (hr : va_Run p l e R s m args below meth c H locs cells slots mc ms (F0 m pc ls st0) rest (z_Ql G ad ox σ1 κ1 o1 k a) (z_Al ad ox)) (hS : va_S A0 H0 H locs) (hA : ∀ q, z_Al ad ox q → A0 q)
    (kk : ∀ (H1 : Heap) (locs1 : List Loc), va_P (z_DD G) vwCl (z_wC G ad σ1 κ1) H1 → va_P (z_DD G) vwCl (z_wO G ox o1) H1 → H.size ≤ H1.size → (∀ q : Nat, q < H.size → ¬ z_Al ad ox q → H1[q]? = H[q]?) → va_S A0 H0 H1 locs1 → W p l e R s m args below meth c H1 locs1 (cells + mc) (slots + ms) Q (F0 m (pc + 3) ls (.int k :: rest))) : W p l e R s m args below meth c H locs cells slots Q (F0 m pc ls st0) := by
  intro T hT X
  obtain ⟨v, st₀, t, T', L, h0, X', hL, e1, e2, ⟨hv, hb, ho, hz, hk⟩, st⟩ := hr T hT X
  cases hv
  rw [h0] at hz hk
  obtain ⟨t2, a1, b1⟩ := kk T'.heap (locs ++ L) (by rw [e1]; exact hb) (by rw [e1]; exact ho) (by rw [e1]; exact hz) (fun q h1 h2 => by rw [e1]; exact hk q h1 h2)
    ⟨Nat.le_trans hS.1 (by rw [e1]; exact hz), fun q h1 h2 => by rw [e1, hk q (Nat.lt_of_lt_of_le h1 hS.1) (fun z => h2 (hA q z))]; exact hS.2.1 q h1 h2, fun q hq => by
      rcases List.mem_append.mp hq with h | h
      · exact hS.2.2 q h
      · exact hA _ (hL q h)⟩ T' rfl X'
  exact ⟨t2, st t2 a1, b1⟩
end QL
theorem q_cmp (x : Int64) : lg_cmp x x = 0 := by
  unfold lg_cmp
  rw [if_neg (Int64.lt_irrefl), if_pos rfl]
section QA
variable {G : z_GT} {ad am : Nat → Nat} {ox : Nat} {s : State}
theorem q_Al (hF : q_F G ad am ox s) (q : Nat) (h : z_Al ad ox q) : s.heap.size ≤ q := by
  rcases h with ⟨k, hk, rfl⟩ | rfl
  · exact hF.2.2.2.2.2.1 k hk
  · exact hF.2.2.2.2.2.2.2.1
theorem q_A10 (hF : q_F G ad am ox s) (q : Nat) (h : z_A 10 am q) : s.heap.size ≤ q := by
  obtain ⟨k, hk, rfl⟩ := h
  exact hF.2.2.2.2.2.2.1 k hk
theorem q_nM (hF : q_F G ad am ox s) (k : Nat) (hk : k < 10) : ¬ z_Al ad ox (am k) := by
  rintro (⟨j, hj, e⟩ | e)
  · exact hF.2.2.2.2.1 j k hj hk e.symm
  · exact hF.2.2.2.1 k hk e
theorem q_nC (hF : q_F G ad am ox s) (k : Nat) (hk : k < 36) : ¬ z_A 10 am (ad k) := by
  rintro ⟨j, hj, e⟩
  exact hF.2.2.2.2.1 k j hk hj e
theorem q_nO (hF : q_F G ad am ox s) : ¬ z_A 10 am ox := by
  rintro ⟨j, hj, e⟩
  exact hF.2.2.2.1 j hj e.symm
theorem q_T (hF : q_F G ad am ox s) {H : Heap} {locs : List Loc} (hS : va_S (fun q => s.heap.size ≤ q) s.heap H locs) : z_th (z_A 36 ad) s H := (hF.2.2.2.2.2.2.2.2.2.1.kept hS.2.1).narrow (fun q ⟨k, hk, e⟩ => by rw [e]; exact hF.2.2.2.2.2.1 k hk)
end QA
