/-! Part 11c: a row of nine numbers as it is filled; the old cells while a new one is made. -/
def z_cf (g : Nat → Int32) (n : Nat) : Nat → Int32 := fun j => if j < n then g j else 0
theorem z_cf0 (cA : ClassId) (g : Nat → Int32) (n : Nat) : vp_cell cA (n, .inl (z_cf g 0)) = arrV cA n (fun _ => defaultValue .int) := by
  rw [vp_cell_i]
  congr 1
theorem z_cfs (g : Nat → Int32) (k : Nat) (hk : k < 2 ^ 31) : upd (z_cf g k) (nI k).toNatClampNeg (g k) = z_cf g (k + 1) := by
  rw [nI_clamp hk]
  funext j
  unfold upd z_cf
  by_cases h : j = k
  · subst h
    simp
  · by_cases h2 : j < k
    · rw [if_neg h, if_pos h2, if_pos (by omega)]
    · rw [if_neg h, if_neg h2, if_neg (by omega)]
theorem z_cf9 (g : Nat → Int32) {w : Nat} (h : w < 9) : z_cf g 9 (nI w).toNatClampNeg = g w := by
  rw [nI_clamp (by omega)]
  exact if_pos h
theorem z_kp {D : va_G} {cl : List vw_C} {ws : va_W} {H0 H : Heap} {locs : List Loc} (hP : va_P D cl ws H0) (hS : va_S (fun q => H0.size ≤ q) H0 H locs) : va_P D cl ws H := hP.kept fun k q hk => hS.2.1 q.1 (hP k q hk).lt (Nat.not_le.mpr (hP k q hk).lt)
/-- the launch's tables let a row of ints be cloned -/
def z_Pc (G : z_GT) (av : List Value) (ws : va_W) : Array Value → State → Prop := fun v U => z_Pr G av ws v U ∧ va_Nw (.castable "[I" "java/lang/Cloneable") U
theorem z_Pc.blind {G : z_GT} {av : List Value} {ws : va_W} : FrameBlind (z_Pc G av ws) := fun a U g mk h => ⟨z_Pr.blind a U g mk h.1, va_Nw.same rfl rfl h.2⟩
theorem z_pcV {G : z_GT} {As : List Value} {ws : va_W} {s : State} {H : Heap} {b k ci : Nat} {fs : List Value} {q : vw_C} (hZ : va_Nw (.castable "[I" "java/lang/Cloneable") s) (hX : z_cx G s) (hP : va_P (z_DD G) vwCl ws H) (hc : vwCl[ci]? = some q) (he : ws[k]? = some (b, .inr (ci, fs))) : PreV s H q.1 b (z_Pc G (.ref b :: As) ws) As := ⟨z_Pc.blind, va_recv hX.1 hP hc he, fun U hU hW => ⟨⟨rfl, hX.warm hW, by rw [hU]; exact hP⟩, hZ.warmC hW⟩⟩
theorem z_keep1 {D : va_G} {cl : List vw_C} {a : Nat} {e : va_E} {H H1 : Heap} (h : va_P D cl [(a, e)] H) (hk : H1[a]? = H[a]?) : va_P D cl [(a, e)] H1 := h.kept fun k q hq => by
  have hk1 : k < 1 := (List.getElem?_eq_some_iff.mp hq).1
  rw [show k = 0 by omega] at hq
  cases hq
  exact hk
theorem z_lt1 {D : va_G} {cl : List vw_C} {a : Nat} {e : va_E} {H : Heap} (h : va_P D cl [(a, e)] H) : a < H.size := (h 0 _ rfl).lt
theorem z_n9A {am : Nat → Nat} {x : Nat} (hinj : ∀ i j, i < 10 → j < 10 → am i = am j → i = j) (hne : am 9 ≠ x) : ¬ z_A 10 (fun k => if k = 9 then x else am k) (am 9) := by
  rintro ⟨k, hk, e⟩
  by_cases h9 : k = 9
  · exact hne (e.trans (if_pos h9))
  · exact h9 (hinj 9 k (by decide) hk (e.trans (if_neg h9))).symm
theorem z_A29 {am : Nat → Nat} {x sz q : Nat} (hx : sz ≤ x) (h : z_A 10 (fun k => if k = 9 then x else am k) q) : z_A 10 am q ∨ sz ≤ q := by
  obtain ⟨k, hk, e⟩ := h
  by_cases h9 : k = 9
  · exact Or.inr (by rw [e.trans (if_pos h9)]; exact hx)
  · exact Or.inl ⟨k, hk, e.trans (if_neg h9)⟩
theorem z_A9 {am : Nat → Nat} {q : Nat} (h : z_A 10 (fun k => if k = 9 then am 9 else am k) q) : z_A 10 am q := by
  obtain ⟨k, hk, e⟩ := h
  by_cases h9 : k = 9
  · exact ⟨9, by decide, e.trans (if_pos h9)⟩
  · exact ⟨k, hk, e.trans (if_neg h9)⟩
theorem z_inj9q {am : Nat → Nat} {x : Nat} (hinj : ∀ i j, i < 10 → j < 10 → am i = am j → i = j) (hne : ∀ k, k < 10 → am k ≠ x) : ∀ i j, i < 10 → j < 10 → (fun k => if k = 9 then x else am k) i = (fun k => if k = 9 then x else am k) j → i = j := by
  intro i j hi hj e
  by_cases a : i = 9
  · by_cases b : j = 9
    · rw [a, b]
    · exact absurd ((if_neg b).symm.trans (e.symm.trans (if_pos a))) (hne j hj)
  · by_cases b : j = 9
    · exact absurd ((if_neg a).symm.trans (e.trans (if_pos b))) (hne i hi)
    · exact hinj i j hi hj ((if_neg a).symm.trans (e.trans (if_neg b)))
theorem z_inj9 {am : Nat → Nat} (hinj : ∀ i j, i < 10 → j < 10 → am i = am j → i = j) : ∀ i j, i < 10 → j < 10 → (fun k => if k = 9 then am 9 else am k) i = (fun k => if k = 9 then am 9 else am k) j → i = j := by
  have e : (fun k => if k = 9 then am 9 else am k) = am := by
    funext k
    by_cases h : k = 9
    · rw [if_pos h, h]
    · rw [if_neg h]
  rw [e]
  exact hinj
theorem z_apL {n : Nat} {ad : Nat → Nat} {ce : Nat → va_E} {x : Nat × va_E} {k : Nat} (hk : k < n) : (z_w n ad ce ++ [x])[k]? = some (ad k, ce k) := by
  have hl : (z_w n ad ce).length = n := by simp [z_w]
  rw [List.getElem?_append_left (by omega)]
  exact z_w_at hk
theorem z_apR {n : Nat} {ad : Nat → Nat} {ce : Nat → va_E} {x : Nat × va_E} : (z_w n ad ce ++ [x])[n]? = some x := by
  have hl : (z_w n ad ce).length = n := by simp [z_w]
  rw [List.getElem?_append_right (by omega), hl]
  simp
theorem z_ne9 {A : Nat → Prop} {n : Nat} {ad : Nat → Nat} {ce : Nat → va_E} {x : Nat} {e : va_E} (h : va_D A (z_w n ad ce ++ [(x, e)])) (k : Nat) (hk : k < n) : ad k ≠ x := fun e1 => by
  have := h.1 k n _ _ (z_apL hk) z_apR e1
  omega
theorem z_new9 {n sz : Nat} {ad : Nat → Nat} {ce : Nat → va_E} {x : Nat} {e : va_E} (h : va_D (fun q => z_A n ad q ∨ sz ≤ q) (z_w n ad ce ++ [(x, e)])) (hne : ∀ k, k < n → ad k ≠ x) : sz ≤ x := by
  rcases h.2 n _ z_apR with ⟨k, hk, e1⟩ | h1
  · exact absurd e1.symm (hne k hk)
  · exact h1
theorem z_clN {G : z_GT} {am : Nat → Nat} {x : Nat} {σ : Nat → Nat → Int32} {κ : Nat → Nat → Nat} {D : va_G} {cl : List vw_C} {H : Heap} (h : va_P D cl (z_wM G am σ κ ++ [(x, .inl (z_I G, 4, .inl (fun j => σ 9 j)))]) H) : va_P D cl (z_wN G am x σ κ) H := by
  intro k q hk
  have hl : k < 10 := by
    rcases Nat.lt_or_ge k 10 with a | a
    · exact a
    · rw [z_w_no (by omega)] at hk
      cases hk
  rw [z_w_at hl] at hk
  cases hk
  by_cases e : k = 9
  · subst e
    exact h 10 _ z_apR
  · have h1 := h k _ (z_apL hl)
    show va_at D cl (if k = 9 then x else am k, _) H
    rw [if_neg e]
    exact h1
theorem z_cMo {G : z_GT} {am : Nat → Nat} {σ σ' : Nat → Nat → Int32} {κ : Nat → Nat → Nat} (h : ∀ a b, a ≠ 9 → σ' a b = σ a b) {k : Nat} (hk : k < 9) : z_cM G am σ' κ k = z_cM G am σ κ k := by
  have f : ∀ a, a ≠ 9 → σ' a = σ a := fun a ha => funext fun b => h a b ha
  rcases (show k = 0 ∨ k = 1 ∨ k = 2 ∨ k = 3 ∨ k = 4 ∨ k = 5 ∨ k = 6 ∨ k = 7 ∨ k = 8 by omega) with rfl | rfl | rfl | rfl | rfl | rfl | rfl | rfl | rfl <;> simp [z_cM, f 0 (by decide), f 1 (by decide), f 2 (by decide), f 5 (by decide), f 7 (by decide), f 8 (by decide), f 10 (by decide)]
theorem z_back {G : z_GT} {am : Nat → Nat} {x : Nat} {σ σ' : Nat → Nat → Int32} {κ : Nat → Nat → Nat} {D : va_G} {cl : List vw_C} {H : Heap} (h : va_P D cl (z_wN G am x σ' κ) H) (h9 : va_P D cl [(am 9, .inl (z_I G, 4, .inl (fun j => σ 9 j)))] H) (e : ∀ a b, a ≠ 9 → σ' a b = σ a b) : va_P D cl (z_wM G am σ κ) H := by
  intro k q hk
  have hl : k < 10 := by
    rcases Nat.lt_or_ge k 10 with a | a
    · exact a
    · rw [z_w_no (by omega)] at hk
      cases hk
  rw [z_w_at hl] at hk
  cases hk
  by_cases e9 : k = 9
  · subst e9
    exact h9 0 _ rfl
  · have h1 : va_at D cl (if k = 9 then x else am k, z_cM G am σ' κ k) H := h k _ (z_w_at hl)
    rw [if_neg e9, z_cMo e (by omega)] at h1
    exact h1
theorem z_S2 {A : Nat → Prop} {H0 H : Heap} {locs : List Loc} {sz : Nat} (h : va_S A H0 H locs) : va_S (fun q => A q ∨ sz ≤ q) H0 H locs := ⟨h.1, fun q h1 h2 => h.2.1 q h1 (fun h3 => h2 (Or.inl h3)), fun y hy => Or.inl (h.2.2 y hy)⟩
theorem z_fitI (cA : ClassId) (n : Nat) (f : Nat → Int32) (i : Nat) (v : Value) (h : (vp_cell cA (n, .inl f)).slots[i]? = some v) : fits .int v = true := by
  rw [vp_cell_i] at h
  have hi : i < n := by
    have := (Array.getElem?_eq_some_iff.mp h).1
    rw [arrV_size] at this
    exact this
  rw [arrV_read _ _ hi] at h
  cases h
  rfl
theorem z_fresh {p : Program} {l : Launch} {e : Env} {R : Room} {s : State} {m : MethodId} {args : Array Value} {below : List Frame} {meth : Method} {c : Code} {H : Heap} {locs locs2 : List Loc} {cells slots : Nat} {Q : State → Prop} {g : JFrame} (h : ∀ y ∈ locs, y.base < s.heap.size → y ∈ locs2) (k : W p l e R s m args below meth c H locs2 cells slots Q g) : W p l e R s m args below meth c H locs cells slots Q g := fun T hT X => k T hT { X with same := X.same.weaken h (Nat.le_refl _) (Nat.le_refl _) }
