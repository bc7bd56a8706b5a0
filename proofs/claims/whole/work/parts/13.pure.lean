/-! Part 13: contracts made wider; the class beside the law's own row of one long; a call of the law that catches. -/
theorem z_mono {l : Launch} {y : MethodName} {ws : List Cond} {rm : Room} {Pc Pc' : Array Value → State → Prop} {Qc Qc' : Array Value → State → Outcome → State → Prop} {mc ms : Nat} {free free' : Addr → Prop} (h : Met l y ws rm Pc Qc mc ms free) (hp : ∀ a s, Pc' a s → Pc a s) (hq : ∀ a s o t, Pc' a s → Qc a s o t → Qc' a s o t) (hf : ∀ q, free q → free' q) : Met l y ws rm Pc' Qc' mc ms free' := by
  intro p e ha hc hk s m args below hfr happ hP hK
  obtain ⟨n, o, h1, h2, h3, h4, L, h5, h6⟩ := h p e ha hc hk s m args below hfr happ (hp _ _ hP) hK
  exact ⟨n, o, h1, h2, h3, hq _ _ _ _ hP h4, L, h5, fun q h9 => hf _ (h6 q h9)⟩
theorem z_oM {l : Launch} {G : z_GT} {y : MethodName} {wy : List Cond} {rm : Room} {av : List Value} {ws : va_W} {o : Option Value} (h : Met l y wy rm (z_Pr G av ws) (z_Qo o) 0 0 (fun _ => False)) (A : Nat → Prop) : Met l y wy rm (z_Pr G av ws) (z_Qm G o ws A) 0 0 A :=
  z_mono h (fun _ _ h => h) (fun a s oc t hP hq => ⟨hq.1, by rw [hq.2]; exact hP.2.2, by rw [hq.2]; exact Nat.le_refl _, fun q _ _ => by rw [hq.2]⟩) (fun _ h => h.elim)
abbrev z_wO (G : z_GT) (ox : Nat) (o : Int64) : va_W := [(ox, .inl (z_L G, 1, .inr (.inl (fun _ => o))))]
def z_Al (ad : Nat → Nat) (ox : Nat) : Nat → Prop := fun q => z_A 36 ad q ∨ q = ox
/-- a catching call's start and end -/
def z_Pl (G : z_GT) (ad : Nat → Nat) (ox : Nat) (σ : Nat → Nat → Int32) (κ : Nat → Nat → Nat) (o : Int64) (av : List Value) : Array Value → State → Prop := fun v U => v = av.toArray ∧ z_cx G U ∧ va_P (z_DD G) vwCl (z_wC G ad σ κ) U.heap ∧ va_P (z_DD G) vwCl (z_wO G ox o) U.heap ∧ z_th (z_A 36 ad) U U.heap
theorem z_Pl.blind {G : z_GT} {ad : Nat → Nat} {ox : Nat} {σ : Nat → Nat → Int32} {κ : Nat → Nat → Nat} {o : Int64} {av : List Value} : FrameBlind (z_Pl G ad ox σ κ o av) := fun a U g mk h => ⟨h.1, h.2.1.same rfl, h.2.2.1, h.2.2.2.1, h.2.2.2.2.same rfl⟩
theorem z_plS {G : z_GT} {ad : Nat → Nat} {ox : Nat} {σ : Nat → Nat → Int32} {κ : Nat → Nat → Nat} {o : Int64} {As : List Value} {s : State} {H : Heap} (hX : z_cx G s) (hP : va_P (z_DD G) vwCl (z_wC G ad σ κ) H) (hO : va_P (z_DD G) vwCl (z_wO G ox o) H) (hT : z_th (z_A 36 ad) s H) : PreS s H (z_Pl G ad ox σ κ o As) As := ⟨z_Pl.blind, fun U hU hW => ⟨rfl, hX.warm hW, by rw [hU]; exact hP, by rw [hU]; exact hO, by rw [hU]; exact hT.warm hW⟩⟩
def z_Ql (G : z_GT) (ad : Nat → Nat) (ox : Nat) (σ : Nat → Nat → Int32) (κ : Nat → Nat → Nat) (o : Int64) (k : Int32) : Array Value → State → Outcome → State → Prop := fun _ st oc t => oc = .returned (some (.int k)) ∧ va_P (z_DD G) vwCl (z_wC G ad σ κ) t.heap ∧ va_P (z_DD G) vwCl (z_wO G ox o) t.heap ∧ va_F (z_Al ad ox) st t
theorem z_apS {n : Nat} {ad : Nat → Nat} {ce : Nat → va_E} {x y : Nat × va_E} : (z_w n ad ce ++ [x]).set n y = z_w n ad ce ++ [y] := by
  have hl : (z_w n ad ce).length = n := by simp [z_w]
  rw [List.set_append_right _ _ (by omega), hl, Nat.sub_self]
  rfl
theorem z_apP {D : va_G} {cl : List vw_C} {n : Nat} {ad : Nat → Nat} {ce : Nat → va_E} {x : Nat × va_E} {H : Heap} (h : va_P D cl (z_w n ad ce ++ [x]) H) : va_P D cl (z_w n ad ce) H ∧ va_P D cl [x] H := by
  refine ⟨fun k q hk => ?_, fun k q hk => ?_⟩
  · obtain ⟨h1, rfl⟩ := z_w_of hk
    exact h k _ (z_apL h1)
  · have h1 : k < 1 := (List.getElem?_eq_some_iff.mp hk).1
    rw [show k = 0 by omega] at hk
    cases hk
    exact h n _ z_apR
theorem z_apD {A : Nat → Prop} {n : Nat} {ad : Nat → Nat} {ce : Nat → va_E} {a : Nat} {e : va_E} (hi : ∀ i j, i < n → j < n → ad i = ad j → i = j) (hA : ∀ k, k < n → A (ad k)) (ha : A a) (hne : ∀ k, k < n → ad k ≠ a) : va_D A (z_w n ad ce ++ [(a, e)]) :=
  va_D.app (z_D hi ce hA) (z_D1 ha) (fun i j p q h1 h2 => by
    obtain ⟨a1, rfl⟩ := z_w_of h1
    have h3 : j < 1 := (List.getElem?_eq_some_iff.mp h2).1
    rw [show j = 0 by omega] at h2
    cases h2
    exact hne i a1)
theorem z_atO {D : va_G} {cl : List vw_C} {a : Nat} {cA : ClassId} {f : Nat → Int64} {o : Int64} {H : Heap} (h : va_P D cl [(a, .inl (cA, 1, .inr (.inl f)))] H) (e : f 0 = o) : va_P D cl [(a, .inl (cA, 1, .inr (.inl (fun _ => o))))] H := by
  intro k q hk
  have h1 : k < 1 := (List.getElem?_eq_some_iff.mp hk).1
  rw [show k = 0 by omega] at hk
  cases hk
  have h1 : H[a]? = some (vp_cell cA (1, .inr (.inl f))) := h 0 _ rfl
  show H[a]? = some (vp_cell cA (1, .inr (.inl (fun _ => o))))
  rw [vp_cell_l] at h1 ⊢
  rw [h1]
  exact congrArg some (z_arr (fun j hj => by rw [show j = 0 by omega, e]))
