/-! Part 21: valleys, tours, lists; the start; advice. -/
section RT
variable {E : Nat → Nat → Nat} {σ σ' μ μ' : Nat → Nat → Int32} {κ κ' ν : Nat → Nat → Nat} {T : Nat}
theorem r_mnsκ (h1 : ∀ t, κ' 1 t = κ 1 t) (h2 : ∀ t, κ' (2 + t) = κ (2 + t)) (t : Nat) : z_mns σ κ' t = z_mns σ κ t := by
  unfold z_mns
  rw [h1 t, h2 t]
theorem r_cfκ (h1 : ∀ t, κ' 1 t = κ 1 t) (h2 : ∀ t, κ' (2 + t) = κ (2 + t)) (v t : Nat) : r_cf σ κ' v t = r_cf σ κ v t ∧ r_vf σ κ' v t = r_vf σ κ v t := by
  unfold r_cf r_vf
  rw [h1 t, h2 t, r_mnsκ h1 h2]
  exact ⟨rfl, rfl⟩
/-- a valley is made -/
theorem r_valley (h : r_R E σ κ μ ν T) {x n y : Int32} (g1 : ¬ z_wi x 0 90 = 0) (g2 : ¬ z_wi n 1 30 = 0) (g4 : κ 0 0 < 8) : r_R E (z_vl σ (κ 0 0) x n y) (z_up κ 0 0 (κ 0 0 + 1)) (z_vl μ (ν 0 0) x n y) (z_up ν 0 0 (ν 0 0 + 1)) T := by
  obtain ⟨⟨⟨⟨e1, e2, e3, e4⟩, a1, a2, a3, a4, a5, a6⟩, ⟨s0, s1, s2, s5, s7⟩, hv, ⟨hE, w1, w2⟩, R, r1, r2, r3⟩, ⟨k6, k3, k4⟩, hd⟩ := h
  have o : ∀ (s : Nat → Nat → Int32) (k : Nat) r, 2 < r → z_vl s k x n y r = s r := fun s k r hr => funext fun q => by
    unfold z_vl
    rw [z_up_1 _ _ (by omega), z_up_1 _ _ (by omega), z_up_1 _ _ (by omega)]
  have v0 : ∀ (s : Nat → Nat → Int32) (k q : Nat), z_vl s k x n y 0 q = if q = k then x else s 0 q := fun s k q => by
    unfold z_vl
    rw [z_up_1 _ _ (by decide), z_up_1 _ _ (by decide)]
    by_cases e : q = k
    · subst e
      rw [z_up_s, if_pos rfl]
    · rw [z_up_2 _ _ e, if_neg e]
  have v1 : ∀ (s : Nat → Nat → Int32) (k q : Nat), z_vl s k x n y 1 q = if q = k then n else s 1 q := fun s k q => by
    unfold z_vl
    rw [z_up_1 _ _ (by decide)]
    by_cases e : q = k
    · subst e
      rw [z_up_s, if_pos rfl]
    · rw [z_up_2 _ _ e, if_neg e, z_up_1 _ _ (by decide)]
  have v2 : ∀ (s : Nat → Nat → Int32) (k q : Nat), z_vl s k x n y 2 q = if q = k then y else s 2 q := fun s k q => by
    unfold z_vl
    by_cases e : q = k
    · subst e
      rw [z_up_s, if_pos rfl]
    · rw [z_up_2 _ _ e, if_neg e, z_up_1 _ _ (by decide), z_up_1 _ _ (by decide)]
  have c0 : ∀ (c : Nat → Nat → Nat), z_up c 0 0 (c 0 0 + 1) 0 0 = c 0 0 + 1 := fun c => z_up_s _ _ _ _
  have c1 : ∀ (c : Nat → Nat → Nat), z_up c 0 0 (c 0 0 + 1) 0 1 = c 0 1 := fun c => z_up_2 _ _ (by decide)
  have cr : ∀ (c : Nat → Nat → Nat) r, r ≠ 0 → z_up c 0 0 (c 0 0 + 1) r = c r := fun c r hr => funext fun q => z_up_1 _ _ hr
  have l1 : ∀ t, z_up κ 0 0 (κ 0 0 + 1) 1 t = κ 1 t := fun t => congrFun (cr κ 1 (by decide)) t
  have l2 : ∀ t, z_up κ 0 0 (κ 0 0 + 1) (2 + t) = κ (2 + t) := fun t => cr κ (2 + t) (by omega)
  obtain ⟨q1, q2, q3⟩ := r_cfσ (σ' := z_vl σ (κ 0 0) x n y) (σ := σ) (κ := z_up κ 0 0 (κ 0 0 + 1)) (fun r hr => o _ _ r (by omega)) (o _ _ 5 (by decide))
  refine ⟨⟨⟨⟨?_, ?_, fun t ht => ?_, fun t k ht hk => ?_⟩, ?_, ?_, fun t ht => ?_, fun t k ht hk => ?_, fun t j k ht hj hk e => ?_, fun t ht1 ht => ?_⟩, ⟨?_, ?_, ?_, ?_, ?_⟩, fun v hv' => ?_, ⟨hE, fun a b ha hb => ?_, fun a b ha hb => ?_⟩, R, r1, ?_, ?_⟩, ⟨fun t => ?_, fun v => ?_, fun v => ?_⟩, ?_⟩
  · rw [c0, c0, e1]
  · rw [c1, c1, e2]
  · rw [l1, cr ν 1 (by decide)]
    exact e3 t ht
  · rw [l1] at hk
    rw [l2, cr ν 2 (by decide)]
    exact e4 t k ht hk
  · rw [c0]
    omega
  · rw [c1]
    exact a2
  · rw [l1]
    exact a3 t ht
  · rw [l1] at hk
    rw [l2, c0]
    have := a4 t k ht hk
    omega
  · rw [l1] at hj hk
    rw [l2] at e
    exact a5 t j k ht hj hk e
  · rw [c1] at ht1
    rw [l1]
    exact a6 t ht1 ht
  · funext q
    rw [v0, v0, e1, s0]
  · funext q
    rw [v1, v1, e1, s1]
  · funext q
    rw [v2, v2, e1, s2]
  · rw [o _ _ 5 (by decide), o _ _ 5 (by decide), s5]
  · rw [o _ _ 7 (by decide), o _ _ 7 (by decide), s7]
  · rw [c0] at hv'
    rw [v0, v1]
    by_cases e : v = κ 0 0
    · rw [if_pos e, if_pos e]
      exact ⟨g1, g2⟩
    · rw [if_neg e, if_neg e]
      exact hv v (by omega)
  · rw [o _ _ (10 + a) (by omega)]
    exact w1 a b ha hb
  · rw [o _ _ 10 (by decide)]
    exact w2 a b ha hb
  · rw [o _ _ 8 (by decide)]
    exact r2
  · rw [o _ _ 8 (by decide)]
    exact r3
  · rw [o _ _ 6 (by decide), q3, c1, r_mnsκ l1 l2]
    exact k6 t
  · rw [o _ _ 3 (by decide), q1, c0, c1, r_sm_congr (g := r_cf σ κ v) _ (fun t _ => (r_cfκ l1 l2 v t).1), k3 v]
    by_cases e : v < κ 0 0
    · rw [if_pos e, if_pos (by omega)]
    · rw [if_neg e]
      by_cases e' : v < κ 0 0 + 1
      · rw [if_pos e']
        refine (r_sm_zero _ (fun t ht => ?_)).symm
        unfold r_cf
        rw [if_neg]
        intro q
        obtain ⟨k, hk, hkv⟩ := r_vi_ex _ q
        have := a4 t k (by omega) hk
        omega
      · rw [if_neg e']
  · rw [o _ _ 4 (by decide), q2, c0, c1, r_sm_congr (g := r_vf σ κ v) _ (fun t _ => (r_cfκ l1 l2 v t).2), k4 v]
    by_cases e : v < κ 0 0
    · rw [if_pos e, if_pos (by omega)]
    · rw [if_neg e]
      by_cases e' : v < κ 0 0 + 1
      · rw [if_pos e']
        refine (r_sm_zero _ (fun t ht => ?_)).symm
        unfold r_vf
        rw [if_neg]
        intro q
        obtain ⟨k, hk, hkv⟩ := r_vi_ex _ q
        have := a4 t k (by omega) hk
        omega
      · rw [if_neg e']
  · unfold r_D
    rw [o _ _ 8 (by decide), o _ _ 9 (by decide)]
    exact hd
/-- a tour is made -/
theorem r_tour (h : r_R E σ κ μ ν T) (x : Int32) (g : κ 0 1 < 6) : r_R E (z_up σ 5 (κ 0 1) x) (z_up κ 0 1 (κ 0 1 + 1)) (z_up μ 5 (ν 0 1) x) (z_up ν 0 1 (ν 0 1 + 1)) T := by
  obtain ⟨⟨⟨⟨e1, e2, e3, e4⟩, a1, a2, a3, a4, a5, a6⟩, ⟨s0, s1, s2, s5, s7⟩, hv, ⟨hE, w1, w2⟩, R, r1, r2, r3⟩, ⟨k6, k3, k4⟩, hd⟩ := h
  have o : ∀ (s : Nat → Nat → Int32) (k : Nat) r, r ≠ 5 → z_up s 5 k x r = s r := fun s k r hr => funext fun q => z_up_1 _ _ hr
  have c0 : ∀ (c : Nat → Nat → Nat), z_up c 0 1 (c 0 1 + 1) 0 0 = c 0 0 := fun c => z_up_2 _ _ (by decide)
  have c1 : ∀ (c : Nat → Nat → Nat), z_up c 0 1 (c 0 1 + 1) 0 1 = c 0 1 + 1 := fun c => z_up_s _ _ _ _
  have cr : ∀ (c : Nat → Nat → Nat) r, r ≠ 0 → z_up c 0 1 (c 0 1 + 1) r = c r := fun c r hr => funext fun q => z_up_1 _ _ hr
  have l1 : ∀ t, z_up κ 0 1 (κ 0 1 + 1) 1 t = κ 1 t := fun t => congrFun (cr κ 1 (by decide)) t
  have l2 : ∀ t, z_up κ 0 1 (κ 0 1 + 1) (2 + t) = κ (2 + t) := fun t => cr κ (2 + t) (by omega)
  have hz : κ 1 (κ 0 1) = 0 := a6 _ (Nat.le_refl _) g
  have mz : z_mns σ κ (κ 0 1) = 0 := by
    unfold z_mns z_mn
    rw [hz]
    rfl
  have em : ∀ t, z_mns (z_up σ 5 (κ 0 1) x) (z_up κ 0 1 (κ 0 1 + 1)) t = z_mns σ κ t := fun t => (r_mns (fun r q hr => congrFun (o σ _ r (by omega)) q) _ t).trans (r_mnsκ l1 l2 t)
  have ec : ∀ v t, t < κ 0 1 → r_cf (z_up σ 5 (κ 0 1) x) (z_up κ 0 1 (κ 0 1 + 1)) v t = r_cf σ κ v t := fun v t ht => by
    unfold r_cf
    rw [em, l1, l2, z_up_2 _ _ (by omega)]
  have ev : ∀ v t, r_vf (z_up σ 5 (κ 0 1) x) (z_up κ 0 1 (κ 0 1 + 1)) v t = r_vf σ κ v t := fun v t => by
    unfold r_vf
    rw [em, l1, l2]
  have ecz : ∀ v, r_cf (z_up σ 5 (κ 0 1) x) (z_up κ 0 1 (κ 0 1 + 1)) v (κ 0 1) = 0 := fun v => by
    unfold r_cf
    rw [l1, hz]
    rfl
  have evz : ∀ v, r_vf σ κ v (κ 0 1) = 0 := fun v => by
    unfold r_vf
    rw [hz]
    rfl
  refine ⟨⟨⟨⟨?_, ?_, fun t ht => ?_, fun t k ht hk => ?_⟩, ?_, ?_, fun t ht => ?_, fun t k ht hk => ?_, fun t j k ht hj hk e => ?_, fun t ht1 ht => ?_⟩, ⟨?_, ?_, ?_, ?_, ?_⟩, fun v hv' => ?_, ⟨hE, fun a b ha hb => ?_, fun a b ha hb => ?_⟩, R, r1, ?_, ?_⟩, ⟨fun t => ?_, fun v => ?_, fun v => ?_⟩, ?_⟩
  · rw [c0, c0, e1]
  · rw [c1, c1, e2]
  · rw [l1, cr ν 1 (by decide)]
    exact e3 t ht
  · rw [l1] at hk
    rw [l2, cr ν 2 (by decide)]
    exact e4 t k ht hk
  · rw [c0]
    exact a1
  · rw [c1]
    omega
  · rw [l1]
    exact a3 t ht
  · rw [l1] at hk
    rw [l2, c0]
    exact a4 t k ht hk
  · rw [l1] at hj hk
    rw [l2] at e
    exact a5 t j k ht hj hk e
  · rw [c1] at ht1
    rw [l1]
    exact a6 t (by omega) ht
  · rw [o _ _ 0 (by decide), o _ _ 0 (by decide), s0]
  · rw [o _ _ 1 (by decide), o _ _ 1 (by decide), s1]
  · rw [o _ _ 2 (by decide), o _ _ 2 (by decide), s2]
  · funext q
    rw [e2]
    by_cases e : q = ν 0 1
    · subst e
      rw [z_up_s, z_up_s]
    · rw [z_up_2 _ _ e, z_up_2 _ _ e, s5]
  · rw [o _ _ 7 (by decide), o _ _ 7 (by decide), s7]
  · rw [c0] at hv'
    rw [o _ _ 0 (by decide), o _ _ 1 (by decide)]
    exact hv v hv'
  · rw [o _ _ (10 + a) (by omega)]
    exact w1 a b ha hb
  · rw [o _ _ 10 (by decide)]
    exact w2 a b ha hb
  · rw [o _ _ 8 (by decide)]
    exact r2
  · rw [o _ _ 8 (by decide)]
    exact r3
  · rw [o _ _ 6 (by decide), em, c1, k6 t]
    by_cases e : t < κ 0 1
    · rw [if_pos e, if_pos (by omega)]
    · rw [if_neg e]
      by_cases e' : t = κ 0 1
      · subst e'
        rw [if_pos (by omega), mz]
      · rw [if_neg (by omega)]
  · rw [o _ _ 3 (by decide), c0, c1, k3 v]
    by_cases e : v < κ 0 0
    · rw [if_pos e, if_pos e]
      show _ = z_sm _ (κ 0 1) + _
      rw [ecz, Int32.add_zero]
      exact (r_sm_congr _ (fun t ht => ec v t ht)).symm
    · rw [if_neg e, if_neg e]
  · rw [o _ _ 4 (by decide), c0, c1, k4 v]
    by_cases e : v < κ 0 0
    · rw [if_pos e, if_pos e]
      show _ = z_sm _ (κ 0 1) + _
      rw [ev, evz, Int32.add_zero]
      exact (r_sm_congr _ (fun t ht => ev v t)).symm
    · rw [if_neg e, if_neg e]
  · unfold r_D
    rw [o _ _ 8 (by decide), o _ _ 9 (by decide)]
    exact hd
/-- a valley joins a list -/
theorem r_add (h : r_R E σ κ μ ν T) {t v : Nat} (ht : t < κ 0 1) (hv0 : v < κ 0 0) (g1 : κ 1 t < 5) (g2 : z_vi (κ (2 + t)) v (κ 1 t) = false) : r_R E (z_rkn σ (z_ap κ t v)) (z_ap κ t v) μ (y_ap ν t v) T := by
  obtain ⟨⟨⟨⟨e1, e2, e3, e4⟩, a1, a2, a3, a4, a5, a6⟩, hs, hv, hw, hR⟩, hk, hd⟩ := h
  obtain ⟨n3, n4, n6⟩ := r_K0 hk
  have ht6 : t < 6 := by omega
  have k0 : ∀ j, z_ap κ t v 0 j = κ 0 j := fun j => (z_up_1 _ _ (by omega)).trans (z_up_1 _ _ (by omega))
  have k1 : ∀ q, z_ap κ t v 1 q = if q = t then κ 1 t + 1 else κ 1 q := fun q => by
    show z_up (z_up κ (2 + t) (κ 1 t) v) 1 t (κ 1 t + 1) 1 q = _
    by_cases e : q = t
    · subst e
      rw [z_up_s, if_pos rfl]
    · rw [z_up_2 _ _ e, if_neg e, z_up_1 _ _ (by omega)]
  have k2 : ∀ q j, z_ap κ t v (2 + q) j = if q = t ∧ j = κ 1 t then v else κ (2 + q) j := fun q j => by
    show z_up (z_up κ (2 + t) (κ 1 t) v) 1 t (κ 1 t + 1) (2 + q) j = _
    rw [z_up_1 _ _ (by omega)]
    by_cases e : q = t ∧ j = κ 1 t
    · obtain ⟨rfl, rfl⟩ := e
      rw [z_up_s, if_pos ⟨rfl, rfl⟩]
    · rw [if_neg e]
      by_cases e2 : q = t
      · subst e2
        rw [z_up_2 _ _ (fun q => e ⟨rfl, q⟩)]
      · rw [z_up_1 _ _ (by omega)]
  have y0 : ∀ j, y_ap ν t v 0 j = ν 0 j := fun j => rfl
  have y1 : ∀ q, y_ap ν t v 1 q = if q = t then ν 1 t + 1 else ν 1 q := fun q => by
    show z_up (z_up ν 2 (5 * t + ν 1 t) v) 1 t (ν 1 t + 1) 1 q = _
    by_cases e : q = t
    · subst e
      rw [z_up_s, if_pos rfl]
    · rw [z_up_2 _ _ e, if_neg e, z_up_1 _ _ (by omega)]
  have y2 : ∀ j, y_ap ν t v 2 j = if j = 5 * t + ν 1 t then v else ν 2 j := fun j => by
    show z_up (z_up ν 2 (5 * t + ν 1 t) v) 1 t (ν 1 t + 1) 2 j = _
    rw [z_up_1 _ _ (by omega)]
    by_cases e : j = 5 * t + ν 1 t
    · subst e
      rw [z_up_s, if_pos rfl]
    · rw [z_up_2 _ _ e, if_neg e]
  have et := e3 t ht6
  have hn : ∀ k, k < κ 1 t → κ (2 + t) k ≠ v := fun k hk e => by rw [z_vi_t hk e] at g2; exact absurd g2 (by decide)
  refine r_reck ⟨⟨⟨?_, ?_, fun q hq => ?_, fun q k hq hk => ?_⟩, ?_, ?_, fun q hq => ?_, fun q k hq hk => ?_, fun q j k hq hj hk e => ?_, fun q hq1 hq => ?_⟩, hs, fun w hw' => ?_, hw, hR⟩ ?_ ?_ ?_ hd
  · rw [k0, y0, e1]
  · rw [k0, y0, e2]
  · rw [k1, y1, et]
    by_cases e : q = t
    · rw [if_pos e, if_pos e]
    · rw [if_neg e, if_neg e]
      exact e3 q hq
  · rw [k1] at hk
    rw [k2, y2, ← et]
    by_cases e : q = t
    · subst e
      rw [if_pos rfl] at hk
      by_cases e' : k = κ 1 q
      · rw [if_pos ⟨rfl, e'⟩, if_pos (by omega)]
      · rw [if_neg (fun z => e' z.2), if_neg (by omega)]
        exact e4 q k hq (by omega)
    · rw [if_neg e] at hk
      have := a3 q hq
      rw [if_neg (fun z => e z.1), if_neg (by omega)]
      exact e4 q k hq hk
  · rw [k0]
    exact a1
  · rw [k0]
    exact a2
  · rw [k1]
    by_cases e : q = t
    · rw [if_pos e]
      omega
    · rw [if_neg e]
      exact a3 q hq
  · rw [k1] at hk
    rw [k2, k0]
    by_cases e : q = t ∧ k = κ 1 t
    · rw [if_pos e]
      exact hv0
    · rw [if_neg e]
      by_cases e' : q = t
      · rw [if_pos e'] at hk
        subst e'
        exact a4 q k hq (by omega)
      · rw [if_neg e'] at hk
        exact a4 q k hq hk
  · rw [k1] at hj hk
    rw [k2, k2] at e
    by_cases e' : q = t
    · subst e'
      rw [if_pos rfl] at hj hk
      by_cases ej : j = κ 1 q
      · by_cases ek : k = κ 1 q
        · omega
        · rw [if_pos ⟨rfl, ej⟩, if_neg (fun z => ek z.2)] at e
          exact absurd e.symm (hn k (by omega))
      · by_cases ek : k = κ 1 q
        · rw [if_neg (fun z => ej z.2), if_pos ⟨rfl, ek⟩] at e
          exact absurd e (hn j (by omega))
        · rw [if_neg (fun z => ej z.2), if_neg (fun z => ek z.2)] at e
          exact a5 q j k hq (by omega) (by omega) e
    · rw [if_neg e'] at hj hk
      rw [if_neg (fun z => e' z.1), if_neg (fun z => e' z.1)] at e
      exact a5 q j k hq hj hk e
  · rw [k0] at hq1
    rw [k1, if_neg (by omega)]
    exact a6 q hq1 hq
  · rw [k0] at hw'
    exact hv w hw'
  · rw [k0]
    exact n3
  · rw [k0]
    exact n4
  · rw [k0]
    exact n6
/-- the last of a list goes -/
theorem r_cut (h : r_R E σ κ μ ν T) {t : Nat} (ht : t < κ 0 1) : r_R E (z_rkn σ (z_tk κ t)) (z_tk κ t) μ (y_ct ν t) T := by
  obtain ⟨⟨⟨⟨e1, e2, e3, e4⟩, a1, a2, a3, a4, a5, a6⟩, hs, hv, hw, hR⟩, hk, hd⟩ := h
  obtain ⟨n3, n4, n6⟩ := r_K0 hk
  have ht6 : t < 6 := by omega
  have k0 : ∀ j, z_tk κ t 0 j = κ 0 j := fun j => z_up_1 _ _ (by omega)
  have k1 : ∀ q, z_tk κ t 1 q = if q = t then κ 1 t - 1 else κ 1 q := fun q => by
    show z_up κ 1 t (κ 1 t - 1) 1 q = _
    by_cases e : q = t
    · subst e
      rw [z_up_s, if_pos rfl]
    · rw [z_up_2 _ _ e, if_neg e]
  have kl : ∀ q, z_tk κ t 1 q ≤ κ 1 q := fun q => by
    rw [k1]
    by_cases e : q = t
    · subst e
      rw [if_pos rfl]
      omega
    · rw [if_neg e]
      exact Nat.le_refl _
  have k2 : ∀ q j, z_tk κ t (2 + q) j = κ (2 + q) j := fun q j => z_up_1 _ _ (by omega)
  have y0 : ∀ j, y_ct ν t 0 j = ν 0 j := fun j => rfl
  have y1 : ∀ q, y_ct ν t 1 q = if q = t then ν 1 t - 1 else ν 1 q := fun q => by
    show z_up ν 1 t (ν 1 t - 1) 1 q = _
    by_cases e : q = t
    · subst e
      rw [z_up_s, if_pos rfl]
    · rw [z_up_2 _ _ e, if_neg e]
  have y2 : ∀ j, y_ct ν t 2 j = ν 2 j := fun j => z_up_1 _ _ (by omega)
  have et := e3 t ht6
  refine r_reck ⟨⟨⟨?_, ?_, fun q hq => ?_, fun q k hq hk => ?_⟩, ?_, ?_, fun q hq => ?_, fun q k hq hk => ?_, fun q j k hq hj hk e => ?_, fun q hq1 hq => ?_⟩, hs, fun w hw' => ?_, hw, hR⟩ ?_ ?_ ?_ hd
  · rw [k0, y0, e1]
  · rw [k0, y0, e2]
  · rw [k1, y1, et]
    by_cases e : q = t
    · rw [if_pos e, if_pos e]
    · rw [if_neg e, if_neg e]
      exact e3 q hq
  · rw [k2, y2]
    exact e4 q k hq (Nat.lt_of_lt_of_le hk (kl q))
  · rw [k0]
    exact a1
  · rw [k0]
    exact a2
  · exact Nat.le_trans (kl q) (a3 q hq)
  · rw [k2, k0]
    exact a4 q k hq (Nat.lt_of_lt_of_le hk (kl q))
  · rw [k2, k2] at e
    exact a5 q j k hq (Nat.lt_of_lt_of_le hj (kl q)) (Nat.lt_of_lt_of_le hk (kl q)) e
  · rw [k0] at hq1
    have := a6 q hq1 hq
    have := kl q
    omega
  · rw [k0] at hw'
    exact hv w hw'
  · rw [k0]
    exact n3
  · rw [k0]
    exact n4
  · rw [k0]
    exact n6
end RT
/-- the start -/
def r_E0 (i j : Nat) : Nat := if i = j then 0 else 1000000
theorem r_E0_me : m_Me r_E0 := by
  have k1 : ∀ i : Fin 8, r_E0 i.val i.val = 0 := by decide +kernel
  have k2 : ∀ i j : Fin 8, r_E0 i.val j.val = r_E0 j.val i.val := by decide +kernel
  have k3 : ∀ i j k : Fin 8, r_E0 i.val j.val ≤ r_E0 i.val k.val + r_E0 k.val j.val := by decide +kernel
  have k4 : ∀ i j : Fin 8, r_E0 i.val j.val ≤ 1000000 := by decide +kernel
  have k5 : ∀ i j : Fin 8, r_E0 i.val j.val < 1000000 → r_E0 i.val j.val + 240 ≤ 240 * m_cn (r_E0 i.val) 8 := by decide +kernel
  exact ⟨fun i hi => k1 ⟨i, hi⟩, fun i j hi hj => k2 ⟨i, hi⟩ ⟨j, hj⟩, fun i j k hi hj hk => k3 ⟨i, hi⟩ ⟨j, hj⟩ ⟨k, hk⟩, fun i j hi hj => k4 ⟨i, hi⟩ ⟨j, hj⟩, fun i j hi hj => k5 ⟨i, hi⟩ ⟨j, hj⟩⟩
theorem r_start : r_R r_E0 z_s0 z_k0 z_e0 z_k0 0 := by
  have w1 : ∀ a b : Fin 8, z_s0 (10 + a.val) b.val = nI (r_E0 a.val b.val) := by decide +kernel
  have w2 : ∀ a b : Fin 8, z_e0 10 (8 * a.val + b.val) = m_v (r_E0 a.val b.val) := by decide +kernel
  refine ⟨⟨⟨⟨rfl, rfl, fun _ _ => rfl, fun _ k _ hk => absurd hk (Nat.not_lt_zero k)⟩, Nat.zero_le _, Nat.zero_le _, fun _ _ => Nat.zero_le _, fun _ k _ hk => absurd hk (Nat.not_lt_zero k), fun _ j _ _ hj => absurd hj (Nat.not_lt_zero j), fun _ _ _ => rfl⟩, ⟨rfl, rfl, rfl, rfl, rfl⟩, fun v hv => absurd hv (Nat.not_lt_zero v), ⟨r_E0_me, fun a b ha hb => w1 ⟨a, ha⟩ ⟨b, hb⟩, fun a b ha hb => w2 ⟨a, ha⟩ ⟨b, hb⟩⟩, 0, Nat.zero_le _, rfl, rfl⟩, ⟨fun t => ?_, fun v => ?_, fun v => ?_⟩, rfl, rfl, rfl, rfl, rfl⟩
  · show (0 : Int32) = _
    exact (if_neg (show ¬ t < z_k0 0 1 from Nat.not_lt_zero t)).symm
  · show (0 : Int32) = _
    exact (if_neg (show ¬ v < z_k0 0 0 from Nat.not_lt_zero v)).symm
  · show (0 : Int32) = _
    exact (if_neg (show ¬ v < z_k0 0 0 from Nat.not_lt_zero v)).symm
