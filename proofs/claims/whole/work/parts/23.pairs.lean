/-! Part 23: each call of the law, on the class and on the reference: the same answer, and the two stay tied. -/
theorem r_idx {p : Int32} {n : Nat} (hn : n ≤ 1000) (h : ¬ (p < 0 ∨ ¬ p < nI n)) : ∃ j, j < n ∧ p = nI j := by
  have h0 : ¬ p < 0 := fun q => h (Or.inl q)
  obtain ⟨j, hj, rfl⟩ := nI_of h0
  refine ⟨j, ?_, rfl⟩
  rcases Nat.lt_or_ge j n with q | q
  · exact q
  · exact absurd (Or.inr (nI_nlt q hj)) h
theorem r_out {w : Int32} {m : Nat} (hm : m ≤ 100) (h : w < 0 ∨ ¬ w < nI (m + 1)) : w.toInt < 0 ∨ (m : Int) < w.toInt := by
  rcases h with h | h
  · left
    rw [Int32.lt_iff_toInt_lt] at h
    have z : (0 : Int32).toInt = 0 := by decide
    omega
  · right
    rw [Int32.lt_iff_toInt_lt, nI_toInt (by omega)] at h
    omega
theorem r_rng {n : Int32} {lo hi : Nat} (hh : hi ≤ 1000) (h : ¬ z_wi n (nI lo) (nI hi) = 0) (hl : lo ≤ hi) : ∃ k, lo ≤ k ∧ k ≤ hi ∧ n = nI k := by
  unfold z_wi at h
  by_cases a : n < nI lo
  · rw [if_pos a] at h
    exact absurd rfl h
  · rw [if_neg a] at h
    by_cases b : nI hi < n
    · rw [if_pos b] at h
      exact absurd rfl h
    · have h0 : ¬ n < 0 := fun q => a (by
        rw [Int32.lt_iff_toInt_lt] at q ⊢
        rw [nI_toInt (by omega)]
        have z : (0 : Int32).toInt = 0 := by decide
        omega)
      obtain ⟨k, hk, rfl⟩ := nI_of h0
      refine ⟨k, ?_, ?_, rfl⟩
      · rcases Nat.lt_or_ge k lo with q | q
        · exact absurd (nI_lt q (by omega)) a
        · exact q
      · rcases Nat.lt_or_ge hi k with q | q
        · exact absurd (nI_lt q hk) b
        · exact q
theorem r_58 {w : Int32} (h : z_wi w 5 8 = 0) : w.toInt < 5 ∨ 8 < w.toInt := by
  unfold z_wi at h
  by_cases a : w < 5
  · left
    rw [Int32.lt_iff_toInt_lt] at a
    have z : (5 : Int32).toInt = 5 := by decide
    omega
  · rw [if_neg a] at h
    by_cases b : 8 < w
    · right
      rw [Int32.lt_iff_toInt_lt] at b
      have z : (8 : Int32).toInt = 8 := by decide
      omega
    · rw [if_neg b] at h
      exact absurd h (by decide)
/-- the model's contract from a wider start -/
theorem z_rP {l : Launch} {G : z_GT} {y : MethodName} {wy : List Cond} {rm : Room} {av : List Value} {ws : va_W} {Qc : Array Value → State → Outcome → State → Prop} {mc ms : Nat} {free : Addr → Prop} (h : Met l y wy rm (z_Pr G av ws) Qc mc ms free) : Met l y wy rm (z_Pc G av ws) Qc mc ms free := z_mono h (fun _ _ h => h.1) (fun _ _ _ _ _ h => h) (fun _ h => h)
/-- one call on both sides -/
def r_pair (l : Launch) (G : z_GT) (ad am : Nat → Nat) (ox : Nat) (σ : Nat → Nat → Int32) (κ : Nat → Nat → Nat) (μ : Nat → Nat → Int32) (ν : Nat → Nat → Nat) (T : Nat) (o : Int64) (yL : MethodName) (wL : List Cond) (rL : Room) (aL : List Value) (yM : MethodName) (wM : List Cond) (rM : Room) (aM : List Value) (mc ms : Nat) : Prop :=
  ∃ (k v : Int32) (o' : Int64) (E' : Nat → Nat → Nat) (σ' : Nat → Nat → Int32) (κ' : Nat → Nat → Nat) (μ' : Nat → Nat → Int32) (ν' : Nat → Nat → Nat) (T' : Nat),
    Met l yL wL rL (z_Pl G ad ox σ κ o aL) (z_Ql G ad ox σ' κ' o' k) 1 6 (z_Al ad ox) ∧
    Met l yM wM rM (z_Pc G aM (z_wM G am μ ν)) (z_Qm G (some (.int v)) (z_wM G am μ' ν') (z_A 10 am)) mc ms (z_A 10 am) ∧
    μ' 8 1 = k ∧ (k = 0 → o' = v.toInt64) ∧ r_R E' σ' κ' μ' ν' T' ∧ T' ≤ T + 60
section RP
variable {l : Launch} {G : z_GT} {ad am : Nat → Nat} {ox : Nat} {E : Nat → Nat → Nat} {σ μ : Nat → Nat → Int32} {κ ν : Nat → Nat → Nat} {T : Nat}

set_option maxRecDepth 10000 in
theorem P_valley (hst : l.stackTraces = false) (hinj : ∀ i j, i < 36 → j < 36 → ad i = ad j → i = j) (hinm : ∀ i j, i < 10 → j < 10 → am i = am j → i = j) (hox : ∀ k, k < 36 → ad k ≠ ox) (h : r_R E σ κ μ ν T) (hT : T ≤ 40000) (o : Int64) (p0 : Int32) (p1 : Int32) (p2 : Int32) : r_pair l G ad am ox σ κ μ ν T o yL_valley wsL_valley ({ frames := 7, cells := 1, slots := 6, locals := 106 } : Room) [.ref (ad 0), .int p0, .int p1, .int p2, .ref ox] yX5_valley wsX5_valley ({ frames := 1, cells := 0, slots := 0, locals := 22 } : Room) [.ref (am 0), .int p0, .int p1, .int p2] 0 0 := by
  have hw := r_wf h.1
  have hy := r_ywf h.1
  have e1 := h.1.1.1.1
  have e2 := h.1.1.1.2.1
  have hn8 : ν 0 0 ≤ 8 := hy.1
  have hm6 : ν 0 1 ≤ 6 := hy.2.1
  have hk8 := hw.1
  have hk6 := hw.2.1
  by_cases g : z_wi p0 0 90 = 0 ∨ z_wi p1 1 30 = 0 ∨ z_wi p2 0 50 = 0
  · exact ⟨1, 0, o, E, _, κ, y_no μ 1, ν, T, v_L_valley_1 l G ad ox σ _ κ κ o p0 p1 p2 hinj hox (x_X4_valley_A l hst G ad σ κ p0 p1 p2 g), z_rP (x_X5_valley_1 l G am μ ν hinm p0 p1 p2 g), rfl, fun q => absurd q (by decide), r_thrown (r_thrown h 0) 1, by omega⟩
  have g1 : ¬ z_wi p0 0 90 = 0 := fun q => g (Or.inl q)
  have g2 : ¬ z_wi p1 1 30 = 0 := fun q => g (Or.inr (Or.inl q))
  have g3 : ¬ z_wi p2 0 50 = 0 := fun q => g (Or.inr (Or.inr q))
  by_cases g4 : κ 0 0 < 8
  · exact ⟨0, _, _, E, _, _, _, _, T, w_L_valley l G ad ox σ _ κ _ o (nI (κ 0 0)) p0 p1 p2 hinj hox (c_X4_valley l G ad σ κ hinj hw p0 p1 p2 g1 g2 g3 g4), z_rP (c_X5_valley l G am μ ν hinm p0 p1 p2 g1 g2 g3 (by omega)), rfl, fun _ => congrArg Int32.toInt64 (congrArg nI e1), r_valley (r_thrown h 0) g1 g2 g4, by omega⟩
  exact ⟨2, 0, o, E, _, κ, y_no μ 2, ν, T, v_L_valley_2 l G ad ox σ _ κ κ o p0 p1 p2 hinj hox (x_X4_valley_S l hst G ad σ κ p0 p1 p2 g1 g2 g3 g4 hk8), z_rP (x_X5_valley_2 l G am μ ν hinm p0 p1 p2 g1 g2 g3 (by omega)), rfl, fun q => absurd q (by decide), r_thrown (r_thrown h 0) 2, by omega⟩

set_option maxRecDepth 10000 in
theorem P_road (hst : l.stackTraces = false) (hinj : ∀ i j, i < 36 → j < 36 → ad i = ad j → i = j) (hinm : ∀ i j, i < 10 → j < 10 → am i = am j → i = j) (hox : ∀ k, k < 36 → ad k ≠ ox) (h : r_R E σ κ μ ν T) (hT : T ≤ 40000) (o : Int64) (p0 : Int32) (p1 : Int32) (p2 : Int32) : r_pair l G ad am ox σ κ μ ν T o yL_road wsL_road ({ frames := 8, cells := 1, slots := 6, locals := 132 } : Room) [.ref (ad 0), .int p0, .int p1, .int p2, .ref ox] yX5_road wsX5_road ({ frames := 2, cells := 0, slots := 0, locals := 43 } : Room) [.ref (am 0), .int p0, .int p1, .int p2] 0 0 := by
  have hw := r_wf h.1
  have hy := r_ywf h.1
  have e1 := h.1.1.1.1
  have e2 := h.1.1.1.2.1
  have hn8 : ν 0 0 ≤ 8 := hy.1
  have hm6 : ν 0 1 ≤ 6 := hy.2.1
  have hk8 := hw.1
  have hk6 := hw.2.1
  by_cases b1 : p0 < 0 ∨ ¬ p0 < nI (κ 0 0)
  · exact ⟨1, 0, o, E, _, κ, y_no μ 1, ν, T, v_L_road_1 l G ad ox σ _ κ κ o p0 p1 p2 hinj hox (x_X4_road_1 l hst G ad σ κ p0 p1 p2 b1), z_rP (x_X5_road_1 l G am μ ν hinm hn8 p0 p1 p2 (by rw [← e1]; exact b1)), rfl, fun q => absurd q (by decide), r_thrown (r_thrown h 0) 1, by omega⟩
  obtain ⟨a, ha, rfl⟩ := r_idx (by omega) b1
  by_cases b2 : p1 < 0 ∨ ¬ p1 < nI (κ 0 0)
  · exact ⟨1, 0, o, E, _, κ, y_no μ 1, ν, T, v_L_road_1 l G ad ox σ _ κ κ o (nI a) p1 p2 hinj hox (x_X4_road_2 l hst G ad σ κ hw a ha p1 p2 b2), z_rP (x_X5_road_2 l G am μ ν hinm hn8 a (by omega) p1 p2 (by rw [← e1]; exact b2)), rfl, fun q => absurd q (by decide), r_thrown (r_thrown h 0) 1, by omega⟩
  obtain ⟨b, hb, rfl⟩ := r_idx (by omega) b2
  by_cases b3 : a = b ∨ z_wi p2 1 240 = 0
  · exact ⟨2, 0, o, E, _, κ, y_no μ 2, ν, T, v_L_road_2 l G ad ox σ _ κ κ o (nI a) (nI b) p2 hinj hox (x_X4_road_3 l hst G ad σ κ hw a b ha hb p2 b3), z_rP (x_X5_road_3 l G am μ ν hinm hn8 a b (by omega) (by omega) p2 b3), rfl, fun q => absurd q (by decide), r_thrown (r_thrown h 0) 2, by omega⟩
  have g1 : ¬ a = b := fun q => b3 (Or.inl q)
  have g2 : ¬ z_wi p2 1 240 = 0 := fun q => b3 (Or.inr q)
  obtain ⟨R, r1, r2, r3⟩ := h.1.2.2.2.2
  by_cases g3 : σ 8 0 < 20
  · obtain ⟨m, m1, m2, rfl⟩ := r_rng (lo := 1) (hi := 240) (by omega) g2 (by omega)
    have hR := r_road h ha hb m2 g3
    obtain ⟨R2, -, q2, q3⟩ := hR.1.2.2.2.2
    have g4 : ¬ μ 8 0 = 20 := fun q => by rw [r2] at g3; rw [r3] at q; rw [q] at g3; exact absurd g3 (by decide)
    exact ⟨0, _, _, _, _, _, _, _, T, w_L_road l G ad ox σ _ κ _ o (_) (nI a) (nI b) (nI m) hinj hox (c_X4_road l G ad σ κ hinj hw a b ha hb (nI m) g1 g2 g3), z_rP (c_X5_road l G am μ ν hinm hn8 a b (by omega) (by omega) (nI m) g1 g2 g4), (m_rdo _ _ _ _ (by decide)).trans rfl, fun _ => congrArg Int32.toInt64 (q2.trans q3.symm), hR, by omega⟩
  have g4 : μ 8 0 = 20 := by
    rw [r2] at g3
    rw [r3]
    rcases Nat.lt_or_ge R 20 with q | q
    · exact absurd (show nI R < 20 from nI_lt (b := 20) q (by decide)) g3
    · rw [show R = 20 by omega]
      rfl
  exact ⟨3, 0, o, E, _, κ, y_no μ 3, ν, T, v_L_road_3 l G ad ox σ _ κ κ o (nI a) (nI b) p2 hinj hox (x_X4_road_4 l hst G ad σ κ hw a b ha hb p2 g1 g2 g3), z_rP (x_X5_road_4 l G am μ ν hinm hn8 a b (by omega) (by omega) p2 g1 g2 g4), rfl, fun q => absurd q (by decide), r_thrown (r_thrown h 0) 3, by omega⟩

set_option maxRecDepth 10000 in
theorem P_setHeat (hst : l.stackTraces = false) (hinj : ∀ i j, i < 36 → j < 36 → ad i = ad j → i = j) (hinm : ∀ i j, i < 10 → j < 10 → am i = am j → i = j) (hox : ∀ k, k < 36 → ad k ≠ ox) (h : r_R E σ κ μ ν T) (hT : T ≤ 40000) (o : Int64) (p0 : Int32) (p1 : Int32) : r_pair l G ad am ox σ κ μ ν T o yL_setHeat wsL_setHeat ({ frames := 7, cells := 1, slots := 6, locals := 105 } : Room) [.ref (ad 0), .int p0, .int p1, .ref ox] yX5_setHeat wsX5_setHeat ({ frames := 1, cells := 0, slots := 0, locals := 22 } : Room) [.ref (am 0), .int p0, .int p1] 0 0 := by
  have hw := r_wf h.1
  have hy := r_ywf h.1
  have e1 := h.1.1.1.1
  have e2 := h.1.1.1.2.1
  have hn8 : ν 0 0 ≤ 8 := hy.1
  have hm6 : ν 0 1 ≤ 6 := hy.2.1
  have hk8 := hw.1
  have hk6 := hw.2.1
  by_cases b1 : p0 < 0 ∨ ¬ p0 < nI 10
  · exact ⟨1, 0, o, E, _, κ, y_no μ 1, ν, T, v_L_setHeat_1 l G ad ox σ _ κ κ o p0 p1 hinj hox (x_X4_setHeat_1 l hst G ad σ κ p0 p1 b1), z_rP (x_X5_setHeat_1 l G am μ ν hinm p0 p1 b1), rfl, fun q => absurd q (by decide), r_thrown (r_thrown h 0) 1, by omega⟩
  obtain ⟨d, hd, rfl⟩ := r_idx (by omega) b1
  by_cases b2 : z_wi p1 0 40 = 0
  · exact ⟨2, 0, o, E, _, κ, y_no μ 2, ν, T, v_L_setHeat_2 l G ad ox σ _ κ κ o (nI d) p1 hinj hox (x_X4_setHeat_2 l hst G ad σ κ d hd p1 b2), z_rP (x_X5_setHeat_2 l G am μ ν hinm d hd p1 b2), rfl, fun q => absurd q (by decide), r_thrown (r_thrown h 0) 2, by omega⟩
  exact ⟨0, _, _, E, _, _, _, _, T, w_L_setHeat l G ad ox σ _ κ _ o (σ 7 d) (nI d) p1 hinj hox (c_X4_setHeat l G ad σ κ hinj d hd p1 b2), z_rP (c_X5_setHeat l G am μ ν hinm d hd p1 b2), rfl, fun _ => congrArg Int32.toInt64 (congrFun h.1.2.1.2.2.2.2 d), r_heat (r_thrown h 0) d p1, by omega⟩

set_option maxRecDepth 10000 in
theorem P_bloom (hst : l.stackTraces = false) (hinj : ∀ i j, i < 36 → j < 36 → ad i = ad j → i = j) (hinm : ∀ i j, i < 10 → j < 10 → am i = am j → i = j) (hox : ∀ k, k < 36 → ad k ≠ ox) (h : r_R E σ κ μ ν T) (hT : T ≤ 40000) (o : Int64) (p0 : Int32) (p1 : Int32) : r_pair l G ad am ox σ κ μ ν T o yL_bloom wsL_bloom ({ frames := 8, cells := 1, slots := 6, locals := 125 } : Room) [.ref (ad 0), .int p0, .int p1, .ref ox] yX5_bloom wsX5_bloom ({ frames := 2, cells := 0, slots := 0, locals := 44 } : Room) [.ref (am 0), .int p0, .int p1] 0 0 := by
  have hw := r_wf h.1
  have hy := r_ywf h.1
  have e1 := h.1.1.1.1
  have e2 := h.1.1.1.2.1
  have hn8 : ν 0 0 ≤ 8 := hy.1
  have hm6 : ν 0 1 ≤ 6 := hy.2.1
  have hk8 := hw.1
  have hk6 := hw.2.1
  by_cases b1 : p0 < 0 ∨ ¬ p0 < nI (κ 0 0)
  · exact ⟨1, 0, o, E, _, κ, y_no μ 1, ν, T, v_L_bloom_1 l G ad ox σ _ κ κ o p0 p1 hinj hox (x_X4_bloom_1 l hst G ad σ κ p0 p1 b1), z_rP (x_X5_bloom_1 l G am μ ν hinm hn8 p0 p1 (by rw [← e1]; exact b1)), rfl, fun q => absurd q (by decide), r_thrown (r_thrown h 0) 1, by omega⟩
  obtain ⟨v, hv, rfl⟩ := r_idx (by omega) b1
  by_cases b2 : p1 < 0
  · exact ⟨2, 0, o, E, _, κ, y_no μ 2, ν, T, v_L_bloom_2 l G ad ox σ _ κ κ o (nI v) p1 hinj hox (x_X4_bloom_2 l hst G ad σ κ hw v hv p1 b2), z_rP (x_X5_bloom_2 l G am μ ν hinm hn8 v (by omega) p1 b2), rfl, fun q => absurd q (by decide), r_thrown (r_thrown h 0) 2, by omega⟩
  exact ⟨0, _, _, E, _, _, _, _, T, w_L_bloom l G ad ox σ _ κ _ o (_) (nI v) p1 hinj hox (z_oM (c_X4_bloom l G ad σ κ hw v hv p1 b2) (z_A 36 ad)), z_rP (c_X5_bloom l G am μ ν hinm hy v (by omega) p1 b2), rfl, fun _ => congrArg Int32.toInt64 (r_blv h.1 hv p1), r_thrown h 0, by omega⟩

set_option maxRecDepth 10000 in
theorem P_way (hst : l.stackTraces = false) (hinj : ∀ i j, i < 36 → j < 36 → ad i = ad j → i = j) (hinm : ∀ i j, i < 10 → j < 10 → am i = am j → i = j) (hox : ∀ k, k < 36 → ad k ≠ ox) (h : r_R E σ κ μ ν T) (hT : T ≤ 40000) (o : Int64) (p0 : Int32) (p1 : Int32) : r_pair l G ad am ox σ κ μ ν T o yL_way wsL_way ({ frames := 8, cells := 1, slots := 6, locals := 125 } : Room) [.ref (ad 0), .int p0, .int p1, .ref ox] yX5_way wsX5_way ({ frames := 2, cells := 0, slots := 0, locals := 43 } : Room) [.ref (am 0), .int p0, .int p1] 0 0 := by
  have hw := r_wf h.1
  have hy := r_ywf h.1
  have e1 := h.1.1.1.1
  have e2 := h.1.1.1.2.1
  have hn8 : ν 0 0 ≤ 8 := hy.1
  have hm6 : ν 0 1 ≤ 6 := hy.2.1
  have hk8 := hw.1
  have hk6 := hw.2.1
  by_cases b1 : p0 < 0 ∨ ¬ p0 < nI (κ 0 0)
  · exact ⟨1, 0, o, E, _, κ, y_no μ 1, ν, T, v_L_way_1 l G ad ox σ _ κ κ o p0 p1 hinj hox (x_X4_way_1 l hst G ad σ κ p0 p1 b1), z_rP (x_X5_way_1 l G am μ ν hinm hn8 p0 p1 (by rw [← e1]; exact b1)), rfl, fun q => absurd q (by decide), r_thrown (r_thrown h 0) 1, by omega⟩
  obtain ⟨a, ha, rfl⟩ := r_idx (by omega) b1
  by_cases b2 : p1 < 0 ∨ ¬ p1 < nI (κ 0 0)
  · exact ⟨1, 0, o, E, _, κ, y_no μ 1, ν, T, v_L_way_1 l G ad ox σ _ κ κ o (nI a) p1 hinj hox (x_X4_way_2 l hst G ad σ κ hw a ha p1 b2), z_rP (x_X5_way_2 l G am μ ν hinm hn8 a (by omega) p1 (by rw [← e1]; exact b2)), rfl, fun q => absurd q (by decide), r_thrown (r_thrown h 0) 1, by omega⟩
  obtain ⟨b, hb, rfl⟩ := r_idx (by omega) b2
  exact ⟨0, _, _, E, _, _, _, _, T, w_L_way l G ad ox σ _ κ _ o (_) (nI a) (nI b) hinj hox (z_oM (c_X4_way l G ad σ κ hw a b ha hb) (z_A 36 ad)), z_rP (c_X5_way l G am μ ν hinm hn8 a b (by omega) (by omega)), rfl, fun _ => congrArg Int32.toInt64 (r_W h.1 (by omega) (by omega)), r_thrown h 0, by omega⟩

set_option maxRecDepth 10000 in
theorem P_tour (hst : l.stackTraces = false) (hinj : ∀ i j, i < 36 → j < 36 → ad i = ad j → i = j) (hinm : ∀ i j, i < 10 → j < 10 → am i = am j → i = j) (hox : ∀ k, k < 36 → ad k ≠ ox) (h : r_R E σ κ μ ν T) (hT : T ≤ 40000) (o : Int64) (p0 : Int32) : r_pair l G ad am ox σ κ μ ν T o yL_tour wsL_tour ({ frames := 7, cells := 1, slots := 6, locals := 103 } : Room) [.ref (ad 0), .int p0, .ref ox] yX5_tour wsX5_tour ({ frames := 1, cells := 0, slots := 0, locals := 22 } : Room) [.ref (am 0), .int p0] 0 0 := by
  have hw := r_wf h.1
  have hy := r_ywf h.1
  have e1 := h.1.1.1.1
  have e2 := h.1.1.1.2.1
  have hn8 : ν 0 0 ≤ 8 := hy.1
  have hm6 : ν 0 1 ≤ 6 := hy.2.1
  have hk8 := hw.1
  have hk6 := hw.2.1
  by_cases b1 : z_wi p0 1 60 = 0
  · exact ⟨1, 0, o, E, _, κ, y_no μ 1, ν, T, v_L_tour_1 l G ad ox σ _ κ κ o p0 hinj hox (x_X4_tour_A l hst G ad σ κ p0 b1), z_rP (x_X5_tour_1 l G am μ ν hinm p0 b1), rfl, fun q => absurd q (by decide), r_thrown (r_thrown h 0) 1, by omega⟩
  by_cases g : κ 0 1 < 6
  · exact ⟨0, _, _, E, _, _, _, _, T, w_L_tour l G ad ox σ _ κ _ o (_) p0 hinj hox (c_X4_tour l G ad σ κ hinj hw p0 b1 g), z_rP (c_X5_tour l G am μ ν hinm p0 b1 (by omega)), rfl, fun _ => congrArg Int32.toInt64 (congrArg nI e2), r_tour (r_thrown h 0) p0 g, by omega⟩
  exact ⟨2, 0, o, E, _, κ, y_no μ 2, ν, T, v_L_tour_2 l G ad ox σ _ κ κ o p0 hinj hox (x_X4_tour_S l hst G ad σ κ p0 b1 g hk6), z_rP (x_X5_tour_2 l G am μ ν hinm p0 b1 (by omega)), rfl, fun q => absurd q (by decide), r_thrown (r_thrown h 0) 2, by omega⟩

set_option maxRecDepth 10000 in
theorem P_add (hst : l.stackTraces = false) (hinj : ∀ i j, i < 36 → j < 36 → ad i = ad j → i = j) (hinm : ∀ i j, i < 10 → j < 10 → am i = am j → i = j) (hox : ∀ k, k < 36 → ad k ≠ ox) (h : r_R E σ κ μ ν T) (hT : T ≤ 40000) (o : Int64) (p0 : Int32) (p1 : Int32) : r_pair l G ad am ox σ κ μ ν T o yL_add wsL_add ({ frames := 8, cells := 1, slots := 6, locals := 132 } : Room) [.ref (ad 0), .int p0, .int p1, .ref ox] yX5_add wsX5_add ({ frames := 2, cells := 0, slots := 0, locals := 45 } : Room) [.ref (am 0), .int p0, .int p1] 0 0 := by
  have hw := r_wf h.1
  have hy := r_ywf h.1
  have e1 := h.1.1.1.1
  have e2 := h.1.1.1.2.1
  have hn8 : ν 0 0 ≤ 8 := hy.1
  have hm6 : ν 0 1 ≤ 6 := hy.2.1
  have hk8 := hw.1
  have hk6 := hw.2.1
  by_cases b1 : p0 < 0 ∨ ¬ p0 < nI (κ 0 1)
  · exact ⟨1, 0, o, E, _, κ, y_no μ 1, ν, T, v_L_add_1 l G ad ox σ _ κ κ o p0 p1 hinj hox (x_X4_add_1 l hst G ad σ κ p0 p1 b1), z_rP (x_X5_add_1 l G am μ ν hinm hm6 p0 p1 (by rw [← e2]; exact b1)), rfl, fun q => absurd q (by decide), r_thrown (r_thrown h 0) 1, by omega⟩
  obtain ⟨t, ht, rfl⟩ := r_idx (by omega) b1
  have ht' : t < ν 0 1 := by omega
  have et := h.1.1.1.2.2.1 t (by omega)
  have h5 := hw.2.2.1 t (by omega)
  by_cases b2 : p1 < 0 ∨ ¬ p1 < nI (κ 0 0)
  · exact ⟨1, 0, o, E, _, κ, y_no μ 1, ν, T, v_L_add_1 l G ad ox σ _ κ κ o (nI t) p1 hinj hox (x_X4_add_2 l hst G ad σ κ hw t ht p1 b2), z_rP (x_X5_add_2 l G am μ ν hinm hn8 hm6 t ht' p1 (by rw [← e1]; exact b2)), rfl, fun q => absurd q (by decide), r_thrown (r_thrown h 0) 1, by omega⟩
  obtain ⟨v, hv, rfl⟩ := r_idx (by omega) b2
  have hv' : v < ν 0 0 := by omega
  have eh := r_has h.1 (show t < 6 by omega) v
  by_cases g1 : κ 1 t < 5
  · by_cases g2 : z_vi (κ (2 + t)) v (κ 1 t) = true
    · exact ⟨2, 0, o, E, _, κ, y_no μ 2, ν, T, v_L_add_2 l G ad ox σ _ κ κ o (nI t) (nI v) hinj hox (x_X4_add_4 l hst G ad σ κ hw t ht v hv g1 g2), z_rP (x_X5_add_4 l G am μ ν hinm hy t ht' v hv' (by omega) (by rw [← eh]; exact g2)), rfl, fun q => absurd q (by decide), r_thrown (r_thrown h 0) 2, by omega⟩
    have g3 : z_vi (κ (2 + t)) v (κ 1 t) = false := by simpa using g2
    exact ⟨0, _, _, E, _, _, _, _, T, w_L_add l G ad ox σ _ κ _ o (_) (nI t) (nI v) hinj hox (c_X4_add l G ad σ κ hinj hw t ht v hv g1 g3), z_rP (c_X5_add l G am μ ν hinm hy t ht' v hv' (by omega) (by rw [← eh]; exact g3)), rfl, fun _ => congrArg Int32.toInt64 ((by rw [et])), r_add (r_thrown h 0) ht hv g1 g3, by omega⟩
  exact ⟨2, 0, o, E, _, κ, y_no μ 2, ν, T, v_L_add_2 l G ad ox σ _ κ κ o (nI t) (nI v) hinj hox (x_X4_add_3 l hst G ad σ κ hw t ht v hv g1), z_rP (x_X5_add_3 l G am μ ν hinm hy t ht' v hv' (by omega)), rfl, fun q => absurd q (by decide), r_thrown (r_thrown h 0) 2, by omega⟩

set_option maxRecDepth 10000 in
theorem P_cut (hst : l.stackTraces = false) (hinj : ∀ i j, i < 36 → j < 36 → ad i = ad j → i = j) (hinm : ∀ i j, i < 10 → j < 10 → am i = am j → i = j) (hox : ∀ k, k < 36 → ad k ≠ ox) (h : r_R E σ κ μ ν T) (hT : T ≤ 40000) (o : Int64) (p0 : Int32) : r_pair l G ad am ox σ κ μ ν T o yL_cut wsL_cut ({ frames := 8, cells := 1, slots := 6, locals := 132 } : Room) [.ref (ad 0), .int p0, .ref ox] yX5_cut wsX5_cut ({ frames := 2, cells := 0, slots := 0, locals := 43 } : Room) [.ref (am 0), .int p0] 0 0 := by
  have hw := r_wf h.1
  have hy := r_ywf h.1
  have e1 := h.1.1.1.1
  have e2 := h.1.1.1.2.1
  have hn8 : ν 0 0 ≤ 8 := hy.1
  have hm6 : ν 0 1 ≤ 6 := hy.2.1
  have hk8 := hw.1
  have hk6 := hw.2.1
  by_cases b1 : p0 < 0 ∨ ¬ p0 < nI (κ 0 1)
  · exact ⟨1, 0, o, E, _, κ, y_no μ 1, ν, T, v_L_cut_1 l G ad ox σ _ κ κ o p0 hinj hox (x_X4_cut_1 l hst G ad σ κ p0 b1), z_rP (x_X5_cut_1 l G am μ ν hinm hm6 p0 (by rw [← e2]; exact b1)), rfl, fun q => absurd q (by decide), r_thrown (r_thrown h 0) 1, by omega⟩
  obtain ⟨t, ht, rfl⟩ := r_idx (by omega) b1
  have ht' : t < ν 0 1 := by omega
  have et := h.1.1.1.2.2.1 t (by omega)
  have h5 := hw.2.2.1 t (by omega)
  by_cases g : 0 < κ 1 t
  · have el := h.1.1.1.2.2.2 t (κ 1 t - 1) (by omega) (by omega)
    exact ⟨0, _, _, E, _, _, _, _, T, w_L_cut l G ad ox σ _ κ _ o (_) (nI t) hinj hox (c_X4_cut l G ad σ κ hinj hw t ht g), z_rP (c_X5_cut l G am μ ν hinm hy t ht' (by omega)), rfl, fun _ => congrArg Int32.toInt64 ((by rw [el, et])), r_cut (r_thrown h 0) ht, by omega⟩
  exact ⟨2, 0, o, E, _, κ, y_no μ 2, ν, T, v_L_cut_2 l G ad ox σ _ κ κ o (nI t) hinj hox (x_X4_cut_2 l hst G ad σ κ hw t ht g), z_rP (x_X5_cut_2 l G am μ ν hinm hm6 t ht' (by omega)), rfl, fun q => absurd q (by decide), r_thrown (r_thrown h 0) 2, by omega⟩

set_option maxRecDepth 10000 in
theorem P_told (hst : l.stackTraces = false) (hinj : ∀ i j, i < 36 → j < 36 → ad i = ad j → i = j) (hinm : ∀ i j, i < 10 → j < 10 → am i = am j → i = j) (hox : ∀ k, k < 36 → ad k ≠ ox) (h : r_R E σ κ μ ν T) (hT : T ≤ 40000) (o : Int64) (p0 : Int32) (p1 : Int32) : r_pair l G ad am ox σ κ μ ν T o yL_told wsL_told ({ frames := 8, cells := 1, slots := 6, locals := 126 } : Room) [.ref (ad 0), .int p0, .int p1, .ref ox] yX5_told wsX5_told ({ frames := 6, cells := 0, slots := 0, locals := 136 } : Room) [.ref (am 0), .int p0, .int p1] 0 0 := by
  have hw := r_wf h.1
  have hy := r_ywf h.1
  have e1 := h.1.1.1.1
  have e2 := h.1.1.1.2.1
  have hn8 : ν 0 0 ≤ 8 := hy.1
  have hm6 : ν 0 1 ≤ 6 := hy.2.1
  have hk8 := hw.1
  have hk6 := hw.2.1
  by_cases b1 : p0 < 0 ∨ ¬ p0 < nI (κ 0 1)
  · exact ⟨1, 0, o, E, _, κ, y_no μ 1, ν, T, v_L_told_1 l G ad ox σ _ κ κ o p0 p1 hinj hox (x_X4_told_1 l hst G ad σ κ p0 p1 b1), z_rP (x_X5_told_1 l G am μ ν hinm hm6 p0 p1 (by rw [← e2]; exact b1)), rfl, fun q => absurd q (by decide), r_thrown (r_thrown h 0) 1, by omega⟩
  obtain ⟨t, ht, rfl⟩ := r_idx (by omega) b1
  have ht' : t < ν 0 1 := by omega
  have et := h.1.1.1.2.2.1 t (by omega)
  have h5 := hw.2.2.1 t (by omega)
  by_cases b2 : p1 < 0 ∨ ¬ p1 < nI 6
  · exact ⟨1, 0, o, E, _, κ, y_no μ 1, ν, T, v_L_told_1 l G ad ox σ _ κ κ o (nI t) p1 hinj hox (x_X4_told_2 l hst G ad σ κ hw t ht p1 (r_out (m := 5) (by omega) b2)), z_rP (x_X5_told_2 l G am μ ν hinm hm6 t ht' p1 b2), rfl, fun q => absurd q (by decide), r_thrown (r_thrown h 0) 1, by omega⟩
  obtain ⟨w9, h9, rfl⟩ := r_idx (by omega) b2
  exact ⟨0, _, _, E, _, _, _, _, T, w_L_told l G ad ox σ _ κ _ o (_) (nI t) (nI w9) hinj hox (z_oM (c_X4_told l G ad σ κ hw t ht w9 h9) (z_A 36 ad)), z_rP (c_X5_told l G am μ ν hinm hy t ht' w9 h9), rfl, fun _ => congrArg Int32.toInt64 (r_tld h ht w9), r_thrown h 0, by omega⟩

set_option maxRecDepth 10000 in
theorem P_about (hst : l.stackTraces = false) (hinj : ∀ i j, i < 36 → j < 36 → ad i = ad j → i = j) (hinm : ∀ i j, i < 10 → j < 10 → am i = am j → i = j) (hox : ∀ k, k < 36 → ad k ≠ ox) (h : r_R E σ κ μ ν T) (hT : T ≤ 40000) (o : Int64) (p0 : Int32) (p1 : Int32) : r_pair l G ad am ox σ κ μ ν T o yL_about wsL_about ({ frames := 8, cells := 1, slots := 6, locals := 126 } : Room) [.ref (ad 0), .int p0, .int p1, .ref ox] yX5_about wsX5_about ({ frames := 5, cells := 0, slots := 0, locals := 114 } : Room) [.ref (am 0), .int p0, .int p1] 0 0 := by
  have hw := r_wf h.1
  have hy := r_ywf h.1
  have e1 := h.1.1.1.1
  have e2 := h.1.1.1.2.1
  have hn8 : ν 0 0 ≤ 8 := hy.1
  have hm6 : ν 0 1 ≤ 6 := hy.2.1
  have hk8 := hw.1
  have hk6 := hw.2.1
  by_cases b1 : p0 < 0 ∨ ¬ p0 < nI (κ 0 0)
  · exact ⟨1, 0, o, E, _, κ, y_no μ 1, ν, T, v_L_about_1 l G ad ox σ _ κ κ o p0 p1 hinj hox (x_X4_about_1 l hst G ad σ κ p0 p1 b1), z_rP (x_X5_about_1 l G am μ ν hinm hn8 p0 p1 (by rw [← e1]; exact b1)), rfl, fun q => absurd q (by decide), r_thrown (r_thrown h 0) 1, by omega⟩
  obtain ⟨v, hv, rfl⟩ := r_idx (by omega) b1
  have hv' : v < ν 0 0 := by omega
  by_cases b2 : p1 < 0 ∨ ¬ p1 < nI 6
  · exact ⟨1, 0, o, E, _, κ, y_no μ 1, ν, T, v_L_about_1 l G ad ox σ _ κ κ o (nI v) p1 hinj hox (x_X4_about_2 l hst G ad σ κ hw v hv p1 (r_out (m := 5) (by omega) b2)), z_rP (x_X5_about_2 l G am μ ν hinm hn8 v hv' p1 b2), rfl, fun q => absurd q (by decide), r_thrown (r_thrown h 0) 1, by omega⟩
  obtain ⟨w9, h9, rfl⟩ := r_idx (by omega) b2
  exact ⟨0, _, _, E, _, _, _, _, T, w_L_about l G ad ox σ _ κ _ o (_) (nI v) (nI w9) hinj hox (z_oM (c_X4_about l G ad σ κ hw v hv w9 h9) (z_A 36 ad)), z_rP (c_X5_about l G am μ ν hinm hy v hv' w9 h9), rfl, fun _ => congrArg Int32.toInt64 (r_abt h hv w9), r_thrown h 0, by omega⟩

set_option maxRecDepth 10000 in
theorem P_count (hst : l.stackTraces = false) (hinj : ∀ i j, i < 36 → j < 36 → ad i = ad j → i = j) (hinm : ∀ i j, i < 10 → j < 10 → am i = am j → i = j) (hox : ∀ k, k < 36 → ad k ≠ ox) (h : r_R E σ κ μ ν T) (hT : T ≤ 40000) (o : Int64) (p0 : Int32) : r_pair l G ad am ox σ κ μ ν T o yL_count wsL_count ({ frames := 7, cells := 1, slots := 6, locals := 103 } : Room) [.ref (ad 0), .int p0, .ref ox] yX5_count wsX5_count ({ frames := 4, cells := 1, slots := 9, locals := 92 } : Room) [.ref (am 0), .int p0] 1 9 := by
  have hw := r_wf h.1
  have hy := r_ywf h.1
  have e1 := h.1.1.1.1
  have e2 := h.1.1.1.2.1
  have hn8 : ν 0 0 ≤ 8 := hy.1
  have hm6 : ν 0 1 ≤ 6 := hy.2.1
  have hk8 := hw.1
  have hk6 := hw.2.1
  by_cases b1 : p0 < 0 ∨ ¬ p0 < nI 9
  · exact ⟨1, 0, o, E, _, κ, y_no μ 1, ν, T, v_L_count_1 l G ad ox σ _ κ κ o p0 hinj hox (x_X4_count_1 l hst G ad σ κ p0 (r_out (m := 8) (by omega) b1)), z_rP (x_X5_count_1 l G am μ ν hinm p0 b1), rfl, fun q => absurd q (by decide), r_thrown (r_thrown h 0) 1, by omega⟩
  obtain ⟨w9, h9, rfl⟩ := r_idx (by omega) b1
  exact ⟨0, _, _, E, _, _, _, _, T, w_L_count l G ad ox σ _ κ _ o (_) (nI w9) hinj hox (z_oM (c_X4_count l G ad σ κ hw w9 h9) (z_A 36 ad)), z_rP (c_X5_count l G am μ ν hinm hy w9 h9), rfl, fun _ => congrArg Int32.toInt64 (r_cnt (r_thrown h 0) w9), r_thrown h 0, by omega⟩

set_option maxRecDepth 10000 in
theorem P_pass (hst : l.stackTraces = false) (hinj : ∀ i j, i < 36 → j < 36 → ad i = ad j → i = j) (hinm : ∀ i j, i < 10 → j < 10 → am i = am j → i = j) (hox : ∀ k, k < 36 → ad k ≠ ox) (h : r_R E σ κ μ ν T) (hT : T ≤ 40000) (o : Int64) (p0 : Int32) : r_pair l G ad am ox σ κ μ ν T o yL_pass wsL_pass ({ frames := 8, cells := 1, slots := 6, locals := 140 } : Room) [.ref (ad 0), .int p0, .ref ox] yX5_pass_ wsX5_pass_ ({ frames := 6, cells := 0, slots := 0, locals := 137 } : Room) [.ref (am 0), .int p0] 0 0 := by
  have hw := r_wf h.1
  have hy := r_ywf h.1
  have e1 := h.1.1.1.1
  have e2 := h.1.1.1.2.1
  have hn8 : ν 0 0 ≤ 8 := hy.1
  have hm6 : ν 0 1 ≤ 6 := hy.2.1
  have hk8 := hw.1
  have hk6 := hw.2.1
  by_cases b1 : z_wi p0 1 60 = 0
  · exact ⟨1, 0, o, E, _, κ, y_no μ 1, ν, T, v_L_pass_1 l G ad ox σ _ κ κ o p0 hinj hox (x_X4_pass_1 l hst G ad σ κ p0 b1), z_rP (x_X5_pass_1 l G am μ ν hinm p0 b1), rfl, fun q => absurd q (by decide), r_thrown (r_thrown h 0) 1, by omega⟩
  obtain ⟨n, n1, n2, rfl⟩ := r_rng (lo := 1) (hi := 60) (by omega) b1 (by omega)
  have hR := r_pass (r_thrown h 0) n
  have hd := hR.2.2.2.2.1
  exact ⟨0, _, _, E, _, _, _, _, (T + n), w_L_pass l G ad ox σ _ κ _ o (_) (nI n) hinj hox (c_X4_pass l G ad σ κ hinj hw T n h.2.2.1 (by omega) b1), z_rP (c_X5_pass_ l G am μ ν hinm hy T n h.2.2.2.1 (by omega) b1), (y_dn_o _ _ _ (by decide) _).trans rfl, fun _ => congrArg Int32.toInt64 ((by rw [← hd, ← h.2.2.2.2.1]; rfl)), hR, by omega⟩

set_option maxRecDepth 10000 in
theorem P_joy (hst : l.stackTraces = false) (hinj : ∀ i j, i < 36 → j < 36 → ad i = ad j → i = j) (hinm : ∀ i j, i < 10 → j < 10 → am i = am j → i = j) (hox : ∀ k, k < 36 → ad k ≠ ox) (h : r_R E σ κ μ ν T) (hT : T ≤ 40000) (o : Int64) (p0 : Int32) (p1 : Int32) : r_pair l G ad am ox σ κ μ ν T o yL_joy wsL_joy ({ frames := 8, cells := 1, slots := 6, locals := 125 } : Room) [.ref (ad 0), .int p0, .int p1, .ref ox] yX5_joy wsX5_joy ({ frames := 5, cells := 0, slots := 0, locals := 114 } : Room) [.ref (am 0), .int p0, .int p1] 0 0 := by
  have hw := r_wf h.1
  have hy := r_ywf h.1
  have e1 := h.1.1.1.1
  have e2 := h.1.1.1.2.1
  have hn8 : ν 0 0 ≤ 8 := hy.1
  have hm6 : ν 0 1 ≤ 6 := hy.2.1
  have hk8 := hw.1
  have hk6 := hw.2.1
  by_cases b1 : p0 < 0 ∨ ¬ p0 < nI (κ 0 1)
  · exact ⟨1, 0, o, E, _, κ, y_no μ 1, ν, T, v_L_joy_1 l G ad ox σ _ κ κ o p0 p1 hinj hox (x_X4_joy_1 l hst G ad σ κ p0 p1 b1), z_rP (x_X5_joy_1 l G am μ ν hinm hm6 p0 p1 (by rw [← e2]; exact b1)), rfl, fun q => absurd q (by decide), r_thrown (r_thrown h 0) 1, by omega⟩
  obtain ⟨t, ht, rfl⟩ := r_idx (by omega) b1
  have ht' : t < ν 0 1 := by omega
  have et := h.1.1.1.2.2.1 t (by omega)
  have h5 := hw.2.2.1 t (by omega)
  by_cases b2 : p1 < 0
  · exact ⟨2, 0, o, E, _, κ, y_no μ 2, ν, T, v_L_joy_2 l G ad ox σ _ κ κ o (nI t) p1 hinj hox (x_X4_joy_2 l hst G ad σ κ hw t ht p1 b2), z_rP (x_X5_joy_2 l G am μ ν hinm hm6 t ht' p1 b2), rfl, fun q => absurd q (by decide), r_thrown (r_thrown h 0) 2, by omega⟩
  exact ⟨0, _, _, E, _, _, _, _, T, w_L_joy l G ad ox σ _ κ _ o (_) (nI t) p1 hinj hox (z_oM (c_X4_joy l G ad σ κ hw t ht p1 b2) (z_A 36 ad)), z_rP (c_X5_joy l G am μ ν hinm hy t ht' p1 b2), rfl, fun _ => congrArg Int32.toInt64 (r_joy h.1 h.2.1 ht p1), r_thrown h 0, by omega⟩

set_option maxRecDepth 10000 in
theorem P_best (hst : l.stackTraces = false) (hinj : ∀ i j, i < 36 → j < 36 → ad i = ad j → i = j) (hinm : ∀ i j, i < 10 → j < 10 → am i = am j → i = j) (hox : ∀ k, k < 36 → ad k ≠ ox) (h : r_R E σ κ μ ν T) (hT : T ≤ 40000) (o : Int64) (p0 : Int32) : r_pair l G ad am ox σ κ μ ν T o yL_best wsL_best ({ frames := 8, cells := 1, slots := 6, locals := 128 } : Room) [.ref (ad 0), .int p0, .ref ox] yX5_best wsX5_best ({ frames := 5, cells := 0, slots := 0, locals := 114 } : Room) [.ref (am 0), .int p0] 0 0 := by
  have hw := r_wf h.1
  have hy := r_ywf h.1
  have e1 := h.1.1.1.1
  have e2 := h.1.1.1.2.1
  have hn8 : ν 0 0 ≤ 8 := hy.1
  have hm6 : ν 0 1 ≤ 6 := hy.2.1
  have hk8 := hw.1
  have hk6 := hw.2.1
  by_cases b1 : p0 < 0 ∨ ¬ p0 < nI (κ 0 1)
  · exact ⟨1, 0, o, E, _, κ, y_no μ 1, ν, T, v_L_best_1 l G ad ox σ _ κ κ o p0 hinj hox (x_X4_best_1 l hst G ad σ κ p0 b1), z_rP (x_X5_best_1 l G am μ ν hinm hm6 p0 (by rw [← e2]; exact b1)), rfl, fun q => absurd q (by decide), r_thrown (r_thrown h 0) 1, by omega⟩
  obtain ⟨t, ht, rfl⟩ := r_idx (by omega) b1
  have ht' : t < ν 0 1 := by omega
  have et := h.1.1.1.2.2.1 t (by omega)
  have h5 := hw.2.2.1 t (by omega)
  exact ⟨0, _, _, E, _, _, _, _, T, w_L_best l G ad ox σ _ κ _ o (_) (nI t) hinj hox (z_oM (c_X4_best l G ad σ κ hw t ht T h.2.2.1) (z_A 36 ad)), z_rP (c_X5_best l G am μ ν hinm hy t ht' T h.2.2.2.1 (by omega)), rfl, fun _ => congrArg Int32.toInt64 (congrArg Prod.fst (r_bs h ht 120)), r_thrown h 0, by omega⟩

set_option maxRecDepth 10000 in
theorem P_advise (hst : l.stackTraces = false) (hinj : ∀ i j, i < 36 → j < 36 → ad i = ad j → i = j) (hinm : ∀ i j, i < 10 → j < 10 → am i = am j → i = j) (hox : ∀ k, k < 36 → ad k ≠ ox) (h : r_R E σ κ μ ν T) (hT : T ≤ 40000) (o : Int64) (p0 : Int32) : r_pair l G ad am ox σ κ μ ν T o yL_advise wsL_advise ({ frames := 8, cells := 1, slots := 6, locals := 158 } : Room) [.ref (ad 0), .int p0, .ref ox] yX5_advise wsX5_advise ({ frames := 5, cells := 0, slots := 0, locals := 114 } : Room) [.ref (am 0), .int p0] 0 0 := by
  have hw := r_wf h.1
  have hy := r_ywf h.1
  have e1 := h.1.1.1.1
  have e2 := h.1.1.1.2.1
  have hn8 : ν 0 0 ≤ 8 := hy.1
  have hm6 : ν 0 1 ≤ 6 := hy.2.1
  have hk8 := hw.1
  have hk6 := hw.2.1
  by_cases b1 : p0 < 0 ∨ ¬ p0 < nI (κ 0 1)
  · exact ⟨1, 0, o, E, _, κ, y_no μ 1, ν, T, v_L_advise_1 l G ad ox σ _ κ κ o p0 hinj hox (x_X4_advise_1 l hst G ad σ κ p0 b1), z_rP (x_X5_advise_1 l G am μ ν hinm hm6 p0 (by rw [← e2]; exact b1)), rfl, fun q => absurd q (by decide), r_thrown (r_thrown h 0) 1, by omega⟩
  obtain ⟨t, ht, rfl⟩ := r_idx (by omega) b1
  have ht' : t < ν 0 1 := by omega
  have et := h.1.1.1.2.2.1 t (by omega)
  have h5 := hw.2.2.1 t (by omega)
  by_cases g : κ 1 t < 5
  · have hA := r_adv (r_thrown h 0) ht g (κ 0 0) (Nat.le_refl _)
    rw [e1] at hA
    have hA1 := hA.1
    have hA2 := congrArg Prod.fst hA.2.2.1
    rw [← e1] at hA1 hA2
    exact ⟨0, _, _, E, _, _, _, _, T, w_L_advise l G ad ox σ _ κ _ o (_) (nI t) hinj hox (c_X4_advise l G ad σ κ hinj hw t ht g), z_rP (c_X5_advise l G am μ ν hinm hy t ht' (by omega)), rfl, fun _ => congrArg Int32.toInt64 ((by rw [← e1]; exact hA2)), (by rw [← e1]; exact hA1), by omega⟩
  exact ⟨0, _, _, E, _, _, _, _, T, w_L_advise l G ad ox σ _ κ _ o (_) (nI t) hinj hox (z_oM (c_X4_advise_full l G ad σ κ hw t ht g) (z_A 36 ad)), z_rP (c_X5_advise_full l G am μ ν hinm hy t ht' (by omega)), rfl, fun _ => congrArg Int32.toInt64 (rfl), r_thrown h 0, by omega⟩

set_option maxRecDepth 10000 in
theorem P_foresee (hst : l.stackTraces = false) (hinj : ∀ i j, i < 36 → j < 36 → ad i = ad j → i = j) (hinm : ∀ i j, i < 10 → j < 10 → am i = am j → i = j) (hox : ∀ k, k < 36 → ad k ≠ ox) (h : r_R E σ κ μ ν T) (hT : T ≤ 40000) (o : Int64) (p0 : Int32) (p1 : Int32) : r_pair l G ad am ox σ κ μ ν T o yL_foresee wsL_foresee ({ frames := 8, cells := 1, slots := 6, locals := 140 } : Room) [.ref (ad 0), .int p0, .int p1, .ref ox] yX5_foresee wsX5_foresee ({ frames := 6, cells := 2, slots := 13, locals := 137 } : Room) [.ref (am 0), .int p0, .int p1] 2 13 := by
  have hw := r_wf h.1
  have hy := r_ywf h.1
  have e1 := h.1.1.1.1
  have e2 := h.1.1.1.2.1
  have hn8 : ν 0 0 ≤ 8 := hy.1
  have hm6 : ν 0 1 ≤ 6 := hy.2.1
  have hk8 := hw.1
  have hk6 := hw.2.1
  by_cases b1 : z_wi p0 1 60 = 0
  · exact ⟨1, 0, o, E, _, κ, y_no μ 1, ν, T, v_L_foresee_1 l G ad ox σ _ κ κ o p0 p1 hinj hox (x_X4_foresee_1 l hst G ad σ κ p0 p1 b1), z_rP (x_X5_foresee_1 l G am μ ν hinm p0 p1 b1), rfl, fun q => absurd q (by decide), r_thrown (r_thrown h 0) 1, by omega⟩
  obtain ⟨n, n1, n2, rfl⟩ := r_rng (lo := 1) (hi := 60) (by omega) b1 (by omega)
  by_cases b2 : z_wi p1 5 8 = 0
  · exact ⟨2, 0, o, E, _, κ, y_no μ 2, ν, T, v_L_foresee_2 l G ad ox σ _ κ κ o (nI n) p1 hinj hox (x_X4_foresee_2 l hst G ad σ κ hinj hw T n h.2.2.1 (by omega) b1 p1 (r_58 b2)), z_rP (x_X5_foresee_2 l G am μ ν hinm (nI n) p1 b1 b2), rfl, fun q => absurd q (by decide), r_thrown (r_thrown ((r_fore h n).1) 0) 2, by omega⟩
  obtain ⟨w9, q1, q2, rfl⟩ := r_rng (lo := 5) (hi := 8) (by omega) b2 (by omega)
  obtain ⟨f1, f2⟩ := r_fore (r_thrown h 0) n
  exact ⟨0, _, _, E, _, _, _, _, T, w_L_foresee l G ad ox σ _ κ _ o (_) (nI n) (nI w9) hinj hox (c_X4_foresee l G ad σ κ hinj hw T n h.2.2.1 (by omega) b1 w9 (by omega) (by omega)), (c_X5_foresee l G am μ ν hinm hy T n h.2.2.2.1 (by omega) b1 w9 (by omega) b2), rfl, fun _ => congrArg Int32.toInt64 (f2 w9 (by omega) (by omega)), f1, by omega⟩

end RP
