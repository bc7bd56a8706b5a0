/-! Part 20: each call keeps what ties the two. -/
section RS
variable {E : Nat → Nat → Nat} {σ σ' μ μ' : Nat → Nat → Int32} {κ ν : Nat → Nat → Nat} {T : Nat}
theorem r_Cσ (h : ∀ r, r ≠ 3 → r ≠ 4 → r ≠ 6 → r ≠ 8 → σ' r = σ r) (h8 : σ' 8 0 = σ 8 0) (hc : r_C E σ κ μ ν) : r_C E σ' κ μ ν := by
  obtain ⟨hl, ⟨s0, s1, s2, s5, s7⟩, hv, ⟨hE, w1, w2⟩, R, r1, r2, r3⟩ := hc
  have e0 := h 0 (by decide) (by decide) (by decide) (by decide)
  have e1 := h 1 (by decide) (by decide) (by decide) (by decide)
  have e2 := h 2 (by decide) (by decide) (by decide) (by decide)
  have e5 := h 5 (by decide) (by decide) (by decide) (by decide)
  have e7 := h 7 (by decide) (by decide) (by decide) (by decide)
  refine ⟨hl, ⟨e0.trans s0, e1.trans s1, e2.trans s2, e5.trans s5, e7.trans s7⟩, fun v hv' => ?_, ⟨hE, fun a b ha hb => ?_, w2⟩, R, r1, h8.trans r2, r3⟩
  · rw [e0, e1]
    exact hv v hv'
  · rw [h (10 + a) (by omega) (by omega) (by omega) (by omega)]
    exact w1 a b ha hb
theorem r_Cμ (h : ∀ r, r ≠ 8 → r ≠ 9 → μ' r = μ r) (h8 : μ' 8 0 = μ 8 0) (hc : r_C E σ κ μ ν) : r_C E σ κ μ' ν := by
  obtain ⟨hl, ⟨s0, s1, s2, s5, s7⟩, hv, ⟨hE, w1, w2⟩, R, r1, r2, r3⟩ := hc
  refine ⟨hl, ⟨s0.trans (h 0 (by decide) (by decide)).symm, s1.trans (h 1 (by decide) (by decide)).symm, s2.trans (h 2 (by decide) (by decide)).symm, s5.trans (h 5 (by decide) (by decide)).symm, s7.trans (h 7 (by decide) (by decide)).symm⟩, hv, ⟨hE, w1, fun a b ha hb => ?_⟩, R, r1, r2, h8.trans r3⟩
  rw [h 10 (by decide) (by decide)]
  exact w2 a b ha hb
theorem r_cfσ (h : ∀ r, 10 ≤ r → σ' r = σ r) (h5 : σ' 5 = σ 5) : r_cf σ' κ = r_cf σ κ ∧ r_vf σ' κ = r_vf σ κ ∧ z_mns σ' κ = z_mns σ κ := by
  have e : z_mns σ' κ = z_mns σ κ := funext fun t => r_mns (fun r q hr => congrFun (h r hr) q) κ t
  refine ⟨funext fun v => funext fun t => ?_, funext fun v => funext fun t => ?_, e⟩
  · unfold r_cf
    rw [e, h5]
  · unfold r_vf
    rw [e]
theorem r_Kσ (h3 : σ' 3 = σ 3) (h4 : σ' 4 = σ 4) (h6 : σ' 6 = σ 6) (h5 : σ' 5 = σ 5) (h : ∀ r, 10 ≤ r → σ' r = σ r) (hk : r_K σ κ) : r_K σ' κ := by
  obtain ⟨e1, e2, e3⟩ := r_cfσ (κ := κ) h h5
  unfold r_K
  rw [e1, e2, e3, h3, h4, h6]
  exact hk
theorem r_thrown (h : r_R E σ κ μ ν T) (k : Int32) : r_R E σ κ (z_up μ 8 1 k) ν T := by
  refine ⟨r_Cμ (fun r h8 _ => funext fun q => z_up_1 _ _ h8) (z_up_2 _ _ (by decide)) h.1, h.2.1, ?_⟩
  have h9 : ∀ q, z_up μ 8 1 k 9 q = μ 9 q := fun q => z_up_1 _ _ (by decide)
  unfold r_D
  rw [h9, h9, h9, h9]
  exact h.2.2
theorem r_reck (hc : r_C E σ κ μ ν) (h3 : ∀ v, κ 0 0 ≤ v → σ 3 v = 0) (h4 : ∀ v, κ 0 0 ≤ v → σ 4 v = 0) (h6 : ∀ t, κ 0 1 ≤ t → σ 6 t = 0) (hd : r_D σ μ T) : r_R E (z_rkn σ κ) κ μ ν T := by
  obtain ⟨k1, k2, k3, k4⟩ := r_rk σ κ (κ 0 1)
  have g : ∀ r, r ≠ 3 → r ≠ 4 → r ≠ 6 → z_rkn σ κ r = σ r := fun r a b c => funext fun q => k1 r q a b c
  obtain ⟨e1, e2, e3⟩ := r_cfσ (σ' := z_rkn σ κ) (σ := σ) (κ := κ) (fun r hr => g r (by omega) (by omega) (by omega)) (g 5 (by decide) (by decide) (by decide))
  refine ⟨r_Cσ (fun r a b c _ => g r a b c) (k1 8 0 (by decide) (by decide) (by decide)) hc, ⟨fun t => ?_, fun v => ?_, fun v => ?_⟩, ?_⟩
  · rw [e3]
    refine (k2 t).trans ?_
    by_cases c : t < κ 0 1
    · rw [if_pos c, if_pos c]
    · rw [if_neg c, if_neg c, h6 t (by omega)]
  · rw [e1]
    refine (k3 v).trans ?_
    by_cases c : v < κ 0 0
    · rw [if_pos c, if_pos c]
    · rw [if_neg c, if_neg c, h3 v (by omega)]
  · rw [e2]
    refine (k4 v).trans ?_
    by_cases c : v < κ 0 0
    · rw [if_pos c, if_pos c]
    · rw [if_neg c, if_neg c, h4 v (by omega)]
  · unfold r_D
    rw [g 8 (by decide) (by decide) (by decide)]
    exact hd
theorem r_K0 (hk : r_K σ κ) : (∀ v, κ 0 0 ≤ v → σ 3 v = 0) ∧ (∀ v, κ 0 0 ≤ v → σ 4 v = 0) ∧ ∀ t, κ 0 1 ≤ t → σ 6 t = 0 :=
  ⟨fun v hv => by rw [hk.2.1 v, if_neg (by omega)], fun v hv => by rw [hk.2.2 v, if_neg (by omega)], fun t ht => by rw [hk.1 t, if_neg (by omega)]⟩
/-- road -/
theorem r_road (h : r_R E σ κ μ ν T) {a b m : Nat} (ha : a < κ 0 0) (hb : b < κ 0 0) (hm : m ≤ 240) (hr : σ 8 0 < 20) : r_R (m_N E a b m) (z_rkn (z_ly σ a b (nI m)) κ) κ (y_rd μ a b (nI m)) ν T := by
  obtain ⟨hc, hk, hd⟩ := h
  have h8 := (r_wf hc).1
  obtain ⟨n3, n4, n6⟩ := r_K0 hk
  obtain ⟨hl, ⟨s0, s1, s2, s5, s7⟩, hv, ⟨hE, w1, w2⟩, R, r1, r2, r3⟩ := hc
  have o : ∀ r, r < 8 → z_ly σ a b (nI m) r = σ r := fun r hr => funext fun q => z_ly_o _ _ _ _ hr
  have o8 : ∀ q, q ≠ 0 → z_ly σ a b (nI m) 8 q = σ 8 q := fun q hq => by rw [z_ly_8, if_neg hq]
  have oy : ∀ r, r ≠ 10 → r ≠ 8 → y_rd μ a b (nI m) r = μ r := fun r h1 h2 => funext fun q => by rw [m_rdo _ _ _ _ h1, z_up_1 _ _ h2, z_up_1 _ _ h2]
  have hR : R < 20 := by
    rw [r2] at hr
    rcases Nat.lt_or_ge R 20 with q | q
    · exact q
    · exact absurd hr (nI_nlt (b := 20) q (by omega))
  refine r_reck (σ := z_ly σ a b (nI m)) ⟨hl, ⟨?_, ?_, ?_, ?_, ?_⟩, fun v hv' => ?_, ⟨m_N_me hE (by omega) (by omega) hm, z_ly_ok hE (by omega) (by omega) hm w1, m_rd hE (by omega) (by omega) hm w2⟩, R + 1, hR, ?_, ?_⟩ ?_ ?_ ?_ ?_
  · rw [o 0 (by decide), oy 0 (by decide) (by decide), s0]
  · rw [o 1 (by decide), oy 1 (by decide) (by decide), s1]
  · rw [o 2 (by decide), oy 2 (by decide) (by decide), s2]
  · rw [o 5 (by decide), oy 5 (by decide) (by decide), s5]
  · rw [o 7 (by decide), oy 7 (by decide) (by decide), s7]
  · rw [o 0 (by decide), o 1 (by decide)]
    exact hv v hv'
  · rw [z_ly_8, if_pos rfl, r2, nI_1]
  · rw [m_rdo _ _ _ _ (by decide), z_up_s, r3, nI_1]
  · rw [o 3 (by decide)]
    exact n3
  · rw [o 4 (by decide)]
    exact n4
  · rw [o 6 (by decide)]
    exact n6
  · unfold r_D
    rw [o8 1 (by decide), o8 2 (by decide), o8 3 (by decide), o8 4 (by decide), oy 9 (by decide) (by decide)]
    exact hd
/-- a heat is set -/
theorem r_heat (h : r_R E σ κ μ ν T) (d : Nat) (x : Int32) : r_R E (z_up σ 7 d x) κ (z_up μ 7 d x) ν T := by
  obtain ⟨⟨hl, ⟨s0, s1, s2, s5, s7⟩, hv, ⟨hE, w1, w2⟩, R, r1, r2, r3⟩, hk, hd⟩ := h
  have o : ∀ (s : Nat → Nat → Int32) r, r ≠ 7 → z_up s 7 d x r = s r := fun s r hr => funext fun q => z_up_1 _ _ hr
  refine ⟨⟨hl, ⟨?_, ?_, ?_, ?_, ?_⟩, fun v hv' => ?_, ⟨hE, fun a b ha hb => ?_, fun a b ha hb => ?_⟩, R, r1, ?_, ?_⟩, r_Kσ (o σ 3 (by decide)) (o σ 4 (by decide)) (o σ 6 (by decide)) (o σ 5 (by decide)) (fun r hr => o σ r (by omega)) hk, ?_⟩
  · rw [o _ 0 (by decide), o _ 0 (by decide), s0]
  · rw [o _ 1 (by decide), o _ 1 (by decide), s1]
  · rw [o _ 2 (by decide), o _ 2 (by decide), s2]
  · rw [o _ 5 (by decide), o _ 5 (by decide), s5]
  · funext q
    by_cases e : q = d
    · subst e
      rw [z_up_s, z_up_s]
    · rw [z_up_2 _ _ e, z_up_2 _ _ e, s7]
  · rw [o _ 0 (by decide), o _ 1 (by decide)]
    exact hv v hv'
  · rw [o _ (10 + a) (by omega)]
    exact w1 a b ha hb
  · rw [o _ 10 (by decide)]
    exact w2 a b ha hb
  · rw [o _ 8 (by decide)]
    exact r2
  · rw [o _ 8 (by decide)]
    exact r3
  · unfold r_D
    rw [o _ 8 (by decide), o _ 9 (by decide)]
    exact hd
/-- days -/
theorem r_pass (h : r_R E σ κ μ ν T) (n : Nat) : r_R E (z_ps σ κ T n) κ (y_dn μ ν T n) ν (T + n) := by
  obtain ⟨hc, hk, hd⟩ := h
  have e2 := hc.1.1.2.1
  have o : ∀ r, r ≠ 8 → z_ps σ κ T n r = σ r := fun r hr => funext fun q => by
    show z_up (z_k3 σ 2 _ _ _) 8 1 _ r q = _
    rw [z_up_1 _ _ hr]
    unfold z_k3
    rw [z_up_1 _ _ hr, z_up_1 _ _ hr, z_up_1 _ _ hr]
  have f1 : z_dd (z_fc σ κ) T (κ 0 1) n = z_dd (y_fc μ ν) T (ν 0 1) n := by rw [← e2]; exact r_dd n (fun d t ht => (r_fc hc hk ht d).1)
  have f2 : z_dd (z_fj σ κ) T (κ 0 1) n = z_dd (y_fj μ ν) T (ν 0 1) n := by rw [← e2]; exact r_dd n (fun d t ht => (r_fc hc hk ht d).2.1)
  have f3 : z_dd (z_fs σ κ) T (κ 0 1) n = z_dd (y_fs μ ν) T (ν 0 1) n := by rw [← e2]; exact r_dd n (fun d t ht => (r_fc hc hk ht d).2.2)
  obtain ⟨g1, g2, g3⟩ := r_dn μ ν T n
  refine ⟨r_Cμ (fun r h8 h9 => funext fun q => y_dn_o μ ν T h9 n) (y_dn_o μ ν T (by decide) n) (r_Cσ (fun r _ _ _ h8 => o r h8) rfl hc), r_Kσ (o 3 (by decide)) (o 4 (by decide)) (o 6 (by decide)) (o 5 (by decide)) (fun r hr => o r (by omega)) hk, rfl, y_dn_day μ ν hd.2.1 n, ?_, ?_, ?_⟩
  · rw [g1, ← f1, ← hd.2.2.1]
    rfl
  · rw [g2, ← f2, ← hd.2.2.2.1]
    rfl
  · rw [g3, ← f3, ← hd.2.2.2.2]
    rfl
/-- what is foreseen -/
theorem r_fore (h : r_R E σ κ μ ν T) (n : Nat) : r_R E (z_fd σ κ T n) κ μ ν T ∧ ∀ w, 4 < w → w < 9 → z_fo σ κ T n w = y_fo μ ν T n w := by
  have hp := r_pass h n
  obtain ⟨hc, hk, hd⟩ := h
  have o : ∀ r, r ≠ 8 → z_fd σ κ T n r = σ r := fun r hr => funext fun q => by
    unfold z_fd z_k3
    rw [z_up_1 _ _ hr, z_up_1 _ _ hr, z_up_1 _ _ hr]
  refine ⟨⟨r_Cσ (fun r _ _ _ h8 => o r h8) rfl hc, r_Kσ (o 3 (by decide)) (o 4 (by decide)) (o 6 (by decide)) (o 5 (by decide)) (fun r hr => o r (by omega)) hk, hd⟩, fun w h4 h9 => ?_⟩
  have hp2 := r_cnt hp
  rcases (show w = 5 ∨ w = 6 ∨ w = 7 ∨ w = 8 by omega) with rfl | rfl | rfl | rfl
  · have e := hp2 5
    show z_sm (z_bn (z_fd σ κ T n) (nI (T + n))) (κ 0 0) = y_cnt (y_dn μ ν T n) ν 5
    rw [← e]
    show _ = z_sm (z_bn (z_ps σ κ T n) (nI (T + n))) (κ 0 0)
    refine r_sm_congr _ (fun v _ => ?_)
    have e0 : z_ps σ κ T n 0 v = σ 0 v := rfl
    have e1 : z_ps σ κ T n 1 v = σ 1 v := rfl
    unfold z_bn
    rw [e0, e1, o 0 (by decide), o 1 (by decide)]
  · exact hp2 6
  · exact hp2 7
  · exact hp2 8
end RS
