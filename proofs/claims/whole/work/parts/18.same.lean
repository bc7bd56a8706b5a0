/-! Part 18: the class's numbers and the reference's: what ties them; both reckon the same. -/
/-- lists, counts, valleys, tours, heats, ways -/
def r_C (E : Nat → Nat → Nat) (σ : Nat → Nat → Int32) (κ : Nat → Nat → Nat) (μ : Nat → Nat → Int32) (ν : Nat → Nat → Nat) : Prop :=
  ((κ 0 0 = ν 0 0 ∧ κ 0 1 = ν 0 1 ∧ (∀ t, t < 6 → κ 1 t = ν 1 t) ∧ ∀ t k, t < 6 → k < κ 1 t → κ (2 + t) k = ν 2 (5 * t + k)) ∧
  (κ 0 0 ≤ 8 ∧ κ 0 1 ≤ 6 ∧ (∀ t, t < 6 → κ 1 t ≤ 5) ∧ (∀ t k, t < 6 → k < κ 1 t → κ (2 + t) k < κ 0 0) ∧ (∀ t j k, t < 6 → j < κ 1 t → k < κ 1 t → κ (2 + t) j = κ (2 + t) k → j = k) ∧ ∀ t, κ 0 1 ≤ t → t < 6 → κ 1 t = 0)) ∧
  (σ 0 = μ 0 ∧ σ 1 = μ 1 ∧ σ 2 = μ 2 ∧ σ 5 = μ 5 ∧ σ 7 = μ 7) ∧
  (∀ v, v < κ 0 0 → ¬ z_wi (σ 0 v) 0 90 = 0 ∧ ¬ z_wi (σ 1 v) 1 30 = 0) ∧
  (m_Me E ∧ (∀ a b, a < 8 → b < 8 → σ (10 + a) b = nI (E a b)) ∧ ∀ a b, a < 8 → b < 8 → μ 10 (8 * a + b) = m_v (E a b)) ∧
  (∃ R, R ≤ 20 ∧ σ 8 0 = nI R ∧ μ 8 0 = nI R)
/-- the class has reckoned -/
def r_K (σ : Nat → Nat → Int32) (κ : Nat → Nat → Nat) : Prop := (∀ t, σ 6 t = if t < κ 0 1 then z_mns σ κ t else 0) ∧ (∀ v, σ 3 v = if v < κ 0 0 then z_sm (r_cf σ κ v) (κ 0 1) else 0) ∧ ∀ v, σ 4 v = if v < κ 0 0 then z_sm (r_vf σ κ v) (κ 0 1) else 0
/-- days and books -/
def r_D (σ μ : Nat → Nat → Int32) (T : Nat) : Prop := σ 8 1 = nI T ∧ μ 9 0 = nI T ∧ σ 8 2 = μ 9 1 ∧ σ 8 3 = μ 9 2 ∧ σ 8 4 = μ 9 3
section RC
variable {E : Nat → Nat → Nat} {σ μ : Nat → Nat → Int32} {κ ν : Nat → Nat → Nat}
theorem r_wf (h : r_C E σ κ μ ν) : z_wf κ := by
  obtain ⟨⟨-, h1, h2, h3, h4, -⟩, -⟩ := h
  exact ⟨h1, h2, h3, fun t ht j hj => Nat.lt_of_lt_of_le (h4 t j ht hj) h1⟩
theorem r_half {n : Int32} (h : ¬ z_wi n 1 30 = 0) : ∃ k : Nat, 1 ≤ k ∧ k ≤ 30 ∧ n = nI k := by
  unfold z_wi at h
  by_cases a : n < 1
  · rw [if_pos a] at h
    exact absurd rfl h
  · rw [if_neg a] at h
    by_cases b : 30 < n
    · rw [if_pos b] at h
      exact absurd rfl h
    · have h0 : ¬ n < 0 := fun q => by
        apply a
        rw [Int32.lt_iff_toInt_lt] at q ⊢
        rw [show (1 : Int32).toInt = 1 from by decide]
        rw [show (0 : Int32).toInt = 0 from by decide] at q
        omega
      obtain ⟨k, hk, rfl⟩ := nI_of h0
      refine ⟨k, ?_, ?_, rfl⟩
      · rcases Nat.lt_or_ge k 1 with q | q
        · exact absurd (show nI k < 1 from nI_lt (b := 1) q (by decide)) a
        · exact q
      · rcases Nat.lt_or_ge 30 k with q | q
        · exact absurd (show (30 : Int32) < nI k from nI_lt (a := 30) q hk) b
        · exact q
theorem r_ywf (h : r_C E σ κ μ ν) : y_wf μ ν := by
  obtain ⟨⟨⟨e1, e2, e3, e4⟩, h1, h2, h3, h4, h5, h6⟩, ⟨s0, s1, s2, s5, s7⟩, hv, ⟨-, -, hm⟩, -⟩ := h
  refine ⟨by rw [← e1]; exact h1, by rw [← e2]; exact h2, fun t ht => by rw [← e3 t ht]; exact h3 t ht, fun t ht j hj => ?_, fun v hv' => ?_, fun a b ha hb => ?_⟩
  · rw [← e3 t ht] at hj
    rw [← e4 t j ht hj, ← e1]
    exact h4 t j ht hj
  · rw [← e1] at hv'
    obtain ⟨k, k1, k2, e⟩ := r_half (hv v hv').2
    rw [← s1, e]
    intro q
    have : ∀ k : Fin 31, 1 ≤ k.val → ¬ (nI k.val + 1) / 2 = 0 := by decide +kernel
    exact this ⟨k, by omega⟩ k1 q
  · rw [hm a b ha hb]
    unfold m_v
    split
    · exact Or.inr (nI_pos' (by omega))
    · exact Or.inl rfl
theorem r_W (h : r_C E σ κ μ ν) {a b : Nat} (ha : a < 8) (hb : b < 8) : z_mb (σ (10 + a) b) = μ 10 (8 * a + b) := by
  obtain ⟨-, -, -, ⟨hE, h1, h2⟩, -⟩ := h
  rw [h1 a b ha hb, h2 a b ha hb]
  exact m_v_mb (hE.2.2.2.1 a b ha hb)
theorem r_mn (h : r_C E σ κ μ ν) {t : Nat} (ht : t < 6) : z_mns σ κ t = y_mns μ ν t := by
  have hw := r_wf h
  have hW := fun a b ha hb => r_W h (a := a) (b := b) ha hb
  obtain ⟨⟨⟨-, -, e3, e4⟩, -⟩, -⟩ := h
  unfold z_mns y_mns
  rw [← e3 t ht]
  refine r_mn_congr _ (fun k hk => ?_)
  rw [← e4 t k ht (by omega), ← e4 t (k + 1) ht (by omega)]
  exact hW _ _ (hw.2.2.2 t ht k (by omega)) (hw.2.2.2 t ht (k + 1) (by omega))
theorem r_has (h : r_C E σ κ μ ν) {t : Nat} (ht : t < 6) (v : Nat) : z_vi (κ (2 + t)) v (κ 1 t) = y_has ν t v := by
  obtain ⟨⟨⟨-, -, e3, e4⟩, -⟩, -⟩ := h
  unfold y_has
  rw [← e3 t ht]
  exact r_vi_congr _ (fun k hk => e4 t k ht hk)
/-- minutes of a list, unless they are none -/
theorem r_mt_pos {W : Nat → Nat → Int32} {t : Nat → Nat} {c : Nat} (hc : c ≤ 5) (hW : ∀ k, k < c - 1 → ∃ x : Nat, x ≤ 1000000 ∧ W (t k) (t (k + 1)) = m_v x) : ∀ n, n ≤ c - 1 → z_mf W t n = false → ∃ y : Nat, y ≤ 1000000 * n ∧ z_mt W t (50 * nI c) n = nI (50 * c + y)
  | 0, _, _ => ⟨0, by omega, by
    show 50 * nI c = nI (50 * c + 0)
    rw [show (50 : Int32) = nI 50 from rfl, pk_mul]
    rfl⟩
  | n + 1, hn, h => by
    rw [z_mf, Bool.or_eq_false_iff] at h
    obtain ⟨y, y1, y2⟩ := r_mt_pos hc hW n (by omega) h.1
    obtain ⟨x, x1, x2⟩ := hW n (by omega)
    have hx : x < 1000000 := by
      rcases Nat.lt_or_ge x 1000000 with q | q
      · exact q
      · have h2 := h.2
        rw [x2, m_v_f (by omega)] at h2
        exact absurd h2 (by decide)
    exact ⟨y + x, by omega, by rw [z_mt, y2, x2, m_v_t hx, nI_add, Nat.add_assoc]⟩
theorem r_go (h : r_C E σ κ μ ν) {t : Nat} (ht : t < 6) : z_gc (κ 1 t) (z_mns σ κ t) = y_go μ ν t := by
  have hmn := r_mn h ht
  have hw := r_wf h
  have h5 := hw.2.2.1 t ht
  have hW : ∀ k, k < κ 1 t - 1 → ∃ x : Nat, x ≤ 1000000 ∧ (fun a b => z_mb (σ (10 + a) b)) (κ (2 + t) k) (κ (2 + t) (k + 1)) = m_v x := fun k hk => by
    obtain ⟨-, -, -, ⟨hE, h1, h2⟩, -⟩ := h
    have a1 := hw.2.2.2 t ht k (by omega)
    have a2 := hw.2.2.2 t ht (k + 1) (by omega)
    refine ⟨_, hE.2.2.2.1 _ _ a1 a2, ?_⟩
    show z_mb (σ (10 + _) _) = _
    rw [h1 _ _ a1 a2]
    exact m_v_mb (hE.2.2.2.1 _ _ a1 a2)
  unfold y_go
  rw [← hmn]
  unfold z_gc
  rcases Nat.eq_zero_or_pos (κ 1 t) with c | c
  · rw [c, if_pos (by decide)]
    have e : z_mns σ κ t = 0 := by
      unfold z_mns z_mn
      rw [c]
      rfl
    rw [e]
    decide
  · rw [if_neg (show ¬ nI (κ 1 t) ≤ 0 from nI_nle c (by omega))]
    unfold z_mns z_mn
    by_cases f : z_mf (fun a b => z_mb (σ (10 + a) b)) (κ (2 + t)) (κ 1 t - 1) = true
    · rw [if_pos f]
      decide
    · rw [if_neg f]
      obtain ⟨y, y1, y2⟩ := r_mt_pos h5 hW _ (Nat.le_refl _) (by simpa using f)
      rw [y2]
      have b0 : 50 * κ 1 t + y < 2 ^ 31 := by omega
      have c0 : ¬ nI (50 * κ 1 t + y) < 0 := nI_pos b0
      have c1 : ¬ nI (50 * κ 1 t + y) < 1 := nI_nlt (b := 1) (by omega) b0
      unfold z_wi
      rw [if_neg c0, if_neg c1]
      by_cases d : 480 < nI (50 * κ 1 t + y)
      · rw [if_pos d]
        rfl
      · rw [if_neg d]
        rfl
theorem r_cr (h : r_C E σ κ μ ν) (v : Nat) : z_sm (r_cf σ κ v) (κ 0 1) = y_cr μ ν v := by
  have hg := fun t ht => r_go h (t := t) ht
  have hh := fun t ht => r_has h (t := t) ht v
  have hm : κ 0 1 ≤ 6 := (r_wf h).2.1
  obtain ⟨⟨⟨-, e2, -, -⟩, -⟩, ⟨-, -, -, s5, -⟩, -⟩ := h
  unfold y_cr
  rw [← e2]
  refine r_sm_congr _ (fun t ht => ?_)
  unfold r_cf y_cf
  rw [hg t (by omega), hh t (by omega), s5]
theorem r_vt (h : r_C E σ κ μ ν) (v : Nat) : z_sm (r_vf σ κ v) (κ 0 1) = z_sm (y_vf μ ν v) (ν 0 1) := by
  have hg := fun t ht => r_go h (t := t) ht
  have hh := fun t ht => r_has h (t := t) ht v
  have hm : κ 0 1 ≤ 6 := (r_wf h).2.1
  obtain ⟨⟨⟨-, e2, -, -⟩, -⟩, -⟩ := h
  rw [← e2]
  refine r_sm_congr _ (fun t ht => ?_)
  unfold r_vf y_vf
  rw [hg t (by omega), hh t (by omega)]
end RC
