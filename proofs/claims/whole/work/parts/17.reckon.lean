/-! Part 17: sums; what a reckoning leaves. -/
theorem r_sm_congr {f g : Nat → Int32} : ∀ n, (∀ i, i < n → f i = g i) → z_sm f n = z_sm g n
  | 0, _ => rfl
  | n + 1, h => by
    show z_sm f n + f n = z_sm g n + g n
    rw [r_sm_congr n (fun i hi => h i (by omega)), h n (by omega)]
theorem r_sm_add {f g : Nat → Int32} : ∀ n, z_sm (fun i => f i + g i) n = z_sm f n + z_sm g n
  | 0 => by
    show (0 : Int32) = 0 + 0
    decide
  | n + 1 => by
    show z_sm (fun i => f i + g i) n + (f n + g n) = (z_sm f n + f n) + (z_sm g n + g n)
    rw [r_sm_add n, Int32.add_assoc, Int32.add_assoc, ← Int32.add_assoc (z_sm g n), Int32.add_comm (z_sm g n) (f n), Int32.add_assoc]
theorem r_sm_zero {f : Nat → Int32} : ∀ n, (∀ i, i < n → f i = 0) → z_sm f n = 0
  | 0, _ => rfl
  | n + 1, h => by
    show z_sm f n + f n = 0
    rw [r_sm_zero n (fun i hi => h i (by omega)), h n (by omega)]
    rfl
theorem r_sm_one {g : Nat → Int32} {w : Nat} : ∀ n, z_sm (fun v => if v = w then g v else 0) n = if w < n then g w else 0
  | 0 => by
    rw [if_neg (Nat.not_lt_zero w)]
    rfl
  | n + 1 => by
    show z_sm (fun v => if v = w then g v else 0) n + (if n = w then g n else 0) = _
    rw [r_sm_one n]
    by_cases e : n = w
    · subst e
      rw [if_pos rfl, if_neg (Nat.lt_irrefl n), if_pos (Nat.lt_succ_self n), Int32.zero_add]
    · rw [if_neg e, Int32.add_zero]
      by_cases c : w < n
      · rw [if_pos c, if_pos (by omega)]
      · rw [if_neg c, if_neg (by omega)]
theorem r_vi_s (t : Nat → Nat) (v n : Nat) : z_vi t v (n + 1) = (z_vi t v n || decide (t n = v)) := by
  cases h : z_vi t v n <;> by_cases c : t n = v <;> simp [z_vi, h, c]
theorem r_vi_ex {t : Nat → Nat} {v : Nat} : ∀ n, z_vi t v n = true → ∃ k, k < n ∧ t k = v
  | 0, h => by cases h
  | n + 1, h => by
    rw [r_vi_s, Bool.or_eq_true] at h
    rcases h with h | h
    · obtain ⟨k, hk, e⟩ := r_vi_ex n h
      exact ⟨k, by omega, e⟩
    · exact ⟨n, by omega, of_decide_eq_true h⟩
theorem r_vi_congr {t t' : Nat → Nat} {v : Nat} : ∀ n, (∀ k, k < n → t k = t' k) → z_vi t v n = z_vi t' v n
  | 0, _ => rfl
  | n + 1, h => by rw [r_vi_s, r_vi_s, r_vi_congr n (fun k hk => h k (by omega)), h n (by omega)]
/-- a sum over valleys of a list is the sum over the list -/
theorem r_sum {t : Nat → Nat} {g : Nat → Int32} {N : Nat} : ∀ c, (∀ k, k < c → t k < N) → (∀ j k, j < c → k < c → t j = t k → j = k) → z_sm (fun v => if z_vi t v c = true then g v else 0) N = z_sm (fun k => g (t k)) c
  | 0, _, _ => r_sm_zero N (fun i _ => by simp [z_vi])
  | c + 1, h1, h2 => by
    have ih := r_sum (g := g) c (fun k hk => h1 k (by omega)) (fun j k hj hk => h2 j k (by omega) (by omega))
    show _ = z_sm (fun k => g (t k)) c + g (t c)
    rw [← ih, show g (t c) = z_sm (fun v => if v = t c then g v else 0) N by rw [r_sm_one, if_pos (h1 c (by omega))], ← r_sm_add]
    refine r_sm_congr N (fun v _ => ?_)
    rw [r_vi_s]
    by_cases e : v = t c
    · subst e
      have hn : z_vi t (t c) c = false := by
        cases q : z_vi t (t c) c with
        | false => rfl
        | true =>
          obtain ⟨k, hk, e⟩ := r_vi_ex c q
          have := h2 k c (by omega) (by omega) e
          omega
      simp [hn]
    · have e2 : ¬ t c = v := fun h => e h.symm
      simp [e, e2]
theorem r_mt_congr {W W' : Nat → Nat → Int32} {t t' : Nat → Nat} {s0 : Int32} : ∀ n, (∀ k, k < n → W (t k) (t (k + 1)) = W' (t' k) (t' (k + 1))) → z_mt W t s0 n = z_mt W' t' s0 n
  | 0, _ => rfl
  | n + 1, h => by rw [z_mt, z_mt, r_mt_congr n (fun k hk => h k (by omega)), h n (by omega)]
theorem r_mf_congr {W W' : Nat → Nat → Int32} {t t' : Nat → Nat} : ∀ n, (∀ k, k < n → W (t k) (t (k + 1)) = W' (t' k) (t' (k + 1))) → z_mf W t n = z_mf W' t' n
  | 0, _ => rfl
  | n + 1, h => by rw [z_mf, z_mf, r_mf_congr n (fun k hk => h k (by omega)), h n (by omega)]
theorem r_mn_congr {W W' : Nat → Nat → Int32} {t t' : Nat → Nat} (n : Nat) (h : ∀ k, k < n - 1 → W (t k) (t (k + 1)) = W' (t' k) (t' (k + 1))) : z_mn W t n = z_mn W' t' n := by
  unfold z_mn
  rw [r_mf_congr _ h, r_mt_congr _ h]
/-- joined crowds -/
theorem r_jc (s : Nat → Nat → Int32) (κ : Nat → Nat → Nat) (t : Nat) : ∀ n, (∀ r q, r ≠ 3 → r ≠ 4 → z_jc s κ t n r q = s r q) ∧ (∀ v, z_jc s κ t n 3 v = if v < n ∧ z_vi (κ (2 + t)) v (κ 1 t) = true then s 3 v + s 5 t else s 3 v) ∧ ∀ v, z_jc s κ t n 4 v = if v < n ∧ z_vi (κ (2 + t)) v (κ 1 t) = true then s 4 v + 1 else s 4 v
  | 0 => ⟨fun _ _ _ _ => rfl, fun v => by rw [if_neg (fun h => absurd h.1 (Nat.not_lt_zero v))]; rfl, fun v => by rw [if_neg (fun h => absurd h.1 (Nat.not_lt_zero v))]; rfl⟩
  | n + 1 => by
    obtain ⟨h1, h2, h3⟩ := r_jc s κ t n
    by_cases c : z_vi (κ (2 + t)) n (κ 1 t) = true
    · have e : z_jc s κ t (n + 1) = z_up (z_up (z_jc s κ t n) 3 n (z_jc s κ t n 3 n + z_jc s κ t n 5 t)) 4 n (z_jc s κ t n 4 n + 1) := by rw [z_jc, if_pos c]
      rw [e]
      refine ⟨fun r q a b => ?_, fun v => ?_, fun v => ?_⟩
      · rw [z_up_1 _ _ b, z_up_1 _ _ a]
        exact h1 r q a b
      · rw [z_up_1 _ _ (by decide)]
        by_cases ev : v = n
        · subst ev
          rw [z_up_s, h2 v, if_neg (fun h => absurd h.1 (Nat.lt_irrefl v)), h1 5 t (by decide) (by decide), if_pos ⟨by omega, c⟩]
        · rw [z_up_2 _ _ ev, h2 v]
          by_cases d : v < n ∧ z_vi (κ (2 + t)) v (κ 1 t) = true
          · rw [if_pos d, if_pos ⟨by omega, d.2⟩]
          · rw [if_neg d, if_neg (fun h => d ⟨by omega, h.2⟩)]
      · by_cases ev : v = n
        · subst ev
          rw [z_up_s, h3 v, if_neg (fun h => absurd h.1 (Nat.lt_irrefl v)), if_pos ⟨by omega, c⟩]
        · rw [z_up_2 _ _ ev, z_up_1 _ _ (by decide), h3 v]
          by_cases d : v < n ∧ z_vi (κ (2 + t)) v (κ 1 t) = true
          · rw [if_pos d, if_pos ⟨by omega, d.2⟩]
          · rw [if_neg d, if_neg (fun h => d ⟨by omega, h.2⟩)]
    · have e : z_jc s κ t (n + 1) = z_jc s κ t n := by rw [z_jc, if_neg c]
      rw [e]
      refine ⟨h1, fun v => ?_, fun v => ?_⟩
      · rw [h2 v]
        by_cases ev : v = n
        · subst ev
          rw [if_neg (fun h => absurd h.1 (Nat.lt_irrefl v)), if_neg (fun h => c h.2)]
        · by_cases d : v < n ∧ z_vi (κ (2 + t)) v (κ 1 t) = true
          · rw [if_pos d, if_pos ⟨by omega, d.2⟩]
          · rw [if_neg d, if_neg (fun h => d ⟨by omega, h.2⟩)]
      · rw [h3 v]
        by_cases ev : v = n
        · subst ev
          rw [if_neg (fun h => absurd h.1 (Nat.lt_irrefl v)), if_neg (fun h => c h.2)]
        · by_cases d : v < n ∧ z_vi (κ (2 + t)) v (κ 1 t) = true
          · rw [if_pos d, if_pos ⟨by omega, d.2⟩]
          · rw [if_neg d, if_neg (fun h => d ⟨by omega, h.2⟩)]
theorem r_cl (s : Nat → Nat → Int32) : ∀ n, (∀ r q, r ≠ 3 → r ≠ 4 → z_cl s n r q = s r q) ∧ (∀ v, z_cl s n 3 v = if v < n then 0 else s 3 v) ∧ ∀ v, z_cl s n 4 v = if v < n then 0 else s 4 v
  | 0 => ⟨fun _ _ _ _ => rfl, fun v => by rw [if_neg (Nat.not_lt_zero v)]; rfl, fun v => by rw [if_neg (Nat.not_lt_zero v)]; rfl⟩
  | n + 1 => by
    obtain ⟨h1, h2, h3⟩ := r_cl s n
    refine ⟨fun r q a b => ?_, fun v => ?_, fun v => ?_⟩
    · show z_up (z_up (z_cl s n) 3 n 0) 4 n 0 r q = _
      rw [z_up_1 _ _ b, z_up_1 _ _ a]
      exact h1 r q a b
    · show z_up (z_up (z_cl s n) 3 n 0) 4 n 0 3 v = _
      rw [z_up_1 _ _ (by decide)]
      by_cases ev : v = n
      · subst ev
        rw [z_up_s, if_pos (by omega)]
      · rw [z_up_2 _ _ ev, h2 v]
        by_cases d : v < n
        · rw [if_pos d, if_pos (by omega)]
        · rw [if_neg d, if_neg (by omega)]
    · show z_up (z_up (z_cl s n) 3 n 0) 4 n 0 4 v = _
      by_cases ev : v = n
      · subst ev
        rw [z_up_s, if_pos (by omega)]
      · rw [z_up_2 _ _ ev, z_up_1 _ _ (by decide), h3 v]
        by_cases d : v < n
        · rw [if_pos d, if_pos (by omega)]
        · rw [if_neg d, if_neg (by omega)]
theorem r_mns {s s' : Nat → Nat → Int32} (h : ∀ r q, 10 ≤ r → s r q = s' r q) (κ : Nat → Nat → Nat) (t : Nat) : z_mns s κ t = z_mns s' κ t := by
  unfold z_mns
  rw [show (fun a b => z_mb (s (10 + a) b)) = (fun a b => z_mb (s' (10 + a) b)) from funext fun a => funext fun b => by rw [h (10 + a) b (by omega)]]
/-- the share of tour t in valley v's crowd; in its visiting tours -/
def r_cf (σ : Nat → Nat → Int32) (κ : Nat → Nat → Nat) (v t : Nat) : Int32 := if z_vi (κ (2 + t)) v (κ 1 t) = true then (if z_gc (κ 1 t) (z_mns σ κ t) = 0 then 0 else σ 5 t) else 0
def r_vf (σ : Nat → Nat → Int32) (κ : Nat → Nat → Nat) (v t : Nat) : Int32 := if z_vi (κ (2 + t)) v (κ 1 t) = true then (if z_gc (κ 1 t) (z_mns σ κ t) = 0 then 0 else 1) else 0
theorem r_rk (σ : Nat → Nat → Int32) (κ : Nat → Nat → Nat) : ∀ n, (∀ r q, r ≠ 3 → r ≠ 4 → r ≠ 6 → z_rk σ κ n r q = σ r q) ∧ (∀ t, z_rk σ κ n 6 t = if t < n then z_mns σ κ t else σ 6 t) ∧ (∀ v, z_rk σ κ n 3 v = if v < κ 0 0 then z_sm (r_cf σ κ v) n else σ 3 v) ∧ ∀ v, z_rk σ κ n 4 v = if v < κ 0 0 then z_sm (r_vf σ κ v) n else σ 4 v
  | 0 => by
    obtain ⟨h1, h2, h3⟩ := r_cl σ (κ 0 0)
    exact ⟨fun r q a b _ => h1 r q a b, fun t => by rw [if_neg (Nat.not_lt_zero t)]; exact h1 6 t (by decide) (by decide), h2, h3⟩
  | n + 1 => by
    obtain ⟨h1, h2, h3, h4⟩ := r_rk σ κ n
    have em : z_mns (z_rk σ κ n) κ n = z_mns σ κ n := r_mns (fun r q hr => h1 r q (by omega) (by omega) (by omega)) κ n
    have es : z_ms (z_rk σ κ n) κ n = z_up (z_rk σ κ n) 6 n (z_mns σ κ n) := by rw [z_ms, em]
    have e6 : z_ms (z_rk σ κ n) κ n 6 n = z_mns σ κ n := by rw [es, z_up_s]
    have g1 : ∀ r q, r ≠ 3 → r ≠ 4 → r ≠ 6 → z_ms (z_rk σ κ n) κ n r q = σ r q := fun r q a b c => by rw [es, z_up_1 _ _ c]; exact h1 r q a b c
    have g2 : ∀ t, z_ms (z_rk σ κ n) κ n 6 t = if t < n + 1 then z_mns σ κ t else σ 6 t := fun t => by
      rw [es]
      by_cases e : t = n
      · subst e
        rw [z_up_s, if_pos (by omega)]
      · rw [z_up_2 _ _ e, h2 t]
        by_cases d : t < n
        · rw [if_pos d, if_pos (by omega)]
        · rw [if_neg d, if_neg (by omega)]
    have g3 : ∀ v, z_ms (z_rk σ κ n) κ n 3 v = if v < κ 0 0 then z_sm (r_cf σ κ v) n else σ 3 v := fun v => by rw [es, z_up_1 _ _ (by decide)]; exact h3 v
    have g4 : ∀ v, z_ms (z_rk σ κ n) κ n 4 v = if v < κ 0 0 then z_sm (r_vf σ κ v) n else σ 4 v := fun v => by rw [es, z_up_1 _ _ (by decide)]; exact h4 v
    have g5 : z_ms (z_rk σ κ n) κ n 5 n = σ 5 n := g1 5 n (by decide) (by decide) (by decide)
    rw [z_rk, e6]
    by_cases c : z_gc (κ 1 n) (z_mns σ κ n) = 0
    · rw [if_pos c]
      refine ⟨g1, g2, fun v => ?_, fun v => ?_⟩
      · rw [g3 v]
        have : r_cf σ κ v n = 0 := by unfold r_cf; split <;> simp [c]
        rw [show z_sm (r_cf σ κ v) (n + 1) = z_sm (r_cf σ κ v) n + r_cf σ κ v n from rfl, this, Int32.add_zero]
      · rw [g4 v]
        have : r_vf σ κ v n = 0 := by unfold r_vf; split <;> simp [c]
        rw [show z_sm (r_vf σ κ v) (n + 1) = z_sm (r_vf σ κ v) n + r_vf σ κ v n from rfl, this, Int32.add_zero]
    · rw [if_neg c]
      obtain ⟨j1, j2, j3⟩ := r_jc (z_ms (z_rk σ κ n) κ n) κ n (κ 0 0)
      refine ⟨fun r q a b d => (j1 r q a b).trans (g1 r q a b d), fun t => (j1 6 t (by decide) (by decide)).trans (g2 t), fun v => ?_, fun v => ?_⟩
      · rw [j2 v, g3 v, g5, show z_sm (r_cf σ κ v) (n + 1) = z_sm (r_cf σ κ v) n + r_cf σ κ v n from rfl]
        by_cases d : v < κ 0 0
        · by_cases q : z_vi (κ (2 + n)) v (κ 1 n) = true
          · rw [if_pos ⟨d, q⟩, if_pos d, if_pos d, show r_cf σ κ v n = σ 5 n by unfold r_cf; rw [if_pos q, if_neg c]]
          · rw [if_neg (fun h => q h.2), if_pos d, if_pos d, show r_cf σ κ v n = 0 by unfold r_cf; rw [if_neg q], Int32.add_zero]
        · rw [if_neg (fun h => d h.1), if_neg d, if_neg d]
      · rw [j3 v, g4 v, show z_sm (r_vf σ κ v) (n + 1) = z_sm (r_vf σ κ v) n + r_vf σ κ v n from rfl]
        by_cases d : v < κ 0 0
        · by_cases q : z_vi (κ (2 + n)) v (κ 1 n) = true
          · rw [if_pos ⟨d, q⟩, if_pos d, if_pos d, show r_vf σ κ v n = 1 by unfold r_vf; rw [if_pos q, if_neg c]]
          · rw [if_neg (fun h => q h.2), if_pos d, if_pos d, show r_vf σ κ v n = 0 by unfold r_vf; rw [if_neg q], Int32.add_zero]
        · rw [if_neg (fun h => d h.1), if_neg d, if_neg d]
