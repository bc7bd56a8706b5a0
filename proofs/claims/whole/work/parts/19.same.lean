/-! Part 19: where lists, ways and reckonings are tied, all that is told is the same. -/
def r_R (E : Nat → Nat → Nat) (σ : Nat → Nat → Int32) (κ : Nat → Nat → Nat) (μ : Nat → Nat → Int32) (ν : Nat → Nat → Nat) (T : Nat) : Prop := r_C E σ κ μ ν ∧ r_K σ κ ∧ r_D σ μ T
theorem r_ninety {n : Int32} (h : ¬ z_wi n 0 90 = 0) : ∃ k : Nat, k ≤ 90 ∧ n = nI k := by
  unfold z_wi at h
  by_cases a : n < 0
  · rw [if_pos a] at h
    exact absurd rfl h
  · rw [if_neg a] at h
    by_cases b : 90 < n
    · rw [if_pos b] at h
      exact absurd rfl h
    · obtain ⟨k, hk, rfl⟩ := nI_of a
      refine ⟨k, ?_, rfl⟩
      rcases Nat.lt_or_ge 90 k with q | q
      · exact absurd (show (90 : Int32) < nI k from nI_lt (a := 90) q hk) b
      · exact q
theorem r_sub1 (x d : Int32) : x - 1 - d + 1 = x - d := by
  first
    | grind
    | (rw [Int32.sub_eq_add_neg, Int32.sub_eq_add_neg, Int32.sub_eq_add_neg]; simp [Int32.add_assoc, Int32.add_comm, Int32.add_left_comm])
theorem r_bl {f n d : Int32} (hn : ¬ z_wi n 1 30 = 0) : z_bl f n d = y_bl f n d := by
  obtain ⟨k, k1, k2, rfl⟩ := r_half hn
  have hp : 0 < (nI k + 1) / 2 := by
    have : ∀ k : Fin 31, 1 ≤ k.val → 0 < (nI k.val + 1) / 2 := by decide +kernel
    exact this ⟨k, by omega⟩ k1
  unfold z_bl y_bl z_wi
  by_cases a : d < f
  · simp [a]
  · by_cases b : f + nI k - 1 < d
    · simp [a, b]
    · simp only [a, b, if_false, hp, if_true, r_sub1]
      rfl
section RR
variable {E : Nat → Nat → Nat} {σ μ : Nat → Nat → Int32} {κ ν : Nat → Nat → Nat} {T : Nat}
theorem r_blv (h : r_C E σ κ μ ν) {v : Nat} (hv : v < κ 0 0) (d : Int32) : z_bl (σ 0 v) (σ 1 v) d = y_bl (μ 0 v) (μ 1 v) d := by
  obtain ⟨-, ⟨s0, s1, -, -, -⟩, hz, -, -⟩ := h
  rw [← s0, ← s1]
  exact r_bl (hz v hv).2
theorem r_g6 (h : r_C E σ κ μ ν) (hk : r_K σ κ) {t : Nat} (ht : t < κ 0 1) : z_gc (κ 1 t) (σ 6 t) = y_go μ ν t := by
  have hm := (r_wf h).2.1
  rw [hk.1 t, if_pos ht]
  exact r_go h (by omega)
theorem r_s6 (h : r_C E σ κ μ ν) (hk : r_K σ κ) {t : Nat} (ht : t < κ 0 1) : σ 6 t = y_mns μ ν t := by
  have hm := (r_wf h).2.1
  rw [hk.1 t, if_pos ht]
  exact r_mn h (by omega)
theorem r_s3 (h : r_C E σ κ μ ν) (hk : r_K σ κ) {v : Nat} (hv : v < κ 0 0) : σ 3 v = y_cr μ ν v := by
  rw [hk.2.1 v, if_pos hv]
  exact r_cr h v
theorem r_s4 (h : r_C E σ κ μ ν) (hk : r_K σ κ) {v : Nat} (hv : v < κ 0 0) : σ 4 v = z_sm (y_vf μ ν v) (ν 0 1) := by
  rw [hk.2.2 v, if_pos hv]
  exact r_vt h v
theorem r_list (h : r_C E σ κ μ ν) {t : Nat} (ht : t < 6) (g : Nat → Int32) : z_sm (fun v => if z_vi (κ (2 + t)) v (κ 1 t) = true then g v else 0) (κ 0 0) = z_sm (fun k => g (κ (2 + t) k)) (κ 1 t) := by
  obtain ⟨⟨-, -, -, -, h4, h5, -⟩, -⟩ := h
  exact r_sum _ (fun k hk => h4 t k ht hk) (fun j k hj hk e => h5 t j k ht hj hk e)
theorem r_joy (h : r_C E σ κ μ ν) (hk : r_K σ κ) {t : Nat} (ht : t < κ 0 1) (d : Int32) : z_joy σ κ t d = y_joy μ ν t d := by
  have hm := (r_wf h).2.1
  unfold z_joy y_joy
  rw [r_g6 h hk ht]
  by_cases c : y_go μ ν t = 0
  · rw [if_pos c, if_pos c]
  · rw [if_neg c, if_neg c]
    have e : z_sm (z_jf σ κ t d) (κ 0 0) = _ := r_list h (show t < 6 by omega) (fun v => if 0 < z_bl (σ 0 v) (σ 1 v) d - σ 3 v / 10 then z_bl (σ 0 v) (σ 1 v) d - σ 3 v / 10 else 0)
    rw [e]
    have e3 := h.1.1.2.2.1 t (by omega)
    rw [← e3]
    refine r_sm_congr _ (fun k hk' => ?_)
    have e4 := h.1.1.2.2.2 t k (by omega) hk'
    have hs := h.1.2.2.2.2.1 t k (by omega) hk'
    unfold y_jf
    try dsimp only
    rw [← e4, r_blv h hs d, r_s3 h hk hs]
theorem r_stg (h : r_C E σ κ μ ν) (hk : r_K σ κ) {t : Nat} (ht : t < κ 0 1) (d : Int32) : z_stg σ κ t d = y_stg μ ν t d := by
  have hm := (r_wf h).2.1
  unfold z_stg y_stg
  rw [r_g6 h hk ht]
  by_cases c : y_go μ ν t = 0
  · rw [if_pos c, if_pos c]
  · rw [if_neg c, if_neg c]
    have e : z_sm (z_gf σ κ t d) (κ 0 0) = _ := r_list h (show t < 6 by omega) (fun v => σ 5 t * σ 2 v * z_bl (σ 0 v) (σ 1 v) d / 5000)
    rw [e]
    have e3 := h.1.1.2.2.1 t (by omega)
    rw [← e3]
    refine r_sm_congr _ (fun k hk' => ?_)
    have e4 := h.1.1.2.2.2 t k (by omega) hk'
    have hs := h.1.2.2.2.2.1 t k (by omega) hk'
    have s2 := h.2.1.2.2.1
    have s5 := h.2.1.2.2.2.1
    unfold y_gf
    try dsimp only
    rw [← e4, r_blv h hs d, s2, s5]
theorem r_tld (h : r_R E σ κ μ ν T) {t : Nat} (ht : t < κ 0 1) : ∀ w, z_tld σ κ t w = y_tld μ ν t w := by
  obtain ⟨hc, hk, hd⟩ := h
  have hm := (r_wf hc).2.1
  intro w
  match w with
  | 0 => exact congrFun hc.2.1.2.2.2.1 t
  | 1 => exact congrArg nI (hc.1.1.2.2.1 t (by omega))
  | 2 => exact r_s6 hc hk ht
  | 3 =>
    show (if z_gc (κ 1 t) (σ 6 t) = 0 then (0 : Int32) else 1) = if y_go μ ν t = 0 then 0 else 1
    rw [r_g6 hc hk ht]
  | 4 =>
    show z_joy σ κ t (σ 8 1) = y_joy μ ν t (μ 9 0)
    rw [hd.1, hd.2.1]
    exact r_joy hc hk ht _
  | w + 5 =>
    show z_stg σ κ t (σ 8 1) = y_stg μ ν t (μ 9 0)
    rw [hd.1, hd.2.1]
    exact r_stg hc hk ht _
theorem r_abt (h : r_R E σ κ μ ν T) {v : Nat} (hv : v < κ 0 0) : ∀ w, z_abt σ v w = y_abt μ ν v w := by
  obtain ⟨hc, hk, hd⟩ := h
  intro w
  match w with
  | 0 => exact congrFun hc.2.1.1 v
  | 1 => exact congrFun hc.2.1.2.1 v
  | 2 => exact congrFun hc.2.1.2.2.1 v
  | 3 =>
    show z_bl (σ 0 v) (σ 1 v) (σ 8 1) = y_bl (μ 0 v) (μ 1 v) (μ 9 0)
    rw [hd.1, hd.2.1]
    exact r_blv hc hv _
  | 4 => exact r_s3 hc hk hv
  | w + 5 => exact r_s4 hc hk hv
theorem r_cnt (h : r_R E σ κ μ ν T) : ∀ w, z_cnt σ κ w = y_cnt μ ν w := by
  obtain ⟨hc, hk, hd⟩ := h
  have e1 := hc.1.1.1
  have e2 := hc.1.1.2.1
  intro w
  match w with
  | 0 => exact hd.1.trans hd.2.1.symm
  | 1 => exact congrArg nI e1
  | 2 =>
    obtain ⟨R, -, q1, q2⟩ := hc.2.2.2.2
    exact q1.trans q2.symm
  | 3 => exact congrArg nI e2
  | 4 =>
    show z_sm (z_gn σ κ) (κ 0 1) = z_sm (y_gn μ ν) (ν 0 1)
    rw [← e2]
    refine r_sm_congr _ (fun t ht => ?_)
    unfold z_gn y_gn
    rw [r_g6 hc hk ht]
  | 5 =>
    show z_sm (z_bn σ (σ 8 1)) (κ 0 0) = z_sm (y_bn μ (μ 9 0)) (ν 0 0)
    rw [← e1, hd.1, hd.2.1]
    refine r_sm_congr _ (fun v hv => ?_)
    unfold z_bn y_bn
    rw [r_blv hc hv]
  | 6 => exact hd.2.2.1
  | 7 => exact hd.2.2.2.1
  | w + 8 => exact hd.2.2.2.2
theorem r_mx {f g : Nat → Int32} {d : Int64} : ∀ n, (∀ i, i < n → f i = g i) → z_mx f d n = z_mx g d n
  | 0, _ => rfl
  | n + 1, h => by rw [z_mx, z_mx, r_mx n (fun i hi => h i (by omega)), h n (by omega)]
theorem r_my {f g : Int64 → Nat → Int64} {d : Int64} : ∀ n, (∀ d i, i < n → f d i = g d i) → z_my f d n = z_my g d n
  | 0, _ => rfl
  | n + 1, h => by rw [z_my, z_my, r_my n (fun d i hi => h d i (by omega)), h _ n (by omega)]
theorem r_dg (h : r_R E σ κ μ ν T) : z_dg σ κ = y_dg μ ν := by
  have hw := r_wf h.1
  have h8 := hw.1
  have h6 := hw.2.1
  have e1 := h.1.1.1.1
  have e2 := h.1.1.1.2.1
  unfold z_dg y_dg
  rw [r_mx 9 (fun i _ => r_cnt h i), h.1.2.1.2.2.2.2, ← e1, ← e2]
  rw [r_my (f := z_mv σ κ) (g := y_mv μ ν) (κ 0 0) (fun d v hv => by
    unfold z_mv y_mv
    rw [← e1, r_mx 6 (fun i _ => r_abt h hv i)]
    exact r_mx _ (fun u hu => r_W h.1 (by omega) (by omega)))]
  refine r_my _ (fun d t ht => ?_)
  have ht6 : t < 6 := by omega
  unfold z_mtr y_mtr
  rw [← h.1.1.1.2.2.1 t ht6, r_mx 6 (fun i _ => r_tld h ht i)]
  exact r_mx _ (fun k hk => congrArg nI (h.1.1.1.2.2.2 t k ht6 hk))
theorem r_bs (h : r_R E σ κ μ ν T) {t : Nat} (ht : t < κ 0 1) : ∀ n, z_bs σ κ t T n = y_bs μ ν t T n
  | 0 => rfl
  | n + 1 => by
    rw [z_bs, y_bs, r_bs h ht n, r_joy h.1 h.2.1 ht]
    by_cases c : y_joy μ ν t (nI (T + n)) ≤ (y_bs μ ν t T n).2
    · rw [if_pos c, if_neg (Int32.not_lt.mpr c)]
    · rw [if_neg c, if_pos (Int32.not_le.mp c)]
theorem r_me (h : r_R E σ κ μ ν T) : z_me σ κ = y_me μ ν := by
  have hw := r_wf h.1
  have h8 := hw.1
  have h6 := hw.2.1
  have e1 := h.1.1.1.1
  unfold z_me y_me
  rw [← e1]
  have es : z_sm (fun v => z_bl (σ 0 v) (σ 1 v) (σ 8 1)) (κ 0 0) = z_sm (fun v => y_bl (μ 0 v) (μ 1 v) (μ 9 0)) (κ 0 0) := r_sm_congr _ (fun v hv => by rw [h.2.2.1, h.2.2.2.1]; exact r_blv h.1 hv _)
  rw [es]
  rcases Nat.eq_zero_or_pos (κ 0 0) with c | c
  · rw [c, if_neg (by decide), if_neg (by decide)]
  · have a1 : 0 < nI (κ 0 0) := nI_lt (a := 0) c (by omega)
    rw [if_pos a1, if_pos (nI_ne0 c (by omega))]
theorem r_fc (h : r_C E σ κ μ ν) (hk : r_K σ κ) {t : Nat} (ht : t < κ 0 1) (d : Nat) : z_fc σ κ d t = y_fc μ ν d t ∧ z_fj σ κ d t = y_fj μ ν d t ∧ z_fs σ κ d t = y_fs μ ν d t := by
  have s5 := h.2.1.2.2.2.1
  have s7 := h.2.1.2.2.2.2
  unfold z_fc y_fc z_fj y_fj z_fs y_fs
  rw [r_g6 h hk ht, r_joy h hk ht, r_stg h hk ht, s5, s7]
  exact ⟨rfl, rfl, rfl⟩
theorem r_dd {f g : Nat → Nat → Int32} {T nt : Nat} : ∀ n, (∀ d t, t < nt → f d t = g d t) → z_dd f T nt n = z_dd g T nt n
  | 0, _ => rfl
  | n + 1, h => by rw [z_dd, z_dd, r_dd n h, r_sm_congr nt (fun t ht => h (T + n) t ht)]
end RR
/-- another row of numbers -/
def r_o9 (s : Nat → Nat → Int32) (x : Nat → Int32) : Nat → Nat → Int32 := fun r q => if r = 9 then x q else s r q
theorem r_o9_eq {s' s : Nat → Nat → Int32} (h : ∀ i j, i ≠ 9 → s' i j = s i j) : s' = r_o9 s (s' 9) := by
  funext r q
  unfold r_o9
  by_cases e : r = 9
  · subst e
    rw [if_pos rfl]
  · rw [if_neg e]
    exact h r q e
theorem r_o9_f (s : Nat → Nat → Int32) (x : Nat → Int32) (ν : Nat → Nat → Nat) (d t : Nat) : y_fc (r_o9 s x) ν d t = y_fc s ν d t ∧ y_fj (r_o9 s x) ν d t = y_fj s ν d t ∧ y_fs (r_o9 s x) ν d t = y_fs s ν d t := ⟨rfl, rfl, rfl⟩
theorem r_dnf (μ : Nat → Nat → Int32) (ν : Nat → Nat → Nat) (T n d t : Nat) : y_fc (y_dn μ ν T n) ν d t = y_fc μ ν d t ∧ y_fj (y_dn μ ν T n) ν d t = y_fj μ ν d t ∧ y_fs (y_dn μ ν T n) ν d t = y_fs μ ν d t := by
  have e := r_o9_eq (s' := y_dn μ ν T n) (s := μ) (fun i j hi => y_dn_o μ ν T hi n)
  rw [e]
  exact r_o9_f _ _ _ _ _
theorem r_dn (μ : Nat → Nat → Int32) (ν : Nat → Nat → Nat) (T : Nat) : ∀ n, y_dn μ ν T n 9 1 = μ 9 1 + z_dd (y_fc μ ν) T (ν 0 1) n ∧ y_dn μ ν T n 9 2 = μ 9 2 + z_dd (y_fj μ ν) T (ν 0 1) n ∧ y_dn μ ν T n 9 3 = μ 9 3 + z_dd (y_fs μ ν) T (ν 0 1) n
  | 0 => ⟨(Int32.add_zero _).symm, (Int32.add_zero _).symm, (Int32.add_zero _).symm⟩
  | n + 1 => by
    obtain ⟨h1, h2, h3⟩ := r_dn μ ν T n
    have f := r_dnf μ ν T n (T + n)
    refine ⟨?_, ?_, ?_⟩
    · show y_dn μ ν T n 9 1 + z_sm (y_fc (y_dn μ ν T n) ν (T + n)) (ν 0 1) = _
      rw [h1, r_sm_congr (g := y_fc μ ν (T + n)) _ (fun t _ => (f t).1), Int32.add_assoc]
      rfl
    · show y_dn μ ν T n 9 2 + z_sm (y_fj (y_dn μ ν T n) ν (T + n)) (ν 0 1) = _
      rw [h2, r_sm_congr (g := y_fj μ ν (T + n)) _ (fun t _ => (f t).2.1), Int32.add_assoc]
      rfl
    · show y_dn μ ν T n 9 3 + z_sm (y_fs (y_dn μ ν T n) ν (T + n)) (ν 0 1) = _
      rw [h3, r_sm_congr (g := y_fs μ ν (T + n)) _ (fun t _ => (f t).2.2), Int32.add_assoc]
      rfl
