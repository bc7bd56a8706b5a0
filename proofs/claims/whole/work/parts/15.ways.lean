/-! Part 15: shortest ways: what a new road does to them; the class's net and the reference's table both come to that. -/
def m_cn (f : Nat → Nat) : Nat → Nat
  | 0 => 0
  | n + 1 => m_cn f n + (if f n < 1000000 then 1 else 0)
theorem m_cn_le (f : Nat → Nat) : ∀ n, m_cn f n ≤ n
  | 0 => Nat.le_refl _
  | n + 1 => by
    have h := m_cn_le f n
    rw [m_cn]
    split <;> omega
theorem m_cn_mono {f g : Nat → Nat} : ∀ n, (∀ x, x < n → f x < 1000000 → g x < 1000000) → m_cn f n ≤ m_cn g n
  | 0, _ => Nat.le_refl _
  | n + 1, h => by
    have h1 := m_cn_mono n (fun x hx => h x (by omega))
    have h2 := h n (by omega)
    rw [m_cn, m_cn]
    split
    · rename_i q
      rw [if_pos (h2 q)]
      omega
    · omega
theorem m_cn_add {f g k : Nat → Nat} : ∀ n, (∀ x, x < n → ¬ (f x < 1000000 ∧ g x < 1000000) ∧ (f x < 1000000 → k x < 1000000) ∧ (g x < 1000000 → k x < 1000000)) → m_cn f n + m_cn g n ≤ m_cn k n
  | 0, _ => Nat.le_refl _
  | n + 1, h => by
    have h1 := m_cn_add n (fun x hx => h x (by omega))
    obtain ⟨h2, h3, h4⟩ := h n (by omega)
    rw [m_cn, m_cn, m_cn]
    by_cases a : f n < 1000000
    · have b : ¬ g n < 1000000 := fun b => h2 ⟨a, b⟩
      rw [if_pos a, if_neg b, if_pos (h3 a)]
      omega
    · by_cases b : g n < 1000000
      · rw [if_neg a, if_pos b, if_pos (h4 b)]
        omega
      · rw [if_neg a, if_neg b]
        omega
/-- what holds of shortest ways among 8 valleys -/
def m_Me (E : Nat → Nat → Nat) : Prop := (∀ i, i < 8 → E i i = 0) ∧ (∀ i j, i < 8 → j < 8 → E i j = E j i) ∧ (∀ i j k, i < 8 → j < 8 → k < 8 → E i j ≤ E i k + E k j) ∧ (∀ i j, i < 8 → j < 8 → E i j ≤ 1000000) ∧ ∀ i j, i < 8 → j < 8 → E i j < 1000000 → E i j + 240 ≤ 240 * m_cn (E i) 8
theorem m_Me_far {E : Nat → Nat → Nat} (h : m_Me E) {i j : Nat} (hi : i < 8) (hj : j < 8) (hf : E i j < 1000000) : E i j ≤ 1680 := by
  have h1 := h.2.2.2.2 i j hi hj hf
  have h2 := m_cn_le (E i) 8
  omega
/-- the ways behind a new road -/
def m_N (E : Nat → Nat → Nat) (a b m : Nat) (i j : Nat) : Nat := min (E i j) (min (E i a + m + E b j) (E i b + m + E a j))
theorem m_N_comm (E : Nat → Nat → Nat) (a b m : Nat) : m_N E a b m = m_N E b a m := by
  funext i j
  unfold m_N
  omega
theorem m_N_B {E : Nat → Nat → Nat} (h : m_Me E) {a b m : Nat} (ha : a < 8) (hb : b < 8) (hm2 : m ≤ 240) {i j : Nat} (hi : i < 8) (hj : j < 8) (hE : ¬ E i j < 1000000) (hN : E i a + m + E b j < 1000000) : E i a + m + E b j + 240 ≤ 240 * m_cn (m_N E a b m i) 8 := by
  obtain ⟨h1, h2, h3, h4, h5⟩ := h
  have f1 : E i a < 1000000 := by omega
  have f2 : E b j < 1000000 := by omega
  have s2 := h2 b j hb hj
  have g1 := h5 i a hi ha f1
  have g2 := h5 j b hj hb (by omega)
  have g3 : m_cn (E i) 8 + m_cn (E j) 8 ≤ m_cn (m_N E a b m i) 8 := m_cn_add 8 (fun x hx => by
    refine ⟨fun ⟨q1, q2⟩ => ?_, fun q => ?_, fun q => ?_⟩
    · have b1 := m_Me_far ⟨h1, h2, h3, h4, h5⟩ hi hx q1
      have b2 := m_Me_far ⟨h1, h2, h3, h4, h5⟩ hj hx q2
      have t := h3 i j x hi hj hx
      have s := h2 x j hx hj
      omega
    · unfold m_N
      omega
    · have b1 := m_Me_far ⟨h1, h2, h3, h4, h5⟩ hi ha f1
      have b2 := m_Me_far ⟨h1, h2, h3, h4, h5⟩ hb hj f2
      have b3 := m_Me_far ⟨h1, h2, h3, h4, h5⟩ hj hx q
      have t := h3 b x j hb hx hj
      unfold m_N
      omega)
  omega
theorem m_N_me {E : Nat → Nat → Nat} (h : m_Me E) {a b m : Nat} (ha : a < 8) (hb : b < 8) (hm2 : m ≤ 240) : m_Me (m_N E a b m) := by
  have h' := h
  obtain ⟨h1, h2, h3, h4, h5⟩ := h
  refine ⟨fun i hi => ?_, fun i j hi hj => ?_, fun i j k hi hj hk => ?_, fun i j hi hj => ?_, fun i j hi hj hN => ?_⟩
  · have := h1 i hi
    unfold m_N
    omega
  · have e1 := h2 i j hi hj
    have e2 := h2 i a hi ha
    have e3 := h2 b j hb hj
    have e4 := h2 i b hi hb
    have e5 := h2 a j ha hj
    unfold m_N
    omega
  · have s1 := h2 k a hk ha
    have s2 := h2 k b hk hb
    have t1 := h3 i j k hi hj hk
    have t2 := h3 i j a hi hj ha
    have t3 := h3 i j b hi hj hb
    have t4 := h3 b j k hb hj hk
    have t5 := h3 a j k ha hj hk
    have t6 := h3 i a k hi ha hk
    have t7 := h3 i b k hi hb hk
    unfold m_N
    omega
  · have := h4 i j hi hj
    unfold m_N
    omega
  · by_cases hE : E i j < 1000000
    · have g1 := h5 i j hi hj hE
      have g2 : m_cn (E i) 8 ≤ m_cn (m_N E a b m i) 8 := m_cn_mono 8 (fun x _ q => by unfold m_N; omega)
      have g3 : m_N E a b m i j ≤ E i j := by unfold m_N; omega
      omega
    · by_cases c : E i a + m + E b j ≤ E i b + m + E a j
      · have e : m_N E a b m i j = E i a + m + E b j := by
          have := h4 i j hi hj
          unfold m_N at hN ⊢
          omega
        rw [e] at hN ⊢
        exact m_N_B h' ha hb hm2 hi hj hE hN
      · have e : m_N E b a m i j = E i b + m + E a j := by
          have := h4 i j hi hj
          rw [m_N_comm] at hN
          unfold m_N at hN ⊢
          omega
        rw [m_N_comm] at hN ⊢
        rw [e] at hN ⊢
        exact m_N_B h' hb ha hm2 hi hj hE hN
/-- a way by the new road is no shorter than the new ways -/
theorem m_N_via {E : Nat → Nat → Nat} (h : m_Me E) {a b m : Nat} (ha : a < 8) (hb : b < 8) (hm2 : m ≤ 240) {i j : Nat} (hi : i < 8) (hj : j < 8) : m_N E a b m i j ≤ m_N E a b m i a + m + m_N E a b m b j ∧ m_N E a b m i j ≤ m_N E a b m i b + m + m_N E a b m a j := by
  have hN := m_N_me h ha hb hm2
  have n1 : m_N E a b m a b ≤ m := by
    have e1 := h.1 a ha
    have e2 := h.1 b hb
    unfold m_N
    omega
  have n2 := hN.2.1 a b ha hb
  have t1 := hN.2.2.1 i j a hi hj ha
  have t2 := hN.2.2.1 a j b ha hj hb
  have t3 := hN.2.2.1 i j b hi hj hb
  have t4 := hN.2.2.1 b j a hb hj ha
  omega
theorem z_mi_nI {x y : Nat} (hx : x < 2 ^ 31) (hy : y < 2 ^ 31) : z_mi (nI x) (nI y) = nI (min x y) := by
  unfold z_mi
  by_cases h : y < x
  · rw [if_pos (nI_lt h hx), show min x y = y by omega]
  · rw [if_neg (nI_nlt (by omega) hy), show min x y = x by omega]
/-- one row of the class's net, in place -/
theorem z_l1_ok {E : Nat → Nat → Nat} (hE : m_Me E) {a b m : Nat} (ha : a < 8) (hb : b < 8) (hm2 : m ≤ 240) {u : Nat → Nat → Int32} {X : Nat → Nat → Nat} (hX : ∀ p q, p < 8 → q < 8 → u (10 + p) q = nI (X p q)) (hlo : ∀ p q, p < 8 → q < 8 → m_N E a b m p q ≤ X p q) (hup : ∀ p q, p < 8 → q < 8 → X p q ≤ E p q) {i : Nat} (hi : i < 8) :
    ∀ j, j ≤ 8 → ∃ Y : Nat → Nat → Nat, (∀ p q, p < 8 → q < 8 → z_l1 u i a b (nI m) j (10 + p) q = nI (Y p q)) ∧ (∀ p q, p < 8 → q < 8 → m_N E a b m p q ≤ Y p q) ∧ (∀ p q, p < 8 → q < 8 → Y p q ≤ E p q) ∧ (∀ q, q < j → Y i q ≤ m_N E a b m i q) ∧ ∀ p q, p ≠ i → Y p q = X p q
  | 0, _ => ⟨X, hX, hlo, hup, fun q hq => absurd hq (by omega), fun _ _ _ => rfl⟩
  | j + 1, hj => by
    obtain ⟨Y, y1, y2, y3, y4, y5⟩ := z_l1_ok hE ha hb hm2 hX hlo hup hi j (by omega)
    have hj8 : j < 8 := by omega
    have u1 := hE.2.2.2.1 i j hi hj8
    have u2 := hE.2.2.2.1 i a hi ha
    have u3 := hE.2.2.2.1 b j hb hj8
    have u4 := hE.2.2.2.1 i b hi hb
    have u5 := hE.2.2.2.1 a j ha hj8
    have v1 := y3 i j hi hj8
    have v2 := y3 i a hi ha
    have v3 := y3 b j hb hj8
    have v4 := y3 i b hi hb
    have v5 := y3 a j ha hj8
    have w1 := y2 i j hi hj8
    have w2 := y2 i a hi ha
    have w3 := y2 b j hb hj8
    have w4 := y2 i b hi hb
    have w5 := y2 a j ha hj8
    obtain ⟨x1, x2⟩ := m_N_via hE ha hb hm2 hi hj8
    have val : z_mi (z_l1 u i a b (nI m) j (10 + i) j) (z_mi (z_l1 u i a b (nI m) j (10 + i) a + nI m + z_l1 u i a b (nI m) j (10 + b) j) (z_l1 u i a b (nI m) j (10 + i) b + nI m + z_l1 u i a b (nI m) j (10 + a) j)) = nI (min (Y i j) (min (Y i a + m + Y b j) (Y i b + m + Y a j))) := by
      rw [y1 i j hi hj8, y1 i a hi ha, y1 b j hb hj8, y1 i b hi hb, y1 a j ha hj8, nI_add, nI_add, nI_add, nI_add, z_mi_nI (by omega) (by omega), z_mi_nI (by omega) (by omega)]
    refine ⟨fun p q => if p = i ∧ q = j then min (Y i j) (min (Y i a + m + Y b j) (Y i b + m + Y a j)) else Y p q, fun p q hp hq => ?_, fun p q hp hq => ?_, fun p q hp hq => ?_, fun q hq => ?_, fun p q hp => ?_⟩
    · rw [z_l1, val]
      by_cases e : p = i ∧ q = j
      · obtain ⟨rfl, rfl⟩ := e
        rw [z_up_s]
        dsimp only
        rw [if_pos ⟨rfl, rfl⟩]
      · dsimp only
        rw [if_neg e]
        show (if 10 + p = 10 + i ∧ q = j then _ else z_l1 u i a b (nI m) j (10 + p) q) = _
        rw [if_neg (fun h => e ⟨by omega, h.2⟩)]
        exact y1 p q hp hq
    · dsimp only
      split
      · rename_i e
        obtain ⟨rfl, rfl⟩ := e
        omega
      · exact y2 p q hp hq
    · dsimp only
      split
      · rename_i e
        obtain ⟨rfl, rfl⟩ := e
        omega
      · exact y3 p q hp hq
    · dsimp only
      by_cases e : q = j
      · subst e
        rw [if_pos ⟨rfl, rfl⟩]
        unfold m_N
        omega
      · rw [if_neg (fun h => e h.2)]
        exact y4 q (by omega)
    · dsimp only
      rw [if_neg (fun h => hp h.1)]
      exact y5 p q hp
theorem z_l1_o (u : Nat → Nat → Int32) (i a b : Nat) (mi : Int32) {r q : Nat} (h : r ≠ 10 + i) : ∀ j, z_l1 u i a b mi j r q = u r q
  | 0 => rfl
  | j + 1 => by
    rw [z_l1, z_up_1 _ _ h]
    exact z_l1_o u i a b mi h j
theorem z_l2_o (u : Nat → Nat → Int32) (a b : Nat) (mi : Int32) {r q : Nat} (h : r < 10) : ∀ i, z_l2 u a b mi i r q = u r q
  | 0 => rfl
  | i + 1 => by
    rw [z_l2, z_l1_o _ _ _ _ _ (by omega)]
    exact z_l2_o u a b mi h i
theorem z_l2_ok {E : Nat → Nat → Nat} (hE : m_Me E) {a b m : Nat} (ha : a < 8) (hb : b < 8) (hm2 : m ≤ 240) {u : Nat → Nat → Int32} (hX : ∀ p q, p < 8 → q < 8 → u (10 + p) q = nI (E p q)) :
    ∀ i, i ≤ 8 → ∃ Y : Nat → Nat → Nat, (∀ p q, p < 8 → q < 8 → z_l2 u a b (nI m) i (10 + p) q = nI (Y p q)) ∧ (∀ p q, p < 8 → q < 8 → m_N E a b m p q ≤ Y p q) ∧ (∀ p q, p < 8 → q < 8 → Y p q ≤ E p q) ∧ ∀ p q, p < i → q < 8 → Y p q ≤ m_N E a b m p q
  | 0, _ => ⟨E, hX, fun p q _ _ => by unfold m_N; omega, fun _ _ _ _ => Nat.le_refl _, fun p q hp => absurd hp (by omega)⟩
  | i + 1, h => by
    obtain ⟨X, x1, x2, x3, x4⟩ := z_l2_ok hE ha hb hm2 hX i (by omega)
    obtain ⟨Y, y1, y2, y3, y4, y5⟩ := z_l1_ok hE ha hb hm2 x1 x2 x3 (show i < 8 by omega) 8 (Nat.le_refl _)
    refine ⟨Y, y1, y2, y3, fun p q hp hq => ?_⟩
    by_cases e : p = i
    · subst e
      exact y4 q hq
    · rw [y5 p q e]
      exact x4 p q (by omega) hq
/-- the class's net behind a new road -/
theorem z_ly_ok {E : Nat → Nat → Nat} (hE : m_Me E) {a b m : Nat} (ha : a < 8) (hb : b < 8) (hm2 : m ≤ 240) {u : Nat → Nat → Int32} (hX : ∀ p q, p < 8 → q < 8 → u (10 + p) q = nI (E p q)) : ∀ p q, p < 8 → q < 8 → z_ly u a b (nI m) (10 + p) q = nI (m_N E a b m p q) := fun p q hp hq => by
  obtain ⟨Y, y1, y2, y3, y4⟩ := z_l2_ok hE ha hb hm2 hX 8 (Nat.le_refl _)
  show z_up _ 8 0 _ (10 + p) q = _
  rw [z_up_1 _ _ (by omega), y1 p q hp hq, show Y p q = m_N E a b m p q from Nat.le_antisymm (y4 p q hp hq) (y2 p q hp hq)]
theorem z_ly_o (u : Nat → Nat → Int32) (a b : Nat) (mi : Int32) {r q : Nat} (h : r < 8) : z_ly u a b mi r q = u r q := by
  show z_up _ 8 0 _ r q = _
  rw [z_up_1 _ _ (by omega), z_l2_o _ _ _ _ (by omega)]
theorem z_ly_8 (u : Nat → Nat → Int32) (a b : Nat) (mi : Int32) (q : Nat) : z_ly u a b mi 8 q = if q = 0 then u 8 0 + 1 else u 8 q := by
  show z_up _ 8 0 _ 8 q = _
  by_cases h : q = 0
  · subst h
    rw [z_up_s, z_l2_o _ _ _ _ (by omega), if_pos rfl]
  · rw [z_up_2 _ _ h, z_l2_o _ _ _ _ (by omega), if_neg h]
