/-! Part 16: the reference's table behind a new road. -/
def m_v (x : Nat) : Int32 := if x < 1000000 then nI x else -1
theorem m_v_mb {x : Nat} (h : x ≤ 1000000) : z_mb (nI x) = m_v x := by
  unfold z_mb m_v
  by_cases q : x < 1000000
  · rw [if_pos q]
    exact if_pos (show nI x < 1000000 from nI_lt (b := 1000000) q (by decide))
  · rw [if_neg q]
    exact if_neg (show ¬ nI x < 1000000 from nI_nlt (b := 1000000) (by omega) (by omega))
theorem m_v_t {x : Nat} (h : x < 1000000) : m_v x = nI x := if_pos h
theorem m_v_f {x : Nat} (h : ¬ x < 1000000) : m_v x = -1 := if_neg h
theorem m_v_ne {x : Nat} (h : x < 1000000) : ¬ m_v x = -1 := by
  rw [m_v_t h]
  intro e
  have h1 : 0 ≤ nI x := nI_pos' (by omega)
  rw [e] at h1
  exact absurd h1 (by decide)
/-- one pass -/
def m_P (E : Nat → Nat → Nat) (a b m : Nat) (p q : Nat) : Nat := min (E p q) (E p a + m + E b q)
theorem m_sx {P : Nat → Nat → Nat} {a b m u v K : Nat} {s : Nat → Nat → Int32} (hu : u < 8) (hv : v < 8) (hK : 2 * K + 240 < 1000000) (hm : m ≤ 240) (h1 : s 10 (8 * u + a) = m_v (P u a)) (h2 : s 10 (8 * b + v) = m_v (P b v)) (h3 : s 10 (8 * u + v) = m_v (P u v)) (l0 : P u v ≤ 1000000) (l1 : P u a < 1000000 → P u a ≤ K) (l2 : P b v < 1000000 → P b v ≤ K) :
    ∀ p q, p < 8 → q < 8 → y_sx s u v a b (nI m) 10 (8 * p + q) = if p = u ∧ q = v then m_v (m_P P a b m u v) else s 10 (8 * p + q) := by
  intro p q hp hq
  have key : ∀ x : Int32, z_up s 10 (8 * u + v) x 10 (8 * p + q) = if p = u ∧ q = v then x else s 10 (8 * p + q) := fun x => by
    by_cases e : p = u ∧ q = v
    · obtain ⟨rfl, rfl⟩ := e
      rw [z_up_s, if_pos ⟨rfl, rfl⟩]
    · rw [z_up_2 _ _ (by omega), if_neg e]
  have same : m_P P a b m u v = P u v → s 10 (8 * p + q) = if p = u ∧ q = v then m_v (m_P P a b m u v) else s 10 (8 * p + q) := fun h => by
    by_cases e : p = u ∧ q = v
    · obtain ⟨rfl, rfl⟩ := e
      rw [if_pos ⟨rfl, rfl⟩, h, h3]
    · rw [if_neg e]
  unfold y_sx
  by_cases c1 : P u a < 1000000
  · rw [if_neg (by rw [h1]; exact m_v_ne c1)]
    by_cases c2 : P b v < 1000000
    · rw [if_neg (by rw [h2]; exact m_v_ne c2)]
      have sum : s 10 (8 * u + a) + nI m + s 10 (8 * b + v) = nI (P u a + m + P b v) := by rw [h1, h2, m_v_t c1, m_v_t c2, nI_add, nI_add]
      have k1 := l1 c1
      have k2 := l2 c2
      rw [sum]
      by_cases c3 : P u v < 1000000
      · rw [if_neg (by rw [h3]; exact m_v_ne c3), h3, m_v_t c3]
        by_cases c4 : P u v ≤ P u a + m + P b v
        · rw [if_pos (nI_le c4 (by omega))]
          exact same (by unfold m_P; omega)
        · rw [if_neg (fun q => c4 ((nI_leI (by omega) (by omega)).mp q)), key, show m_P P a b m u v = P u a + m + P b v by unfold m_P; omega, m_v_t (by omega)]
      · rw [if_pos (by rw [h3]; exact m_v_f c3), key, show m_P P a b m u v = P u a + m + P b v by unfold m_P; omega, m_v_t (by omega)]
    · rw [if_pos (by rw [h2]; exact m_v_f c2)]
      exact same (by unfold m_P; omega)
  · rw [if_pos (by rw [h1]; exact m_v_f c1)]
    exact same (by unfold m_P; omega)
theorem m_sxo (s : Nat → Nat → Int32) (u v a b : Nat) (mi : Int32) {r q : Nat} (h : r ≠ 10) : y_sx s u v a b mi r q = s r q := by
  unfold y_sx
  split
  · rfl
  · split
    · rfl
    · split
      · exact z_up_1 _ _ h
      · split
        · rfl
        · exact z_up_1 _ _ h
theorem m_s1 {P : Nat → Nat → Nat} {a b m u K : Nat} (hu : u < 8) (ha : a < 8) (hb : b < 8) (hK : 2 * K + 240 < 1000000) (hm : m ≤ 240) (hl : ∀ p q, p < 8 → q < 8 → P p q ≤ 1000000) (hk : ∀ p q, p < 8 → q < 8 → P p q < 1000000 → P p q ≤ K) {s : Nat → Nat → Int32} (hs : ∀ p q, p < 8 → q < 8 → s 10 (8 * p + q) = m_v (if p < u then m_P P a b m p q else P p q)) :
    ∀ v, v ≤ 8 → ∀ p q, p < 8 → q < 8 → y_s1 s u a b (nI m) v 10 (8 * p + q) = m_v (if p < u ∨ (p = u ∧ q < v) then m_P P a b m p q else P p q)
  | 0, _ => fun p q hp hq => by
    show s 10 (8 * p + q) = _
    rw [hs p q hp hq]
    by_cases e : p < u
    · rw [if_pos e, if_pos (Or.inl e)]
    · rw [if_neg e, if_neg (by omega)]
  | v + 1, hv => by
    have ih := m_s1 hu ha hb hK hm hl hk hs v (by omega)
    have r1 : y_s1 s u a b (nI m) v 10 (8 * u + a) = m_v (P u a) := by
      rw [ih u a hu ha]
      by_cases c : u < u ∨ (u = u ∧ a < v)
      · rw [if_pos c, show m_P P a b m u a = P u a by unfold m_P; omega]
      · rw [if_neg c]
    have r2 : y_s1 s u a b (nI m) v 10 (8 * b + v) = m_v (P b v) := by
      rw [ih b v hb (by omega)]
      by_cases c : b < u ∨ (b = u ∧ v < v)
      · rw [if_pos c, show m_P P a b m b v = P b v by unfold m_P; omega]
      · rw [if_neg c]
    have r3 : y_s1 s u a b (nI m) v 10 (8 * u + v) = m_v (P u v) := by
      rw [ih u v hu (by omega), if_neg (by omega)]
    have h := m_sx hu (show v < 8 by omega) hK hm r1 r2 r3 (hl u v hu (by omega)) (hk u a hu ha) (hk b v hb (by omega))
    intro p q hp hq
    show y_sx (y_s1 s u a b (nI m) v) u v a b (nI m) 10 (8 * p + q) = _
    rw [h p q hp hq]
    by_cases e : p = u ∧ q = v
    · obtain ⟨rfl, rfl⟩ := e
      rw [if_pos ⟨rfl, rfl⟩, if_pos (by omega)]
    · rw [if_neg e, ih p q hp hq]
      by_cases c : p < u ∨ (p = u ∧ q < v)
      · rw [if_pos c, if_pos (by omega)]
      · rw [if_neg c, if_neg (by omega)]
theorem m_s1o (s : Nat → Nat → Int32) (u a b : Nat) (mi : Int32) {r q : Nat} (h : r ≠ 10) : ∀ v, y_s1 s u a b mi v r q = s r q
  | 0 => rfl
  | v + 1 => (m_sxo _ _ _ _ _ _ h).trans (m_s1o s u a b mi h v)
theorem m_s2o (s : Nat → Nat → Int32) (a b : Nat) (mi : Int32) {r q : Nat} (h : r ≠ 10) : ∀ u, y_s2 s a b mi u r q = s r q
  | 0 => rfl
  | u + 1 => (m_s1o _ _ _ _ _ h 8).trans (m_s2o s a b mi h u)
theorem m_s2 {P : Nat → Nat → Nat} {a b m K : Nat} (ha : a < 8) (hb : b < 8) (hK : 2 * K + 240 < 1000000) (hm : m ≤ 240) (hl : ∀ p q, p < 8 → q < 8 → P p q ≤ 1000000) (hk : ∀ p q, p < 8 → q < 8 → P p q < 1000000 → P p q ≤ K) {s : Nat → Nat → Int32} (hs : ∀ p q, p < 8 → q < 8 → s 10 (8 * p + q) = m_v (P p q)) :
    ∀ u, u ≤ 8 → ∀ p q, p < 8 → q < 8 → y_s2 s a b (nI m) u 10 (8 * p + q) = m_v (if p < u then m_P P a b m p q else P p q)
  | 0, _ => fun p q hp hq => by
    rw [if_neg (Nat.not_lt_zero p)]
    exact hs p q hp hq
  | u + 1, hu => fun p q hp hq => by
    have h := m_s1 (show u < 8 by omega) ha hb hK hm hl hk (m_s2 ha hb hK hm hl hk hs u (by omega)) 8 (Nat.le_refl _) p q hp hq
    show y_s1 (y_s2 s a b (nI m) u) u a b (nI m) 8 10 (8 * p + q) = _
    rw [h]
    by_cases c : p < u + 1
    · rw [if_pos c, if_pos (by omega)]
    · rw [if_neg c, if_neg (by omega)]
theorem m_PP {E : Nat → Nat → Nat} (h : m_Me E) {a b m : Nat} (ha : a < 8) (hb : b < 8) {p q : Nat} (hp : p < 8) (hq : q < 8) : m_P (m_P E a b m) b a m p q = m_N E a b m p q := by
  have z1 := h.1 a ha
  have z2 := h.1 b hb
  have t1 := h.2.2.1 p q a hp hq ha
  have t2 := h.2.2.1 p q b hp hq hb
  unfold m_P m_N
  omega
/-- the reference's table behind a new road -/
theorem m_rd {E : Nat → Nat → Nat} (h : m_Me E) {a b m : Nat} (ha : a < 8) (hb : b < 8) (hm : m ≤ 240) {s : Nat → Nat → Int32} (hs : ∀ p q, p < 8 → q < 8 → s 10 (8 * p + q) = m_v (E p q)) : ∀ p q, p < 8 → q < 8 → y_rd s a b (nI m) 10 (8 * p + q) = m_v (m_N E a b m p q) := by
  have h0 : ∀ p q, p < 8 → q < 8 → z_up (z_up s 8 1 0) 8 0 (s 8 0 + 1) 10 (8 * p + q) = m_v (E p q) := fun p q hp hq => by
    rw [z_up_1 _ _ (by decide), z_up_1 _ _ (by decide)]
    exact hs p q hp hq
  have h1 := m_s2 (K := 1680) ha hb (by omega) hm h.2.2.2.1 (fun p q hp hq hf => m_Me_far h hp hq hf) h0 8 (Nat.le_refl _)
  have h1' : ∀ p q, p < 8 → q < 8 → y_s2 (z_up (z_up s 8 1 0) 8 0 (s 8 0 + 1)) a b (nI m) 8 10 (8 * p + q) = m_v (m_P E a b m p q) := fun p q hp hq => by
    rw [h1 p q hp hq, if_pos hp]
  have h2 := m_s2 (K := 4000) hb ha (by omega) hm (fun p q hp hq => by
    have := h.2.2.2.1 p q hp hq
    unfold m_P
    omega) (fun p q hp hq hf => by
    have k1 := fun z => m_Me_far h hp hq z
    have k2 := fun z => m_Me_far h hp ha z
    have k3 := fun z => m_Me_far h hb hq z
    by_cases c : E p q < 1000000
    · have := k1 c
      unfold m_P
      omega
    · have e : m_P E a b m p q = E p a + m + E b q := by
        unfold m_P at hf ⊢
        omega
      rw [e] at hf ⊢
      have := k2 (by omega)
      have := k3 (by omega)
      omega) h1' 8 (Nat.le_refl _)
  intro p q hp hq
  show y_s2 (y_s2 (z_up (z_up s 8 1 0) 8 0 (s 8 0 + 1)) a b (nI m) 8) b a (nI m) 8 10 (8 * p + q) = _
  rw [h2 p q hp hq, if_pos hp, m_PP h ha hb hp hq]
theorem m_rdo (s : Nat → Nat → Int32) (a b : Nat) (mi : Int32) {r q : Nat} (h : r ≠ 10) : y_rd s a b mi r q = z_up (z_up s 8 1 0) 8 0 (s 8 0 + 1) r q := by
  show y_s2 (y_s2 (z_up (z_up s 8 1 0) 8 0 (s 8 0 + 1)) a b mi 8) b a mi 8 r q = _
  rw [m_s2o _ _ _ _ h, m_s2o _ _ _ _ h]
