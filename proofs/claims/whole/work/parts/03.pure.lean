/-! Part 03: what the methods answer, in numbers alone (leaves). -/
def z_bi (b : Bool) : Int32 := if b = true then 1 else 0
theorem z_bi01 (b : Bool) : z_bi b = 0 ∨ z_bi b = 1 := by cases b <;> simp [z_bi]
theorem z_bi_t {b : Bool} (h : ¬ z_bi b = 0) : b = true := by cases b <;> simp_all [z_bi]
theorem z_bi_f {b : Bool} (h : z_bi b = 0) : b = false := by cases b <;> simp_all [z_bi]
def z_wi (n a b : Int32) : Int32 := if n < a then 0 else if b < n then 0 else 1
theorem z_wi01 (n a b : Int32) : z_wi n a b = 0 ∨ z_wi n a b = 1 := by
  unfold z_wi
  split
  · exact Or.inl rfl
  · split
    · exact Or.inl rfl
    · exact Or.inr rfl
theorem z_pl {a : Nat} (h : a < 8) : z_wi (nI a) 0 7 = 1 := by
  rcases (show a = 0 ∨ a = 1 ∨ a = 2 ∨ a = 3 ∨ a = 4 ∨ a = 5 ∨ a = 6 ∨ a = 7 by omega) with rfl | rfl | rfl | rfl | rfl | rfl | rfl | rfl <;> decide
theorem z_nz {x : Int32} (h : 0 < x) : ¬ x = 0 := fun e => by rw [e] at h; exact absurd h (by decide)
/-- the bloom on day d of a valley that blooms from f on, for n days -/
def z_bl (f n d : Int32) : Int32 := if d < f then 0 else if f + n - 1 < d then 0 else if 0 < (n + 1) / 2 then 100 * (if f + n - 1 - d + 1 < d - f + 1 then f + n - 1 - d + 1 else d - f + 1) / ((n + 1) / 2) else 0
/-- is v among the first n of t -/
def z_vi (t : Nat → Nat) (v : Nat) : Nat → Bool
  | 0 => false
  | n + 1 => z_vi t v n || (t n == v)
theorem z_vi_f {t : Nat → Nat} {v i : Nat} (h : z_vi t v i = false) (h2 : ¬ t i = v) : z_vi t v (i + 1) = false := by simp [z_vi, h, h2]
theorem z_vi_t {t : Nat → Nat} {v i n : Nat} (h : i < n) (h2 : t i = v) : z_vi t v n = true := by
  induction n with
  | zero => omega
  | succ n ih =>
    by_cases e : i = n
    · subst e
      simp [z_vi, h2]
    · simp [z_vi, ih (by omega)]
/-- can a tour with c valleys and mn minutes go -/
def z_gc (c : Nat) (mn : Int32) : Int32 := if nI c ≤ 0 then 0 else if z_wi mn 0 480 = 0 then 0 else 1
theorem z_gc01 (c : Nat) (mn : Int32) : z_gc c mn = 0 ∨ z_gc c mn = 1 := by
  unfold z_gc
  split
  · exact Or.inl rfl
  · split
    · exact Or.inl rfl
    · exact Or.inr rfl
def z_mb (w : Int32) : Int32 := if w < 1000000 then w else -1
def z_full (c : Nat) : Int32 := if nI c < 5 then 0 else 1
theorem z_full01 (c : Nat) : z_full c = 0 ∨ z_full c = 1 := by
  unfold z_full
  split
  · exact Or.inl rfl
  · exact Or.inr rfl
/-- minutes behind k steps of a list -/
def z_mt (W : Nat → Nat → Int32) (t : Nat → Nat) (s0 : Int32) : Nat → Int32
  | 0 => s0
  | k + 1 => z_mt W t s0 k + W (t k) (t (k + 1))
/-- a step that cannot be gone -/
def z_mf (W : Nat → Nat → Int32) (t : Nat → Nat) : Nat → Bool
  | 0 => false
  | k + 1 => z_mf W t k || !(decide (0 ≤ W (t k) (t (k + 1))))
theorem z_mf_t {W : Nat → Nat → Int32} {t : Nat → Nat} {k n : Nat} (h : k < n) (h2 : ¬ 0 ≤ W (t k) (t (k + 1))) : z_mf W t n = true := by
  induction n with
  | zero => omega
  | succ n ih =>
    by_cases e : k = n
    · subst e
      simp [z_mf, h2]
    · simp [z_mf, ih (by omega)]
def z_mn (W : Nat → Nat → Int32) (t : Nat → Nat) (n : Nat) : Int32 := if z_mf W t (n - 1) = true then -1 else z_mt W t (50 * nI n) (n - 1)
