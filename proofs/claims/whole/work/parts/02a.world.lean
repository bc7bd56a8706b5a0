/-! Part 02: what a state of the class (and of the reference) is: two stores (numbers; counts), a table of cells over addresses; what each cell says; what a write to a cell does to the stores. -/
/-- the class numbers of a launch: objects, their slots; arrays of int, Valley, Tour, int[], long -/
abbrev z_GT : Type := (Nat → ClassId) × (Nat → Nat → Nat) × ClassId × ClassId × ClassId × ClassId × ClassId
abbrev z_DD (G : z_GT) : va_G := (G.1, G.2.1)
abbrev z_I (G : z_GT) : ClassId := G.2.2.1
abbrev z_V (G : z_GT) : ClassId := G.2.2.2.1
abbrev z_T (G : z_GT) : ClassId := G.2.2.2.2.1
abbrev z_W (G : z_GT) : ClassId := G.2.2.2.2.2.1
abbrev z_L (G : z_GT) : ClassId := G.2.2.2.2.2.2
abbrev z_ty (G : z_GT) : List (ClassId × FieldType) := [(z_I G, .int), (z_V G, .object RX3), (z_T G, .object RX2), (z_W G, .array .int), (z_L G, .long)]
def z_up {α : Type} (f : Nat → Nat → α) (i j : Nat) (x : α) : Nat → Nat → α := fun a b => if a = i ∧ b = j then x else f a b
theorem z_up_s {α : Type} (f : Nat → Nat → α) (i j : Nat) (x : α) : z_up f i j x i j = x := by simp [z_up]
theorem z_up_1 {α : Type} (f : Nat → Nat → α) {i j a b : Nat} (x : α) (h : a ≠ i) : z_up f i j x a b = f a b := by simp [z_up, h]
theorem z_up_2 {α : Type} (f : Nat → Nat → α) {i j a b : Nat} (x : α) (h : b ≠ j) : z_up f i j x a b = f a b := by simp [z_up, h]
def z_w (n : Nat) (ad : Nat → Nat) (ce : Nat → va_E) : va_W := (List.range n).map (fun k => (ad k, ce k))
theorem z_w_at {n : Nat} {ad : Nat → Nat} {ce : Nat → va_E} {k : Nat} (hk : k < n) : (z_w n ad ce)[k]? = some (ad k, ce k) := by
  simp [z_w, List.getElem?_range hk]
theorem z_w_get {n : Nat} {ad : Nat → Nat} {ce : Nat → va_E} {k : Nat} {e : va_E} (hk : k < n) (he : ce k = e) : (z_w n ad ce)[k]? = some (ad k, e) := by
  subst he
  exact z_w_at hk
theorem z_w_no {n : Nat} {ad : Nat → Nat} {ce : Nat → va_E} {k : Nat} (hk : ¬ k < n) : (z_w n ad ce)[k]? = none := by
  apply List.getElem?_eq_none
  simp [z_w]
  omega
theorem z_w_of {n : Nat} {ad : Nat → Nat} {ce : Nat → va_E} {k : Nat} {q : Nat × va_E} (h : (z_w n ad ce)[k]? = some q) : k < n ∧ q = (ad k, ce k) := by
  by_cases hk : k < n
  · rw [z_w_at hk] at h
    cases h
    exact ⟨hk, rfl⟩
  · rw [z_w_no hk] at h
    cases h
theorem z_w_set {n : Nat} {ad : Nat → Nat} {ce ce' : Nat → va_E} {k : Nat} {e : va_E} (h1 : ce' k = e) (h2 : ∀ j, j ≠ k → ce' j = ce j) : (z_w n ad ce).set k (ad k, e) = z_w n ad ce' := by
  apply List.ext_getElem?
  intro j
  by_cases hj : j = k
  · subst hj
    by_cases hl : j < n
    · rw [List.getElem?_set_self (by simp [z_w, hl]), z_w_get hl h1]
    · rw [z_w_no hl]
      apply List.getElem?_eq_none
      simp [z_w]
      omega
  · rw [List.getElem?_set_ne (Ne.symm hj)]
    by_cases hl : j < n
    · rw [z_w_at hl, z_w_at hl, h2 j hj]
    · rw [z_w_no hl, z_w_no hl]
/-- the addresses of a table of n cells -/
def z_A (n : Nat) (ad : Nat → Nat) : Nat → Prop := fun q => ∃ k : Nat, k < n ∧ q = ad k
theorem z_D {n : Nat} {ad : Nat → Nat} (hi : ∀ i j, i < n → j < n → ad i = ad j → i = j) (ce : Nat → va_E) {A : Nat → Prop} (hA : ∀ k, k < n → A (ad k)) : va_D A (z_w n ad ce) := by
  refine ⟨fun i j p q h1 h2 h3 => ?_, fun k q h => ?_⟩
  · obtain ⟨a1, rfl⟩ := z_w_of h1
    obtain ⟨a2, rfl⟩ := z_w_of h2
    exact hi i j a1 a2 h3
  · obtain ⟨a1, rfl⟩ := z_w_of h
    exact hA k a1
theorem z_Dm {n : Nat} {ad : Nat → Nat} (hi : ∀ i j, i < n → j < n → ad i = ad j → i = j) (ce : Nat → va_E) : va_D (z_A n ad) (z_w n ad ce) := z_D hi ce (fun k hk => ⟨k, hk, rfl⟩)
/-- a table whose cells lie where nothing was written, is as it was -/
theorem z_Pk {n : Nat} {ad : Nat → Nat} {ce : Nat → va_E} {D : va_G} {cl : List vw_C} {H H1 : Heap} (h : va_P D cl (z_w n ad ce) H) {A : Nat → Prop} (hk : ∀ q : Nat, q < H.size → ¬ A q → H1[q]? = H[q]?) (hn : ∀ k, k < n → ¬ A (ad k)) : va_P D cl (z_w n ad ce) H1 := by
  refine h.kept (fun k q hq => ?_)
  have hl := (h k q hq).lt
  obtain ⟨a1, rfl⟩ := z_w_of hq
  exact hk _ hl (hn k a1)
theorem z_Plt {n : Nat} {ad : Nat → Nat} {ce : Nat → va_E} {D : va_G} {cl : List vw_C} {H : Heap} (h : va_P D cl (z_w n ad ce) H) {k : Nat} (hk : k < n) : ad k < H.size := (h k _ (z_w_at hk)).lt
theorem z_Pof {n : Nat} {ad : Nat → Nat} {ce : Nat → va_E} {D : va_G} {cl : List vw_C} {H : Heap} (h : ∀ k, k < n → va_at D cl (ad k, ce k) H) : va_P D cl (z_w n ad ce) H := by
  intro k q hq
  obtain ⟨a1, rfl⟩ := z_w_of hq
  exact h k a1
theorem z_arr {c : ClassId} {N : Nat} {f g : Nat → Value} (h : ∀ j, j < N → f j = g j) : arrV c N f = arrV c N g := by
  unfold arrV
  have : (fun j : Fin N => f j.val) = (fun j : Fin N => g j.val) := funext fun j => h j.val j.isLt
  rw [this]

def z_cC (G : z_GT) (ad : Nat → Nat) (σ : Nat → Nat → Int32) (κ : Nat → Nat → Nat) (k : Nat) : va_E :=
  if k = 0 then .inr (4, [.ref (ad 1), .ref (ad 2), .ref (ad 3), .ref (ad 4), .ref (ad 6), .ref (ad 7), .int (nI (κ 0 0)), .int (nI (κ 0 1)), .int (σ 8 1)]) else
  if k = 1 then .inl (z_V G, 8, .inr (.inr (.inr (.inr (fun j => some (ad (8 + j))))))) else
  if k = 2 then .inl (z_T G, 6, .inr (.inr (.inr (.inr (fun j => some (ad (16 + j))))))) else
  if k = 3 then .inl (z_I G, 10, .inl (fun j => σ 7 j)) else
  if k = 4 then .inr (1, [.ref (ad 5), .int (σ 8 0)]) else
  if k = 5 then .inl (z_W G, 8, .inr (.inr (.inr (.inr (fun j => some (ad (28 + j))))))) else
  if k = 6 then .inr (0, [.int (σ 8 2), .int (σ 8 3), .int (σ 8 4)]) else
  if k = 7 then .inr (0, [.int (σ 8 5), .int (σ 8 6), .int (σ 8 7)]) else
  if k < 16 then .inr (3, [.int (σ 0 (k - 8)), .int (σ 1 (k - 8)), .int (σ 2 (k - 8)), .int (σ 3 (k - 8)), .int (σ 4 (k - 8))]) else
  if k < 22 then .inr (2, [.ref (ad (22 + (k - 16))), .int (nI (κ 1 (k - 16))), .int (σ 5 (k - 16)), .int (σ 6 (k - 16))]) else
  if k < 28 then .inl (z_I G, 5, .inl (fun j => nI (κ (2 + (k - 22)) j))) else .inl (z_I G, 8, .inl (fun j => σ (10 + (k - 28)) j))
abbrev z_wC (G : z_GT) (ad : Nat → Nat) (σ : Nat → Nat → Int32) (κ : Nat → Nat → Nat) : va_W := z_w 36 ad (z_cC G ad σ κ)
def z_cM (G : z_GT) (ad : Nat → Nat) (σ : Nat → Nat → Int32) (κ : Nat → Nat → Nat) (k : Nat) : va_E :=
  if k = 0 then .inr (5, [.int (σ 8 1), .int (nI (κ 0 0)), .ref (ad 1), .ref (ad 2), .ref (ad 3), .int (σ 8 0), .ref (ad 4), .ref (ad 5), .int (nI (κ 0 1)), .ref (ad 6), .ref (ad 7), .ref (ad 8), .ref (ad 9)]) else
  if k = 1 then .inl (z_I G, 8, .inl (fun j => σ 0 j)) else
  if k = 2 then .inl (z_I G, 8, .inl (fun j => σ 1 j)) else
  if k = 3 then .inl (z_I G, 8, .inl (fun j => σ 2 j)) else
  if k = 4 then .inl (z_I G, 64, .inl (fun j => σ 10 j)) else
  if k = 5 then .inl (z_I G, 10, .inl (fun j => σ 7 j)) else
  if k = 6 then .inl (z_I G, 6, .inl (fun j => σ 5 j)) else
  if k = 7 then .inl (z_I G, 6, .inl (fun j => nI (κ 1 j))) else
  if k = 8 then .inl (z_I G, 30, .inl (fun j => nI (κ 2 j))) else
  .inl (z_I G, 4, .inl (fun j => σ 9 j))
abbrev z_wM (G : z_GT) (ad : Nat → Nat) (σ : Nat → Nat → Int32) (κ : Nat → Nat → Nat) : va_W := z_w 10 ad (z_cM G ad σ κ)
section ZG
variable {G : z_GT} {ad : Nat → Nat} {σ : Nat → Nat → Int32} {κ : Nat → Nat → Nat}
theorem z_g0 : (z_wC G ad σ κ)[0]? = some (ad 0, .inr (4, [.ref (ad 1), .ref (ad 2), .ref (ad 3), .ref (ad 4), .ref (ad 6), .ref (ad 7), .int (nI (κ 0 0)), .int (nI (κ 0 1)), .int (σ 8 1)])) := z_w_get (by decide) rfl
theorem z_g1 : (z_wC G ad σ κ)[1]? = some (ad 1, .inl (z_V G, 8, .inr (.inr (.inr (.inr (fun j => some (ad (8 + j)))))))) := z_w_get (by decide) rfl
theorem z_g2 : (z_wC G ad σ κ)[2]? = some (ad 2, .inl (z_T G, 6, .inr (.inr (.inr (.inr (fun j => some (ad (16 + j)))))))) := z_w_get (by decide) rfl
theorem z_g3 : (z_wC G ad σ κ)[3]? = some (ad 3, .inl (z_I G, 10, .inl (fun j => σ 7 j))) := z_w_get (by decide) rfl
theorem z_g4 : (z_wC G ad σ κ)[4]? = some (ad 4, .inr (1, [.ref (ad 5), .int (σ 8 0)])) := z_w_get (by decide) rfl
theorem z_g5 : (z_wC G ad σ κ)[5]? = some (ad 5, .inl (z_W G, 8, .inr (.inr (.inr (.inr (fun j => some (ad (28 + j)))))))) := z_w_get (by decide) rfl
theorem z_g6 : (z_wC G ad σ κ)[6]? = some (ad 6, .inr (0, [.int (σ 8 2), .int (σ 8 3), .int (σ 8 4)])) := z_w_get (by decide) rfl
theorem z_g7 : (z_wC G ad σ κ)[7]? = some (ad 7, .inr (0, [.int (σ 8 5), .int (σ 8 6), .int (σ 8 7)])) := z_w_get (by decide) rfl
theorem z_cV {v : Nat} (h : v < 8) : z_cC G ad σ κ (8 + v) = .inr (3, [.int (σ 0 v), .int (σ 1 v), .int (σ 2 v), .int (σ 3 v), .int (σ 4 v)]) := by
  unfold z_cC
  rw [if_neg (show ¬ (8 + v) = 0 by omega), if_neg (show ¬ (8 + v) = 1 by omega), if_neg (show ¬ (8 + v) = 2 by omega), if_neg (show ¬ (8 + v) = 3 by omega), if_neg (show ¬ (8 + v) = 4 by omega), if_neg (show ¬ (8 + v) = 5 by omega), if_neg (show ¬ (8 + v) = 6 by omega), if_neg (show ¬ (8 + v) = 7 by omega), if_pos (show (8 + v) < 16 by omega), show (8 + v) - 8 = v by omega]
theorem z_gV {v : Nat} (h : v < 8) : (z_wC G ad σ κ)[(8 + v)]? = some (ad (8 + v), .inr (3, [.int (σ 0 v), .int (σ 1 v), .int (σ 2 v), .int (σ 3 v), .int (σ 4 v)])) := z_w_get (by omega) (z_cV h)
theorem z_cT {t : Nat} (h : t < 6) : z_cC G ad σ κ (16 + t) = .inr (2, [.ref (ad (22 + t)), .int (nI (κ 1 t)), .int (σ 5 t), .int (σ 6 t)]) := by
  unfold z_cC
  rw [if_neg (show ¬ (16 + t) = 0 by omega), if_neg (show ¬ (16 + t) = 1 by omega), if_neg (show ¬ (16 + t) = 2 by omega), if_neg (show ¬ (16 + t) = 3 by omega), if_neg (show ¬ (16 + t) = 4 by omega), if_neg (show ¬ (16 + t) = 5 by omega), if_neg (show ¬ (16 + t) = 6 by omega), if_neg (show ¬ (16 + t) = 7 by omega), if_neg (show ¬ (16 + t) < 16 by omega), if_pos (show (16 + t) < 22 by omega), show (16 + t) - 16 = t by omega]
theorem z_gT {t : Nat} (h : t < 6) : (z_wC G ad σ κ)[(16 + t)]? = some (ad (16 + t), .inr (2, [.ref (ad (22 + t)), .int (nI (κ 1 t)), .int (σ 5 t), .int (σ 6 t)])) := z_w_get (by omega) (z_cT h)
theorem z_cS {t : Nat} (h : t < 6) : z_cC G ad σ κ (22 + t) = .inl (z_I G, 5, .inl (fun j => nI (κ (2 + t) j))) := by
  unfold z_cC
  rw [if_neg (show ¬ (22 + t) = 0 by omega), if_neg (show ¬ (22 + t) = 1 by omega), if_neg (show ¬ (22 + t) = 2 by omega), if_neg (show ¬ (22 + t) = 3 by omega), if_neg (show ¬ (22 + t) = 4 by omega), if_neg (show ¬ (22 + t) = 5 by omega), if_neg (show ¬ (22 + t) = 6 by omega), if_neg (show ¬ (22 + t) = 7 by omega), if_neg (show ¬ (22 + t) < 16 by omega), if_neg (show ¬ (22 + t) < 22 by omega), if_pos (show (22 + t) < 28 by omega), show (22 + t) - 22 = t by omega]
theorem z_gS {t : Nat} (h : t < 6) : (z_wC G ad σ κ)[(22 + t)]? = some (ad (22 + t), .inl (z_I G, 5, .inl (fun j => nI (κ (2 + t) j)))) := z_w_get (by omega) (z_cS h)
theorem z_cR {a : Nat} (h : a < 8) : z_cC G ad σ κ (28 + a) = .inl (z_I G, 8, .inl (fun j => σ (10 + a) j)) := by
  unfold z_cC
  rw [if_neg (show ¬ (28 + a) = 0 by omega), if_neg (show ¬ (28 + a) = 1 by omega), if_neg (show ¬ (28 + a) = 2 by omega), if_neg (show ¬ (28 + a) = 3 by omega), if_neg (show ¬ (28 + a) = 4 by omega), if_neg (show ¬ (28 + a) = 5 by omega), if_neg (show ¬ (28 + a) = 6 by omega), if_neg (show ¬ (28 + a) = 7 by omega), if_neg (show ¬ (28 + a) < 16 by omega), if_neg (show ¬ (28 + a) < 22 by omega), if_neg (show ¬ (28 + a) < 28 by omega), show (28 + a) - 28 = a by omega]
theorem z_gR {a : Nat} (h : a < 8) : (z_wC G ad σ κ)[(28 + a)]? = some (ad (28 + a), .inl (z_I G, 8, .inl (fun j => σ (10 + a) j))) := z_w_get (by omega) (z_cR h)
theorem z_m0 : (z_wM G ad σ κ)[0]? = some (ad 0, .inr (5, [.int (σ 8 1), .int (nI (κ 0 0)), .ref (ad 1), .ref (ad 2), .ref (ad 3), .int (σ 8 0), .ref (ad 4), .ref (ad 5), .int (nI (κ 0 1)), .ref (ad 6), .ref (ad 7), .ref (ad 8), .ref (ad 9)])) := z_w_get (by decide) rfl
theorem z_m1 : (z_wM G ad σ κ)[1]? = some (ad 1, .inl (z_I G, 8, .inl (fun j => σ 0 j))) := z_w_get (by decide) rfl
theorem z_m2 : (z_wM G ad σ κ)[2]? = some (ad 2, .inl (z_I G, 8, .inl (fun j => σ 1 j))) := z_w_get (by decide) rfl
theorem z_m3 : (z_wM G ad σ κ)[3]? = some (ad 3, .inl (z_I G, 8, .inl (fun j => σ 2 j))) := z_w_get (by decide) rfl
theorem z_m4 : (z_wM G ad σ κ)[4]? = some (ad 4, .inl (z_I G, 64, .inl (fun j => σ 10 j))) := z_w_get (by decide) rfl
theorem z_m5 : (z_wM G ad σ κ)[5]? = some (ad 5, .inl (z_I G, 10, .inl (fun j => σ 7 j))) := z_w_get (by decide) rfl
theorem z_m6 : (z_wM G ad σ κ)[6]? = some (ad 6, .inl (z_I G, 6, .inl (fun j => σ 5 j))) := z_w_get (by decide) rfl
theorem z_m7 : (z_wM G ad σ κ)[7]? = some (ad 7, .inl (z_I G, 6, .inl (fun j => nI (κ 1 j)))) := z_w_get (by decide) rfl
theorem z_m8 : (z_wM G ad σ κ)[8]? = some (ad 8, .inl (z_I G, 30, .inl (fun j => nI (κ 2 j)))) := z_w_get (by decide) rfl
theorem z_m9 : (z_wM G ad σ κ)[9]? = some (ad 9, .inl (z_I G, 4, .inl (fun j => σ 9 j))) := z_w_get (by decide) rfl
set_option maxHeartbeats 1000000 in
theorem z_sV0 {v : Nat} {x : Int32} (h : v < 8) : (z_wC G ad σ κ).set (8 + v) (ad (8 + v), .inr (3, [.int x, .int (σ 1 v), .int (σ 2 v), .int (σ 3 v), .int (σ 4 v)])) = z_wC G ad (z_up σ 0 v x) κ := by
  refine z_w_set ?_ (fun j hj => ?_)
  · rw [z_cV h]; simp [z_up]
  · simp only [z_cC]
    by_cases a0 : j = 0
    · first | exact absurd a0 hj | (simp [a0, z_up]; done) | (simp [a0, z_up]; omega)
    (simp only [a0, if_false])
    by_cases a1 : j = 1
    · first | exact absurd a1 hj | (simp [a1, z_up]; done) | (simp [a1, z_up]; omega)
    (simp only [a1, if_false])
    by_cases a2 : j = 2
    · first | exact absurd a2 hj | (simp [a2, z_up]; done) | (simp [a2, z_up]; omega)
    (simp only [a2, if_false])
    by_cases a3 : j = 3
    · first | exact absurd a3 hj | (simp [a3, z_up]; done) | (simp [a3, z_up]; omega)
    (simp only [a3, if_false])
    by_cases a4 : j = 4
    · first | exact absurd a4 hj | (simp [a4, z_up]; done) | (simp [a4, z_up]; omega)
    (simp only [a4, if_false])
    by_cases a5 : j = 5
    · first | exact absurd a5 hj | (simp [a5, z_up]; done) | (simp [a5, z_up]; omega)
    (simp only [a5, if_false])
    by_cases a6 : j = 6
    · first | exact absurd a6 hj | (simp [a6, z_up]; done) | (simp [a6, z_up]; omega)
    (simp only [a6, if_false])
    by_cases a7 : j = 7
    · first | exact absurd a7 hj | (simp [a7, z_up]; done) | (simp [a7, z_up]; omega)
    (simp only [a7, if_false])
    by_cases b1 : j < 16
    · (simp only [b1, if_true]) <;> first | rfl | (simp [z_up]; done) | (simp [z_up, show ¬ j - 8 = v from by omega]; done)
    by_cases b2 : j < 22
    · (simp only [b1, b2, if_true, if_false]) <;> first | rfl | (simp [z_up]; done) | (simp [z_up, show ¬ j - 16 = t from by omega]; done)
    by_cases b3 : j < 28
    · (simp only [b1, b2, b3, if_true, if_false]) <;> first | rfl | (simp [z_up, show ¬ 2 + (j - 22) = 0 from by omega, show ¬ 2 + (j - 22) = 1 from by omega]; done) | (simp [z_up, show ¬ j - 22 = t from by omega, show ¬ 2 + (j - 22) = 2 + t from by omega]; done)
    (simp only [b1, b2, b3, if_false]) <;> first | rfl | (simp [z_up, show ¬ 10 + (j - 28) = 0 from by omega, show ¬ 10 + (j - 28) = 1 from by omega, show ¬ 10 + (j - 28) = 2 from by omega, show ¬ 10 + (j - 28) = 3 from by omega, show ¬ 10 + (j - 28) = 4 from by omega, show ¬ 10 + (j - 28) = 5 from by omega, show ¬ 10 + (j - 28) = 6 from by omega, show ¬ 10 + (j - 28) = 7 from by omega, show ¬ 10 + (j - 28) = 8 from by omega]; done) | (simp [z_up, show ¬ j - 28 = a from by omega, show ¬ 10 + (j - 28) = 10 + a from by omega]; done)
set_option maxHeartbeats 1000000 in
theorem z_sV1 {v : Nat} {x : Int32} (h : v < 8) : (z_wC G ad σ κ).set (8 + v) (ad (8 + v), .inr (3, [.int (σ 0 v), .int x, .int (σ 2 v), .int (σ 3 v), .int (σ 4 v)])) = z_wC G ad (z_up σ 1 v x) κ := by
  refine z_w_set ?_ (fun j hj => ?_)
  · rw [z_cV h]; simp [z_up]
  · simp only [z_cC]
    by_cases a0 : j = 0
    · first | exact absurd a0 hj | (simp [a0, z_up]; done) | (simp [a0, z_up]; omega)
    (simp only [a0, if_false])
    by_cases a1 : j = 1
    · first | exact absurd a1 hj | (simp [a1, z_up]; done) | (simp [a1, z_up]; omega)
    (simp only [a1, if_false])
    by_cases a2 : j = 2
    · first | exact absurd a2 hj | (simp [a2, z_up]; done) | (simp [a2, z_up]; omega)
    (simp only [a2, if_false])
    by_cases a3 : j = 3
    · first | exact absurd a3 hj | (simp [a3, z_up]; done) | (simp [a3, z_up]; omega)
    (simp only [a3, if_false])
    by_cases a4 : j = 4
    · first | exact absurd a4 hj | (simp [a4, z_up]; done) | (simp [a4, z_up]; omega)
    (simp only [a4, if_false])
    by_cases a5 : j = 5
    · first | exact absurd a5 hj | (simp [a5, z_up]; done) | (simp [a5, z_up]; omega)
    (simp only [a5, if_false])
    by_cases a6 : j = 6
    · first | exact absurd a6 hj | (simp [a6, z_up]; done) | (simp [a6, z_up]; omega)
    (simp only [a6, if_false])
    by_cases a7 : j = 7
    · first | exact absurd a7 hj | (simp [a7, z_up]; done) | (simp [a7, z_up]; omega)
    (simp only [a7, if_false])
    by_cases b1 : j < 16
    · (simp only [b1, if_true]) <;> first | rfl | (simp [z_up]; done) | (simp [z_up, show ¬ j - 8 = v from by omega]; done)
    by_cases b2 : j < 22
    · (simp only [b1, b2, if_true, if_false]) <;> first | rfl | (simp [z_up]; done) | (simp [z_up, show ¬ j - 16 = t from by omega]; done)
    by_cases b3 : j < 28
    · (simp only [b1, b2, b3, if_true, if_false]) <;> first | rfl | (simp [z_up, show ¬ 2 + (j - 22) = 0 from by omega, show ¬ 2 + (j - 22) = 1 from by omega]; done) | (simp [z_up, show ¬ j - 22 = t from by omega, show ¬ 2 + (j - 22) = 2 + t from by omega]; done)
    (simp only [b1, b2, b3, if_false]) <;> first | rfl | (simp [z_up, show ¬ 10 + (j - 28) = 0 from by omega, show ¬ 10 + (j - 28) = 1 from by omega, show ¬ 10 + (j - 28) = 2 from by omega, show ¬ 10 + (j - 28) = 3 from by omega, show ¬ 10 + (j - 28) = 4 from by omega, show ¬ 10 + (j - 28) = 5 from by omega, show ¬ 10 + (j - 28) = 6 from by omega, show ¬ 10 + (j - 28) = 7 from by omega, show ¬ 10 + (j - 28) = 8 from by omega]; done) | (simp [z_up, show ¬ j - 28 = a from by omega, show ¬ 10 + (j - 28) = 10 + a from by omega]; done)
set_option maxHeartbeats 1000000 in
theorem z_sV2 {v : Nat} {x : Int32} (h : v < 8) : (z_wC G ad σ κ).set (8 + v) (ad (8 + v), .inr (3, [.int (σ 0 v), .int (σ 1 v), .int x, .int (σ 3 v), .int (σ 4 v)])) = z_wC G ad (z_up σ 2 v x) κ := by
  refine z_w_set ?_ (fun j hj => ?_)
  · rw [z_cV h]; simp [z_up]
  · simp only [z_cC]
    by_cases a0 : j = 0
    · first | exact absurd a0 hj | (simp [a0, z_up]; done) | (simp [a0, z_up]; omega)
    (simp only [a0, if_false])
    by_cases a1 : j = 1
    · first | exact absurd a1 hj | (simp [a1, z_up]; done) | (simp [a1, z_up]; omega)
    (simp only [a1, if_false])
    by_cases a2 : j = 2
    · first | exact absurd a2 hj | (simp [a2, z_up]; done) | (simp [a2, z_up]; omega)
    (simp only [a2, if_false])
    by_cases a3 : j = 3
    · first | exact absurd a3 hj | (simp [a3, z_up]; done) | (simp [a3, z_up]; omega)
    (simp only [a3, if_false])
    by_cases a4 : j = 4
    · first | exact absurd a4 hj | (simp [a4, z_up]; done) | (simp [a4, z_up]; omega)
    (simp only [a4, if_false])
    by_cases a5 : j = 5
    · first | exact absurd a5 hj | (simp [a5, z_up]; done) | (simp [a5, z_up]; omega)
    (simp only [a5, if_false])
    by_cases a6 : j = 6
    · first | exact absurd a6 hj | (simp [a6, z_up]; done) | (simp [a6, z_up]; omega)
    (simp only [a6, if_false])
    by_cases a7 : j = 7
    · first | exact absurd a7 hj | (simp [a7, z_up]; done) | (simp [a7, z_up]; omega)
    (simp only [a7, if_false])
    by_cases b1 : j < 16
    · (simp only [b1, if_true]) <;> first | rfl | (simp [z_up]; done) | (simp [z_up, show ¬ j - 8 = v from by omega]; done)
    by_cases b2 : j < 22
    · (simp only [b1, b2, if_true, if_false]) <;> first | rfl | (simp [z_up]; done) | (simp [z_up, show ¬ j - 16 = t from by omega]; done)
    by_cases b3 : j < 28
    · (simp only [b1, b2, b3, if_true, if_false]) <;> first | rfl | (simp [z_up, show ¬ 2 + (j - 22) = 0 from by omega, show ¬ 2 + (j - 22) = 1 from by omega]; done) | (simp [z_up, show ¬ j - 22 = t from by omega, show ¬ 2 + (j - 22) = 2 + t from by omega]; done)
    (simp only [b1, b2, b3, if_false]) <;> first | rfl | (simp [z_up, show ¬ 10 + (j - 28) = 0 from by omega, show ¬ 10 + (j - 28) = 1 from by omega, show ¬ 10 + (j - 28) = 2 from by omega, show ¬ 10 + (j - 28) = 3 from by omega, show ¬ 10 + (j - 28) = 4 from by omega, show ¬ 10 + (j - 28) = 5 from by omega, show ¬ 10 + (j - 28) = 6 from by omega, show ¬ 10 + (j - 28) = 7 from by omega, show ¬ 10 + (j - 28) = 8 from by omega]; done) | (simp [z_up, show ¬ j - 28 = a from by omega, show ¬ 10 + (j - 28) = 10 + a from by omega]; done)
set_option maxHeartbeats 1000000 in
theorem z_sV3 {v : Nat} {x : Int32} (h : v < 8) : (z_wC G ad σ κ).set (8 + v) (ad (8 + v), .inr (3, [.int (σ 0 v), .int (σ 1 v), .int (σ 2 v), .int x, .int (σ 4 v)])) = z_wC G ad (z_up σ 3 v x) κ := by
  refine z_w_set ?_ (fun j hj => ?_)
  · rw [z_cV h]; simp [z_up]
  · simp only [z_cC]
    by_cases a0 : j = 0
    · first | exact absurd a0 hj | (simp [a0, z_up]; done) | (simp [a0, z_up]; omega)
    (simp only [a0, if_false])
    by_cases a1 : j = 1
    · first | exact absurd a1 hj | (simp [a1, z_up]; done) | (simp [a1, z_up]; omega)
    (simp only [a1, if_false])
    by_cases a2 : j = 2
    · first | exact absurd a2 hj | (simp [a2, z_up]; done) | (simp [a2, z_up]; omega)
    (simp only [a2, if_false])
    by_cases a3 : j = 3
    · first | exact absurd a3 hj | (simp [a3, z_up]; done) | (simp [a3, z_up]; omega)
    (simp only [a3, if_false])
    by_cases a4 : j = 4
    · first | exact absurd a4 hj | (simp [a4, z_up]; done) | (simp [a4, z_up]; omega)
    (simp only [a4, if_false])
    by_cases a5 : j = 5
    · first | exact absurd a5 hj | (simp [a5, z_up]; done) | (simp [a5, z_up]; omega)
    (simp only [a5, if_false])
    by_cases a6 : j = 6
    · first | exact absurd a6 hj | (simp [a6, z_up]; done) | (simp [a6, z_up]; omega)
    (simp only [a6, if_false])
    by_cases a7 : j = 7
    · first | exact absurd a7 hj | (simp [a7, z_up]; done) | (simp [a7, z_up]; omega)
    (simp only [a7, if_false])
    by_cases b1 : j < 16
    · (simp only [b1, if_true]) <;> first | rfl | (simp [z_up]; done) | (simp [z_up, show ¬ j - 8 = v from by omega]; done)
    by_cases b2 : j < 22
    · (simp only [b1, b2, if_true, if_false]) <;> first | rfl | (simp [z_up]; done) | (simp [z_up, show ¬ j - 16 = t from by omega]; done)
    by_cases b3 : j < 28
    · (simp only [b1, b2, b3, if_true, if_false]) <;> first | rfl | (simp [z_up, show ¬ 2 + (j - 22) = 0 from by omega, show ¬ 2 + (j - 22) = 1 from by omega]; done) | (simp [z_up, show ¬ j - 22 = t from by omega, show ¬ 2 + (j - 22) = 2 + t from by omega]; done)
    (simp only [b1, b2, b3, if_false]) <;> first | rfl | (simp [z_up, show ¬ 10 + (j - 28) = 0 from by omega, show ¬ 10 + (j - 28) = 1 from by omega, show ¬ 10 + (j - 28) = 2 from by omega, show ¬ 10 + (j - 28) = 3 from by omega, show ¬ 10 + (j - 28) = 4 from by omega, show ¬ 10 + (j - 28) = 5 from by omega, show ¬ 10 + (j - 28) = 6 from by omega, show ¬ 10 + (j - 28) = 7 from by omega, show ¬ 10 + (j - 28) = 8 from by omega]; done) | (simp [z_up, show ¬ j - 28 = a from by omega, show ¬ 10 + (j - 28) = 10 + a from by omega]; done)
set_option maxHeartbeats 1000000 in
theorem z_sV4 {v : Nat} {x : Int32} (h : v < 8) : (z_wC G ad σ κ).set (8 + v) (ad (8 + v), .inr (3, [.int (σ 0 v), .int (σ 1 v), .int (σ 2 v), .int (σ 3 v), .int x])) = z_wC G ad (z_up σ 4 v x) κ := by
  refine z_w_set ?_ (fun j hj => ?_)
  · rw [z_cV h]; simp [z_up]
  · simp only [z_cC]
    by_cases a0 : j = 0
    · first | exact absurd a0 hj | (simp [a0, z_up]; done) | (simp [a0, z_up]; omega)
    (simp only [a0, if_false])
    by_cases a1 : j = 1
    · first | exact absurd a1 hj | (simp [a1, z_up]; done) | (simp [a1, z_up]; omega)
    (simp only [a1, if_false])
    by_cases a2 : j = 2
    · first | exact absurd a2 hj | (simp [a2, z_up]; done) | (simp [a2, z_up]; omega)
    (simp only [a2, if_false])
    by_cases a3 : j = 3
    · first | exact absurd a3 hj | (simp [a3, z_up]; done) | (simp [a3, z_up]; omega)
    (simp only [a3, if_false])
    by_cases a4 : j = 4
    · first | exact absurd a4 hj | (simp [a4, z_up]; done) | (simp [a4, z_up]; omega)
    (simp only [a4, if_false])
    by_cases a5 : j = 5
    · first | exact absurd a5 hj | (simp [a5, z_up]; done) | (simp [a5, z_up]; omega)
    (simp only [a5, if_false])
    by_cases a6 : j = 6
    · first | exact absurd a6 hj | (simp [a6, z_up]; done) | (simp [a6, z_up]; omega)
    (simp only [a6, if_false])
    by_cases a7 : j = 7
    · first | exact absurd a7 hj | (simp [a7, z_up]; done) | (simp [a7, z_up]; omega)
    (simp only [a7, if_false])
    by_cases b1 : j < 16
    · (simp only [b1, if_true]) <;> first | rfl | (simp [z_up]; done) | (simp [z_up, show ¬ j - 8 = v from by omega]; done)
    by_cases b2 : j < 22
    · (simp only [b1, b2, if_true, if_false]) <;> first | rfl | (simp [z_up]; done) | (simp [z_up, show ¬ j - 16 = t from by omega]; done)
    by_cases b3 : j < 28
    · (simp only [b1, b2, b3, if_true, if_false]) <;> first | rfl | (simp [z_up, show ¬ 2 + (j - 22) = 0 from by omega, show ¬ 2 + (j - 22) = 1 from by omega]; done) | (simp [z_up, show ¬ j - 22 = t from by omega, show ¬ 2 + (j - 22) = 2 + t from by omega]; done)
    (simp only [b1, b2, b3, if_false]) <;> first | rfl | (simp [z_up, show ¬ 10 + (j - 28) = 0 from by omega, show ¬ 10 + (j - 28) = 1 from by omega, show ¬ 10 + (j - 28) = 2 from by omega, show ¬ 10 + (j - 28) = 3 from by omega, show ¬ 10 + (j - 28) = 4 from by omega, show ¬ 10 + (j - 28) = 5 from by omega, show ¬ 10 + (j - 28) = 6 from by omega, show ¬ 10 + (j - 28) = 7 from by omega, show ¬ 10 + (j - 28) = 8 from by omega]; done) | (simp [z_up, show ¬ j - 28 = a from by omega, show ¬ 10 + (j - 28) = 10 + a from by omega]; done)
set_option maxHeartbeats 1000000 in
theorem z_sT1 {t : Nat} {x : Nat} (h : t < 6) : (z_wC G ad σ κ).set (16 + t) (ad (16 + t), .inr (2, [.ref (ad (22 + t)), .int (nI x), .int (σ 5 t), .int (σ 6 t)])) = z_wC G ad σ (z_up κ 1 t x) := by
  refine z_w_set ?_ (fun j hj => ?_)
  · rw [z_cT h]; simp [z_up]
  · simp only [z_cC]
    by_cases a0 : j = 0
    · first | exact absurd a0 hj | (simp [a0, z_up]; done) | (simp [a0, z_up]; omega)
    (simp only [a0, if_false])
    by_cases a1 : j = 1
    · first | exact absurd a1 hj | (simp [a1, z_up]; done) | (simp [a1, z_up]; omega)
    (simp only [a1, if_false])
    by_cases a2 : j = 2
    · first | exact absurd a2 hj | (simp [a2, z_up]; done) | (simp [a2, z_up]; omega)
    (simp only [a2, if_false])
    by_cases a3 : j = 3
    · first | exact absurd a3 hj | (simp [a3, z_up]; done) | (simp [a3, z_up]; omega)
    (simp only [a3, if_false])
    by_cases a4 : j = 4
    · first | exact absurd a4 hj | (simp [a4, z_up]; done) | (simp [a4, z_up]; omega)
    (simp only [a4, if_false])
    by_cases a5 : j = 5
    · first | exact absurd a5 hj | (simp [a5, z_up]; done) | (simp [a5, z_up]; omega)
    (simp only [a5, if_false])
    by_cases a6 : j = 6
    · first | exact absurd a6 hj | (simp [a6, z_up]; done) | (simp [a6, z_up]; omega)
    (simp only [a6, if_false])
    by_cases a7 : j = 7
    · first | exact absurd a7 hj | (simp [a7, z_up]; done) | (simp [a7, z_up]; omega)
    (simp only [a7, if_false])
    by_cases b1 : j < 16
    · (simp only [b1, if_true]) <;> first | rfl | (simp [z_up]; done) | (simp [z_up, show ¬ j - 8 = v from by omega]; done)
    by_cases b2 : j < 22
    · (simp only [b1, b2, if_true, if_false]) <;> first | rfl | (simp [z_up]; done) | (simp [z_up, show ¬ j - 16 = t from by omega]; done)
    by_cases b3 : j < 28
    · (simp only [b1, b2, b3, if_true, if_false]) <;> first | rfl | (simp [z_up, show ¬ 2 + (j - 22) = 0 from by omega, show ¬ 2 + (j - 22) = 1 from by omega]; done) | (simp [z_up, show ¬ j - 22 = t from by omega, show ¬ 2 + (j - 22) = 2 + t from by omega]; done)
    (simp only [b1, b2, b3, if_false]) <;> first | rfl | (simp [z_up, show ¬ 10 + (j - 28) = 0 from by omega, show ¬ 10 + (j - 28) = 1 from by omega, show ¬ 10 + (j - 28) = 2 from by omega, show ¬ 10 + (j - 28) = 3 from by omega, show ¬ 10 + (j - 28) = 4 from by omega, show ¬ 10 + (j - 28) = 5 from by omega, show ¬ 10 + (j - 28) = 6 from by omega, show ¬ 10 + (j - 28) = 7 from by omega, show ¬ 10 + (j - 28) = 8 from by omega]; done) | (simp [z_up, show ¬ j - 28 = a from by omega, show ¬ 10 + (j - 28) = 10 + a from by omega]; done)
set_option maxHeartbeats 1000000 in
theorem z_sT2 {t : Nat} {x : Int32} (h : t < 6) : (z_wC G ad σ κ).set (16 + t) (ad (16 + t), .inr (2, [.ref (ad (22 + t)), .int (nI (κ 1 t)), .int x, .int (σ 6 t)])) = z_wC G ad (z_up σ 5 t x) κ := by
  refine z_w_set ?_ (fun j hj => ?_)
  · rw [z_cT h]; simp [z_up]
  · simp only [z_cC]
    by_cases a0 : j = 0
    · first | exact absurd a0 hj | (simp [a0, z_up]; done) | (simp [a0, z_up]; omega)
    (simp only [a0, if_false])
    by_cases a1 : j = 1
    · first | exact absurd a1 hj | (simp [a1, z_up]; done) | (simp [a1, z_up]; omega)
    (simp only [a1, if_false])
    by_cases a2 : j = 2
    · first | exact absurd a2 hj | (simp [a2, z_up]; done) | (simp [a2, z_up]; omega)
    (simp only [a2, if_false])
    by_cases a3 : j = 3
    · first | exact absurd a3 hj | (simp [a3, z_up]; done) | (simp [a3, z_up]; omega)
    (simp only [a3, if_false])
    by_cases a4 : j = 4
    · first | exact absurd a4 hj | (simp [a4, z_up]; done) | (simp [a4, z_up]; omega)
    (simp only [a4, if_false])
    by_cases a5 : j = 5
    · first | exact absurd a5 hj | (simp [a5, z_up]; done) | (simp [a5, z_up]; omega)
    (simp only [a5, if_false])
    by_cases a6 : j = 6
    · first | exact absurd a6 hj | (simp [a6, z_up]; done) | (simp [a6, z_up]; omega)
    (simp only [a6, if_false])
    by_cases a7 : j = 7
    · first | exact absurd a7 hj | (simp [a7, z_up]; done) | (simp [a7, z_up]; omega)
    (simp only [a7, if_false])
    by_cases b1 : j < 16
    · (simp only [b1, if_true]) <;> first | rfl | (simp [z_up]; done) | (simp [z_up, show ¬ j - 8 = v from by omega]; done)
    by_cases b2 : j < 22
    · (simp only [b1, b2, if_true, if_false]) <;> first | rfl | (simp [z_up]; done) | (simp [z_up, show ¬ j - 16 = t from by omega]; done)
    by_cases b3 : j < 28
    · (simp only [b1, b2, b3, if_true, if_false]) <;> first | rfl | (simp [z_up, show ¬ 2 + (j - 22) = 0 from by omega, show ¬ 2 + (j - 22) = 1 from by omega]; done) | (simp [z_up, show ¬ j - 22 = t from by omega, show ¬ 2 + (j - 22) = 2 + t from by omega]; done)
    (simp only [b1, b2, b3, if_false]) <;> first | rfl | (simp [z_up, show ¬ 10 + (j - 28) = 0 from by omega, show ¬ 10 + (j - 28) = 1 from by omega, show ¬ 10 + (j - 28) = 2 from by omega, show ¬ 10 + (j - 28) = 3 from by omega, show ¬ 10 + (j - 28) = 4 from by omega, show ¬ 10 + (j - 28) = 5 from by omega, show ¬ 10 + (j - 28) = 6 from by omega, show ¬ 10 + (j - 28) = 7 from by omega, show ¬ 10 + (j - 28) = 8 from by omega]; done) | (simp [z_up, show ¬ j - 28 = a from by omega, show ¬ 10 + (j - 28) = 10 + a from by omega]; done)
set_option maxHeartbeats 1000000 in
theorem z_sT3 {t : Nat} {x : Int32} (h : t < 6) : (z_wC G ad σ κ).set (16 + t) (ad (16 + t), .inr (2, [.ref (ad (22 + t)), .int (nI (κ 1 t)), .int (σ 5 t), .int x])) = z_wC G ad (z_up σ 6 t x) κ := by
  refine z_w_set ?_ (fun j hj => ?_)
  · rw [z_cT h]; simp [z_up]
  · simp only [z_cC]
    by_cases a0 : j = 0
    · first | exact absurd a0 hj | (simp [a0, z_up]; done) | (simp [a0, z_up]; omega)
    (simp only [a0, if_false])
    by_cases a1 : j = 1
    · first | exact absurd a1 hj | (simp [a1, z_up]; done) | (simp [a1, z_up]; omega)
    (simp only [a1, if_false])
    by_cases a2 : j = 2
    · first | exact absurd a2 hj | (simp [a2, z_up]; done) | (simp [a2, z_up]; omega)
    (simp only [a2, if_false])
    by_cases a3 : j = 3
    · first | exact absurd a3 hj | (simp [a3, z_up]; done) | (simp [a3, z_up]; omega)
    (simp only [a3, if_false])
    by_cases a4 : j = 4
    · first | exact absurd a4 hj | (simp [a4, z_up]; done) | (simp [a4, z_up]; omega)
    (simp only [a4, if_false])
    by_cases a5 : j = 5
    · first | exact absurd a5 hj | (simp [a5, z_up]; done) | (simp [a5, z_up]; omega)
    (simp only [a5, if_false])
    by_cases a6 : j = 6
    · first | exact absurd a6 hj | (simp [a6, z_up]; done) | (simp [a6, z_up]; omega)
    (simp only [a6, if_false])
    by_cases a7 : j = 7
    · first | exact absurd a7 hj | (simp [a7, z_up]; done) | (simp [a7, z_up]; omega)
    (simp only [a7, if_false])
    by_cases b1 : j < 16
    · (simp only [b1, if_true]) <;> first | rfl | (simp [z_up]; done) | (simp [z_up, show ¬ j - 8 = v from by omega]; done)
    by_cases b2 : j < 22
    · (simp only [b1, b2, if_true, if_false]) <;> first | rfl | (simp [z_up]; done) | (simp [z_up, show ¬ j - 16 = t from by omega]; done)
    by_cases b3 : j < 28
    · (simp only [b1, b2, b3, if_true, if_false]) <;> first | rfl | (simp [z_up, show ¬ 2 + (j - 22) = 0 from by omega, show ¬ 2 + (j - 22) = 1 from by omega]; done) | (simp [z_up, show ¬ j - 22 = t from by omega, show ¬ 2 + (j - 22) = 2 + t from by omega]; done)
    (simp only [b1, b2, b3, if_false]) <;> first | rfl | (simp [z_up, show ¬ 10 + (j - 28) = 0 from by omega, show ¬ 10 + (j - 28) = 1 from by omega, show ¬ 10 + (j - 28) = 2 from by omega, show ¬ 10 + (j - 28) = 3 from by omega, show ¬ 10 + (j - 28) = 4 from by omega, show ¬ 10 + (j - 28) = 5 from by omega, show ¬ 10 + (j - 28) = 6 from by omega, show ¬ 10 + (j - 28) = 7 from by omega, show ¬ 10 + (j - 28) = 8 from by omega]; done) | (simp [z_up, show ¬ j - 28 = a from by omega, show ¬ 10 + (j - 28) = 10 + a from by omega]; done)
set_option maxHeartbeats 1000000 in
theorem z_sS {t k x : Nat} (h : t < 6) (hk : k < 2 ^ 31) : (z_wC G ad σ κ).set (22 + t) (ad (22 + t), .inl (z_I G, 5, .inl (upd (fun j => nI (κ (2 + t) j)) (nI k).toNatClampNeg (nI x)))) = z_wC G ad σ (z_up κ (2 + t) k x) := by
  refine z_w_set ?_ (fun j hj => ?_)
  · rw [z_cS h, nI_clamp hk]
    have e : (fun j => nI (z_up κ (2 + t) k x (2 + t) j)) = upd (fun j => nI (κ (2 + t) j)) k (nI x) := by
      funext j
      by_cases hj : j = k <;> simp [z_up, upd, hj]
    rw [e]
  · simp only [z_cC]
    by_cases a0 : j = 0
    · first | exact absurd a0 hj | (simp [a0, z_up, show ¬ 0 = 2 + t from by omega, show ¬ 1 = 2 + t from by omega]; done) | (simp [a0, z_up]; omega)
    (simp only [a0, if_false])
    by_cases a1 : j = 1
    · first | exact absurd a1 hj | (simp [a1, z_up, show ¬ 0 = 2 + t from by omega, show ¬ 1 = 2 + t from by omega]; done) | (simp [a1, z_up]; omega)
    (simp only [a1, if_false])
    by_cases a2 : j = 2
    · first | exact absurd a2 hj | (simp [a2, z_up, show ¬ 0 = 2 + t from by omega, show ¬ 1 = 2 + t from by omega]; done) | (simp [a2, z_up]; omega)
    (simp only [a2, if_false])
    by_cases a3 : j = 3
    · first | exact absurd a3 hj | (simp [a3, z_up, show ¬ 0 = 2 + t from by omega, show ¬ 1 = 2 + t from by omega]; done) | (simp [a3, z_up]; omega)
    (simp only [a3, if_false])
    by_cases a4 : j = 4
    · first | exact absurd a4 hj | (simp [a4, z_up, show ¬ 0 = 2 + t from by omega, show ¬ 1 = 2 + t from by omega]; done) | (simp [a4, z_up]; omega)
    (simp only [a4, if_false])
    by_cases a5 : j = 5
    · first | exact absurd a5 hj | (simp [a5, z_up, show ¬ 0 = 2 + t from by omega, show ¬ 1 = 2 + t from by omega]; done) | (simp [a5, z_up]; omega)
    (simp only [a5, if_false])
    by_cases a6 : j = 6
    · first | exact absurd a6 hj | (simp [a6, z_up, show ¬ 0 = 2 + t from by omega, show ¬ 1 = 2 + t from by omega]; done) | (simp [a6, z_up]; omega)
    (simp only [a6, if_false])
    by_cases a7 : j = 7
    · first | exact absurd a7 hj | (simp [a7, z_up, show ¬ 0 = 2 + t from by omega, show ¬ 1 = 2 + t from by omega]; done) | (simp [a7, z_up]; omega)
    (simp only [a7, if_false])
    by_cases b1 : j < 16
    · (simp only [b1, if_true]) <;> first | rfl | (simp [z_up, show ¬ 0 = 2 + t from by omega, show ¬ 1 = 2 + t from by omega]; done) | (simp [z_up, show ¬ j - 8 = v from by omega]; done)
    by_cases b2 : j < 22
    · (simp only [b1, b2, if_true, if_false]) <;> first | rfl | (simp [z_up, show ¬ 0 = 2 + t from by omega, show ¬ 1 = 2 + t from by omega]; done) | (simp [z_up, show ¬ j - 16 = t from by omega]; done)
    by_cases b3 : j < 28
    · (simp only [b1, b2, b3, if_true, if_false]) <;> first | rfl | (simp [z_up, show ¬ 2 + (j - 22) = 0 from by omega, show ¬ 2 + (j - 22) = 1 from by omega]; done) | (simp [z_up, show ¬ j - 22 = t from by omega, show ¬ 2 + (j - 22) = 2 + t from by omega]; done)
    (simp only [b1, b2, b3, if_false]) <;> first | rfl | (simp [z_up, show ¬ 10 + (j - 28) = 0 from by omega, show ¬ 10 + (j - 28) = 1 from by omega, show ¬ 10 + (j - 28) = 2 from by omega, show ¬ 10 + (j - 28) = 3 from by omega, show ¬ 10 + (j - 28) = 4 from by omega, show ¬ 10 + (j - 28) = 5 from by omega, show ¬ 10 + (j - 28) = 6 from by omega, show ¬ 10 + (j - 28) = 7 from by omega, show ¬ 10 + (j - 28) = 8 from by omega]; done) | (simp [z_up, show ¬ j - 28 = a from by omega, show ¬ 10 + (j - 28) = 10 + a from by omega]; done)
set_option maxHeartbeats 1000000 in
theorem z_sR {a k : Nat} {x : Int32} (h : a < 8) (hk : k < 2 ^ 31) : (z_wC G ad σ κ).set (28 + a) (ad (28 + a), .inl (z_I G, 8, .inl (upd (fun j => σ (10 + a) j) (nI k).toNatClampNeg x))) = z_wC G ad (z_up σ (10 + a) k x) κ := by
  refine z_w_set ?_ (fun j hj => ?_)
  · rw [z_cR h, nI_clamp hk]
    have e : (fun j => z_up σ (10 + a) k x (10 + a) j) = upd (fun j => σ (10 + a) j) k x := by
      funext j
      by_cases hj : j = k <;> simp [z_up, upd, hj]
    rw [e]
  · simp only [z_cC]
    by_cases a0 : j = 0
    · first | exact absurd a0 hj | (simp [a0, z_up, show ¬ 0 = 10 + a from by omega, show ¬ 1 = 10 + a from by omega, show ¬ 2 = 10 + a from by omega, show ¬ 3 = 10 + a from by omega, show ¬ 4 = 10 + a from by omega, show ¬ 5 = 10 + a from by omega, show ¬ 6 = 10 + a from by omega, show ¬ 7 = 10 + a from by omega, show ¬ 8 = 10 + a from by omega]; done) | (simp [a0, z_up]; omega)
    (simp only [a0, if_false])
    by_cases a1 : j = 1
    · first | exact absurd a1 hj | (simp [a1, z_up, show ¬ 0 = 10 + a from by omega, show ¬ 1 = 10 + a from by omega, show ¬ 2 = 10 + a from by omega, show ¬ 3 = 10 + a from by omega, show ¬ 4 = 10 + a from by omega, show ¬ 5 = 10 + a from by omega, show ¬ 6 = 10 + a from by omega, show ¬ 7 = 10 + a from by omega, show ¬ 8 = 10 + a from by omega]; done) | (simp [a1, z_up]; omega)
    (simp only [a1, if_false])
    by_cases a2 : j = 2
    · first | exact absurd a2 hj | (simp [a2, z_up, show ¬ 0 = 10 + a from by omega, show ¬ 1 = 10 + a from by omega, show ¬ 2 = 10 + a from by omega, show ¬ 3 = 10 + a from by omega, show ¬ 4 = 10 + a from by omega, show ¬ 5 = 10 + a from by omega, show ¬ 6 = 10 + a from by omega, show ¬ 7 = 10 + a from by omega, show ¬ 8 = 10 + a from by omega]; done) | (simp [a2, z_up]; omega)
    (simp only [a2, if_false])
    by_cases a3 : j = 3
    · first | exact absurd a3 hj | (simp [a3, z_up, show ¬ 0 = 10 + a from by omega, show ¬ 1 = 10 + a from by omega, show ¬ 2 = 10 + a from by omega, show ¬ 3 = 10 + a from by omega, show ¬ 4 = 10 + a from by omega, show ¬ 5 = 10 + a from by omega, show ¬ 6 = 10 + a from by omega, show ¬ 7 = 10 + a from by omega, show ¬ 8 = 10 + a from by omega]; done) | (simp [a3, z_up]; omega)
    (simp only [a3, if_false])
    by_cases a4 : j = 4
    · first | exact absurd a4 hj | (simp [a4, z_up, show ¬ 0 = 10 + a from by omega, show ¬ 1 = 10 + a from by omega, show ¬ 2 = 10 + a from by omega, show ¬ 3 = 10 + a from by omega, show ¬ 4 = 10 + a from by omega, show ¬ 5 = 10 + a from by omega, show ¬ 6 = 10 + a from by omega, show ¬ 7 = 10 + a from by omega, show ¬ 8 = 10 + a from by omega]; done) | (simp [a4, z_up]; omega)
    (simp only [a4, if_false])
    by_cases a5 : j = 5
    · first | exact absurd a5 hj | (simp [a5, z_up, show ¬ 0 = 10 + a from by omega, show ¬ 1 = 10 + a from by omega, show ¬ 2 = 10 + a from by omega, show ¬ 3 = 10 + a from by omega, show ¬ 4 = 10 + a from by omega, show ¬ 5 = 10 + a from by omega, show ¬ 6 = 10 + a from by omega, show ¬ 7 = 10 + a from by omega, show ¬ 8 = 10 + a from by omega]; done) | (simp [a5, z_up]; omega)
    (simp only [a5, if_false])
    by_cases a6 : j = 6
    · first | exact absurd a6 hj | (simp [a6, z_up, show ¬ 0 = 10 + a from by omega, show ¬ 1 = 10 + a from by omega, show ¬ 2 = 10 + a from by omega, show ¬ 3 = 10 + a from by omega, show ¬ 4 = 10 + a from by omega, show ¬ 5 = 10 + a from by omega, show ¬ 6 = 10 + a from by omega, show ¬ 7 = 10 + a from by omega, show ¬ 8 = 10 + a from by omega]; done) | (simp [a6, z_up]; omega)
    (simp only [a6, if_false])
    by_cases a7 : j = 7
    · first | exact absurd a7 hj | (simp [a7, z_up, show ¬ 0 = 10 + a from by omega, show ¬ 1 = 10 + a from by omega, show ¬ 2 = 10 + a from by omega, show ¬ 3 = 10 + a from by omega, show ¬ 4 = 10 + a from by omega, show ¬ 5 = 10 + a from by omega, show ¬ 6 = 10 + a from by omega, show ¬ 7 = 10 + a from by omega, show ¬ 8 = 10 + a from by omega]; done) | (simp [a7, z_up]; omega)
    (simp only [a7, if_false])
    by_cases b1 : j < 16
    · (simp only [b1, if_true]) <;> first | rfl | (simp [z_up, show ¬ 0 = 10 + a from by omega, show ¬ 1 = 10 + a from by omega, show ¬ 2 = 10 + a from by omega, show ¬ 3 = 10 + a from by omega, show ¬ 4 = 10 + a from by omega, show ¬ 5 = 10 + a from by omega, show ¬ 6 = 10 + a from by omega, show ¬ 7 = 10 + a from by omega, show ¬ 8 = 10 + a from by omega]; done) | (simp [z_up, show ¬ j - 8 = v from by omega]; done)
    by_cases b2 : j < 22
    · (simp only [b1, b2, if_true, if_false]) <;> first | rfl | (simp [z_up, show ¬ 0 = 10 + a from by omega, show ¬ 1 = 10 + a from by omega, show ¬ 2 = 10 + a from by omega, show ¬ 3 = 10 + a from by omega, show ¬ 4 = 10 + a from by omega, show ¬ 5 = 10 + a from by omega, show ¬ 6 = 10 + a from by omega, show ¬ 7 = 10 + a from by omega, show ¬ 8 = 10 + a from by omega]; done) | (simp [z_up, show ¬ j - 16 = t from by omega]; done)
    by_cases b3 : j < 28
    · (simp only [b1, b2, b3, if_true, if_false]) <;> first | rfl | (simp [z_up, show ¬ 2 + (j - 22) = 0 from by omega, show ¬ 2 + (j - 22) = 1 from by omega]; done) | (simp [z_up, show ¬ j - 22 = t from by omega, show ¬ 2 + (j - 22) = 2 + t from by omega]; done)
    (simp only [b1, b2, b3, if_false]) <;> first | rfl | (simp [z_up, show ¬ 10 + (j - 28) = 0 from by omega, show ¬ 10 + (j - 28) = 1 from by omega, show ¬ 10 + (j - 28) = 2 from by omega, show ¬ 10 + (j - 28) = 3 from by omega, show ¬ 10 + (j - 28) = 4 from by omega, show ¬ 10 + (j - 28) = 5 from by omega, show ¬ 10 + (j - 28) = 6 from by omega, show ¬ 10 + (j - 28) = 7 from by omega, show ¬ 10 + (j - 28) = 8 from by omega]; done) | (simp [z_up, show ¬ j - 28 = a from by omega, show ¬ 10 + (j - 28) = 10 + a from by omega]; done)
set_option maxHeartbeats 1000000 in
theorem z_sH {i : Int32} {x : Int32}  : (z_wC G ad σ κ).set 3 (ad 3, .inl (z_I G, 10, .inl (upd (fun j => σ 7 j) i.toNatClampNeg x))) = z_wC G ad (z_up σ 7 i.toNatClampNeg x) κ := by
  refine z_w_set ?_ (fun j hj => ?_)
  · show (Sum.inl (z_I G, 10, Sum.inl (fun j => z_up σ 7 i.toNatClampNeg x 7 j)) : va_E) = _
    have e : (fun j => z_up σ 7 i.toNatClampNeg x 7 j) = upd (fun j => σ 7 j) i.toNatClampNeg x := by
      funext j
      by_cases hj : j = i.toNatClampNeg <;> simp [z_up, upd, hj]
    rw [e]
  · simp only [z_cC]
    by_cases a0 : j = 0
    · first | exact absurd a0 hj | (simp [a0, z_up]; done) | (simp [a0, z_up]; omega)
    (simp only [a0, if_false])
    by_cases a1 : j = 1
    · first | exact absurd a1 hj | (simp [a1, z_up]; done) | (simp [a1, z_up]; omega)
    (simp only [a1, if_false])
    by_cases a2 : j = 2
    · first | exact absurd a2 hj | (simp [a2, z_up]; done) | (simp [a2, z_up]; omega)
    (simp only [a2, if_false])
    by_cases a3 : j = 3
    · first | exact absurd a3 hj | (simp [a3, z_up]; done) | (simp [a3, z_up]; omega)
    (simp only [a3, if_false])
    by_cases a4 : j = 4
    · first | exact absurd a4 hj | (simp [a4, z_up]; done) | (simp [a4, z_up]; omega)
    (simp only [a4, if_false])
    by_cases a5 : j = 5
    · first | exact absurd a5 hj | (simp [a5, z_up]; done) | (simp [a5, z_up]; omega)
    (simp only [a5, if_false])
    by_cases a6 : j = 6
    · first | exact absurd a6 hj | (simp [a6, z_up]; done) | (simp [a6, z_up]; omega)
    (simp only [a6, if_false])
    by_cases a7 : j = 7
    · first | exact absurd a7 hj | (simp [a7, z_up]; done) | (simp [a7, z_up]; omega)
    (simp only [a7, if_false])
    by_cases b1 : j < 16
    · (simp only [b1, if_true]) <;> first | rfl | (simp [z_up]; done) | (simp [z_up, show ¬ j - 8 = v from by omega]; done)
    by_cases b2 : j < 22
    · (simp only [b1, b2, if_true, if_false]) <;> first | rfl | (simp [z_up]; done) | (simp [z_up, show ¬ j - 16 = t from by omega]; done)
    by_cases b3 : j < 28
    · (simp only [b1, b2, b3, if_true, if_false]) <;> first | rfl | (simp [z_up, show ¬ 2 + (j - 22) = 0 from by omega, show ¬ 2 + (j - 22) = 1 from by omega]; done) | (simp [z_up, show ¬ j - 22 = t from by omega, show ¬ 2 + (j - 22) = 2 + t from by omega]; done)
    (simp only [b1, b2, b3, if_false]) <;> first | rfl | (simp [z_up, show ¬ 10 + (j - 28) = 0 from by omega, show ¬ 10 + (j - 28) = 1 from by omega, show ¬ 10 + (j - 28) = 2 from by omega, show ¬ 10 + (j - 28) = 3 from by omega, show ¬ 10 + (j - 28) = 4 from by omega, show ¬ 10 + (j - 28) = 5 from by omega, show ¬ 10 + (j - 28) = 6 from by omega, show ¬ 10 + (j - 28) = 7 from by omega, show ¬ 10 + (j - 28) = 8 from by omega]; done) | (simp [z_up, show ¬ j - 28 = a from by omega, show ¬ 10 + (j - 28) = 10 + a from by omega]; done)
set_option maxHeartbeats 1000000 in
theorem z_sM6 {x : Nat}  : (z_wC G ad σ κ).set 0 (ad 0, .inr (4, [.ref (ad 1), .ref (ad 2), .ref (ad 3), .ref (ad 4), .ref (ad 6), .ref (ad 7), .int (nI x), .int (nI (κ 0 1)), .int (σ 8 1)])) = z_wC G ad σ (z_up κ 0 0 x) := by
  refine z_w_set ?_ (fun j hj => ?_)
  · simp [z_cC, z_up]
  · simp only [z_cC]
    by_cases a0 : j = 0
    · first | exact absurd a0 hj | (simp [a0, z_up]; done) | (simp [a0, z_up]; omega)
    (simp only [a0, if_false])
    by_cases a1 : j = 1
    · first | exact absurd a1 hj | (simp [a1, z_up]; done) | (simp [a1, z_up]; omega)
    (simp only [a1, if_false])
    by_cases a2 : j = 2
    · first | exact absurd a2 hj | (simp [a2, z_up]; done) | (simp [a2, z_up]; omega)
    (simp only [a2, if_false])
    by_cases a3 : j = 3
    · first | exact absurd a3 hj | (simp [a3, z_up]; done) | (simp [a3, z_up]; omega)
    (simp only [a3, if_false])
    by_cases a4 : j = 4
    · first | exact absurd a4 hj | (simp [a4, z_up]; done) | (simp [a4, z_up]; omega)
    (simp only [a4, if_false])
    by_cases a5 : j = 5
    · first | exact absurd a5 hj | (simp [a5, z_up]; done) | (simp [a5, z_up]; omega)
    (simp only [a5, if_false])
    by_cases a6 : j = 6
    · first | exact absurd a6 hj | (simp [a6, z_up]; done) | (simp [a6, z_up]; omega)
    (simp only [a6, if_false])
    by_cases a7 : j = 7
    · first | exact absurd a7 hj | (simp [a7, z_up]; done) | (simp [a7, z_up]; omega)
    (simp only [a7, if_false])
    by_cases b1 : j < 16
    · (simp only [b1, if_true]) <;> first | rfl | (simp [z_up]; done) | (simp [z_up, show ¬ j - 8 = v from by omega]; done)
    by_cases b2 : j < 22
    · (simp only [b1, b2, if_true, if_false]) <;> first | rfl | (simp [z_up]; done) | (simp [z_up, show ¬ j - 16 = t from by omega]; done)
    by_cases b3 : j < 28
    · (simp only [b1, b2, b3, if_true, if_false]) <;> first | rfl | (simp [z_up, show ¬ 2 + (j - 22) = 0 from by omega, show ¬ 2 + (j - 22) = 1 from by omega]; done) | (simp [z_up, show ¬ j - 22 = t from by omega, show ¬ 2 + (j - 22) = 2 + t from by omega]; done)
    (simp only [b1, b2, b3, if_false]) <;> first | rfl | (simp [z_up, show ¬ 10 + (j - 28) = 0 from by omega, show ¬ 10 + (j - 28) = 1 from by omega, show ¬ 10 + (j - 28) = 2 from by omega, show ¬ 10 + (j - 28) = 3 from by omega, show ¬ 10 + (j - 28) = 4 from by omega, show ¬ 10 + (j - 28) = 5 from by omega, show ¬ 10 + (j - 28) = 6 from by omega, show ¬ 10 + (j - 28) = 7 from by omega, show ¬ 10 + (j - 28) = 8 from by omega]; done) | (simp [z_up, show ¬ j - 28 = a from by omega, show ¬ 10 + (j - 28) = 10 + a from by omega]; done)
set_option maxHeartbeats 1000000 in
theorem z_sM7 {x : Nat}  : (z_wC G ad σ κ).set 0 (ad 0, .inr (4, [.ref (ad 1), .ref (ad 2), .ref (ad 3), .ref (ad 4), .ref (ad 6), .ref (ad 7), .int (nI (κ 0 0)), .int (nI x), .int (σ 8 1)])) = z_wC G ad σ (z_up κ 0 1 x) := by
  refine z_w_set ?_ (fun j hj => ?_)
  · simp [z_cC, z_up]
  · simp only [z_cC]
    by_cases a0 : j = 0
    · first | exact absurd a0 hj | (simp [a0, z_up]; done) | (simp [a0, z_up]; omega)
    (simp only [a0, if_false])
    by_cases a1 : j = 1
    · first | exact absurd a1 hj | (simp [a1, z_up]; done) | (simp [a1, z_up]; omega)
    (simp only [a1, if_false])
    by_cases a2 : j = 2
    · first | exact absurd a2 hj | (simp [a2, z_up]; done) | (simp [a2, z_up]; omega)
    (simp only [a2, if_false])
    by_cases a3 : j = 3
    · first | exact absurd a3 hj | (simp [a3, z_up]; done) | (simp [a3, z_up]; omega)
    (simp only [a3, if_false])
    by_cases a4 : j = 4
    · first | exact absurd a4 hj | (simp [a4, z_up]; done) | (simp [a4, z_up]; omega)
    (simp only [a4, if_false])
    by_cases a5 : j = 5
    · first | exact absurd a5 hj | (simp [a5, z_up]; done) | (simp [a5, z_up]; omega)
    (simp only [a5, if_false])
    by_cases a6 : j = 6
    · first | exact absurd a6 hj | (simp [a6, z_up]; done) | (simp [a6, z_up]; omega)
    (simp only [a6, if_false])
    by_cases a7 : j = 7
    · first | exact absurd a7 hj | (simp [a7, z_up]; done) | (simp [a7, z_up]; omega)
    (simp only [a7, if_false])
    by_cases b1 : j < 16
    · (simp only [b1, if_true]) <;> first | rfl | (simp [z_up]; done) | (simp [z_up, show ¬ j - 8 = v from by omega]; done)
    by_cases b2 : j < 22
    · (simp only [b1, b2, if_true, if_false]) <;> first | rfl | (simp [z_up]; done) | (simp [z_up, show ¬ j - 16 = t from by omega]; done)
    by_cases b3 : j < 28
    · (simp only [b1, b2, b3, if_true, if_false]) <;> first | rfl | (simp [z_up, show ¬ 2 + (j - 22) = 0 from by omega, show ¬ 2 + (j - 22) = 1 from by omega]; done) | (simp [z_up, show ¬ j - 22 = t from by omega, show ¬ 2 + (j - 22) = 2 + t from by omega]; done)
    (simp only [b1, b2, b3, if_false]) <;> first | rfl | (simp [z_up, show ¬ 10 + (j - 28) = 0 from by omega, show ¬ 10 + (j - 28) = 1 from by omega, show ¬ 10 + (j - 28) = 2 from by omega, show ¬ 10 + (j - 28) = 3 from by omega, show ¬ 10 + (j - 28) = 4 from by omega, show ¬ 10 + (j - 28) = 5 from by omega, show ¬ 10 + (j - 28) = 6 from by omega, show ¬ 10 + (j - 28) = 7 from by omega, show ¬ 10 + (j - 28) = 8 from by omega]; done) | (simp [z_up, show ¬ j - 28 = a from by omega, show ¬ 10 + (j - 28) = 10 + a from by omega]; done)
set_option maxHeartbeats 1000000 in
theorem z_sM8 {x : Int32}  : (z_wC G ad σ κ).set 0 (ad 0, .inr (4, [.ref (ad 1), .ref (ad 2), .ref (ad 3), .ref (ad 4), .ref (ad 6), .ref (ad 7), .int (nI (κ 0 0)), .int (nI (κ 0 1)), .int x])) = z_wC G ad (z_up σ 8 1 x) κ := by
  refine z_w_set ?_ (fun j hj => ?_)
  · simp [z_cC, z_up]
  · simp only [z_cC]
    by_cases a0 : j = 0
    · first | exact absurd a0 hj | (simp [a0, z_up]; done) | (simp [a0, z_up]; omega)
    (simp only [a0, if_false])
    by_cases a1 : j = 1
    · first | exact absurd a1 hj | (simp [a1, z_up]; done) | (simp [a1, z_up]; omega)
    (simp only [a1, if_false])
    by_cases a2 : j = 2
    · first | exact absurd a2 hj | (simp [a2, z_up]; done) | (simp [a2, z_up]; omega)
    (simp only [a2, if_false])
    by_cases a3 : j = 3
    · first | exact absurd a3 hj | (simp [a3, z_up]; done) | (simp [a3, z_up]; omega)
    (simp only [a3, if_false])
    by_cases a4 : j = 4
    · first | exact absurd a4 hj | (simp [a4, z_up]; done) | (simp [a4, z_up]; omega)
    (simp only [a4, if_false])
    by_cases a5 : j = 5
    · first | exact absurd a5 hj | (simp [a5, z_up]; done) | (simp [a5, z_up]; omega)
    (simp only [a5, if_false])
    by_cases a6 : j = 6
    · first | exact absurd a6 hj | (simp [a6, z_up]; done) | (simp [a6, z_up]; omega)
    (simp only [a6, if_false])
    by_cases a7 : j = 7
    · first | exact absurd a7 hj | (simp [a7, z_up]; done) | (simp [a7, z_up]; omega)
    (simp only [a7, if_false])
    by_cases b1 : j < 16
    · (simp only [b1, if_true]) <;> first | rfl | (simp [z_up]; done) | (simp [z_up, show ¬ j - 8 = v from by omega]; done)
    by_cases b2 : j < 22
    · (simp only [b1, b2, if_true, if_false]) <;> first | rfl | (simp [z_up]; done) | (simp [z_up, show ¬ j - 16 = t from by omega]; done)
    by_cases b3 : j < 28
    · (simp only [b1, b2, b3, if_true, if_false]) <;> first | rfl | (simp [z_up, show ¬ 2 + (j - 22) = 0 from by omega, show ¬ 2 + (j - 22) = 1 from by omega]; done) | (simp [z_up, show ¬ j - 22 = t from by omega, show ¬ 2 + (j - 22) = 2 + t from by omega]; done)
    (simp only [b1, b2, b3, if_false]) <;> first | rfl | (simp [z_up, show ¬ 10 + (j - 28) = 0 from by omega, show ¬ 10 + (j - 28) = 1 from by omega, show ¬ 10 + (j - 28) = 2 from by omega, show ¬ 10 + (j - 28) = 3 from by omega, show ¬ 10 + (j - 28) = 4 from by omega, show ¬ 10 + (j - 28) = 5 from by omega, show ¬ 10 + (j - 28) = 6 from by omega, show ¬ 10 + (j - 28) = 7 from by omega, show ¬ 10 + (j - 28) = 8 from by omega]; done) | (simp [z_up, show ¬ j - 28 = a from by omega, show ¬ 10 + (j - 28) = 10 + a from by omega]; done)
set_option maxHeartbeats 1000000 in
theorem z_sL {x : Int32}  : (z_wC G ad σ κ).set 4 (ad 4, .inr (1, [.ref (ad 5), .int x])) = z_wC G ad (z_up σ 8 0 x) κ := by
  refine z_w_set ?_ (fun j hj => ?_)
  · simp [z_cC, z_up]
  · simp only [z_cC]
    by_cases a0 : j = 0
    · first | exact absurd a0 hj | (simp [a0, z_up]; done) | (simp [a0, z_up]; omega)
    (simp only [a0, if_false])
    by_cases a1 : j = 1
    · first | exact absurd a1 hj | (simp [a1, z_up]; done) | (simp [a1, z_up]; omega)
    (simp only [a1, if_false])
    by_cases a2 : j = 2
    · first | exact absurd a2 hj | (simp [a2, z_up]; done) | (simp [a2, z_up]; omega)
    (simp only [a2, if_false])
    by_cases a3 : j = 3
    · first | exact absurd a3 hj | (simp [a3, z_up]; done) | (simp [a3, z_up]; omega)
    (simp only [a3, if_false])
    by_cases a4 : j = 4
    · first | exact absurd a4 hj | (simp [a4, z_up]; done) | (simp [a4, z_up]; omega)
    (simp only [a4, if_false])
    by_cases a5 : j = 5
    · first | exact absurd a5 hj | (simp [a5, z_up]; done) | (simp [a5, z_up]; omega)
    (simp only [a5, if_false])
    by_cases a6 : j = 6
    · first | exact absurd a6 hj | (simp [a6, z_up]; done) | (simp [a6, z_up]; omega)
    (simp only [a6, if_false])
    by_cases a7 : j = 7
    · first | exact absurd a7 hj | (simp [a7, z_up]; done) | (simp [a7, z_up]; omega)
    (simp only [a7, if_false])
    by_cases b1 : j < 16
    · (simp only [b1, if_true]) <;> first | rfl | (simp [z_up]; done) | (simp [z_up, show ¬ j - 8 = v from by omega]; done)
    by_cases b2 : j < 22
    · (simp only [b1, b2, if_true, if_false]) <;> first | rfl | (simp [z_up]; done) | (simp [z_up, show ¬ j - 16 = t from by omega]; done)
    by_cases b3 : j < 28
    · (simp only [b1, b2, b3, if_true, if_false]) <;> first | rfl | (simp [z_up, show ¬ 2 + (j - 22) = 0 from by omega, show ¬ 2 + (j - 22) = 1 from by omega]; done) | (simp [z_up, show ¬ j - 22 = t from by omega, show ¬ 2 + (j - 22) = 2 + t from by omega]; done)
    (simp only [b1, b2, b3, if_false]) <;> first | rfl | (simp [z_up, show ¬ 10 + (j - 28) = 0 from by omega, show ¬ 10 + (j - 28) = 1 from by omega, show ¬ 10 + (j - 28) = 2 from by omega, show ¬ 10 + (j - 28) = 3 from by omega, show ¬ 10 + (j - 28) = 4 from by omega, show ¬ 10 + (j - 28) = 5 from by omega, show ¬ 10 + (j - 28) = 6 from by omega, show ¬ 10 + (j - 28) = 7 from by omega, show ¬ 10 + (j - 28) = 8 from by omega]; done) | (simp [z_up, show ¬ j - 28 = a from by omega, show ¬ 10 + (j - 28) = 10 + a from by omega]; done)
set_option maxHeartbeats 1000000 in
theorem z_sB60 {x : Int32}  : (z_wC G ad σ κ).set 6 (ad 6, .inr (0, [.int x, .int (σ 8 3), .int (σ 8 4)])) = z_wC G ad (z_up σ 8 2 x) κ := by
  refine z_w_set ?_ (fun j hj => ?_)
  · simp [z_cC, z_up]
  · simp only [z_cC]
    by_cases a0 : j = 0
    · first | exact absurd a0 hj | (simp [a0, z_up]; done) | (simp [a0, z_up]; omega)
    (simp only [a0, if_false])
    by_cases a1 : j = 1
    · first | exact absurd a1 hj | (simp [a1, z_up]; done) | (simp [a1, z_up]; omega)
    (simp only [a1, if_false])
    by_cases a2 : j = 2
    · first | exact absurd a2 hj | (simp [a2, z_up]; done) | (simp [a2, z_up]; omega)
    (simp only [a2, if_false])
    by_cases a3 : j = 3
    · first | exact absurd a3 hj | (simp [a3, z_up]; done) | (simp [a3, z_up]; omega)
    (simp only [a3, if_false])
    by_cases a4 : j = 4
    · first | exact absurd a4 hj | (simp [a4, z_up]; done) | (simp [a4, z_up]; omega)
    (simp only [a4, if_false])
    by_cases a5 : j = 5
    · first | exact absurd a5 hj | (simp [a5, z_up]; done) | (simp [a5, z_up]; omega)
    (simp only [a5, if_false])
    by_cases a6 : j = 6
    · first | exact absurd a6 hj | (simp [a6, z_up]; done) | (simp [a6, z_up]; omega)
    (simp only [a6, if_false])
    by_cases a7 : j = 7
    · first | exact absurd a7 hj | (simp [a7, z_up]; done) | (simp [a7, z_up]; omega)
    (simp only [a7, if_false])
    by_cases b1 : j < 16
    · (simp only [b1, if_true]) <;> first | rfl | (simp [z_up]; done) | (simp [z_up, show ¬ j - 8 = v from by omega]; done)
    by_cases b2 : j < 22
    · (simp only [b1, b2, if_true, if_false]) <;> first | rfl | (simp [z_up]; done) | (simp [z_up, show ¬ j - 16 = t from by omega]; done)
    by_cases b3 : j < 28
    · (simp only [b1, b2, b3, if_true, if_false]) <;> first | rfl | (simp [z_up, show ¬ 2 + (j - 22) = 0 from by omega, show ¬ 2 + (j - 22) = 1 from by omega]; done) | (simp [z_up, show ¬ j - 22 = t from by omega, show ¬ 2 + (j - 22) = 2 + t from by omega]; done)
    (simp only [b1, b2, b3, if_false]) <;> first | rfl | (simp [z_up, show ¬ 10 + (j - 28) = 0 from by omega, show ¬ 10 + (j - 28) = 1 from by omega, show ¬ 10 + (j - 28) = 2 from by omega, show ¬ 10 + (j - 28) = 3 from by omega, show ¬ 10 + (j - 28) = 4 from by omega, show ¬ 10 + (j - 28) = 5 from by omega, show ¬ 10 + (j - 28) = 6 from by omega, show ¬ 10 + (j - 28) = 7 from by omega, show ¬ 10 + (j - 28) = 8 from by omega]; done) | (simp [z_up, show ¬ j - 28 = a from by omega, show ¬ 10 + (j - 28) = 10 + a from by omega]; done)
set_option maxHeartbeats 1000000 in
theorem z_sB61 {x : Int32}  : (z_wC G ad σ κ).set 6 (ad 6, .inr (0, [.int (σ 8 2), .int x, .int (σ 8 4)])) = z_wC G ad (z_up σ 8 3 x) κ := by
  refine z_w_set ?_ (fun j hj => ?_)
  · simp [z_cC, z_up]
  · simp only [z_cC]
    by_cases a0 : j = 0
    · first | exact absurd a0 hj | (simp [a0, z_up]; done) | (simp [a0, z_up]; omega)
    (simp only [a0, if_false])
    by_cases a1 : j = 1
    · first | exact absurd a1 hj | (simp [a1, z_up]; done) | (simp [a1, z_up]; omega)
    (simp only [a1, if_false])
    by_cases a2 : j = 2
    · first | exact absurd a2 hj | (simp [a2, z_up]; done) | (simp [a2, z_up]; omega)
    (simp only [a2, if_false])
    by_cases a3 : j = 3
    · first | exact absurd a3 hj | (simp [a3, z_up]; done) | (simp [a3, z_up]; omega)
    (simp only [a3, if_false])
    by_cases a4 : j = 4
    · first | exact absurd a4 hj | (simp [a4, z_up]; done) | (simp [a4, z_up]; omega)
    (simp only [a4, if_false])
    by_cases a5 : j = 5
    · first | exact absurd a5 hj | (simp [a5, z_up]; done) | (simp [a5, z_up]; omega)
    (simp only [a5, if_false])
    by_cases a6 : j = 6
    · first | exact absurd a6 hj | (simp [a6, z_up]; done) | (simp [a6, z_up]; omega)
    (simp only [a6, if_false])
    by_cases a7 : j = 7
    · first | exact absurd a7 hj | (simp [a7, z_up]; done) | (simp [a7, z_up]; omega)
    (simp only [a7, if_false])
    by_cases b1 : j < 16
    · (simp only [b1, if_true]) <;> first | rfl | (simp [z_up]; done) | (simp [z_up, show ¬ j - 8 = v from by omega]; done)
    by_cases b2 : j < 22
    · (simp only [b1, b2, if_true, if_false]) <;> first | rfl | (simp [z_up]; done) | (simp [z_up, show ¬ j - 16 = t from by omega]; done)
    by_cases b3 : j < 28
    · (simp only [b1, b2, b3, if_true, if_false]) <;> first | rfl | (simp [z_up, show ¬ 2 + (j - 22) = 0 from by omega, show ¬ 2 + (j - 22) = 1 from by omega]; done) | (simp [z_up, show ¬ j - 22 = t from by omega, show ¬ 2 + (j - 22) = 2 + t from by omega]; done)
    (simp only [b1, b2, b3, if_false]) <;> first | rfl | (simp [z_up, show ¬ 10 + (j - 28) = 0 from by omega, show ¬ 10 + (j - 28) = 1 from by omega, show ¬ 10 + (j - 28) = 2 from by omega, show ¬ 10 + (j - 28) = 3 from by omega, show ¬ 10 + (j - 28) = 4 from by omega, show ¬ 10 + (j - 28) = 5 from by omega, show ¬ 10 + (j - 28) = 6 from by omega, show ¬ 10 + (j - 28) = 7 from by omega, show ¬ 10 + (j - 28) = 8 from by omega]; done) | (simp [z_up, show ¬ j - 28 = a from by omega, show ¬ 10 + (j - 28) = 10 + a from by omega]; done)
set_option maxHeartbeats 1000000 in
theorem z_sB62 {x : Int32}  : (z_wC G ad σ κ).set 6 (ad 6, .inr (0, [.int (σ 8 2), .int (σ 8 3), .int x])) = z_wC G ad (z_up σ 8 4 x) κ := by
  refine z_w_set ?_ (fun j hj => ?_)
  · simp [z_cC, z_up]
  · simp only [z_cC]
    by_cases a0 : j = 0
    · first | exact absurd a0 hj | (simp [a0, z_up]; done) | (simp [a0, z_up]; omega)
    (simp only [a0, if_false])
    by_cases a1 : j = 1
    · first | exact absurd a1 hj | (simp [a1, z_up]; done) | (simp [a1, z_up]; omega)
    (simp only [a1, if_false])
    by_cases a2 : j = 2
    · first | exact absurd a2 hj | (simp [a2, z_up]; done) | (simp [a2, z_up]; omega)
    (simp only [a2, if_false])
    by_cases a3 : j = 3
    · first | exact absurd a3 hj | (simp [a3, z_up]; done) | (simp [a3, z_up]; omega)
    (simp only [a3, if_false])
    by_cases a4 : j = 4
    · first | exact absurd a4 hj | (simp [a4, z_up]; done) | (simp [a4, z_up]; omega)
    (simp only [a4, if_false])
    by_cases a5 : j = 5
    · first | exact absurd a5 hj | (simp [a5, z_up]; done) | (simp [a5, z_up]; omega)
    (simp only [a5, if_false])
    by_cases a6 : j = 6
    · first | exact absurd a6 hj | (simp [a6, z_up]; done) | (simp [a6, z_up]; omega)
    (simp only [a6, if_false])
    by_cases a7 : j = 7
    · first | exact absurd a7 hj | (simp [a7, z_up]; done) | (simp [a7, z_up]; omega)
    (simp only [a7, if_false])
    by_cases b1 : j < 16
    · (simp only [b1, if_true]) <;> first | rfl | (simp [z_up]; done) | (simp [z_up, show ¬ j - 8 = v from by omega]; done)
    by_cases b2 : j < 22
    · (simp only [b1, b2, if_true, if_false]) <;> first | rfl | (simp [z_up]; done) | (simp [z_up, show ¬ j - 16 = t from by omega]; done)
    by_cases b3 : j < 28
    · (simp only [b1, b2, b3, if_true, if_false]) <;> first | rfl | (simp [z_up, show ¬ 2 + (j - 22) = 0 from by omega, show ¬ 2 + (j - 22) = 1 from by omega]; done) | (simp [z_up, show ¬ j - 22 = t from by omega, show ¬ 2 + (j - 22) = 2 + t from by omega]; done)
    (simp only [b1, b2, b3, if_false]) <;> first | rfl | (simp [z_up, show ¬ 10 + (j - 28) = 0 from by omega, show ¬ 10 + (j - 28) = 1 from by omega, show ¬ 10 + (j - 28) = 2 from by omega, show ¬ 10 + (j - 28) = 3 from by omega, show ¬ 10 + (j - 28) = 4 from by omega, show ¬ 10 + (j - 28) = 5 from by omega, show ¬ 10 + (j - 28) = 6 from by omega, show ¬ 10 + (j - 28) = 7 from by omega, show ¬ 10 + (j - 28) = 8 from by omega]; done) | (simp [z_up, show ¬ j - 28 = a from by omega, show ¬ 10 + (j - 28) = 10 + a from by omega]; done)
set_option maxHeartbeats 1000000 in
theorem z_sB70 {x : Int32}  : (z_wC G ad σ κ).set 7 (ad 7, .inr (0, [.int x, .int (σ 8 6), .int (σ 8 7)])) = z_wC G ad (z_up σ 8 5 x) κ := by
  refine z_w_set ?_ (fun j hj => ?_)
  · simp [z_cC, z_up]
  · simp only [z_cC]
    by_cases a0 : j = 0
    · first | exact absurd a0 hj | (simp [a0, z_up]; done) | (simp [a0, z_up]; omega)
    (simp only [a0, if_false])
    by_cases a1 : j = 1
    · first | exact absurd a1 hj | (simp [a1, z_up]; done) | (simp [a1, z_up]; omega)
    (simp only [a1, if_false])
    by_cases a2 : j = 2
    · first | exact absurd a2 hj | (simp [a2, z_up]; done) | (simp [a2, z_up]; omega)
    (simp only [a2, if_false])
    by_cases a3 : j = 3
    · first | exact absurd a3 hj | (simp [a3, z_up]; done) | (simp [a3, z_up]; omega)
    (simp only [a3, if_false])
    by_cases a4 : j = 4
    · first | exact absurd a4 hj | (simp [a4, z_up]; done) | (simp [a4, z_up]; omega)
    (simp only [a4, if_false])
    by_cases a5 : j = 5
    · first | exact absurd a5 hj | (simp [a5, z_up]; done) | (simp [a5, z_up]; omega)
    (simp only [a5, if_false])
    by_cases a6 : j = 6
    · first | exact absurd a6 hj | (simp [a6, z_up]; done) | (simp [a6, z_up]; omega)
    (simp only [a6, if_false])
    by_cases a7 : j = 7
    · first | exact absurd a7 hj | (simp [a7, z_up]; done) | (simp [a7, z_up]; omega)
    (simp only [a7, if_false])
    by_cases b1 : j < 16
    · (simp only [b1, if_true]) <;> first | rfl | (simp [z_up]; done) | (simp [z_up, show ¬ j - 8 = v from by omega]; done)
    by_cases b2 : j < 22
    · (simp only [b1, b2, if_true, if_false]) <;> first | rfl | (simp [z_up]; done) | (simp [z_up, show ¬ j - 16 = t from by omega]; done)
    by_cases b3 : j < 28
    · (simp only [b1, b2, b3, if_true, if_false]) <;> first | rfl | (simp [z_up, show ¬ 2 + (j - 22) = 0 from by omega, show ¬ 2 + (j - 22) = 1 from by omega]; done) | (simp [z_up, show ¬ j - 22 = t from by omega, show ¬ 2 + (j - 22) = 2 + t from by omega]; done)
    (simp only [b1, b2, b3, if_false]) <;> first | rfl | (simp [z_up, show ¬ 10 + (j - 28) = 0 from by omega, show ¬ 10 + (j - 28) = 1 from by omega, show ¬ 10 + (j - 28) = 2 from by omega, show ¬ 10 + (j - 28) = 3 from by omega, show ¬ 10 + (j - 28) = 4 from by omega, show ¬ 10 + (j - 28) = 5 from by omega, show ¬ 10 + (j - 28) = 6 from by omega, show ¬ 10 + (j - 28) = 7 from by omega, show ¬ 10 + (j - 28) = 8 from by omega]; done) | (simp [z_up, show ¬ j - 28 = a from by omega, show ¬ 10 + (j - 28) = 10 + a from by omega]; done)
set_option maxHeartbeats 1000000 in
theorem z_sB71 {x : Int32}  : (z_wC G ad σ κ).set 7 (ad 7, .inr (0, [.int (σ 8 5), .int x, .int (σ 8 7)])) = z_wC G ad (z_up σ 8 6 x) κ := by
  refine z_w_set ?_ (fun j hj => ?_)
  · simp [z_cC, z_up]
  · simp only [z_cC]
    by_cases a0 : j = 0
    · first | exact absurd a0 hj | (simp [a0, z_up]; done) | (simp [a0, z_up]; omega)
    (simp only [a0, if_false])
    by_cases a1 : j = 1
    · first | exact absurd a1 hj | (simp [a1, z_up]; done) | (simp [a1, z_up]; omega)
    (simp only [a1, if_false])
    by_cases a2 : j = 2
    · first | exact absurd a2 hj | (simp [a2, z_up]; done) | (simp [a2, z_up]; omega)
    (simp only [a2, if_false])
    by_cases a3 : j = 3
    · first | exact absurd a3 hj | (simp [a3, z_up]; done) | (simp [a3, z_up]; omega)
    (simp only [a3, if_false])
    by_cases a4 : j = 4
    · first | exact absurd a4 hj | (simp [a4, z_up]; done) | (simp [a4, z_up]; omega)
    (simp only [a4, if_false])
    by_cases a5 : j = 5
    · first | exact absurd a5 hj | (simp [a5, z_up]; done) | (simp [a5, z_up]; omega)
    (simp only [a5, if_false])
    by_cases a6 : j = 6
    · first | exact absurd a6 hj | (simp [a6, z_up]; done) | (simp [a6, z_up]; omega)
    (simp only [a6, if_false])
    by_cases a7 : j = 7
    · first | exact absurd a7 hj | (simp [a7, z_up]; done) | (simp [a7, z_up]; omega)
    (simp only [a7, if_false])
    by_cases b1 : j < 16
    · (simp only [b1, if_true]) <;> first | rfl | (simp [z_up]; done) | (simp [z_up, show ¬ j - 8 = v from by omega]; done)
    by_cases b2 : j < 22
    · (simp only [b1, b2, if_true, if_false]) <;> first | rfl | (simp [z_up]; done) | (simp [z_up, show ¬ j - 16 = t from by omega]; done)
    by_cases b3 : j < 28
    · (simp only [b1, b2, b3, if_true, if_false]) <;> first | rfl | (simp [z_up, show ¬ 2 + (j - 22) = 0 from by omega, show ¬ 2 + (j - 22) = 1 from by omega]; done) | (simp [z_up, show ¬ j - 22 = t from by omega, show ¬ 2 + (j - 22) = 2 + t from by omega]; done)
    (simp only [b1, b2, b3, if_false]) <;> first | rfl | (simp [z_up, show ¬ 10 + (j - 28) = 0 from by omega, show ¬ 10 + (j - 28) = 1 from by omega, show ¬ 10 + (j - 28) = 2 from by omega, show ¬ 10 + (j - 28) = 3 from by omega, show ¬ 10 + (j - 28) = 4 from by omega, show ¬ 10 + (j - 28) = 5 from by omega, show ¬ 10 + (j - 28) = 6 from by omega, show ¬ 10 + (j - 28) = 7 from by omega, show ¬ 10 + (j - 28) = 8 from by omega]; done) | (simp [z_up, show ¬ j - 28 = a from by omega, show ¬ 10 + (j - 28) = 10 + a from by omega]; done)
set_option maxHeartbeats 1000000 in
theorem z_sB72 {x : Int32}  : (z_wC G ad σ κ).set 7 (ad 7, .inr (0, [.int (σ 8 5), .int (σ 8 6), .int x])) = z_wC G ad (z_up σ 8 7 x) κ := by
  refine z_w_set ?_ (fun j hj => ?_)
  · simp [z_cC, z_up]
  · simp only [z_cC]
    by_cases a0 : j = 0
    · first | exact absurd a0 hj | (simp [a0, z_up]; done) | (simp [a0, z_up]; omega)
    (simp only [a0, if_false])
    by_cases a1 : j = 1
    · first | exact absurd a1 hj | (simp [a1, z_up]; done) | (simp [a1, z_up]; omega)
    (simp only [a1, if_false])
    by_cases a2 : j = 2
    · first | exact absurd a2 hj | (simp [a2, z_up]; done) | (simp [a2, z_up]; omega)
    (simp only [a2, if_false])
    by_cases a3 : j = 3
    · first | exact absurd a3 hj | (simp [a3, z_up]; done) | (simp [a3, z_up]; omega)
    (simp only [a3, if_false])
    by_cases a4 : j = 4
    · first | exact absurd a4 hj | (simp [a4, z_up]; done) | (simp [a4, z_up]; omega)
    (simp only [a4, if_false])
    by_cases a5 : j = 5
    · first | exact absurd a5 hj | (simp [a5, z_up]; done) | (simp [a5, z_up]; omega)
    (simp only [a5, if_false])
    by_cases a6 : j = 6
    · first | exact absurd a6 hj | (simp [a6, z_up]; done) | (simp [a6, z_up]; omega)
    (simp only [a6, if_false])
    by_cases a7 : j = 7
    · first | exact absurd a7 hj | (simp [a7, z_up]; done) | (simp [a7, z_up]; omega)
    (simp only [a7, if_false])
    by_cases b1 : j < 16
    · (simp only [b1, if_true]) <;> first | rfl | (simp [z_up]; done) | (simp [z_up, show ¬ j - 8 = v from by omega]; done)
    by_cases b2 : j < 22
    · (simp only [b1, b2, if_true, if_false]) <;> first | rfl | (simp [z_up]; done) | (simp [z_up, show ¬ j - 16 = t from by omega]; done)
    by_cases b3 : j < 28
    · (simp only [b1, b2, b3, if_true, if_false]) <;> first | rfl | (simp [z_up, show ¬ 2 + (j - 22) = 0 from by omega, show ¬ 2 + (j - 22) = 1 from by omega]; done) | (simp [z_up, show ¬ j - 22 = t from by omega, show ¬ 2 + (j - 22) = 2 + t from by omega]; done)
    (simp only [b1, b2, b3, if_false]) <;> first | rfl | (simp [z_up, show ¬ 10 + (j - 28) = 0 from by omega, show ¬ 10 + (j - 28) = 1 from by omega, show ¬ 10 + (j - 28) = 2 from by omega, show ¬ 10 + (j - 28) = 3 from by omega, show ¬ 10 + (j - 28) = 4 from by omega, show ¬ 10 + (j - 28) = 5 from by omega, show ¬ 10 + (j - 28) = 6 from by omega, show ¬ 10 + (j - 28) = 7 from by omega, show ¬ 10 + (j - 28) = 8 from by omega]; done) | (simp [z_up, show ¬ j - 28 = a from by omega, show ¬ 10 + (j - 28) = 10 + a from by omega]; done)
set_option maxHeartbeats 1000000 in
theorem z_tM0 {x : Int32}  : (z_wM G ad σ κ).set 0 (ad 0, .inr (5, [.int x, .int (nI (κ 0 0)), .ref (ad 1), .ref (ad 2), .ref (ad 3), .int (σ 8 0), .ref (ad 4), .ref (ad 5), .int (nI (κ 0 1)), .ref (ad 6), .ref (ad 7), .ref (ad 8), .ref (ad 9)])) = z_wM G ad (z_up σ 8 1 x) κ := by
  refine z_w_set ?_ (fun j hj => ?_)
  · simp [z_cM, z_up]
  · simp only [z_cM]
    by_cases a0 : j = 0
    · first | exact absurd a0 hj | (simp [a0, z_up]; done) | (simp [a0, z_up]; omega)
    (simp only [a0, if_false])
    by_cases a1 : j = 1
    · first | exact absurd a1 hj | (simp [a1, z_up]; done) | (simp [a1, z_up]; omega)
    (simp only [a1, if_false])
    by_cases a2 : j = 2
    · first | exact absurd a2 hj | (simp [a2, z_up]; done) | (simp [a2, z_up]; omega)
    (simp only [a2, if_false])
    by_cases a3 : j = 3
    · first | exact absurd a3 hj | (simp [a3, z_up]; done) | (simp [a3, z_up]; omega)
    (simp only [a3, if_false])
    by_cases a4 : j = 4
    · first | exact absurd a4 hj | (simp [a4, z_up]; done) | (simp [a4, z_up]; omega)
    (simp only [a4, if_false])
    by_cases a5 : j = 5
    · first | exact absurd a5 hj | (simp [a5, z_up]; done) | (simp [a5, z_up]; omega)
    (simp only [a5, if_false])
    by_cases a6 : j = 6
    · first | exact absurd a6 hj | (simp [a6, z_up]; done) | (simp [a6, z_up]; omega)
    (simp only [a6, if_false])
    by_cases a7 : j = 7
    · first | exact absurd a7 hj | (simp [a7, z_up]; done) | (simp [a7, z_up]; omega)
    (simp only [a7, if_false])
    by_cases a8 : j = 8
    · first | exact absurd a8 hj | (simp [a8, z_up]; done) | (simp [a8, z_up]; omega)
    (simp only [a8, if_false]) <;> first | rfl | (simp [z_up]; done) | (exfalso; omega)
set_option maxHeartbeats 1000000 in
theorem z_tM1 {x : Nat}  : (z_wM G ad σ κ).set 0 (ad 0, .inr (5, [.int (σ 8 1), .int (nI x), .ref (ad 1), .ref (ad 2), .ref (ad 3), .int (σ 8 0), .ref (ad 4), .ref (ad 5), .int (nI (κ 0 1)), .ref (ad 6), .ref (ad 7), .ref (ad 8), .ref (ad 9)])) = z_wM G ad σ (z_up κ 0 0 x) := by
  refine z_w_set ?_ (fun j hj => ?_)
  · simp [z_cM, z_up]
  · simp only [z_cM]
    by_cases a0 : j = 0
    · first | exact absurd a0 hj | (simp [a0, z_up]; done) | (simp [a0, z_up]; omega)
    (simp only [a0, if_false])
    by_cases a1 : j = 1
    · first | exact absurd a1 hj | (simp [a1, z_up]; done) | (simp [a1, z_up]; omega)
    (simp only [a1, if_false])
    by_cases a2 : j = 2
    · first | exact absurd a2 hj | (simp [a2, z_up]; done) | (simp [a2, z_up]; omega)
    (simp only [a2, if_false])
    by_cases a3 : j = 3
    · first | exact absurd a3 hj | (simp [a3, z_up]; done) | (simp [a3, z_up]; omega)
    (simp only [a3, if_false])
    by_cases a4 : j = 4
    · first | exact absurd a4 hj | (simp [a4, z_up]; done) | (simp [a4, z_up]; omega)
    (simp only [a4, if_false])
    by_cases a5 : j = 5
    · first | exact absurd a5 hj | (simp [a5, z_up]; done) | (simp [a5, z_up]; omega)
    (simp only [a5, if_false])
    by_cases a6 : j = 6
    · first | exact absurd a6 hj | (simp [a6, z_up]; done) | (simp [a6, z_up]; omega)
    (simp only [a6, if_false])
    by_cases a7 : j = 7
    · first | exact absurd a7 hj | (simp [a7, z_up]; done) | (simp [a7, z_up]; omega)
    (simp only [a7, if_false])
    by_cases a8 : j = 8
    · first | exact absurd a8 hj | (simp [a8, z_up]; done) | (simp [a8, z_up]; omega)
    (simp only [a8, if_false]) <;> first | rfl | (simp [z_up]; done) | (exfalso; omega)
set_option maxHeartbeats 1000000 in
theorem z_tM5 {x : Int32}  : (z_wM G ad σ κ).set 0 (ad 0, .inr (5, [.int (σ 8 1), .int (nI (κ 0 0)), .ref (ad 1), .ref (ad 2), .ref (ad 3), .int x, .ref (ad 4), .ref (ad 5), .int (nI (κ 0 1)), .ref (ad 6), .ref (ad 7), .ref (ad 8), .ref (ad 9)])) = z_wM G ad (z_up σ 8 0 x) κ := by
  refine z_w_set ?_ (fun j hj => ?_)
  · simp [z_cM, z_up]
  · simp only [z_cM]
    by_cases a0 : j = 0
    · first | exact absurd a0 hj | (simp [a0, z_up]; done) | (simp [a0, z_up]; omega)
    (simp only [a0, if_false])
    by_cases a1 : j = 1
    · first | exact absurd a1 hj | (simp [a1, z_up]; done) | (simp [a1, z_up]; omega)
    (simp only [a1, if_false])
    by_cases a2 : j = 2
    · first | exact absurd a2 hj | (simp [a2, z_up]; done) | (simp [a2, z_up]; omega)
    (simp only [a2, if_false])
    by_cases a3 : j = 3
    · first | exact absurd a3 hj | (simp [a3, z_up]; done) | (simp [a3, z_up]; omega)
    (simp only [a3, if_false])
    by_cases a4 : j = 4
    · first | exact absurd a4 hj | (simp [a4, z_up]; done) | (simp [a4, z_up]; omega)
    (simp only [a4, if_false])
    by_cases a5 : j = 5
    · first | exact absurd a5 hj | (simp [a5, z_up]; done) | (simp [a5, z_up]; omega)
    (simp only [a5, if_false])
    by_cases a6 : j = 6
    · first | exact absurd a6 hj | (simp [a6, z_up]; done) | (simp [a6, z_up]; omega)
    (simp only [a6, if_false])
    by_cases a7 : j = 7
    · first | exact absurd a7 hj | (simp [a7, z_up]; done) | (simp [a7, z_up]; omega)
    (simp only [a7, if_false])
    by_cases a8 : j = 8
    · first | exact absurd a8 hj | (simp [a8, z_up]; done) | (simp [a8, z_up]; omega)
    (simp only [a8, if_false]) <;> first | rfl | (simp [z_up]; done) | (exfalso; omega)
set_option maxHeartbeats 1000000 in
theorem z_tM8 {x : Nat}  : (z_wM G ad σ κ).set 0 (ad 0, .inr (5, [.int (σ 8 1), .int (nI (κ 0 0)), .ref (ad 1), .ref (ad 2), .ref (ad 3), .int (σ 8 0), .ref (ad 4), .ref (ad 5), .int (nI x), .ref (ad 6), .ref (ad 7), .ref (ad 8), .ref (ad 9)])) = z_wM G ad σ (z_up κ 0 1 x) := by
  refine z_w_set ?_ (fun j hj => ?_)
  · simp [z_cM, z_up]
  · simp only [z_cM]
    by_cases a0 : j = 0
    · first | exact absurd a0 hj | (simp [a0, z_up]; done) | (simp [a0, z_up]; omega)
    (simp only [a0, if_false])
    by_cases a1 : j = 1
    · first | exact absurd a1 hj | (simp [a1, z_up]; done) | (simp [a1, z_up]; omega)
    (simp only [a1, if_false])
    by_cases a2 : j = 2
    · first | exact absurd a2 hj | (simp [a2, z_up]; done) | (simp [a2, z_up]; omega)
    (simp only [a2, if_false])
    by_cases a3 : j = 3
    · first | exact absurd a3 hj | (simp [a3, z_up]; done) | (simp [a3, z_up]; omega)
    (simp only [a3, if_false])
    by_cases a4 : j = 4
    · first | exact absurd a4 hj | (simp [a4, z_up]; done) | (simp [a4, z_up]; omega)
    (simp only [a4, if_false])
    by_cases a5 : j = 5
    · first | exact absurd a5 hj | (simp [a5, z_up]; done) | (simp [a5, z_up]; omega)
    (simp only [a5, if_false])
    by_cases a6 : j = 6
    · first | exact absurd a6 hj | (simp [a6, z_up]; done) | (simp [a6, z_up]; omega)
    (simp only [a6, if_false])
    by_cases a7 : j = 7
    · first | exact absurd a7 hj | (simp [a7, z_up]; done) | (simp [a7, z_up]; omega)
    (simp only [a7, if_false])
    by_cases a8 : j = 8
    · first | exact absurd a8 hj | (simp [a8, z_up]; done) | (simp [a8, z_up]; omega)
    (simp only [a8, if_false]) <;> first | rfl | (simp [z_up]; done) | (exfalso; omega)
set_option maxHeartbeats 1000000 in
theorem z_tA1 {i : Int32} {x : Int32}  : (z_wM G ad σ κ).set 1 (ad 1, .inl (z_I G, 8, .inl (upd (fun j => σ 0 j) i.toNatClampNeg x))) = z_wM G ad (z_up σ 0 i.toNatClampNeg x) κ := by
  refine z_w_set ?_ (fun j hj => ?_)
  · show (Sum.inl (z_I G, 8, Sum.inl (fun j => z_up σ 0 i.toNatClampNeg x 0 j)) : va_E) = _
    have e : (fun j => z_up σ 0 i.toNatClampNeg x 0 j) = upd (fun j => σ 0 j) i.toNatClampNeg x := by
      funext j
      by_cases hj : j = i.toNatClampNeg <;> simp [z_up, upd, hj]
    rw [e]
  · simp only [z_cM]
    by_cases a0 : j = 0
    · first | exact absurd a0 hj | (simp [a0, z_up]; done) | (simp [a0, z_up]; omega)
    (simp only [a0, if_false])
    by_cases a1 : j = 1
    · first | exact absurd a1 hj | (simp [a1, z_up]; done) | (simp [a1, z_up]; omega)
    (simp only [a1, if_false])
    by_cases a2 : j = 2
    · first | exact absurd a2 hj | (simp [a2, z_up]; done) | (simp [a2, z_up]; omega)
    (simp only [a2, if_false])
    by_cases a3 : j = 3
    · first | exact absurd a3 hj | (simp [a3, z_up]; done) | (simp [a3, z_up]; omega)
    (simp only [a3, if_false])
    by_cases a4 : j = 4
    · first | exact absurd a4 hj | (simp [a4, z_up]; done) | (simp [a4, z_up]; omega)
    (simp only [a4, if_false])
    by_cases a5 : j = 5
    · first | exact absurd a5 hj | (simp [a5, z_up]; done) | (simp [a5, z_up]; omega)
    (simp only [a5, if_false])
    by_cases a6 : j = 6
    · first | exact absurd a6 hj | (simp [a6, z_up]; done) | (simp [a6, z_up]; omega)
    (simp only [a6, if_false])
    by_cases a7 : j = 7
    · first | exact absurd a7 hj | (simp [a7, z_up]; done) | (simp [a7, z_up]; omega)
    (simp only [a7, if_false])
    by_cases a8 : j = 8
    · first | exact absurd a8 hj | (simp [a8, z_up]; done) | (simp [a8, z_up]; omega)
    (simp only [a8, if_false]) <;> first | rfl | (simp [z_up]; done) | (exfalso; omega)
set_option maxHeartbeats 1000000 in
theorem z_tA2 {i : Int32} {x : Int32}  : (z_wM G ad σ κ).set 2 (ad 2, .inl (z_I G, 8, .inl (upd (fun j => σ 1 j) i.toNatClampNeg x))) = z_wM G ad (z_up σ 1 i.toNatClampNeg x) κ := by
  refine z_w_set ?_ (fun j hj => ?_)
  · show (Sum.inl (z_I G, 8, Sum.inl (fun j => z_up σ 1 i.toNatClampNeg x 1 j)) : va_E) = _
    have e : (fun j => z_up σ 1 i.toNatClampNeg x 1 j) = upd (fun j => σ 1 j) i.toNatClampNeg x := by
      funext j
      by_cases hj : j = i.toNatClampNeg <;> simp [z_up, upd, hj]
    rw [e]
  · simp only [z_cM]
    by_cases a0 : j = 0
    · first | exact absurd a0 hj | (simp [a0, z_up]; done) | (simp [a0, z_up]; omega)
    (simp only [a0, if_false])
    by_cases a1 : j = 1
    · first | exact absurd a1 hj | (simp [a1, z_up]; done) | (simp [a1, z_up]; omega)
    (simp only [a1, if_false])
    by_cases a2 : j = 2
    · first | exact absurd a2 hj | (simp [a2, z_up]; done) | (simp [a2, z_up]; omega)
    (simp only [a2, if_false])
    by_cases a3 : j = 3
    · first | exact absurd a3 hj | (simp [a3, z_up]; done) | (simp [a3, z_up]; omega)
    (simp only [a3, if_false])
    by_cases a4 : j = 4
    · first | exact absurd a4 hj | (simp [a4, z_up]; done) | (simp [a4, z_up]; omega)
    (simp only [a4, if_false])
    by_cases a5 : j = 5
    · first | exact absurd a5 hj | (simp [a5, z_up]; done) | (simp [a5, z_up]; omega)
    (simp only [a5, if_false])
    by_cases a6 : j = 6
    · first | exact absurd a6 hj | (simp [a6, z_up]; done) | (simp [a6, z_up]; omega)
    (simp only [a6, if_false])
    by_cases a7 : j = 7
    · first | exact absurd a7 hj | (simp [a7, z_up]; done) | (simp [a7, z_up]; omega)
    (simp only [a7, if_false])
    by_cases a8 : j = 8
    · first | exact absurd a8 hj | (simp [a8, z_up]; done) | (simp [a8, z_up]; omega)
    (simp only [a8, if_false]) <;> first | rfl | (simp [z_up]; done) | (exfalso; omega)
set_option maxHeartbeats 1000000 in
theorem z_tA3 {i : Int32} {x : Int32}  : (z_wM G ad σ κ).set 3 (ad 3, .inl (z_I G, 8, .inl (upd (fun j => σ 2 j) i.toNatClampNeg x))) = z_wM G ad (z_up σ 2 i.toNatClampNeg x) κ := by
  refine z_w_set ?_ (fun j hj => ?_)
  · show (Sum.inl (z_I G, 8, Sum.inl (fun j => z_up σ 2 i.toNatClampNeg x 2 j)) : va_E) = _
    have e : (fun j => z_up σ 2 i.toNatClampNeg x 2 j) = upd (fun j => σ 2 j) i.toNatClampNeg x := by
      funext j
      by_cases hj : j = i.toNatClampNeg <;> simp [z_up, upd, hj]
    rw [e]
  · simp only [z_cM]
    by_cases a0 : j = 0
    · first | exact absurd a0 hj | (simp [a0, z_up]; done) | (simp [a0, z_up]; omega)
    (simp only [a0, if_false])
    by_cases a1 : j = 1
    · first | exact absurd a1 hj | (simp [a1, z_up]; done) | (simp [a1, z_up]; omega)
    (simp only [a1, if_false])
    by_cases a2 : j = 2
    · first | exact absurd a2 hj | (simp [a2, z_up]; done) | (simp [a2, z_up]; omega)
    (simp only [a2, if_false])
    by_cases a3 : j = 3
    · first | exact absurd a3 hj | (simp [a3, z_up]; done) | (simp [a3, z_up]; omega)
    (simp only [a3, if_false])
    by_cases a4 : j = 4
    · first | exact absurd a4 hj | (simp [a4, z_up]; done) | (simp [a4, z_up]; omega)
    (simp only [a4, if_false])
    by_cases a5 : j = 5
    · first | exact absurd a5 hj | (simp [a5, z_up]; done) | (simp [a5, z_up]; omega)
    (simp only [a5, if_false])
    by_cases a6 : j = 6
    · first | exact absurd a6 hj | (simp [a6, z_up]; done) | (simp [a6, z_up]; omega)
    (simp only [a6, if_false])
    by_cases a7 : j = 7
    · first | exact absurd a7 hj | (simp [a7, z_up]; done) | (simp [a7, z_up]; omega)
    (simp only [a7, if_false])
    by_cases a8 : j = 8
    · first | exact absurd a8 hj | (simp [a8, z_up]; done) | (simp [a8, z_up]; omega)
    (simp only [a8, if_false]) <;> first | rfl | (simp [z_up]; done) | (exfalso; omega)
set_option maxHeartbeats 1000000 in
theorem z_tA4 {i : Int32} {x : Int32}  : (z_wM G ad σ κ).set 4 (ad 4, .inl (z_I G, 64, .inl (upd (fun j => σ 10 j) i.toNatClampNeg x))) = z_wM G ad (z_up σ 10 i.toNatClampNeg x) κ := by
  refine z_w_set ?_ (fun j hj => ?_)
  · show (Sum.inl (z_I G, 64, Sum.inl (fun j => z_up σ 10 i.toNatClampNeg x 10 j)) : va_E) = _
    have e : (fun j => z_up σ 10 i.toNatClampNeg x 10 j) = upd (fun j => σ 10 j) i.toNatClampNeg x := by
      funext j
      by_cases hj : j = i.toNatClampNeg <;> simp [z_up, upd, hj]
    rw [e]
  · simp only [z_cM]
    by_cases a0 : j = 0
    · first | exact absurd a0 hj | (simp [a0, z_up]; done) | (simp [a0, z_up]; omega)
    (simp only [a0, if_false])
    by_cases a1 : j = 1
    · first | exact absurd a1 hj | (simp [a1, z_up]; done) | (simp [a1, z_up]; omega)
    (simp only [a1, if_false])
    by_cases a2 : j = 2
    · first | exact absurd a2 hj | (simp [a2, z_up]; done) | (simp [a2, z_up]; omega)
    (simp only [a2, if_false])
    by_cases a3 : j = 3
    · first | exact absurd a3 hj | (simp [a3, z_up]; done) | (simp [a3, z_up]; omega)
    (simp only [a3, if_false])
    by_cases a4 : j = 4
    · first | exact absurd a4 hj | (simp [a4, z_up]; done) | (simp [a4, z_up]; omega)
    (simp only [a4, if_false])
    by_cases a5 : j = 5
    · first | exact absurd a5 hj | (simp [a5, z_up]; done) | (simp [a5, z_up]; omega)
    (simp only [a5, if_false])
    by_cases a6 : j = 6
    · first | exact absurd a6 hj | (simp [a6, z_up]; done) | (simp [a6, z_up]; omega)
    (simp only [a6, if_false])
    by_cases a7 : j = 7
    · first | exact absurd a7 hj | (simp [a7, z_up]; done) | (simp [a7, z_up]; omega)
    (simp only [a7, if_false])
    by_cases a8 : j = 8
    · first | exact absurd a8 hj | (simp [a8, z_up]; done) | (simp [a8, z_up]; omega)
    (simp only [a8, if_false]) <;> first | rfl | (simp [z_up]; done) | (exfalso; omega)
set_option maxHeartbeats 1000000 in
theorem z_tA5 {i : Int32} {x : Int32}  : (z_wM G ad σ κ).set 5 (ad 5, .inl (z_I G, 10, .inl (upd (fun j => σ 7 j) i.toNatClampNeg x))) = z_wM G ad (z_up σ 7 i.toNatClampNeg x) κ := by
  refine z_w_set ?_ (fun j hj => ?_)
  · show (Sum.inl (z_I G, 10, Sum.inl (fun j => z_up σ 7 i.toNatClampNeg x 7 j)) : va_E) = _
    have e : (fun j => z_up σ 7 i.toNatClampNeg x 7 j) = upd (fun j => σ 7 j) i.toNatClampNeg x := by
      funext j
      by_cases hj : j = i.toNatClampNeg <;> simp [z_up, upd, hj]
    rw [e]
  · simp only [z_cM]
    by_cases a0 : j = 0
    · first | exact absurd a0 hj | (simp [a0, z_up]; done) | (simp [a0, z_up]; omega)
    (simp only [a0, if_false])
    by_cases a1 : j = 1
    · first | exact absurd a1 hj | (simp [a1, z_up]; done) | (simp [a1, z_up]; omega)
    (simp only [a1, if_false])
    by_cases a2 : j = 2
    · first | exact absurd a2 hj | (simp [a2, z_up]; done) | (simp [a2, z_up]; omega)
    (simp only [a2, if_false])
    by_cases a3 : j = 3
    · first | exact absurd a3 hj | (simp [a3, z_up]; done) | (simp [a3, z_up]; omega)
    (simp only [a3, if_false])
    by_cases a4 : j = 4
    · first | exact absurd a4 hj | (simp [a4, z_up]; done) | (simp [a4, z_up]; omega)
    (simp only [a4, if_false])
    by_cases a5 : j = 5
    · first | exact absurd a5 hj | (simp [a5, z_up]; done) | (simp [a5, z_up]; omega)
    (simp only [a5, if_false])
    by_cases a6 : j = 6
    · first | exact absurd a6 hj | (simp [a6, z_up]; done) | (simp [a6, z_up]; omega)
    (simp only [a6, if_false])
    by_cases a7 : j = 7
    · first | exact absurd a7 hj | (simp [a7, z_up]; done) | (simp [a7, z_up]; omega)
    (simp only [a7, if_false])
    by_cases a8 : j = 8
    · first | exact absurd a8 hj | (simp [a8, z_up]; done) | (simp [a8, z_up]; omega)
    (simp only [a8, if_false]) <;> first | rfl | (simp [z_up]; done) | (exfalso; omega)
set_option maxHeartbeats 1000000 in
theorem z_tA6 {i : Int32} {x : Int32}  : (z_wM G ad σ κ).set 6 (ad 6, .inl (z_I G, 6, .inl (upd (fun j => σ 5 j) i.toNatClampNeg x))) = z_wM G ad (z_up σ 5 i.toNatClampNeg x) κ := by
  refine z_w_set ?_ (fun j hj => ?_)
  · show (Sum.inl (z_I G, 6, Sum.inl (fun j => z_up σ 5 i.toNatClampNeg x 5 j)) : va_E) = _
    have e : (fun j => z_up σ 5 i.toNatClampNeg x 5 j) = upd (fun j => σ 5 j) i.toNatClampNeg x := by
      funext j
      by_cases hj : j = i.toNatClampNeg <;> simp [z_up, upd, hj]
    rw [e]
  · simp only [z_cM]
    by_cases a0 : j = 0
    · first | exact absurd a0 hj | (simp [a0, z_up]; done) | (simp [a0, z_up]; omega)
    (simp only [a0, if_false])
    by_cases a1 : j = 1
    · first | exact absurd a1 hj | (simp [a1, z_up]; done) | (simp [a1, z_up]; omega)
    (simp only [a1, if_false])
    by_cases a2 : j = 2
    · first | exact absurd a2 hj | (simp [a2, z_up]; done) | (simp [a2, z_up]; omega)
    (simp only [a2, if_false])
    by_cases a3 : j = 3
    · first | exact absurd a3 hj | (simp [a3, z_up]; done) | (simp [a3, z_up]; omega)
    (simp only [a3, if_false])
    by_cases a4 : j = 4
    · first | exact absurd a4 hj | (simp [a4, z_up]; done) | (simp [a4, z_up]; omega)
    (simp only [a4, if_false])
    by_cases a5 : j = 5
    · first | exact absurd a5 hj | (simp [a5, z_up]; done) | (simp [a5, z_up]; omega)
    (simp only [a5, if_false])
    by_cases a6 : j = 6
    · first | exact absurd a6 hj | (simp [a6, z_up]; done) | (simp [a6, z_up]; omega)
    (simp only [a6, if_false])
    by_cases a7 : j = 7
    · first | exact absurd a7 hj | (simp [a7, z_up]; done) | (simp [a7, z_up]; omega)
    (simp only [a7, if_false])
    by_cases a8 : j = 8
    · first | exact absurd a8 hj | (simp [a8, z_up]; done) | (simp [a8, z_up]; omega)
    (simp only [a8, if_false]) <;> first | rfl | (simp [z_up]; done) | (exfalso; omega)
set_option maxHeartbeats 1000000 in
theorem z_tA7 {k x : Nat} (hk : k < 2 ^ 31) : (z_wM G ad σ κ).set 7 (ad 7, .inl (z_I G, 6, .inl (upd (fun j => nI (κ 1 j)) (nI k).toNatClampNeg (nI x)))) = z_wM G ad σ (z_up κ 1 k x) := by
  refine z_w_set ?_ (fun j hj => ?_)
  · show (Sum.inl (z_I G, 6, Sum.inl (fun j => nI (z_up κ 1 k x 1 j))) : va_E) = _
    rw [nI_clamp hk]
    have e : (fun j => nI (z_up κ 1 k x 1 j)) = upd (fun j => nI (κ 1 j)) k (nI x) := by
      funext j
      by_cases hj : j = k <;> simp [z_up, upd, hj]
    rw [e]
  · simp only [z_cM]
    by_cases a0 : j = 0
    · first | exact absurd a0 hj | (simp [a0, z_up]; done) | (simp [a0, z_up]; omega)
    (simp only [a0, if_false])
    by_cases a1 : j = 1
    · first | exact absurd a1 hj | (simp [a1, z_up]; done) | (simp [a1, z_up]; omega)
    (simp only [a1, if_false])
    by_cases a2 : j = 2
    · first | exact absurd a2 hj | (simp [a2, z_up]; done) | (simp [a2, z_up]; omega)
    (simp only [a2, if_false])
    by_cases a3 : j = 3
    · first | exact absurd a3 hj | (simp [a3, z_up]; done) | (simp [a3, z_up]; omega)
    (simp only [a3, if_false])
    by_cases a4 : j = 4
    · first | exact absurd a4 hj | (simp [a4, z_up]; done) | (simp [a4, z_up]; omega)
    (simp only [a4, if_false])
    by_cases a5 : j = 5
    · first | exact absurd a5 hj | (simp [a5, z_up]; done) | (simp [a5, z_up]; omega)
    (simp only [a5, if_false])
    by_cases a6 : j = 6
    · first | exact absurd a6 hj | (simp [a6, z_up]; done) | (simp [a6, z_up]; omega)
    (simp only [a6, if_false])
    by_cases a7 : j = 7
    · first | exact absurd a7 hj | (simp [a7, z_up]; done) | (simp [a7, z_up]; omega)
    (simp only [a7, if_false])
    by_cases a8 : j = 8
    · first | exact absurd a8 hj | (simp [a8, z_up]; done) | (simp [a8, z_up]; omega)
    (simp only [a8, if_false]) <;> first | rfl | (simp [z_up]; done) | (exfalso; omega)
set_option maxHeartbeats 1000000 in
theorem z_tA8 {k x : Nat} (hk : k < 2 ^ 31) : (z_wM G ad σ κ).set 8 (ad 8, .inl (z_I G, 30, .inl (upd (fun j => nI (κ 2 j)) (nI k).toNatClampNeg (nI x)))) = z_wM G ad σ (z_up κ 2 k x) := by
  refine z_w_set ?_ (fun j hj => ?_)
  · show (Sum.inl (z_I G, 30, Sum.inl (fun j => nI (z_up κ 2 k x 2 j))) : va_E) = _
    rw [nI_clamp hk]
    have e : (fun j => nI (z_up κ 2 k x 2 j)) = upd (fun j => nI (κ 2 j)) k (nI x) := by
      funext j
      by_cases hj : j = k <;> simp [z_up, upd, hj]
    rw [e]
  · simp only [z_cM]
    by_cases a0 : j = 0
    · first | exact absurd a0 hj | (simp [a0, z_up]; done) | (simp [a0, z_up]; omega)
    (simp only [a0, if_false])
    by_cases a1 : j = 1
    · first | exact absurd a1 hj | (simp [a1, z_up]; done) | (simp [a1, z_up]; omega)
    (simp only [a1, if_false])
    by_cases a2 : j = 2
    · first | exact absurd a2 hj | (simp [a2, z_up]; done) | (simp [a2, z_up]; omega)
    (simp only [a2, if_false])
    by_cases a3 : j = 3
    · first | exact absurd a3 hj | (simp [a3, z_up]; done) | (simp [a3, z_up]; omega)
    (simp only [a3, if_false])
    by_cases a4 : j = 4
    · first | exact absurd a4 hj | (simp [a4, z_up]; done) | (simp [a4, z_up]; omega)
    (simp only [a4, if_false])
    by_cases a5 : j = 5
    · first | exact absurd a5 hj | (simp [a5, z_up]; done) | (simp [a5, z_up]; omega)
    (simp only [a5, if_false])
    by_cases a6 : j = 6
    · first | exact absurd a6 hj | (simp [a6, z_up]; done) | (simp [a6, z_up]; omega)
    (simp only [a6, if_false])
    by_cases a7 : j = 7
    · first | exact absurd a7 hj | (simp [a7, z_up]; done) | (simp [a7, z_up]; omega)
    (simp only [a7, if_false])
    by_cases a8 : j = 8
    · first | exact absurd a8 hj | (simp [a8, z_up]; done) | (simp [a8, z_up]; omega)
    (simp only [a8, if_false]) <;> first | rfl | (simp [z_up]; done) | (exfalso; omega)
end ZG
