/-! Part 10: the reference's cells where its row of numbers is another one (x); what the reference answers and does, in numbers alone. -/
abbrev z_wN (G : z_GT) (ad : Nat → Nat) (x : Nat) (σ : Nat → Nat → Int32) (κ : Nat → Nat → Nat) : va_W := z_w 10 (fun k => if k = 9 then x else ad k) (z_cM G ad σ κ)
theorem z_w_set2 {n : Nat} {ad : Nat → Nat} {ce ce' : Nat → va_E} {k : Nat} {e : va_E} (h1 : ce' k = e) (h2 : ∀ j, j < n → j ≠ k → ce' j = ce j) : (z_w n ad ce).set k (ad k, e) = z_w n ad ce' := by
  apply List.ext_getElem?
  intro j
  by_cases hj : j = k
  · subst hj
    by_cases hl : j < n
    · rw [List.getElem?_set_self (by simp [z_w, hl]), z_w_get hl h1]
    · rw [z_w_no hl]
      apply List.getElem?_eq_none
      simp [z_w]
      omega
  · rw [List.getElem?_set_ne (Ne.symm hj)]
    by_cases hl : j < n
    · rw [z_w_at hl, z_w_at hl, h2 j hl hj]
    · rw [z_w_no hl, z_w_no hl]
theorem z_wN_self (G : z_GT) (ad : Nat → Nat) (σ : Nat → Nat → Int32) (κ : Nat → Nat → Nat) : z_wN G ad (ad 9) σ κ = z_wM G ad σ κ := by
  have e : (fun k => if k = 9 then ad 9 else ad k) = ad := by
    funext k
    by_cases h : k = 9
    · rw [if_pos h, h]
    · rw [if_neg h]
  show z_w 10 _ _ = z_w 10 _ _
  rw [e]
theorem z_NM {G : z_GT} {ad : Nat → Nat} {σ : Nat → Nat → Int32} {κ : Nat → Nat → Nat} {D : va_G} {cl : List vw_C} {H : Heap} (h : va_P D cl (z_wM G ad σ κ) H) : va_P D cl (z_wN G ad (ad 9) σ κ) H := by
  rw [z_wN_self]
  exact h
theorem z_MN {G : z_GT} {ad : Nat → Nat} {σ : Nat → Nat → Int32} {κ : Nat → Nat → Nat} {D : va_G} {cl : List vw_C} {H : Heap} (h : va_P D cl (z_wN G ad (ad 9) σ κ) H) : va_P D cl (z_wM G ad σ κ) H := by
  rw [z_wN_self] at h
  exact h
section ZNN
variable {G : z_GT} {ad : Nat → Nat} {x : Nat} {σ : Nat → Nat → Int32} {κ : Nat → Nat → Nat}
theorem z_n0 : (z_wN G ad x σ κ)[0]? = some (ad 0, .inr (5, [.int (σ 8 1), .int (nI (κ 0 0)), .ref (ad 1), .ref (ad 2), .ref (ad 3), .int (σ 8 0), .ref (ad 4), .ref (ad 5), .int (nI (κ 0 1)), .ref (ad 6), .ref (ad 7), .ref (ad 8), .ref (ad 9)])) := z_w_get (by decide) rfl
theorem z_n1 : (z_wN G ad x σ κ)[1]? = some (ad 1, .inl (z_I G, 8, .inl (fun j => σ 0 j))) := z_w_get (by decide) rfl
theorem z_n2 : (z_wN G ad x σ κ)[2]? = some (ad 2, .inl (z_I G, 8, .inl (fun j => σ 1 j))) := z_w_get (by decide) rfl
theorem z_n3 : (z_wN G ad x σ κ)[3]? = some (ad 3, .inl (z_I G, 8, .inl (fun j => σ 2 j))) := z_w_get (by decide) rfl
theorem z_n4 : (z_wN G ad x σ κ)[4]? = some (ad 4, .inl (z_I G, 64, .inl (fun j => σ 10 j))) := z_w_get (by decide) rfl
theorem z_n5 : (z_wN G ad x σ κ)[5]? = some (ad 5, .inl (z_I G, 10, .inl (fun j => σ 7 j))) := z_w_get (by decide) rfl
theorem z_n6 : (z_wN G ad x σ κ)[6]? = some (ad 6, .inl (z_I G, 6, .inl (fun j => σ 5 j))) := z_w_get (by decide) rfl
theorem z_n7 : (z_wN G ad x σ κ)[7]? = some (ad 7, .inl (z_I G, 6, .inl (fun j => nI (κ 1 j)))) := z_w_get (by decide) rfl
theorem z_n8 : (z_wN G ad x σ κ)[8]? = some (ad 8, .inl (z_I G, 30, .inl (fun j => nI (κ 2 j)))) := z_w_get (by decide) rfl
theorem z_n9 : (z_wN G ad x σ κ)[9]? = some (x, .inl (z_I G, 4, .inl (fun j => σ 9 j))) := z_w_get (by decide) rfl
theorem z_sN9 {k : Nat} {y : Int32} (hk : k < 2 ^ 31) : (z_wN G ad x σ κ).set 9 (x, .inl (z_I G, 4, .inl (upd (fun j => σ 9 j) (nI k).toNatClampNeg y))) = z_wN G ad x (z_up σ 9 k y) κ := by
  refine z_w_set2 (k := 9) ?_ (fun j hl hj => ?_)
  · show (Sum.inl (z_I G, 4, Sum.inl (fun j => z_up σ 9 k y 9 j)) : va_E) = _
    rw [nI_clamp hk]
    have e : (fun j => z_up σ 9 k y 9 j) = upd (fun j => σ 9 j) k y := by
      funext j
      by_cases hj : j = k <;> simp [z_up, upd, hj]
    rw [e]
  · simp only [z_cM]
    by_cases a0 : j = 0
    · first | exact absurd a0 hj | (simp [a0, z_up]; done)
    (simp only [a0, if_false])
    by_cases a1 : j = 1
    · first | exact absurd a1 hj | (simp [a1, z_up]; done)
    (simp only [a1, if_false])
    by_cases a2 : j = 2
    · first | exact absurd a2 hj | (simp [a2, z_up]; done)
    (simp only [a2, if_false])
    by_cases a3 : j = 3
    · first | exact absurd a3 hj | (simp [a3, z_up]; done)
    (simp only [a3, if_false])
    by_cases a4 : j = 4
    · first | exact absurd a4 hj | (simp [a4, z_up]; done)
    (simp only [a4, if_false])
    by_cases a5 : j = 5
    · first | exact absurd a5 hj | (simp [a5, z_up]; done)
    (simp only [a5, if_false])
    by_cases a6 : j = 6
    · first | exact absurd a6 hj | (simp [a6, z_up]; done)
    (simp only [a6, if_false])
    by_cases a7 : j = 7
    · first | exact absurd a7 hj | (simp [a7, z_up]; done)
    (simp only [a7, if_false])
    by_cases a8 : j = 8
    · first | exact absurd a8 hj | (simp [a8, z_up]; done)
    (simp only [a8, if_false]) <;> (exfalso; omega)
end ZNN
theorem z_tB1 {G : z_GT} {ad : Nat → Nat} {σ : Nat → Nat → Int32} {κ : Nat → Nat → Nat} {k : Nat} {y : Int32} (hk : k < 2 ^ 31) : (z_wM G ad σ κ).set 1 (ad 1, .inl (z_I G, 8, .inl (upd (fun j => σ 0 j) (nI k).toNatClampNeg y))) = z_wM G ad (z_up σ 0 k y) κ := by
  have h := z_tA1 (G := G) (ad := ad) (σ := σ) (κ := κ) (i := nI k) (x := y)
  rw [nI_clamp hk] at h ⊢
  exact h
theorem z_tB2 {G : z_GT} {ad : Nat → Nat} {σ : Nat → Nat → Int32} {κ : Nat → Nat → Nat} {k : Nat} {y : Int32} (hk : k < 2 ^ 31) : (z_wM G ad σ κ).set 2 (ad 2, .inl (z_I G, 8, .inl (upd (fun j => σ 1 j) (nI k).toNatClampNeg y))) = z_wM G ad (z_up σ 1 k y) κ := by
  have h := z_tA2 (G := G) (ad := ad) (σ := σ) (κ := κ) (i := nI k) (x := y)
  rw [nI_clamp hk] at h ⊢
  exact h
theorem z_tB3 {G : z_GT} {ad : Nat → Nat} {σ : Nat → Nat → Int32} {κ : Nat → Nat → Nat} {k : Nat} {y : Int32} (hk : k < 2 ^ 31) : (z_wM G ad σ κ).set 3 (ad 3, .inl (z_I G, 8, .inl (upd (fun j => σ 2 j) (nI k).toNatClampNeg y))) = z_wM G ad (z_up σ 2 k y) κ := by
  have h := z_tA3 (G := G) (ad := ad) (σ := σ) (κ := κ) (i := nI k) (x := y)
  rw [nI_clamp hk] at h ⊢
  exact h
theorem z_tB4 {G : z_GT} {ad : Nat → Nat} {σ : Nat → Nat → Int32} {κ : Nat → Nat → Nat} {k : Nat} {y : Int32} (hk : k < 2 ^ 31) : (z_wM G ad σ κ).set 4 (ad 4, .inl (z_I G, 64, .inl (upd (fun j => σ 10 j) (nI k).toNatClampNeg y))) = z_wM G ad (z_up σ 10 k y) κ := by
  have h := z_tA4 (G := G) (ad := ad) (σ := σ) (κ := κ) (i := nI k) (x := y)
  rw [nI_clamp hk] at h ⊢
  exact h
theorem z_tB5 {G : z_GT} {ad : Nat → Nat} {σ : Nat → Nat → Int32} {κ : Nat → Nat → Nat} {k : Nat} {y : Int32} (hk : k < 2 ^ 31) : (z_wM G ad σ κ).set 5 (ad 5, .inl (z_I G, 10, .inl (upd (fun j => σ 7 j) (nI k).toNatClampNeg y))) = z_wM G ad (z_up σ 7 k y) κ := by
  have h := z_tA5 (G := G) (ad := ad) (σ := σ) (κ := κ) (i := nI k) (x := y)
  rw [nI_clamp hk] at h ⊢
  exact h
theorem z_tB6 {G : z_GT} {ad : Nat → Nat} {σ : Nat → Nat → Int32} {κ : Nat → Nat → Nat} {k : Nat} {y : Int32} (hk : k < 2 ^ 31) : (z_wM G ad σ κ).set 6 (ad 6, .inl (z_I G, 6, .inl (upd (fun j => σ 5 j) (nI k).toNatClampNeg y))) = z_wM G ad (z_up σ 5 k y) κ := by
  have h := z_tA6 (G := G) (ad := ad) (σ := σ) (κ := κ) (i := nI k) (x := y)
  rw [nI_clamp hk] at h ⊢
  exact h
/-! the reference's numbers -/
def y_bl (f n d : Int32) : Int32 := if z_wi d f (f + n - 1) = 0 then 0 else 100 * (if f + n - d < d - f + 1 then f + n - d else d - f + 1) / ((n + 1) / 2)
def y_mns (σ : Nat → Nat → Int32) (κ : Nat → Nat → Nat) (t : Nat) : Int32 := z_mn (fun a b => σ 10 (8 * a + b)) (fun k => κ 2 (5 * t + k)) (κ 1 t)
def y_go (σ : Nat → Nat → Int32) (κ : Nat → Nat → Nat) (t : Nat) : Int32 := z_wi (y_mns σ κ t) 1 480
def y_has (κ : Nat → Nat → Nat) (t v : Nat) : Bool := z_vi (fun k => κ 2 (5 * t + k)) v (κ 1 t)
def y_cf (σ : Nat → Nat → Int32) (κ : Nat → Nat → Nat) (v t : Nat) : Int32 := if y_has κ t v = true then (if y_go σ κ t = 0 then 0 else σ 5 t) else 0
def y_cr (σ : Nat → Nat → Int32) (κ : Nat → Nat → Nat) (v : Nat) : Int32 := z_sm (y_cf σ κ v) (κ 0 1)
def y_vf (σ : Nat → Nat → Int32) (κ : Nat → Nat → Nat) (v t : Nat) : Int32 := if y_has κ t v = true then (if y_go σ κ t = 0 then 0 else 1) else 0
def y_jf (σ : Nat → Nat → Int32) (κ : Nat → Nat → Nat) (t : Nat) (d : Int32) (k : Nat) : Int32 := if 0 < y_bl (σ 0 (κ 2 (5 * t + k))) (σ 1 (κ 2 (5 * t + k))) d - y_cr σ κ (κ 2 (5 * t + k)) / 10 then y_bl (σ 0 (κ 2 (5 * t + k))) (σ 1 (κ 2 (5 * t + k))) d - y_cr σ κ (κ 2 (5 * t + k)) / 10 else 0
def y_joy (σ : Nat → Nat → Int32) (κ : Nat → Nat → Nat) (t : Nat) (d : Int32) : Int32 := if y_go σ κ t = 0 then 0 else z_sm (y_jf σ κ t d) (κ 1 t)
def y_gf (σ : Nat → Nat → Int32) (κ : Nat → Nat → Nat) (t : Nat) (d : Int32) (k : Nat) : Int32 := σ 5 t * σ 2 (κ 2 (5 * t + k)) * y_bl (σ 0 (κ 2 (5 * t + k))) (σ 1 (κ 2 (5 * t + k))) d / 5000
def y_stg (σ : Nat → Nat → Int32) (κ : Nat → Nat → Nat) (t : Nat) (d : Int32) : Int32 := if y_go σ κ t = 0 then 0 else z_sm (y_gf σ κ t d) (κ 1 t)
def y_gn (σ : Nat → Nat → Int32) (κ : Nat → Nat → Nat) (t : Nat) : Int32 := if y_go σ κ t = 0 then 0 else 1
def y_bn (σ : Nat → Nat → Int32) (d : Int32) (v : Nat) : Int32 := if y_bl (σ 0 v) (σ 1 v) d ≤ 0 then 0 else 1
def y_tld (σ : Nat → Nat → Int32) (κ : Nat → Nat → Nat) (t : Nat) : Nat → Int32
  | 0 => σ 5 t
  | 1 => nI (κ 1 t)
  | 2 => y_mns σ κ t
  | 3 => if y_go σ κ t = 0 then 0 else 1
  | 4 => y_joy σ κ t (σ 9 0)
  | _ => y_stg σ κ t (σ 9 0)
def y_abt (σ : Nat → Nat → Int32) (κ : Nat → Nat → Nat) (v : Nat) : Nat → Int32
  | 0 => σ 0 v
  | 1 => σ 1 v
  | 2 => σ 2 v
  | 3 => y_bl (σ 0 v) (σ 1 v) (σ 9 0)
  | 4 => y_cr σ κ v
  | _ => z_sm (y_vf σ κ v) (κ 0 1)
def y_cnt (σ : Nat → Nat → Int32) (κ : Nat → Nat → Nat) : Nat → Int32
  | 0 => σ 9 0
  | 1 => nI (κ 0 0)
  | 2 => σ 8 0
  | 3 => nI (κ 0 1)
  | 4 => z_sm (y_gn σ κ) (κ 0 1)
  | 5 => z_sm (y_bn σ (σ 9 0)) (κ 0 0)
  | 6 => σ 9 1
  | 7 => σ 9 2
  | _ => σ 9 3
/-- what holds of the reference -/
def y_wf (σ : Nat → Nat → Int32) (κ : Nat → Nat → Nat) : Prop := κ 0 0 ≤ 8 ∧ κ 0 1 ≤ 6 ∧ (∀ t, t < 6 → κ 1 t ≤ 5) ∧ (∀ t, t < 6 → ∀ j, j < κ 1 t → κ 2 (5 * t + j) < κ 0 0) ∧ (∀ v, v < κ 0 0 → ¬ (σ 1 v + 1) / 2 = 0) ∧ ∀ a b, a < 8 → b < 8 → σ 10 (8 * a + b) = -1 ∨ 0 ≤ σ 10 (8 * a + b)
/-- four numbers -/
def y_n4 (σ : Nat → Nat → Int32) (w x y z : Int32) : Nat → Nat → Int32 := z_up (z_up (z_up (z_up σ 9 0 w) 9 1 x) 9 2 y) 9 3 z
def y_fc (σ : Nat → Nat → Int32) (κ : Nat → Nat → Nat) (d t : Nat) : Int32 := if y_go σ κ t = 0 then 0 else y_joy σ κ t (nI d) * σ 5 t / 100 + σ 5 t * σ 7 (d % 10) / 40
def y_fj (σ : Nat → Nat → Int32) (κ : Nat → Nat → Nat) (d t : Nat) : Int32 := if y_go σ κ t = 0 then 0 else y_joy σ κ t (nI d)
def y_fs (σ : Nat → Nat → Int32) (κ : Nat → Nat → Nat) (d t : Nat) : Int32 := if y_go σ κ t = 0 then 0 else y_stg σ κ t (nI d)
theorem z_iv_t {a n : Nat} (h : a < n) (hn : n ≤ 1000) : ¬ z_wi (nI a) 0 (nI n - 1) = 0 := by
  obtain ⟨q, rfl⟩ : ∃ q, n = q + 1 := ⟨n - 1, by omega⟩
  unfold z_wi
  rw [if_neg (z_lt0 (by omega)), nI_pred, if_neg (nI_nlt (by omega) (by omega))]
  decide
theorem z_iv_f {v : Int32} {n : Nat} (hn : n ≤ 1000) (h : v < 0 ∨ ¬ v < nI n) : z_wi v 0 (nI n - 1) = 0 := by
  unfold z_wi
  split
  · rfl
  · rename_i h0
    have h2 := h.resolve_left h0
    split
    · rfl
    · rename_i h1
      exfalso
      obtain ⟨j, hj, rfl⟩ := nI_of h0
      have h3 : n ≤ j := by
        rcases Nat.lt_or_ge j n with q | q
        · exact absurd (nI_lt q (by omega)) h2
        · exact q
      apply h1
      rcases Nat.eq_zero_or_pos n with rfl | hp
      · show (nI 0 - 1 : Int32) < nI j
        rw [Int32.lt_iff_toInt_lt, nI_toInt hj, show (nI 0 - 1 : Int32).toInt = -1 by decide]
        omega
      · obtain ⟨q, rfl⟩ : ∃ q, n = q + 1 := ⟨n - 1, by omega⟩
        rw [nI_pred]
        exact nI_lt (by omega) hj
def y_no (σ : Nat → Nat → Int32) (k : Int32) : Nat → Nat → Int32 := z_up (z_up σ 8 1 0) 8 1 k
def y_sx (s : Nat → Nat → Int32) (u v a b : Nat) (mi : Int32) : Nat → Nat → Int32 := if s 10 (8 * u + a) = -1 then s else if s 10 (8 * b + v) = -1 then s else if s 10 (8 * u + v) = -1 then z_up s 10 (8 * u + v) (s 10 (8 * u + a) + mi + s 10 (8 * b + v)) else if s 10 (8 * u + v) ≤ s 10 (8 * u + a) + mi + s 10 (8 * b + v) then s else z_up s 10 (8 * u + v) (s 10 (8 * u + a) + mi + s 10 (8 * b + v))
def y_s1 (m : Nat → Nat → Int32) (u a b : Nat) (mi : Int32) : Nat → Nat → Nat → Int32
  | 0 => m
  | v + 1 => y_sx (y_s1 m u a b mi v) u v a b mi
def y_s2 (m : Nat → Nat → Int32) (a b : Nat) (mi : Int32) : Nat → Nat → Nat → Int32
  | 0 => m
  | u + 1 => y_s1 (y_s2 m a b mi u) u a b mi 8
def y_sh (m : Nat → Nat → Int32) (a b : Nat) (mi : Int32) : Nat → Nat → Int32 := y_s2 m a b mi 8
def y_rd (m : Nat → Nat → Int32) (a b : Nat) (mi : Int32) : Nat → Nat → Int32 := y_sh (y_sh (z_up (z_up m 8 1 0) 8 0 (m 8 0 + 1)) a b mi) b a mi
def y_ap (κ : Nat → Nat → Nat) (t v : Nat) : Nat → Nat → Nat := z_up (z_up κ 2 (5 * t + κ 1 t) v) 1 t (κ 1 t + 1)
def y_ct (κ : Nat → Nat → Nat) (t : Nat) : Nat → Nat → Nat := z_up κ 1 t (κ 1 t - 1)
/-- one day in the row of numbers -/
def y_d1 (σ : Nat → Nat → Int32) (κ : Nat → Nat → Nat) (d : Nat) : Nat → Nat → Int32 := y_n4 σ (nI (d + 1)) (σ 9 1 + z_sm (y_fc σ κ d) (κ 0 1)) (σ 9 2 + z_sm (y_fj σ κ d) (κ 0 1)) (σ 9 3 + z_sm (y_fs σ κ d) (κ 0 1))
def y_n3 (σ : Nat → Nat → Int32) (x y z : Int32) : Nat → Nat → Int32 := z_up (z_up (z_up σ 9 1 x) 9 2 y) 9 3 z
theorem y_n3_up (σ : Nat → Nat → Int32) (x y z x' y' z' : Int32) : z_up (z_up (z_up (y_n3 σ x y z) 9 1 x') 9 2 y') 9 3 z' = y_n3 σ x' y' z' := by
  funext i j
  simp only [y_n3, z_up]
  split
  · rfl
  · split
    · rfl
    · split
      · rfl
      · rfl
theorem y_n3_id (σ : Nat → Nat → Int32) : y_n3 σ (σ 9 1) (σ 9 2) (σ 9 3) = σ := by
  funext i j
  simp only [y_n3, z_up]
  split
  · rename_i h
    rw [h.1, h.2]
  · split
    · rename_i h
      rw [h.1, h.2]
    · split
      · rename_i h
        rw [h.1, h.2]
      · rfl
theorem y_n3_day (σ : Nat → Nat → Int32) (w x y z : Int32) : z_up (y_n3 σ x y z) 9 0 w = y_n4 σ w x y z := by
  funext i j
  simp only [y_n3, y_n4, z_up]
  by_cases h : i = 9
  · subst h
    by_cases h0 : j = 0
    · subst h0
      simp
    · simp [h0]
  · simp [h]
/-- n days of the row of numbers, from day T on -/
def y_dn (σ : Nat → Nat → Int32) (κ : Nat → Nat → Nat) (T : Nat) : Nat → Nat → Nat → Int32
  | 0 => σ
  | n + 1 => y_d1 (y_dn σ κ T n) κ (T + n)
theorem y_dn_day (σ : Nat → Nat → Int32) (κ : Nat → Nat → Nat) {T : Nat} (h : σ 9 0 = nI T) : ∀ n, y_dn σ κ T n 9 0 = nI (T + n)
  | 0 => h
  | n + 1 => rfl
theorem y_dn_o (σ : Nat → Nat → Int32) (κ : Nat → Nat → Nat) (T : Nat) {i j : Nat} (h : i ≠ 9) : ∀ n, y_dn σ κ T n i j = σ i j
  | 0 => rfl
  | n + 1 => by
    show y_n4 _ _ _ _ _ i j = σ i j
    unfold y_n4
    rw [z_up_1 _ _ h, z_up_1 _ _ h, z_up_1 _ _ h, z_up_1 _ _ h]
    exact y_dn_o σ κ T h n
theorem y_dn_wf {σ : Nat → Nat → Int32} {κ : Nat → Nat → Nat} {T : Nat} (hy : y_wf σ κ) (n : Nat) : y_wf (y_dn σ κ T n) κ := by
  obtain ⟨h1, h2, h3, h4, h5, h6⟩ := hy
  refine ⟨h1, h2, h3, h4, fun v hv => ?_, fun a b ha hb => ?_⟩
  · rw [y_dn_o _ _ _ (by decide)]
    exact h5 v hv
  · rw [y_dn_o _ _ _ (by decide)]
    exact h6 a b ha hb
def y_bs (σ : Nat → Nat → Int32) (κ : Nat → Nat → Nat) (t T : Nat) : Nat → Int32 × Int32
  | 0 => (-1, 0)
  | i + 1 => if (y_bs σ κ t T i).2 < y_joy σ κ t (nI (T + i)) then (nI (T + i), y_joy σ κ t (nI (T + i))) else y_bs σ κ t T i
theorem y_bs_th (μ : Nat → Nat → Int32) (ν : Nat → Nat → Nat) (t T : Nat) (k : Int32) : ∀ n, y_bs (z_up μ 8 1 k) ν t T n = y_bs μ ν t T n
  | 0 => rfl
  | n + 1 => by
    rw [y_bs, y_bs, y_bs_th μ ν t T k n, show y_joy (z_up μ 8 1 k) ν t (nI (T + n)) = y_joy μ ν t (nI (T + n)) from rfl]
/-- the lists while a valley is sought -/
def y_aK (κ : Nat → Nat → Nat) (t : Nat) : Nat → Nat → Nat → Nat
  | 0 => κ
  | v + 1 => if y_has (y_aK κ t v) t v = true then y_aK κ t v else y_ct (y_ap (y_aK κ t v) t v) t
def y_aJ (σ : Nat → Nat → Int32) (κ : Nat → Nat → Nat) (t v : Nat) : Int32 := y_joy σ (y_ap (y_aK κ t v) t v) t (σ 9 0)
def y_aB (σ : Nat → Nat → Int32) (κ : Nat → Nat → Nat) (t : Nat) : Nat → Int32 × Int32
  | 0 => (-1, y_joy σ κ t (σ 9 0))
  | v + 1 => if y_has (y_aK κ t v) t v = true then y_aB σ κ t v else if (y_aB σ κ t v).2 < y_aJ σ κ t v then (nI v, y_aJ σ κ t v) else y_aB σ κ t v
theorem y_ap_wf {σ : Nat → Nat → Int32} {κ : Nat → Nat → Nat} {t v : Nat} (hy : y_wf σ κ) (ht : t < 6) (hv : v < κ 0 0) (hn : κ 1 t < 5) : y_wf σ (y_ap κ t v) := by
  obtain ⟨h1, h2, h3, h4, h5, h6⟩ := hy
  have e0 : ∀ j, y_ap κ t v 0 j = κ 0 j := fun j => rfl
  have e1 : ∀ q, q ≠ t → y_ap κ t v 1 q = κ 1 q := fun q hq => by
    show z_up (z_up κ 2 (5 * t + κ 1 t) v) 1 t (κ 1 t + 1) 1 q = κ 1 q
    rw [z_up_2 _ _ hq]
    rfl
  have e2 : y_ap κ t v 1 t = κ 1 t + 1 := z_up_s _ _ _ _
  have e3 : ∀ j, y_ap κ t v 2 j = z_up κ 2 (5 * t + κ 1 t) v 2 j := fun j => rfl
  refine ⟨h1, h2, fun q hq => ?_, fun q hq j hj => ?_, h5, h6⟩
  · by_cases e : q = t
    · subst e
      rw [e2]
      omega
    · rw [e1 q e]
      exact h3 q hq
  · rw [e3, e0]
    by_cases e : q = t
    · subst e
      rw [e2] at hj
      by_cases ej : j = κ 1 q
      · subst ej
        rw [z_up_s]
        exact hv
      · rw [z_up_2 _ _ (by omega)]
        exact h4 q hq j (by omega)
    · rw [e1 q e] at hj
      have hj5 := h3 q hq
      rw [z_up_2 _ _ (by omega)]
      exact h4 q hq j hj
theorem y_ct_wf {σ : Nat → Nat → Int32} {κ : Nat → Nat → Nat} {t : Nat} (hy : y_wf σ κ) : y_wf σ (y_ct κ t) := by
  obtain ⟨h1, h2, h3, h4, h5, h6⟩ := hy
  have e1 : ∀ q, y_ct κ t 1 q ≤ κ 1 q := fun q => by
    show z_up κ 1 t (κ 1 t - 1) 1 q ≤ κ 1 q
    by_cases e : q = t
    · subst e
      rw [z_up_s]
      omega
    · rw [z_up_2 _ _ e]
      exact Nat.le_refl _
  exact ⟨h1, h2, fun q hq => Nat.le_trans (e1 q) (h3 q hq), fun q hq j hj => h4 q hq j (Nat.lt_of_lt_of_le hj (e1 q)), h5, h6⟩
theorem y_ct_ap1 {κ : Nat → Nat → Nat} {t v : Nat} : y_ct (y_ap κ t v) t 1 t = κ 1 t := by
  show z_up (y_ap κ t v) 1 t (y_ap κ t v 1 t - 1) 1 t = κ 1 t
  rw [z_up_s, show y_ap κ t v 1 t = κ 1 t + 1 from z_up_s _ _ _ _]
  omega
theorem y_aK_ok {σ : Nat → Nat → Int32} {κ : Nat → Nat → Nat} {t : Nat} (hy : y_wf σ κ) (ht : t < 6) (hn : κ 1 t < 5) : ∀ v, v ≤ κ 0 0 → y_wf σ (y_aK κ t v) ∧ y_aK κ t v 1 t = κ 1 t ∧ ∀ j, y_aK κ t v 0 j = κ 0 j
  | 0, _ => ⟨hy, rfl, fun _ => rfl⟩
  | v + 1, h => by
    obtain ⟨h1, h2, h3⟩ := y_aK_ok hy ht hn v (by omega)
    rw [y_aK]
    split
    · exact ⟨h1, h2, h3⟩
    · exact ⟨y_ct_wf (y_ap_wf h1 ht (by rw [h3]; omega) (by omega)), y_ct_ap1.trans h2, fun j => h3 j⟩
/-- the row of numbers, some days ahead -/
def y_fo (σ : Nat → Nat → Int32) (κ : Nat → Nat → Nat) (T n w : Nat) : Int32 := y_cnt (y_dn σ κ T n) κ w
def y_me (σ : Nat → Nat → Int32) (κ : Nat → Nat → Nat) : UInt64 := if ¬ nI (κ 0 0) = 0 then FP.ddiv (FP.i2d (z_sm (fun v => y_bl (σ 0 v) (σ 1 v) (σ 9 0)) (κ 0 0))) (FP.i2d (nI (κ 0 0))) else FP.dconst0
def y_mv (σ : Nat → Nat → Int32) (κ : Nat → Nat → Nat) (d : Int64) (v : Nat) : Int64 := z_mx (fun u => σ 10 (8 * v + u)) (z_mx (y_abt σ κ v) d 6) (κ 0 0)
def y_mtr (σ : Nat → Nat → Int32) (κ : Nat → Nat → Nat) (d : Int64) (t : Nat) : Int64 := z_mx (fun k => nI (κ 2 (5 * t + k))) (z_mx (y_tld σ κ t) d 6) (κ 1 t)
def y_dg (σ : Nat → Nat → Int32) (κ : Nat → Nat → Nat) : Int64 := z_my (y_mtr σ κ) (z_my (y_mv σ κ) (z_mx (fun i => σ 7 i) (z_mx (y_cnt σ κ) 1213 9) 10) (κ 0 0)) (κ 0 1)
theorem z_D0 {A : Nat → Prop} : va_D A [] := ⟨fun i j p q h => by simp at h, fun k q h => by simp at h⟩
theorem z_lI {a b : Nat} (h : ¬ nI b < nI a) (ha : a < 2 ^ 31) (hb : b < 2 ^ 31) : a ≤ b := by
  rcases Nat.lt_or_ge b a with q | q
  · exact absurd (nI_lt q ha) h
  · exact q
theorem z_gI {a b : Nat} (h : nI b < nI a) (ha : a < 2 ^ 31) (hb : b < 2 ^ 31) : b < a := (nI_ltI hb ha).mp h
theorem z_end {g : Int32} {f : Nat → Int32} {k n : Nat} (hi : k = n) (h3 : k = 0 ∨ ¬ g = 0) : z_sm f k = if g = 0 then 0 else z_sm f n := by
  subst hi
  by_cases g0 : g = 0
  · rw [if_pos g0, h3.resolve_right (fun q => q g0)]
    rfl
  · rw [if_neg g0]
