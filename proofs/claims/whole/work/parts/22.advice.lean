/-! Part 22: advice. -/
theorem r_bm {n : Int} (h1 : -2147483648 ≤ n) (h2 : n < 2147483648) : n.bmod (2 ^ 32) = n := by
  rw [Int.bmod_def]
  omega
theorem r_toI_add {a b : Int32} (h1 : -2147483648 ≤ a.toInt + b.toInt) (h2 : a.toInt + b.toInt < 2147483648) : (a + b).toInt = a.toInt + b.toInt := by
  rw [Int32.toInt_add]
  exact r_bm h1 h2
theorem r_toI_sub {a b : Int32} (h1 : -2147483648 ≤ a.toInt - b.toInt) (h2 : a.toInt - b.toInt < 2147483648) : (a - b).toInt = a.toInt - b.toInt := by
  rw [Int32.toInt_sub]
  exact r_bm h1 h2
theorem r_div10 (c : Int32) : -214748365 ≤ (c / 10).toInt ∧ (c / 10).toInt ≤ 214748365 := by
  have h1 : -2147483648 ≤ c.toInt := Int32.le_toInt c
  have h2 : c.toInt < 2147483648 := Int32.toInt_lt c
  have e10 : (10 : Int32).toInt = 10 := by decide
  have e : -214748365 ≤ c.toInt.tdiv 10 ∧ c.toInt.tdiv 10 ≤ 214748365 := by
    rcases Int.lt_or_le c.toInt 0 with q | q
    · obtain ⟨z, hz⟩ : ∃ z : Int, c.toInt = -z := ⟨-c.toInt, by omega⟩
      rw [hz, Int.neg_tdiv, Int.tdiv_eq_ediv_of_nonneg (by omega)]
      omega
    · rw [Int.tdiv_eq_ediv_of_nonneg q]
      omega
  rw [Int32.toInt_div, e10, r_bm (by omega) (by omega)]
  exact e
theorem r_bl_le {f n d : Int32} (hf : ¬ z_wi f 0 90 = 0) (hn : ¬ z_wi n 1 30 = 0) : 0 ≤ (y_bl f n d).toInt ∧ (y_bl f n d).toInt ≤ 3000 := by
  obtain ⟨a, a1, rfl⟩ := r_ninety hf
  obtain ⟨k, k1, k2, rfl⟩ := r_half hn
  have fin : ∀ x k : Fin 31, 1 ≤ k.val → 0 ≤ (100 * nI x.val / ((nI k.val + 1) / 2)).toInt ∧ (100 * nI x.val / ((nI k.val + 1) / 2)).toInt ≤ 3000 := by decide +kernel
  unfold y_bl
  by_cases c : z_wi d (nI a) (nI a + nI k - 1) = 0
  · rw [if_pos c]
    decide
  · rw [if_neg c]
    have e1 : nI a + nI k - 1 = nI (a + k - 1) := by
      rw [nI_add]
      obtain ⟨q, hq⟩ : ∃ q, a + k = q + 1 := ⟨a + k - 1, by omega⟩
      rw [hq, nI_pred]
      rfl
    rw [e1] at c
    unfold z_wi at c
    by_cases c1 : d < nI a
    · rw [if_pos c1] at c
      exact absurd rfl c
    · rw [if_neg c1] at c
      by_cases c2 : nI (a + k - 1) < d
      · rw [if_pos c2] at c
        exact absurd rfl c
      · have hd0 : ¬ d < 0 := fun q => by
          have h0 : 0 ≤ nI a := nI_pos' (by omega)
          exact c1 (by
            rw [Int32.lt_iff_toInt_lt] at q ⊢
            rw [Int32.le_iff_toInt_le] at h0
            omega)
        obtain ⟨j, hj, rfl⟩ := nI_of hd0
        have j1 : a ≤ j := by
          rcases Nat.lt_or_ge j a with q | q
          · exact absurd (nI_lt q (by omega)) c1
          · exact q
        have j2 : j ≤ a + k - 1 := by
          rcases Nat.lt_or_ge (a + k - 1) j with q | q
          · exact absurd (nI_lt q hj) c2
          · exact q
        have s1 : nI a + nI k - nI j = nI (a + k - j) := by
          rw [nI_add, show a + k = (a + k - j) + j by omega, ← nI_add, Int32.add_sub_cancel]
          congr 1
          omega
        have s2 : nI j - nI a + 1 = nI (j - a + 1) := by
          rw [show nI j = nI (j - a) + nI a by rw [nI_add]; congr 1; omega, Int32.add_sub_cancel, nI_1]
        rw [s1, s2]
        split
        · exact fin ⟨a + k - j, by omega⟩ ⟨k, by omega⟩ k1
        · exact fin ⟨j - a + 1, by omega⟩ ⟨k, by omega⟩ k1
theorem r_sm_le {f : Nat → Int32} {B : Int} (hB : 0 ≤ B) : ∀ n : Nat, (n : Int) * B < 2147483648 → (∀ i, i < n → 0 ≤ (f i).toInt ∧ (f i).toInt ≤ B) → 0 ≤ (z_sm f n).toInt ∧ (z_sm f n).toInt ≤ (n : Int) * B
  | 0, _, _ => by
    have : (z_sm f 0).toInt = 0 := rfl
    rw [this]
    exact ⟨Int.le_refl _, by simp⟩
  | n + 1, hn, h => by
    have e : ((n + 1 : Nat) : Int) * B = (n : Int) * B + B := by
      rw [Int.natCast_add, Int.add_mul]
      simp
    rw [e] at hn ⊢
    obtain ⟨h1, h2⟩ := r_sm_le hB n (by omega) (fun i hi => h i (by omega))
    obtain ⟨h3, h4⟩ := h n (by omega)
    have e2 : (z_sm f (n + 1)).toInt = (z_sm f n).toInt + (f n).toInt := r_toI_add (by omega) (by omega)
    omega
section RA
variable {E : Nat → Nat → Nat} {σ μ : Nat → Nat → Int32} {κ ν : Nat → Nat → Nat} {T : Nat}
theorem r_joy0 (h : r_C E σ κ μ ν) {t : Nat} (ht : t < 6) (d : Int32) : 0 ≤ (y_joy μ ν t d).toInt := by
  unfold y_joy
  split
  · decide
  · have h5 := (r_wf h).2.2.1 t ht
    have e3 := h.1.1.2.2.1 t ht
    refine (r_sm_le (B := 214800000) (by decide) _ (by omega) (fun k hk => ?_)).1
    rw [← e3] at hk
    have e4 := h.1.1.2.2.2 t k ht hk
    have hs := h.1.2.2.2.2.1 t k ht hk
    have hz := h.2.2.1 _ hs
    rw [h.2.1.1, h.2.1.2.1] at hz
    unfold y_jf
    rw [← e4]
    obtain ⟨b1, b2⟩ := r_bl_le (d := d) hz.1 hz.2
    obtain ⟨d1, d2⟩ := r_div10 (y_cr μ ν (κ (2 + t) k))
    split
    · rename_i c
      have e := r_toI_sub (a := y_bl (μ 0 (κ (2 + t) k)) (μ 1 (κ (2 + t) k)) d) (b := y_cr μ ν (κ (2 + t) k) / 10) (by omega) (by omega)
      rw [Int32.lt_iff_toInt_lt] at c
      have z : (0 : Int32).toInt = 0 := by decide
      omega
    · decide
theorem r_adv (h : r_R E σ κ μ ν T) {t : Nat} (ht : t < κ 0 1) (g1 : κ 1 t < 5) : ∀ v, v ≤ κ 0 0 → r_R E (z_aS σ κ t v).1 (z_aS σ κ t v).2 μ (y_aK ν t v) T ∧ ((z_aS σ κ t v).2 1 t = κ 1 t ∧ ∀ j, (z_aS σ κ t v).2 0 j = κ 0 j) ∧ z_aB σ κ t v = y_aB μ ν t v ∧ 0 ≤ (y_aB μ ν t v).2.toInt
  | 0, _ => by
    have hm := (r_wf h.1).2.1
    refine ⟨h, ⟨rfl, fun _ => rfl⟩, ?_, r_joy0 h.1 (by omega) _⟩
    show ((-1 : Int32), z_joy σ κ t (σ 8 1)) = (-1, y_joy μ ν t (μ 9 0))
    rw [h.2.2.1, h.2.2.2.1, r_joy h.1 h.2.1 ht]
  | v + 1, hv => by
    obtain ⟨hr, ⟨w1, w2⟩, hb, hb0⟩ := r_adv h ht g1 v (by omega)
    have hm := (r_wf h.1).2.1
    have ht' : t < (z_aS σ κ t v).2 0 1 := by rw [w2]; exact ht
    have hv' : v < (z_aS σ κ t v).2 0 0 := by rw [w2]; omega
    have hh := r_has hr.1 (show t < 6 by omega) v
    rw [z_aS, y_aK, z_aB, y_aB]
    unfold z_aW
    rw [← hh]
    by_cases c : z_vi ((z_aS σ κ t v).2 (2 + t)) v ((z_aS σ κ t v).2 1 t) = true
    · simp only [c, if_true]
      refine ⟨hr, ⟨w1, w2⟩, ?_, hb0⟩
      rw [← hb] at hb0 ⊢
      exact if_pos (Int32.le_iff_toInt_le.mpr (by rw [show (0 : Int32).toInt = 0 by decide]; exact hb0))
    · rw [if_neg c, if_neg c, if_neg c, if_neg c]
      have ra := r_add hr ht' hv' (by rw [w1]; exact g1) (by simpa using c)
      have hta : t < z_ap (z_aS σ κ t v).2 t v 0 1 := by
        rw [show z_ap (z_aS σ κ t v).2 t v 0 1 = (z_aS σ κ t v).2 0 1 from (z_up_1 _ _ (by omega)).trans (z_up_1 _ _ (by omega))]
        exact ht'
      have rc := r_cut ra hta
      have ej : z_aJ σ κ t v = y_aJ μ ν t v := by
        unfold z_aJ y_aJ
        rw [ra.2.2.1, ra.2.2.2.1]
        exact r_joy ra.1 ra.2.1 hta _
      refine ⟨rc, ⟨z_tk_ap1.trans w1, fun j => z_tk_ap0.trans (w2 j)⟩, ?_, ?_⟩
      · rw [ej, hb]
        by_cases q : y_aJ μ ν t v ≤ (y_aB μ ν t v).2
        · rw [if_pos q, if_neg (Int32.not_lt.mpr q)]
        · rw [if_neg q, if_pos (Int32.not_le.mp q)]
      · by_cases q : (y_aB μ ν t v).2 < y_aJ μ ν t v
        · rw [if_pos q]
          rw [Int32.lt_iff_toInt_lt] at q
          show 0 ≤ (y_aJ μ ν t v).toInt
          omega
        · rw [if_neg q]
          exact hb0
end RA
