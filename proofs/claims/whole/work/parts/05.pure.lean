/-! Part 05: what the class's inner methods answer and do, in numbers alone. -/
theorem z_nan (a : Int32) {n : Int32} (h : ¬ n = 0) : vf_n64 (FP.ddiv (FP.i2d a) (FP.i2d n)) := by
  have hf : ∀ v : Int32, Jvm.FP.Core.DFin (Jvm.FP.Core.i2d v) := Jvm.FP.Core.i2d_fin
  have h1 : Jvm.FP.Core.dIsNaN (Jvm.FP.Core.i2d a) = false := by
    obtain ⟨s, c, q, e⟩ := hf a
    rw [Jvm.FP.Core.notNaN_iff, e]
    intro z
    cases z
  have h2 : ¬ Jvm.FP.Core.DZero (Jvm.FP.Core.i2d n) := fun z => Jvm.FP.Core.i2d_ne_zero h ((Jvm.FP.Core.zero_bits2 _).mp z)
  exact Jvm.Free.Fl.noNaN64_no.mpr (Jvm.FP.Core.ddiv_out h1 (hf n) h2)
theorem z_xor {a : Nat} (h : a < 2 ^ 31) : 0 ≤ nI a ^^^ 10 := by
  rw [Int32.le_iff_toInt_le]
  have h1 : (nI a).toBitVec.msb = false := by
    have e : (nI a).toBitVec.toInt = (a : Int) := nI_toInt h
    rw [BitVec.toInt_eq_msb_cond] at e
    have h3 := (nI a).toBitVec.isLt
    cases hm : (nI a).toBitVec.msb with
    | false => rfl
    | true =>
      rw [hm] at e
      simp at e
      omega
  have h2 : (nI a ^^^ 10).toBitVec.msb = false := by
    rw [Int32.toBitVec_xor, BitVec.msb_xor, h1]
    decide
  show (0 : Int32).toInt ≤ (nI a ^^^ 10).toBitVec.toInt
  rw [BitVec.toInt_eq_msb_cond, h2]
  have : (0 : Int32).toInt = 0 := by decide
  rw [this]
  simp
def z_sm (f : Nat → Int32) : Nat → Int32
  | 0 => 0
  | n + 1 => z_sm f n + f n
/-- the share of valley v in the joy of tour t on day d, as the class reckons it -/
def z_jf (σ : Nat → Nat → Int32) (κ : Nat → Nat → Nat) (t : Nat) (d : Int32) (v : Nat) : Int32 := if z_vi (κ (2 + t)) v (κ 1 t) = true then (if 0 < z_bl (σ 0 v) (σ 1 v) d - σ 3 v / 10 then z_bl (σ 0 v) (σ 1 v) d - σ 3 v / 10 else 0) else 0
def z_joy (σ : Nat → Nat → Int32) (κ : Nat → Nat → Nat) (t : Nat) (d : Int32) : Int32 := if z_gc (κ 1 t) (σ 6 t) = 0 then 0 else z_sm (z_jf σ κ t d) (κ 0 0)
def z_gf (σ : Nat → Nat → Int32) (κ : Nat → Nat → Nat) (t : Nat) (d : Int32) (v : Nat) : Int32 := if z_vi (κ (2 + t)) v (κ 1 t) = true then σ 5 t * σ 2 v * z_bl (σ 0 v) (σ 1 v) d / 5000 else 0
def z_stg (σ : Nat → Nat → Int32) (κ : Nat → Nat → Nat) (t : Nat) (d : Int32) : Int32 := if z_gc (κ 1 t) (σ 6 t) = 0 then 0 else z_sm (z_gf σ κ t d) (κ 0 0)
def z_gn (σ : Nat → Nat → Int32) (κ : Nat → Nat → Nat) (t : Nat) : Int32 := if z_gc (κ 1 t) (σ 6 t) = 0 then 0 else 1
def z_bn (σ : Nat → Nat → Int32) (d : Int32) (v : Nat) : Int32 := if z_bl (σ 0 v) (σ 1 v) d ≤ 0 then 0 else 1
def z_me (σ : Nat → Nat → Int32) (κ : Nat → Nat → Nat) : UInt64 := if 0 < nI (κ 0 0) then FP.ddiv (FP.i2d (z_sm (fun v => z_bl (σ 0 v) (σ 1 v) (σ 8 1)) (κ 0 0))) (FP.i2d (nI (κ 0 0))) else FP.dconst0
/-- three numbers of a book -/
def z_k3 (σ : Nat → Nat → Int32) (b : Nat) (x y z : Int32) : Nat → Nat → Int32 := z_up (z_up (z_up σ 8 b x) 8 (b + 1) y) 8 (b + 2) z
theorem z_k3_up (σ : Nat → Nat → Int32) (b : Nat) (x y z x' y' z' : Int32) : z_up (z_up (z_up (z_k3 σ b x y z) 8 b x') 8 (b + 1) y') 8 (b + 2) z' = z_k3 σ b x' y' z' := by
  funext i j
  simp only [z_k3, z_up]
  split
  · rfl
  · split
    · rfl
    · split
      · rfl
      · rfl
theorem z_k3_k3 (σ : Nat → Nat → Int32) (b : Nat) (x y z x' y' z' : Int32) : z_k3 (z_k3 σ b x y z) b x' y' z' = z_k3 σ b x' y' z' := z_k3_up σ b x y z x' y' z'
theorem z_k3_id (σ : Nat → Nat → Int32) (b : Nat) : z_k3 σ b (σ 8 b) (σ 8 (b + 1)) (σ 8 (b + 2)) = σ := by
  funext i j
  simp only [z_k3, z_up]
  split
  · rename_i h
    rw [h.1, h.2]
  · split
    · rename_i h
      rw [h.1, h.2]
    · split
      · rename_i h
        rw [h.1, h.2]
      · rfl
/-- what tour t brings on day d: coins, joy, stings -/
def z_fc (σ : Nat → Nat → Int32) (κ : Nat → Nat → Nat) (d : Nat) (t : Nat) : Int32 := if z_gc (κ 1 t) (σ 6 t) = 0 then 0 else z_joy σ κ t (nI d) * σ 5 t / 100 + σ 5 t * σ 7 (d % 10) / 40
def z_fj (σ : Nat → Nat → Int32) (κ : Nat → Nat → Nat) (d : Nat) (t : Nat) : Int32 := if z_gc (κ 1 t) (σ 6 t) = 0 then 0 else z_joy σ κ t (nI d)
def z_fs (σ : Nat → Nat → Int32) (κ : Nat → Nat → Nat) (d : Nat) (t : Nat) : Int32 := if z_gc (κ 1 t) (σ 6 t) = 0 then 0 else z_stg σ κ t (nI d)
/-- n days from day T on -/
def z_dd (f : Nat → Nat → Int32) (T nt : Nat) : Nat → Int32
  | 0 => 0
  | n + 1 => z_dd f T nt n + z_sm (f (T + n)) nt
/-- roads -/
def z_mi (x y : Int32) : Int32 := if y < x then y else x
def z_l1 (u : Nat → Nat → Int32) (i a b : Nat) (mi : Int32) : Nat → Nat → Nat → Int32
  | 0 => u
  | j + 1 => z_up (z_l1 u i a b mi j) (10 + i) j (z_mi (z_l1 u i a b mi j (10 + i) j) (z_mi (z_l1 u i a b mi j (10 + i) a + mi + z_l1 u i a b mi j (10 + b) j) (z_l1 u i a b mi j (10 + i) b + mi + z_l1 u i a b mi j (10 + a) j)))
def z_l2 (u : Nat → Nat → Int32) (a b : Nat) (mi : Int32) : Nat → Nat → Nat → Int32
  | 0 => u
  | i + 1 => z_l1 (z_l2 u a b mi i) i a b mi 8
def z_ly (u : Nat → Nat → Int32) (a b : Nat) (mi : Int32) : Nat → Nat → Int32 := z_up (z_l2 u a b mi 8) 8 0 (z_l2 u a b mi 8 8 0 + 1)
/-- minutes of a tour -/
def z_mns (σ : Nat → Nat → Int32) (κ : Nat → Nat → Nat) (t : Nat) : Int32 := z_mn (fun a b => z_mb (σ (10 + a) b)) (κ (2 + t)) (κ 1 t)
/-- crowds -/
def z_cl (σ : Nat → Nat → Int32) : Nat → Nat → Nat → Int32
  | 0 => σ
  | n + 1 => z_up (z_up (z_cl σ n) 3 n 0) 4 n 0
def z_jc (σ : Nat → Nat → Int32) (κ : Nat → Nat → Nat) (t : Nat) : Nat → Nat → Nat → Int32
  | 0 => σ
  | n + 1 => if z_vi (κ (2 + t)) n (κ 1 t) = true then z_up (z_up (z_jc σ κ t n) 3 n (z_jc σ κ t n 3 n + z_jc σ κ t n 5 t)) 4 n (z_jc σ κ t n 4 n + 1) else z_jc σ κ t n
def z_ms (σ : Nat → Nat → Int32) (κ : Nat → Nat → Nat) (t : Nat) : Nat → Nat → Int32 := z_up σ 6 t (z_mns σ κ t)
def z_rk (σ : Nat → Nat → Int32) (κ : Nat → Nat → Nat) : Nat → Nat → Nat → Int32
  | 0 => z_cl σ (κ 0 0)
  | n + 1 => if z_gc (κ 1 n) (z_ms (z_rk σ κ n) κ n 6 n) = 0 then z_ms (z_rk σ κ n) κ n else z_jc (z_ms (z_rk σ κ n) κ n) κ n (κ 0 0)
def z_rkn (σ : Nat → Nat → Int32) (κ : Nat → Nat → Nat) : Nat → Nat → Int32 := z_rk σ κ (κ 0 1)
/-- what holds of the counts -/
def z_wf (κ : Nat → Nat → Nat) : Prop := κ 0 0 ≤ 8 ∧ κ 0 1 ≤ 6 ∧ (∀ t, t < 6 → κ 1 t ≤ 5) ∧ ∀ t, t < 6 → ∀ j, j < κ 1 t → κ (2 + t) j < 8
theorem z_gcT {c : Nat} {mn : Int32} (h : ¬ z_gc c mn = 0) : z_gc c mn = 1 := (z_gc01 c mn).resolve_left h
theorem z_full0 {c : Nat} (h : c < 5) : z_full c = 0 := by
  unfold z_full
  rw [if_pos (show nI c < 5 from nI_lt (b := 5) h (by decide))]
theorem z_fullN {c : Nat} (h : ¬ c < 5) (hc : c < 2 ^ 31) : z_full c = 1 := by
  unfold z_full
  rw [if_neg (show ¬ nI c < 5 from nI_nlt (b := 5) (by omega) hc)]
def z_ap (κ : Nat → Nat → Nat) (t v : Nat) : Nat → Nat → Nat := z_up (z_up κ (2 + t) (κ 1 t) v) 1 t (κ 1 t + 1)
def z_tk (κ : Nat → Nat → Nat) (t : Nat) : Nat → Nat → Nat := z_up κ 1 t (κ 1 t - 1)
theorem z_ap_wf {κ : Nat → Nat → Nat} {t v : Nat} (hw : z_wf κ) (ht : t < 6) (hv : v < 8) (hn : κ 1 t < 5) : z_wf (z_ap κ t v) := by
  obtain ⟨h1, h2, h3, h4⟩ := hw
  have z0 : ∀ j, z_ap κ t v 0 j = κ 0 j := fun j => (z_up_1 _ _ (by omega)).trans (z_up_1 _ _ (by omega))
  refine ⟨by rw [z0]; exact h1, by rw [z0]; exact h2, fun q hq => ?_, fun q hq j hj => ?_⟩
  · show z_up (z_up κ (2 + t) (κ 1 t) v) 1 t (κ 1 t + 1) 1 q ≤ 5
    by_cases e : q = t
    · subst e
      rw [z_up_s]
      omega
    · rw [z_up_2 _ _ e, z_up_1 _ _ (by omega)]
      exact h3 q hq
  · have e0 : z_ap κ t v (2 + q) j = z_up κ (2 + t) (κ 1 t) v (2 + q) j := z_up_1 _ _ (by omega)
    rw [e0]
    by_cases e : q = t
    · subst e
      have hj' : j < κ 1 q + 1 := by
        have : z_ap κ q v 1 q = κ 1 q + 1 := z_up_s _ _ _ _
        omega
      by_cases e2 : j = κ 1 q
      · subst e2
        rw [z_up_s]
        exact hv
      · rw [z_up_2 _ _ e2]
        exact h4 q hq j (by omega)
    · rw [z_up_1 _ _ (by omega)]
      have : z_ap κ t v 1 q = κ 1 q := by
        show z_up (z_up κ (2 + t) (κ 1 t) v) 1 t (κ 1 t + 1) 1 q = κ 1 q
        rw [z_up_2 _ _ e, z_up_1 _ _ (by omega)]
      exact h4 q hq j (by omega)
theorem z_tk_wf {κ : Nat → Nat → Nat} {t : Nat} (hw : z_wf κ) : z_wf (z_tk κ t) := by
  obtain ⟨h1, h2, h3, h4⟩ := hw
  have key : ∀ q, z_tk κ t 1 q ≤ κ 1 q := fun q => by
    show z_up κ 1 t (κ 1 t - 1) 1 q ≤ κ 1 q
    by_cases e : q = t
    · subst e
      rw [z_up_s]
      omega
    · rw [z_up_2 _ _ e]
      exact Nat.le_refl _
  refine ⟨h1, h2, fun q hq => Nat.le_trans (key q) (h3 q hq), fun q hq j hj => ?_⟩
  have e0 : z_tk κ t (2 + q) j = κ (2 + q) j := z_up_1 _ _ (by omega)
  rw [e0]
  exact h4 q hq j (Nat.lt_of_lt_of_le hj (key q))
theorem z_acc (x y : Int32) {v w : Int32} (h : v = w) : x + y + v = x + (y + w) := by rw [h, Int32.add_assoc]
theorem z_k3_o (σ : Nat → Nat → Int32) (b : Nat) (x y z : Int32) {i j : Nat} (h : i ≠ 8) : z_k3 σ b x y z i j = σ i j := by
  unfold z_k3
  rw [z_up_1 _ _ h, z_up_1 _ _ h, z_up_1 _ _ h]
theorem z_jf_k3 (σ : Nat → Nat → Int32) (κ : Nat → Nat → Nat) (b : Nat) (x y z : Int32) (t : Nat) (d : Int32) : z_jf (z_k3 σ b x y z) κ t d = z_jf σ κ t d := by
  funext v
  simp only [z_jf, z_k3_o _ _ _ _ _ (show (0 : Nat) ≠ 8 by decide), z_k3_o _ _ _ _ _ (show (1 : Nat) ≠ 8 by decide), z_k3_o _ _ _ _ _ (show (3 : Nat) ≠ 8 by decide)]
theorem z_gf_k3 (σ : Nat → Nat → Int32) (κ : Nat → Nat → Nat) (b : Nat) (x y z : Int32) (t : Nat) (d : Int32) : z_gf (z_k3 σ b x y z) κ t d = z_gf σ κ t d := by
  funext v
  simp only [z_gf, z_k3_o _ _ _ _ _ (show (0 : Nat) ≠ 8 by decide), z_k3_o _ _ _ _ _ (show (1 : Nat) ≠ 8 by decide), z_k3_o _ _ _ _ _ (show (2 : Nat) ≠ 8 by decide), z_k3_o _ _ _ _ _ (show (5 : Nat) ≠ 8 by decide)]
theorem z_fc_k3 (σ : Nat → Nat → Int32) (κ : Nat → Nat → Nat) (b : Nat) (x y z : Int32) (d : Nat) : z_fc (z_k3 σ b x y z) κ d = z_fc σ κ d := by
  funext t
  simp only [z_fc, z_joy, z_jf_k3, z_k3_o _ _ _ _ _ (show (6 : Nat) ≠ 8 by decide), z_k3_o _ _ _ _ _ (show (5 : Nat) ≠ 8 by decide), z_k3_o _ _ _ _ _ (show (7 : Nat) ≠ 8 by decide)]
theorem z_fj_k3 (σ : Nat → Nat → Int32) (κ : Nat → Nat → Nat) (b : Nat) (x y z : Int32) (d : Nat) : z_fj (z_k3 σ b x y z) κ d = z_fj σ κ d := by
  funext t
  simp only [z_fj, z_joy, z_jf_k3, z_k3_o _ _ _ _ _ (show (6 : Nat) ≠ 8 by decide)]
theorem z_fs_k3 (σ : Nat → Nat → Int32) (κ : Nat → Nat → Nat) (b : Nat) (x y z : Int32) (d : Nat) : z_fs (z_k3 σ b x y z) κ d = z_fs σ κ d := by
  funext t
  simp only [z_fs, z_stg, z_gf_k3, z_k3_o _ _ _ _ _ (show (6 : Nat) ≠ 8 by decide)]
theorem z_mns_f {σ : Nat → Nat → Int32} {κ : Nat → Nat → Nat} {t k : Nat} (h : k < κ 1 t - 1) (h2 : ¬ 0 ≤ z_mb (σ (10 + κ (2 + t) k) (κ (2 + t) (k + 1)))) : z_ms σ κ t = z_up σ 6 t (-1) := by
  have e0 : z_mns σ κ t = -1 := by
    unfold z_mns z_mn
    rw [if_pos (z_mf_t (W := fun a b => z_mb (σ (10 + a) b)) (t := κ (2 + t)) (k := k) h h2)]
  unfold z_ms
  rw [e0]
theorem z_mns_t {σ : Nat → Nat → Int32} {κ : Nat → Nat → Nat} {t k : Nat} (h : k = κ 1 t - 1) (h3 : z_mf (fun a b => z_mb (σ (10 + a) b)) (κ (2 + t)) k = false) : z_ms σ κ t = z_up σ 6 t (z_mt (fun a b => z_mb (σ (10 + a) b)) (κ (2 + t)) (50 * nI (κ 1 t)) k) := by
  have e0 : z_mns σ κ t = z_mt (fun a b => z_mb (σ (10 + a) b)) (κ (2 + t)) (50 * nI (κ 1 t)) k := by
    unfold z_mns z_mn
    rw [← h, if_neg (by rw [h3]; decide)]
  unfold z_ms
  rw [e0]
