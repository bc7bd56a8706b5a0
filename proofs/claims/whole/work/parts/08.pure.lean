/-! Part 08: what the face answers and does, in numbers alone. -/
section ZH
variable {G : z_GT} {ad : Nat → Nat} {σ : Nat → Nat → Int32} {κ : Nat → Nat → Nat}
theorem z_sHn {k : Nat} {x : Int32} (hk : k < 2 ^ 31) : (z_wC G ad σ κ).set 3 (ad 3, .inl (z_I G, 10, .inl (upd (fun j => σ 7 j) (nI k).toNatClampNeg x))) = z_wC G ad (z_up σ 7 k x) κ := by
  have h := z_sH (G := G) (ad := ad) (σ := σ) (κ := κ) (i := nI k) (x := x)
  rw [nI_clamp hk] at h ⊢
  exact h
end ZH
def z_tld (σ : Nat → Nat → Int32) (κ : Nat → Nat → Nat) (t : Nat) : Nat → Int32
  | 0 => σ 5 t
  | 1 => nI (κ 1 t)
  | 2 => σ 6 t
  | 3 => if z_gc (κ 1 t) (σ 6 t) = 0 then 0 else 1
  | 4 => z_joy σ κ t (σ 8 1)
  | _ => z_stg σ κ t (σ 8 1)
def z_abt (σ : Nat → Nat → Int32) (v : Nat) : Nat → Int32
  | 0 => σ 0 v
  | 1 => σ 1 v
  | 2 => σ 2 v
  | 3 => z_bl (σ 0 v) (σ 1 v) (σ 8 1)
  | 4 => σ 3 v
  | _ => σ 4 v
def z_cnt (σ : Nat → Nat → Int32) (κ : Nat → Nat → Nat) : Nat → Int32
  | 0 => σ 8 1
  | 1 => nI (κ 0 0)
  | 2 => σ 8 0
  | 3 => nI (κ 0 1)
  | 4 => z_sm (z_gn σ κ) (κ 0 1)
  | 5 => z_sm (z_bn σ (σ 8 1)) (κ 0 0)
  | 6 => σ 8 2
  | 7 => σ 8 3
  | _ => σ 8 4
def z_bs (σ : Nat → Nat → Int32) (κ : Nat → Nat → Nat) (t T : Nat) : Nat → Int32 × Int32
  | 0 => (-1, 0)
  | i + 1 => if z_joy σ κ t (nI (T + i)) ≤ (z_bs σ κ t T i).2 then z_bs σ κ t T i else (nI (T + i), z_joy σ κ t (nI (T + i)))
def z_aS (σ : Nat → Nat → Int32) (κ : Nat → Nat → Nat) (t : Nat) : Nat → (Nat → Nat → Int32) × (Nat → Nat → Nat)
  | 0 => (σ, κ)
  | v + 1 => if z_vi ((z_aS σ κ t v).2 (2 + t)) v ((z_aS σ κ t v).2 1 t) = true then z_aS σ κ t v else (z_rkn (z_rkn (z_aS σ κ t v).1 (z_ap (z_aS σ κ t v).2 t v)) (z_tk (z_ap (z_aS σ κ t v).2 t v) t), z_tk (z_ap (z_aS σ κ t v).2 t v) t)
/-- the joy of tour t with v added -/
def z_aJ (σ : Nat → Nat → Int32) (κ : Nat → Nat → Nat) (t v : Nat) : Int32 := z_joy (z_rkn (z_aS σ κ t v).1 (z_ap (z_aS σ κ t v).2 t v)) (z_ap (z_aS σ κ t v).2 t v) t (z_rkn (z_aS σ κ t v).1 (z_ap (z_aS σ κ t v).2 t v) 8 1)
def z_aW (σ : Nat → Nat → Int32) (κ : Nat → Nat → Nat) (t v : Nat) : Int32 := if z_vi ((z_aS σ κ t v).2 (2 + t)) v ((z_aS σ κ t v).2 1 t) = true then 0 else z_aJ σ κ t v
def z_aB (σ : Nat → Nat → Int32) (κ : Nat → Nat → Nat) (t : Nat) : Nat → Int32 × Int32
  | 0 => (-1, z_joy σ κ t (σ 8 1))
  | v + 1 => if z_aW σ κ t v ≤ (z_aB σ κ t v).2 then z_aB σ κ t v else (nI v, z_aW σ κ t v)
theorem z_tk_ap1 {κ : Nat → Nat → Nat} {t v : Nat} : z_tk (z_ap κ t v) t 1 t = κ 1 t := by
  show z_up (z_ap κ t v) 1 t (z_ap κ t v 1 t - 1) 1 t = κ 1 t
  rw [z_up_s, show z_ap κ t v 1 t = κ 1 t + 1 from z_up_s _ _ _ _]
  omega
theorem z_tk_ap0 {κ : Nat → Nat → Nat} {t v j : Nat} : z_tk (z_ap κ t v) t 0 j = κ 0 j := by
  show z_up (z_up (z_up κ (2 + t) (κ 1 t) v) 1 t (κ 1 t + 1)) 1 t (z_ap κ t v 1 t - 1) 0 j = κ 0 j
  rw [z_up_1 _ _ (by omega), z_up_1 _ _ (by omega), z_up_1 _ _ (by omega)]
theorem z_aS_ok {σ : Nat → Nat → Int32} {κ : Nat → Nat → Nat} {t : Nat} (hw : z_wf κ) (ht : t < 6) (hn : κ 1 t < 5) : ∀ v, v ≤ κ 0 0 → z_wf (z_aS σ κ t v).2 ∧ (z_aS σ κ t v).2 1 t = κ 1 t ∧ (∀ j, (z_aS σ κ t v).2 0 j = κ 0 j)
  | 0, _ => ⟨hw, rfl, fun _ => rfl⟩
  | v + 1, h => by
    obtain ⟨h1, h2, h3⟩ := z_aS_ok (σ := σ) hw ht hn v (by omega)
    have h8 := hw.1
    rw [z_aS]
    split
    · exact ⟨h1, h2, h3⟩
    · refine ⟨z_tk_wf (z_ap_wf h1 ht (by omega) (by omega)), ?_, fun j => ?_⟩
      · exact z_tk_ap1.trans h2
      · exact z_tk_ap0.trans (h3 j)
/-- the draft behind n days -/
def z_fd (σ : Nat → Nat → Int32) (κ : Nat → Nat → Nat) (T n : Nat) : Nat → Nat → Int32 := z_k3 σ 5 (σ 8 2 + z_dd (z_fc σ κ) T (κ 0 1) n) (σ 8 3 + z_dd (z_fj σ κ) T (κ 0 1) n) (σ 8 4 + z_dd (z_fs σ κ) T (κ 0 1) n)
theorem z_fd_of (σ : Nat → Nat → Int32) (κ : Nat → Nat → Nat) (T n : Nat) {F : Nat → Nat → Int32} (hF : F = z_k3 σ 5 (σ 8 2) (σ 8 3) (σ 8 4)) : z_k3 F 5 (F 8 5 + z_dd (z_fc F κ) T (κ 0 1) n) (F 8 6 + z_dd (z_fj F κ) T (κ 0 1) n) (F 8 7 + z_dd (z_fs F κ) T (κ 0 1) n) = z_fd σ κ T n := by
  have e1 : z_fc F κ = z_fc σ κ := by rw [hF]; funext d; exact z_fc_k3 _ _ _ _ _ _ _
  have e2 : z_fj F κ = z_fj σ κ := by rw [hF]; funext d; exact z_fj_k3 _ _ _ _ _ _ _
  have e3 : z_fs F κ = z_fs σ κ := by rw [hF]; funext d; exact z_fs_k3 _ _ _ _ _ _ _
  rw [e1, e2, e3, hF, z_k3_k3]
  rfl
def z_fo (σ : Nat → Nat → Int32) (κ : Nat → Nat → Nat) (T n : Nat) : Nat → Int32
  | 5 => z_sm (z_bn (z_fd σ κ T n) (nI (T + n))) (κ 0 0)
  | 6 => σ 8 2 + z_dd (z_fc σ κ) T (κ 0 1) n
  | 7 => σ 8 3 + z_dd (z_fj σ κ) T (κ 0 1) n
  | _ => σ 8 4 + z_dd (z_fs σ κ) T (κ 0 1) n
/-- a checksum, number by number -/
def z_mx (f : Nat → Int32) (d : Int64) : Nat → Int64
  | 0 => d
  | n + 1 => z_mx f d n * 31 + (f n).toInt64
def z_my (g : Int64 → Nat → Int64) (d : Int64) : Nat → Int64
  | 0 => d
  | n + 1 => g (z_my g d n) n
def z_mv (σ : Nat → Nat → Int32) (κ : Nat → Nat → Nat) (d : Int64) (v : Nat) : Int64 := z_mx (fun u => z_mb (σ (10 + v) u)) (z_mx (z_abt σ v) d 6) (κ 0 0)
def z_mtr (σ : Nat → Nat → Int32) (κ : Nat → Nat → Nat) (d : Int64) (t : Nat) : Int64 := z_mx (fun k => nI (κ (2 + t) k)) (z_mx (z_tld σ κ t) d 6) (κ 1 t)
def z_dg (σ : Nat → Nat → Int32) (κ : Nat → Nat → Nat) : Int64 := z_my (z_mtr σ κ) (z_my (z_mv σ κ) (z_mx (fun i => σ 7 i) (z_mx (z_cnt σ κ) 1213 9) 10) (κ 0 0)) (κ 0 1)
/-- a valley told -/
def z_vl (σ : Nat → Nat → Int32) (v : Nat) (f n b : Int32) : Nat → Nat → Int32 := z_up (z_up (z_up σ 0 v f) 1 v n) 2 v b
/-- days gone by -/
def z_ps (σ : Nat → Nat → Int32) (κ : Nat → Nat → Nat) (T n : Nat) : Nat → Nat → Int32 := z_up (z_k3 σ 2 (σ 8 2 + z_dd (z_fc σ κ) T (κ 0 1) n) (σ 8 3 + z_dd (z_fj σ κ) T (κ 0 1) n) (σ 8 4 + z_dd (z_fs σ κ) T (κ 0 1) n)) 8 1 (nI (T + n))
theorem z_lt0 {a : Nat} (h : a < 1000) : ¬ nI a < 0 := nI_nlt (b := 0) (Nat.zero_le _) (by omega)
theorem z_ltn {a b : Nat} (h : a < b) (hb : b ≤ 1000) : nI a < nI b := nI_lt h (by omega)
