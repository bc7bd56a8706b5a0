/-! Part 02c: rows with a Nat index, loops' comparisons. -/
theorem z_inc (i : Nat) : nI i + Int32.ofInt 1 = nI (i + 1) := nI_1 i
theorem z_ge {a b : Nat} (ha : a < 2 ^ 31) (hb : b < 2 ^ 31) (h : nI b ≤ nI a) : b ≤ a := (nI_leI hb ha).mp h
theorem z_ng {a b : Nat} (ha : a < 2 ^ 31) (hb : b < 2 ^ 31) (h : ¬ nI b ≤ nI a) : a < b := by
  rcases Nat.lt_or_ge a b with q | q
  · exact q
  · exact absurd ((nI_leI hb ha).mpr q) h
theorem z_P0 {D : va_G} {cl : List vw_C} {H : Heap} : va_P D cl [] H := fun k q h => by simp at h
theorem z_N {b N : Nat} (h : b < N) (hN : N ≤ 1000) : b < 2 ^ 31 := by omega
section ZI
variable {p : Program} {l : Launch} {e : Env} {R : Room} {s : State} {m : MethodId} {args : Array Value} {below : List Frame} {meth : Method} {c : Code} {H : Heap} {locs : List Loc} {cells slots : Nat} {Q : State → Prop}
variable {pc : Nat} {ls : Array Slot} {rest : List Value} {D : va_G} {cl : List vw_C} {ws : va_W} {tys : List (ClassId × FieldType)} {cc : ByteArray} {x : Nat}
theorem z_iald (hexec : p.tables.exec = Jvm.exec) (hb : c.code = cc) (hK : va_K D cl tys s) (hP : va_P D cl ws H) (q0 t0 : Nat) {cA : ClassId} {n k : Nat} {f : Nat → Int32} (ha : ws[q0]? = some (x, .inl (cA, n, .inl f))) (ht : tys[t0]? = some (cA, .int)) (hk : k < n) (hn : n ≤ 1000) (hdg : decode cc pc = .ok (.iaload, 1))
    (kk : W p l e R s m args below meth c H locs cells slots Q (F0 m (pc + 1) ls (.int (f k) :: rest))) : W p l e R s m args below meth c H locs cells slots Q (F0 m pc ls (.int (nI k) :: .ref x :: rest)) := by
  have h : (nI k).toNatClampNeg = k := nI_clamp (by omega)
  exact va_iald hexec hb hK hP q0 t0 ha ht (vp_in_nI hk (by omega)) hdg (by rw [h]; exact kk)
theorem z_aald (hexec : p.tables.exec = Jvm.exec) (hb : c.code = cc) (hK : va_K D cl tys s) (hP : va_P D cl ws H) (q0 t0 : Nat) {cA : ClassId} {n k : Nat} {C : String} {g : Nat → Nat} (ha : ws[q0]? = some (x, .inl (cA, n, .inr (.inr (.inr (.inr (fun j => some (g j)))))))) (ht : tys[t0]? = some (cA, .object C)) (hk : k < n) (hn : n ≤ 1000) (hdg : decode cc pc = .ok (.aaload, 1))
    (kk : W p l e R s m args below meth c H locs cells slots Q (F0 m (pc + 1) ls (.ref (g k) :: rest))) : W p l e R s m args below meth c H locs cells slots Q (F0 m pc ls (.int (nI k) :: .ref x :: rest)) := by
  have h : (nI k).toNatClampNeg = k := nI_clamp (by omega)
  exact va_aldq hexec hb hK hP q0 t0 ha ht (vp_in_nI hk (by omega)) hdg (by rw [h]; exact kk)
theorem z_aalA (hexec : p.tables.exec = Jvm.exec) (hb : c.code = cc) (hK : va_K D cl tys s) (hP : va_P D cl ws H) (q0 t0 : Nat) {cA : ClassId} {n k : Nat} {ty : FieldType} {g : Nat → Nat} (ha : ws[q0]? = some (x, .inl (cA, n, .inr (.inr (.inr (.inr (fun j => some (g j)))))))) (ht : tys[t0]? = some (cA, .array ty)) (hk : k < n) (hn : n ≤ 1000) (hdg : decode cc pc = .ok (.aaload, 1))
    (kk : W p l e R s m args below meth c H locs cells slots Q (F0 m (pc + 1) ls (.ref (g k) :: rest))) : W p l e R s m args below meth c H locs cells slots Q (F0 m pc ls (.int (nI k) :: .ref x :: rest)) := by
  have h : (nI k).toNatClampNeg = k := nI_clamp (by omega)
  exact z_aldW hexec hb hK hP q0 t0 ha ht (vp_in_nI hk (by omega)) hdg (by rw [h]; exact kk)
end ZI

