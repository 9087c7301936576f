/-! division rows -/
section DV
variable {p : Program} {l : Launch} {e : Env} {R : Room} {s : State} {m : MethodId} {args : Array Value} {below : List Frame} {meth : Method} {c : Code} {H : Heap} {locs : List Loc} {cells slots : Nat} {Q : State → Prop} {cc : ByteArray} {pc : Nat} {ls : Array Slot} {rest : List Value}
theorem jN_ne0 {b : Int} (hb : i6 b) (h : b ≠ 0) : ¬ jN b = 0 := fun q => h ((jN_eq hb ⟨by decide, by decide⟩).mp (q.trans (rfl : (0 : Int64) = jN 0)))
theorem iN_ne0 {b : Int} (hb : i3 b) (h : b ≠ 0) : ¬ iN b = 0 := fun q => h ((iN_eq hb ⟨by decide, by decide⟩).mp (q.trans (rfl : (0 : Int32) = iN 0)))
theorem rj_rem (hx : p.tables.exec = Jvm.exec) (hb : c.code = cc) {x y : Int64} {a b : Int} (hdg : decode cc pc = .ok (.lrem, 1)) (e1 : x = jN a) (e2 : y = jN b) (ha : i6 a) (hb6 : i6 b) (h0 : b ≠ 0) (k : W p l e R s m args below meth c H locs cells slots Q (F0 m (pc + 1) ls (.long (jN (a.tmod b)) :: rest))) : W p l e R s m args below meth c H locs cells slots Q (F0 m pc ls (.long y :: .long x :: rest)) := by
  subst e1; subst e2
  refine lv_lrem hx hb hdg (jN_ne0 hb6 h0) ?_
  rw [jN_rem ha hb6]
  exact k
theorem rj_div (hx : p.tables.exec = Jvm.exec) (hb : c.code = cc) {x y : Int64} {a b : Int} (hdg : decode cc pc = .ok (.ldiv, 1)) (e1 : x = jN a) (e2 : y = jN b) (ha : i6 a) (hb6 : i6 b) (h0 : b ≠ 0) (k : W p l e R s m args below meth c H locs cells slots Q (F0 m (pc + 1) ls (.long (jN (a.tdiv b)) :: rest))) : W p l e R s m args below meth c H locs cells slots Q (F0 m pc ls (.long y :: .long x :: rest)) := by
  subst e1; subst e2
  refine lv_ldiv hx hb hdg (jN_ne0 hb6 h0) ?_
  rw [jN_div ha hb6]
  exact k
theorem ri_div (hx : p.tables.exec = Jvm.exec) (hb : c.code = cc) {x y : Int32} {a b : Int} (hdg : decode cc pc = .ok (.idiv, 1)) (e1 : x = iN a) (e2 : y = iN b) (ha : i3 a) (hb3 : i3 b) (h0 : 0 < b) (k : W p l e R s m args below meth c H locs cells slots Q (F0 m (pc + 1) ls (.int (iN (a.tdiv b)) :: rest))) : W p l e R s m args below meth c H locs cells slots Q (F0 m pc ls (.int y :: .int x :: rest)) := by
  subst e1; subst e2
  refine lv_idiv hx hb hdg (iN_ne0 hb3 (by omega)) ?_
  rw [iN_div ha h0 hb3]
  exact k
end DV
/-- Euclid's steps: the product halves -/
theorem eu_step {x y : Int} (hy : 0 < y) (hx : 0 ≤ x) : 0 ≤ x.tmod y ∧ x.tmod y < y ∧ (y ≤ x → 2 * (y * x.tmod y) ≤ x * y) := by
  have e : x.tmod y = x % y := Int.tmod_eq_emod_of_nonneg hx
  rw [e]
  have h1 := Int.emod_nonneg x (show y ≠ 0 by omega)
  have h2 := Int.emod_lt_of_pos x hy
  refine ⟨h1, h2, fun h => ?_⟩
  have h3 : 2 * (x % y) ≤ x := by
    have h4 : y * (x / y) + x % y = x := Int.mul_ediv_add_emod x y
    have h5 : 1 ≤ x / y := by
      have := Int.ediv_le_ediv hy h
      rwa [Int.ediv_self (by omega)] at this
    have h6 : y * 1 ≤ y * (x / y) := Int.mul_le_mul_of_nonneg_left h5 (by omega)
    omega
  have h7 : y * (2 * (x % y)) ≤ y * x := Int.mul_le_mul_of_nonneg_left h3 (by omega)
  grind
theorem eu_gcd {x y : Int} (hx : 0 ≤ x) (hy : 0 < y) : Int.gcd y (x.tmod y) = Int.gcd x y := by
  rw [Int.tmod_eq_emod_of_nonneg hx]
  obtain ⟨n, rfl⟩ : ∃ n : Nat, x = n := ⟨x.toNat, by omega⟩
  obtain ⟨k, rfl⟩ : ∃ k : Nat, y = k := ⟨y.toNat, by omega⟩
  rw [← Int.natCast_emod]
  show Nat.gcd k (n % k) = Nat.gcd n k
  rw [Nat.gcd_comm, ← Nat.gcd_rec, Nat.gcd_comm]
