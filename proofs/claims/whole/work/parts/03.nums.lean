/-! whole numbers for the machine's: iN z, jN z are the int and the long of z -/
def iN (z : Int) : Int32 := Int32.ofInt z
def jN (z : Int) : Int64 := Int64.ofInt z
def i3 (z : Int) : Prop := -2147483648 ≤ z ∧ z ≤ 2147483647
def i6 (z : Int) : Prop := -9223372036854775808 ≤ z ∧ z ≤ 9223372036854775807
theorem iN_add (a b : Int) : iN a + iN b = iN (a + b) := (Int32.ofInt_add a b).symm
theorem iN_sub (a b : Int) : iN a - iN b = iN (a - b) := (Int32.ofInt_sub a b).symm
theorem iN_mul (a b : Int) : iN a * iN b = iN (a * b) := (Int32.ofInt_mul a b).symm
theorem iN_neg (a : Int) : -iN a = iN (-a) := (Int32.ofInt_neg a).symm
theorem jN_add (a b : Int) : jN a + jN b = jN (a + b) := (Int64.ofInt_add a b).symm
theorem jN_sub (a b : Int) : jN a - jN b = jN (a - b) := (Int64.ofInt_sub a b).symm
theorem jN_mul (a b : Int) : jN a * jN b = jN (a * b) := (Int64.ofInt_mul a b).symm
theorem jN_neg (a : Int) : -jN a = jN (-a) := (Int64.ofInt_neg a).symm
theorem iN_T {z : Int} (h : i3 z) : (iN z).toInt = z := Int32.toInt_ofInt_of_le (by have := h.1; omega) (by have := h.2; omega)
theorem jN_T {z : Int} (h : i6 z) : (jN z).toInt = z := Int64.toInt_ofInt_of_le (by have := h.1; omega) (by have := h.2; omega)
theorem iN_self (x : Int32) : iN x.toInt = x := Int32.ofInt_toInt x
theorem jN_self (x : Int64) : jN x.toInt = x := Int64.ofInt_toInt x
theorem iN_i3 (x : Int32) : i3 x.toInt := ⟨by have := x.le_toInt; omega, by have := x.toInt_lt; omega⟩
theorem jN_i6 (x : Int64) : i6 x.toInt := ⟨by have := x.le_toInt; omega, by have := x.toInt_lt; omega⟩
theorem iN_ex (x : Int32) : ∃ z, i3 z ∧ x = iN z := ⟨x.toInt, iN_i3 x, (iN_self x).symm⟩
theorem iN_lt {a b : Int} (ha : i3 a) (hb : i3 b) : iN a < iN b ↔ a < b := by rw [Int32.lt_iff_toInt_lt, iN_T ha, iN_T hb]
theorem iN_le {a b : Int} (ha : i3 a) (hb : i3 b) : iN a ≤ iN b ↔ a ≤ b := by rw [Int32.le_iff_toInt_le, iN_T ha, iN_T hb]
theorem iN_eq {a b : Int} (ha : i3 a) (hb : i3 b) : iN a = iN b ↔ a = b := by rw [← Int32.toInt_inj, iN_T ha, iN_T hb]
theorem jN_lt {a b : Int} (ha : i6 a) (hb : i6 b) : jN a < jN b ↔ a < b := by rw [Int64.lt_iff_toInt_lt, jN_T ha, jN_T hb]
theorem jN_le {a b : Int} (ha : i6 a) (hb : i6 b) : jN a ≤ jN b ↔ a ≤ b := by rw [Int64.le_iff_toInt_le, jN_T ha, jN_T hb]
theorem jN_eq {a b : Int} (ha : i6 a) (hb : i6 b) : jN a = jN b ↔ a = b := by rw [← Int64.toInt_inj, jN_T ha, jN_T hb]
theorem iN_l {a : Int} (ha : i3 a) : (iN a).toInt64 = jN a := Int64.toInt.inj (by rw [Int32.toInt_toInt64, iN_T ha, jN_T ⟨by have := ha.1; omega, by have := ha.2; omega⟩])
theorem jN_i {a : Int} (ha : i6 a) : (jN a).toInt32 = iN a := by
  rw [← Int32.ofInt_int64ToInt, jN_T ha]; rfl
theorem iN_nI (n : Nat) : nI n = iN n := (Int32.ofInt_eq_ofNat).symm
theorem iN_cl {n : Nat} (h : n < 2147483648) : (iN n).toNatClampNeg = n := by
  rw [← iN_nI]; exact nI_clamp h
theorem iN_in {n N : Nat} (h : n < N) (hN : N < 2147483648) : vp_in (iN n) N := by
  rw [← iN_nI]; exact vp_in_nI h hN
theorem iN_div {a b : Int} (ha : i3 a) (hb : 0 < b) (hb2 : i3 b) : iN a / iN b = iN (a.tdiv b) := by
  refine (Int32.ofInt_tdiv ?_ ?_ ?_ ?_).symm
  · exact ha.1
  · exact ha.2
  · exact hb2.1
  · exact hb2.2
theorem jN_div {a b : Int} (ha : i6 a) (hb2 : i6 b) : jN a / jN b = jN (a.tdiv b) := by
  refine (Int64.ofInt_tdiv ?_ ?_ ?_ ?_).symm
  · exact ha.1
  · exact ha.2
  · exact hb2.1
  · exact hb2.2
theorem jN_rem {a b : Int} (ha : i6 a) (hb2 : i6 b) : jN a - jN a / jN b * jN b = jN (a.tmod b) := by
  rw [jN_div ha hb2, jN_mul, jN_sub]
  congr 1
  rw [Int.tmod_def, Int.mul_comm]
section RI
variable {p : Program} {l : Launch} {e : Env} {R : Room} {s : State} {m : MethodId} {args : Array Value} {below : List Frame} {meth : Method} {c : Code} {H : Heap} {locs : List Loc} {cells slots : Nat} {Q : State → Prop} {cc : ByteArray} {pc : Nat} {ls : Array Slot} {rest : List Value}
theorem ri_add (hx : p.tables.exec = Jvm.exec) (hb : c.code = cc) {x y : Int32} {a b : Int} (hdg : decode cc pc = .ok (.iadd, 1)) (e1 : x = iN a) (e2 : y = iN b) (k : W p l e R s m args below meth c H locs cells slots Q (F0 m (pc + 1) ls (.int (iN (a + b)) :: rest))) : W p l e R s m args below meth c H locs cells slots Q (F0 m pc ls (.int y :: .int x :: rest)) := by
  subst e1; subst e2
  refine lv_iadd hx hb hdg ?_
  rw [iN_add]
  exact k
theorem rj_add (hx : p.tables.exec = Jvm.exec) (hb : c.code = cc) {x y : Int64} {a b : Int} (hdg : decode cc pc = .ok (.ladd, 1)) (e1 : x = jN a) (e2 : y = jN b) (k : W p l e R s m args below meth c H locs cells slots Q (F0 m (pc + 1) ls (.long (jN (a + b)) :: rest))) : W p l e R s m args below meth c H locs cells slots Q (F0 m pc ls (.long y :: .long x :: rest)) := by
  subst e1; subst e2
  refine lv_ladd hx hb hdg ?_
  rw [jN_add]
  exact k
theorem ri_sub (hx : p.tables.exec = Jvm.exec) (hb : c.code = cc) {x y : Int32} {a b : Int} (hdg : decode cc pc = .ok (.isub, 1)) (e1 : x = iN a) (e2 : y = iN b) (k : W p l e R s m args below meth c H locs cells slots Q (F0 m (pc + 1) ls (.int (iN (a - b)) :: rest))) : W p l e R s m args below meth c H locs cells slots Q (F0 m pc ls (.int y :: .int x :: rest)) := by
  subst e1; subst e2
  refine lv_isub hx hb hdg ?_
  rw [iN_sub]
  exact k
theorem rj_sub (hx : p.tables.exec = Jvm.exec) (hb : c.code = cc) {x y : Int64} {a b : Int} (hdg : decode cc pc = .ok (.lsub, 1)) (e1 : x = jN a) (e2 : y = jN b) (k : W p l e R s m args below meth c H locs cells slots Q (F0 m (pc + 1) ls (.long (jN (a - b)) :: rest))) : W p l e R s m args below meth c H locs cells slots Q (F0 m pc ls (.long y :: .long x :: rest)) := by
  subst e1; subst e2
  refine lv_lsub hx hb hdg ?_
  rw [jN_sub]
  exact k
theorem ri_mul (hx : p.tables.exec = Jvm.exec) (hb : c.code = cc) {x y : Int32} {a b : Int} (hdg : decode cc pc = .ok (.imul, 1)) (e1 : x = iN a) (e2 : y = iN b) (k : W p l e R s m args below meth c H locs cells slots Q (F0 m (pc + 1) ls (.int (iN (a * b)) :: rest))) : W p l e R s m args below meth c H locs cells slots Q (F0 m pc ls (.int y :: .int x :: rest)) := by
  subst e1; subst e2
  refine lv_imul hx hb hdg ?_
  rw [iN_mul]
  exact k
theorem rj_mul (hx : p.tables.exec = Jvm.exec) (hb : c.code = cc) {x y : Int64} {a b : Int} (hdg : decode cc pc = .ok (.lmul, 1)) (e1 : x = jN a) (e2 : y = jN b) (k : W p l e R s m args below meth c H locs cells slots Q (F0 m (pc + 1) ls (.long (jN (a * b)) :: rest))) : W p l e R s m args below meth c H locs cells slots Q (F0 m pc ls (.long y :: .long x :: rest)) := by
  subst e1; subst e2
  refine lv_lmul hx hb hdg ?_
  rw [jN_mul]
  exact k
theorem ri_neg (hx : p.tables.exec = Jvm.exec) (hb : c.code = cc) {x : Int32} {a : Int} (hdg : decode cc pc = .ok (.ineg, 1)) (e1 : x = iN a) (k : W p l e R s m args below meth c H locs cells slots Q (F0 m (pc + 1) ls (.int (iN (-a)) :: rest))) : W p l e R s m args below meth c H locs cells slots Q (F0 m pc ls (.int x :: rest)) := by
  subst e1
  refine lv_ineg hx hb hdg ?_
  rw [iN_neg]
  exact k
theorem rj_neg (hx : p.tables.exec = Jvm.exec) (hb : c.code = cc) {x : Int64} {a : Int} (hdg : decode cc pc = .ok (.lneg, 1)) (e1 : x = jN a) (k : W p l e R s m args below meth c H locs cells slots Q (F0 m (pc + 1) ls (.long (jN (-a)) :: rest))) : W p l e R s m args below meth c H locs cells slots Q (F0 m pc ls (.long x :: rest)) := by
  subst e1
  refine lv_lneg hx hb hdg ?_
  rw [jN_neg]
  exact k
theorem ri_i2l (hx : p.tables.exec = Jvm.exec) (hb : c.code = cc) {x : Int32} {a : Int} (hdg : decode cc pc = .ok (.i2l, 1)) (e1 : x = iN a) (ha : i3 a) (k : W p l e R s m args below meth c H locs cells slots Q (F0 m (pc + 1) ls (.long (jN a) :: rest))) : W p l e R s m args below meth c H locs cells slots Q (F0 m pc ls (.int x :: rest)) := by
  subst e1
  exact lv_i2l hx hb hdg (iN_l ha) k
theorem ri_l2i (hx : p.tables.exec = Jvm.exec) (hb : c.code = cc) {x : Int64} {a : Int} (hdg : decode cc pc = .ok (.l2i, 1)) (e1 : x = jN a) (ha : i6 a) (k : W p l e R s m args below meth c H locs cells slots Q (F0 m (pc + 1) ls (.int (iN a) :: rest))) : W p l e R s m args below meth c H locs cells slots Q (F0 m pc ls (.long x :: rest)) := by
  subst e1
  exact lv_l2i hx hb hdg (jN_i ha) k
theorem ri_ceq (hx : p.tables.exec = Jvm.exec) (hb : c.code = cc) {x y : Int32} {a b : Int} {off : Int} {tgt : Nat} (hdg : decode cc pc = .ok (.if_icmp .eq off, 3)) (ht : (pc : Int) + off = (tgt : Int)) (e1 : x = iN a) (e2 : y = iN b) (ha : i3 a) (hb3 : i3 b) (kt : a = b → W p l e R s m args below meth c H locs cells slots Q (F0 m tgt ls (rest))) (kf : ¬ (a = b) → W p l e R s m args below meth c H locs cells slots Q (F0 m (pc + 3) ls (rest))) : W p l e R s m args below meth c H locs cells slots Q (F0 m pc ls (.int y :: .int x :: rest)) := by
  subst e1; subst e2
  exact lv_icmp_eq hx hb hdg ht (fun h => kt ((iN_eq ha hb3).mp h)) (fun h => kf (fun q => h ((iN_eq ha hb3).mpr q)))
theorem ri_zeq (hx : p.tables.exec = Jvm.exec) (hb : c.code = cc) {x : Int32} {a : Int} {off : Int} {tgt : Nat} (hdg : decode cc pc = .ok (.ifCond .eq off, 3)) (ht : (pc : Int) + off = (tgt : Int)) (e1 : x = iN a) (ha : i3 a) (kt : a = 0 → W p l e R s m args below meth c H locs cells slots Q (F0 m tgt ls (rest))) (kf : ¬ (a = 0) → W p l e R s m args below meth c H locs cells slots Q (F0 m (pc + 3) ls (rest))) : W p l e R s m args below meth c H locs cells slots Q (F0 m pc ls (.int x :: rest)) := by
  subst e1
  have hz : i3 0 := ⟨by decide, by decide⟩
  exact lv_if_eq hx hb hdg ht (fun h => kt ((iN_eq ha hz).mp h)) (fun h => kf (fun q => h ((iN_eq ha hz).mpr q)))
theorem rj_ceq (hx : p.tables.exec = Jvm.exec) (hb : c.code = cc) {x y : Int64} {a b : Int} {off : Int} {tgt : Nat} (hd1 : decode cc pc = .ok (.lcmp, 1)) (hdg : decode cc (pc + 1) = .ok (.ifCond .eq off, 3)) (ht : ((pc + 1 : Nat) : Int) + off = (tgt : Int)) (e1 : x = jN a) (e2 : y = jN b) (ha : i6 a) (hb3 : i6 b) (kt : a = b → W p l e R s m args below meth c H locs cells slots Q (F0 m tgt ls (rest))) (kf : ¬ (a = b) → W p l e R s m args below meth c H locs cells slots Q (F0 m (pc + 1 + 3) ls (rest))) : W p l e R s m args below meth c H locs cells slots Q (F0 m pc ls (.long y :: .long x :: rest)) := by
  subst e1; subst e2
  refine W.lcmp hx hb hd1 ?_
  exact lv_if_eq hx hb hdg ht (fun h => kt ((jN_eq ha hb3).mp ((lg_cmp_eq _ _).mp h))) (fun h => kf (fun q => h ((lg_cmp_eq _ _).mpr ((jN_eq ha hb3).mpr q))))
theorem ri_cne (hx : p.tables.exec = Jvm.exec) (hb : c.code = cc) {x y : Int32} {a b : Int} {off : Int} {tgt : Nat} (hdg : decode cc pc = .ok (.if_icmp .ne off, 3)) (ht : (pc : Int) + off = (tgt : Int)) (e1 : x = iN a) (e2 : y = iN b) (ha : i3 a) (hb3 : i3 b) (kt : a ≠ b → W p l e R s m args below meth c H locs cells slots Q (F0 m tgt ls (rest))) (kf : ¬ (a ≠ b) → W p l e R s m args below meth c H locs cells slots Q (F0 m (pc + 3) ls (rest))) : W p l e R s m args below meth c H locs cells slots Q (F0 m pc ls (.int y :: .int x :: rest)) := by
  subst e1; subst e2
  exact lv_icmp_ne hx hb hdg ht (fun h => kt (fun q => h ((iN_eq ha hb3).mpr q))) (fun h => kf (fun q => q ((iN_eq ha hb3).mp h)))
theorem ri_zne (hx : p.tables.exec = Jvm.exec) (hb : c.code = cc) {x : Int32} {a : Int} {off : Int} {tgt : Nat} (hdg : decode cc pc = .ok (.ifCond .ne off, 3)) (ht : (pc : Int) + off = (tgt : Int)) (e1 : x = iN a) (ha : i3 a) (kt : a ≠ 0 → W p l e R s m args below meth c H locs cells slots Q (F0 m tgt ls (rest))) (kf : ¬ (a ≠ 0) → W p l e R s m args below meth c H locs cells slots Q (F0 m (pc + 3) ls (rest))) : W p l e R s m args below meth c H locs cells slots Q (F0 m pc ls (.int x :: rest)) := by
  subst e1
  have hz : i3 0 := ⟨by decide, by decide⟩
  exact lv_if_ne hx hb hdg ht (fun h => kt (fun q => h ((iN_eq ha hz).mpr q))) (fun h => kf (fun q => q ((iN_eq ha hz).mp h)))
theorem rj_cne (hx : p.tables.exec = Jvm.exec) (hb : c.code = cc) {x y : Int64} {a b : Int} {off : Int} {tgt : Nat} (hd1 : decode cc pc = .ok (.lcmp, 1)) (hdg : decode cc (pc + 1) = .ok (.ifCond .ne off, 3)) (ht : ((pc + 1 : Nat) : Int) + off = (tgt : Int)) (e1 : x = jN a) (e2 : y = jN b) (ha : i6 a) (hb3 : i6 b) (kt : a ≠ b → W p l e R s m args below meth c H locs cells slots Q (F0 m tgt ls (rest))) (kf : ¬ (a ≠ b) → W p l e R s m args below meth c H locs cells slots Q (F0 m (pc + 1 + 3) ls (rest))) : W p l e R s m args below meth c H locs cells slots Q (F0 m pc ls (.long y :: .long x :: rest)) := by
  subst e1; subst e2
  refine W.lcmp hx hb hd1 ?_
  exact lv_if_ne hx hb hdg ht (fun h => kt (fun q => h ((lg_cmp_eq _ _).mpr ((jN_eq ha hb3).mpr q)))) (fun h => kf (fun q => q ((jN_eq ha hb3).mp ((lg_cmp_eq _ _).mp h))))
theorem ri_clt (hx : p.tables.exec = Jvm.exec) (hb : c.code = cc) {x y : Int32} {a b : Int} {off : Int} {tgt : Nat} (hdg : decode cc pc = .ok (.if_icmp .lt off, 3)) (ht : (pc : Int) + off = (tgt : Int)) (e1 : x = iN a) (e2 : y = iN b) (ha : i3 a) (hb3 : i3 b) (kt : a < b → W p l e R s m args below meth c H locs cells slots Q (F0 m tgt ls (rest))) (kf : ¬ (a < b) → W p l e R s m args below meth c H locs cells slots Q (F0 m (pc + 3) ls (rest))) : W p l e R s m args below meth c H locs cells slots Q (F0 m pc ls (.int y :: .int x :: rest)) := by
  subst e1; subst e2
  exact lv_icmp_lt hx hb hdg ht (fun h => kt ((iN_lt ha hb3).mp h)) (fun h => kf (fun q => h ((iN_lt ha hb3).mpr q)))
theorem ri_zlt (hx : p.tables.exec = Jvm.exec) (hb : c.code = cc) {x : Int32} {a : Int} {off : Int} {tgt : Nat} (hdg : decode cc pc = .ok (.ifCond .lt off, 3)) (ht : (pc : Int) + off = (tgt : Int)) (e1 : x = iN a) (ha : i3 a) (kt : a < 0 → W p l e R s m args below meth c H locs cells slots Q (F0 m tgt ls (rest))) (kf : ¬ (a < 0) → W p l e R s m args below meth c H locs cells slots Q (F0 m (pc + 3) ls (rest))) : W p l e R s m args below meth c H locs cells slots Q (F0 m pc ls (.int x :: rest)) := by
  subst e1
  have hz : i3 0 := ⟨by decide, by decide⟩
  exact lv_if_lt hx hb hdg ht (fun h => kt ((iN_lt ha hz).mp h)) (fun h => kf (fun q => h ((iN_lt ha hz).mpr q)))
theorem rj_clt (hx : p.tables.exec = Jvm.exec) (hb : c.code = cc) {x y : Int64} {a b : Int} {off : Int} {tgt : Nat} (hd1 : decode cc pc = .ok (.lcmp, 1)) (hdg : decode cc (pc + 1) = .ok (.ifCond .lt off, 3)) (ht : ((pc + 1 : Nat) : Int) + off = (tgt : Int)) (e1 : x = jN a) (e2 : y = jN b) (ha : i6 a) (hb3 : i6 b) (kt : a < b → W p l e R s m args below meth c H locs cells slots Q (F0 m tgt ls (rest))) (kf : ¬ (a < b) → W p l e R s m args below meth c H locs cells slots Q (F0 m (pc + 1 + 3) ls (rest))) : W p l e R s m args below meth c H locs cells slots Q (F0 m pc ls (.long y :: .long x :: rest)) := by
  subst e1; subst e2
  refine W.lcmp hx hb hd1 ?_
  exact lv_if_lt hx hb hdg ht (fun h => kt ((jN_lt ha hb3).mp ((lg_cmp_lt _ _).mp h))) (fun h => kf (fun q => h ((lg_cmp_lt _ _).mpr ((jN_lt ha hb3).mpr q))))
theorem ri_cge (hx : p.tables.exec = Jvm.exec) (hb : c.code = cc) {x y : Int32} {a b : Int} {off : Int} {tgt : Nat} (hdg : decode cc pc = .ok (.if_icmp .ge off, 3)) (ht : (pc : Int) + off = (tgt : Int)) (e1 : x = iN a) (e2 : y = iN b) (ha : i3 a) (hb3 : i3 b) (kt : b ≤ a → W p l e R s m args below meth c H locs cells slots Q (F0 m tgt ls (rest))) (kf : ¬ (b ≤ a) → W p l e R s m args below meth c H locs cells slots Q (F0 m (pc + 3) ls (rest))) : W p l e R s m args below meth c H locs cells slots Q (F0 m pc ls (.int y :: .int x :: rest)) := by
  subst e1; subst e2
  exact lv_icmp_ge hx hb hdg ht (fun h => kt ((iN_le hb3 ha).mp h)) (fun h => kf (fun q => h ((iN_le hb3 ha).mpr q)))
theorem ri_zge (hx : p.tables.exec = Jvm.exec) (hb : c.code = cc) {x : Int32} {a : Int} {off : Int} {tgt : Nat} (hdg : decode cc pc = .ok (.ifCond .ge off, 3)) (ht : (pc : Int) + off = (tgt : Int)) (e1 : x = iN a) (ha : i3 a) (kt : 0 ≤ a → W p l e R s m args below meth c H locs cells slots Q (F0 m tgt ls (rest))) (kf : ¬ (0 ≤ a) → W p l e R s m args below meth c H locs cells slots Q (F0 m (pc + 3) ls (rest))) : W p l e R s m args below meth c H locs cells slots Q (F0 m pc ls (.int x :: rest)) := by
  subst e1
  have hz : i3 0 := ⟨by decide, by decide⟩
  exact lv_if_ge hx hb hdg ht (fun h => kt ((iN_le hz ha).mp h)) (fun h => kf (fun q => h ((iN_le hz ha).mpr q)))
theorem rj_cge (hx : p.tables.exec = Jvm.exec) (hb : c.code = cc) {x y : Int64} {a b : Int} {off : Int} {tgt : Nat} (hd1 : decode cc pc = .ok (.lcmp, 1)) (hdg : decode cc (pc + 1) = .ok (.ifCond .ge off, 3)) (ht : ((pc + 1 : Nat) : Int) + off = (tgt : Int)) (e1 : x = jN a) (e2 : y = jN b) (ha : i6 a) (hb3 : i6 b) (kt : b ≤ a → W p l e R s m args below meth c H locs cells slots Q (F0 m tgt ls (rest))) (kf : ¬ (b ≤ a) → W p l e R s m args below meth c H locs cells slots Q (F0 m (pc + 1 + 3) ls (rest))) : W p l e R s m args below meth c H locs cells slots Q (F0 m pc ls (.long y :: .long x :: rest)) := by
  subst e1; subst e2
  refine W.lcmp hx hb hd1 ?_
  exact lv_if_ge hx hb hdg ht (fun h => kt ((jN_le hb3 ha).mp ((lg_cmp_ge _ _).mp h))) (fun h => kf (fun q => h ((lg_cmp_ge _ _).mpr ((jN_le hb3 ha).mpr q))))
theorem ri_cgt (hx : p.tables.exec = Jvm.exec) (hb : c.code = cc) {x y : Int32} {a b : Int} {off : Int} {tgt : Nat} (hdg : decode cc pc = .ok (.if_icmp .gt off, 3)) (ht : (pc : Int) + off = (tgt : Int)) (e1 : x = iN a) (e2 : y = iN b) (ha : i3 a) (hb3 : i3 b) (kt : b < a → W p l e R s m args below meth c H locs cells slots Q (F0 m tgt ls (rest))) (kf : ¬ (b < a) → W p l e R s m args below meth c H locs cells slots Q (F0 m (pc + 3) ls (rest))) : W p l e R s m args below meth c H locs cells slots Q (F0 m pc ls (.int y :: .int x :: rest)) := by
  subst e1; subst e2
  exact lv_icmp_gt hx hb hdg ht (fun h => kt ((iN_lt hb3 ha).mp h)) (fun h => kf (fun q => h ((iN_lt hb3 ha).mpr q)))
theorem ri_zgt (hx : p.tables.exec = Jvm.exec) (hb : c.code = cc) {x : Int32} {a : Int} {off : Int} {tgt : Nat} (hdg : decode cc pc = .ok (.ifCond .gt off, 3)) (ht : (pc : Int) + off = (tgt : Int)) (e1 : x = iN a) (ha : i3 a) (kt : 0 < a → W p l e R s m args below meth c H locs cells slots Q (F0 m tgt ls (rest))) (kf : ¬ (0 < a) → W p l e R s m args below meth c H locs cells slots Q (F0 m (pc + 3) ls (rest))) : W p l e R s m args below meth c H locs cells slots Q (F0 m pc ls (.int x :: rest)) := by
  subst e1
  have hz : i3 0 := ⟨by decide, by decide⟩
  exact lv_if_gt hx hb hdg ht (fun h => kt ((iN_lt hz ha).mp h)) (fun h => kf (fun q => h ((iN_lt hz ha).mpr q)))
theorem rj_cgt (hx : p.tables.exec = Jvm.exec) (hb : c.code = cc) {x y : Int64} {a b : Int} {off : Int} {tgt : Nat} (hd1 : decode cc pc = .ok (.lcmp, 1)) (hdg : decode cc (pc + 1) = .ok (.ifCond .gt off, 3)) (ht : ((pc + 1 : Nat) : Int) + off = (tgt : Int)) (e1 : x = jN a) (e2 : y = jN b) (ha : i6 a) (hb3 : i6 b) (kt : b < a → W p l e R s m args below meth c H locs cells slots Q (F0 m tgt ls (rest))) (kf : ¬ (b < a) → W p l e R s m args below meth c H locs cells slots Q (F0 m (pc + 1 + 3) ls (rest))) : W p l e R s m args below meth c H locs cells slots Q (F0 m pc ls (.long y :: .long x :: rest)) := by
  subst e1; subst e2
  refine W.lcmp hx hb hd1 ?_
  exact lv_if_gt hx hb hdg ht (fun h => kt ((jN_lt hb3 ha).mp ((lg_cmp_gt _ _).mp h))) (fun h => kf (fun q => h ((lg_cmp_gt _ _).mpr ((jN_lt hb3 ha).mpr q))))
theorem ri_cle (hx : p.tables.exec = Jvm.exec) (hb : c.code = cc) {x y : Int32} {a b : Int} {off : Int} {tgt : Nat} (hdg : decode cc pc = .ok (.if_icmp .le off, 3)) (ht : (pc : Int) + off = (tgt : Int)) (e1 : x = iN a) (e2 : y = iN b) (ha : i3 a) (hb3 : i3 b) (kt : a ≤ b → W p l e R s m args below meth c H locs cells slots Q (F0 m tgt ls (rest))) (kf : ¬ (a ≤ b) → W p l e R s m args below meth c H locs cells slots Q (F0 m (pc + 3) ls (rest))) : W p l e R s m args below meth c H locs cells slots Q (F0 m pc ls (.int y :: .int x :: rest)) := by
  subst e1; subst e2
  exact lv_icmp_le hx hb hdg ht (fun h => kt ((iN_le ha hb3).mp h)) (fun h => kf (fun q => h ((iN_le ha hb3).mpr q)))
theorem ri_zle (hx : p.tables.exec = Jvm.exec) (hb : c.code = cc) {x : Int32} {a : Int} {off : Int} {tgt : Nat} (hdg : decode cc pc = .ok (.ifCond .le off, 3)) (ht : (pc : Int) + off = (tgt : Int)) (e1 : x = iN a) (ha : i3 a) (kt : a ≤ 0 → W p l e R s m args below meth c H locs cells slots Q (F0 m tgt ls (rest))) (kf : ¬ (a ≤ 0) → W p l e R s m args below meth c H locs cells slots Q (F0 m (pc + 3) ls (rest))) : W p l e R s m args below meth c H locs cells slots Q (F0 m pc ls (.int x :: rest)) := by
  subst e1
  have hz : i3 0 := ⟨by decide, by decide⟩
  exact lv_if_le hx hb hdg ht (fun h => kt ((iN_le ha hz).mp h)) (fun h => kf (fun q => h ((iN_le ha hz).mpr q)))
theorem rj_cle (hx : p.tables.exec = Jvm.exec) (hb : c.code = cc) {x y : Int64} {a b : Int} {off : Int} {tgt : Nat} (hd1 : decode cc pc = .ok (.lcmp, 1)) (hdg : decode cc (pc + 1) = .ok (.ifCond .le off, 3)) (ht : ((pc + 1 : Nat) : Int) + off = (tgt : Int)) (e1 : x = jN a) (e2 : y = jN b) (ha : i6 a) (hb3 : i6 b) (kt : a ≤ b → W p l e R s m args below meth c H locs cells slots Q (F0 m tgt ls (rest))) (kf : ¬ (a ≤ b) → W p l e R s m args below meth c H locs cells slots Q (F0 m (pc + 1 + 3) ls (rest))) : W p l e R s m args below meth c H locs cells slots Q (F0 m pc ls (.long y :: .long x :: rest)) := by
  subst e1; subst e2
  refine W.lcmp hx hb hd1 ?_
  exact lv_if_le hx hb hdg ht (fun h => kt ((jN_le ha hb3).mp ((lg_cmp_le _ _).mp h))) (fun h => kf (fun q => h ((lg_cmp_le _ _).mpr ((jN_le ha hb3).mpr q))))
end RI
