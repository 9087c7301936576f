/-! Math.max, min, abs in whole numbers -/
theorem st_Mmin : Cond.static Lib.Math.min.name ∈ lw_g := tw_1 185 rfl
theorem co_Mmin : Cond.code Lib.Math.min.name Lib.Math.min.code 2 (some .int) ∈ lw_g := tw_1 186 (by decide +kernel)
theorem st_Mmax : Cond.static Lib.Math.max.name ∈ lw_g := tw_1 211 rfl
theorem co_Mmax : Cond.code Lib.Math.max.name Lib.Math.max.code 2 (some .int) ∈ lw_g := tw_1 212 (by decide +kernel)
theorem st_Mabs : Cond.static Lib.MathLoose.abs_long.x ∈ lw_g := tw_2 17 rfl
theorem co_Mabs : Cond.code Lib.MathLoose.abs_long.x Lib.MathLoose.abs_long.code 2 (some .long) ∈ lw_g := tw_2 18 (by decide +kernel)
def zabs (x : Int) : Int := if 0 < x then x else -x
section MM
variable {p : Program} {l : Launch} {e : Env} {R : Room} {s : State} {m : MethodId} {args : Array Value} {below : List Frame} {meth : Method} {c : Code} {H : Heap} {locs : List Loc} {cells slots : Nat} {Q : State → Prop} {cc : ByteArray} {pc nL : Nat} {ls : Array Slot} {rest : List Value} {D : va_G} {cI cR : ClassId} {own : String} {index : Nat}
theorem ri_mmax {x y : Int32} {a b : Int} (X : gx p m c cc nL s args own D cI cR) (hsz : ls.size = nL) (hlk : Cond.methodLink own index Lib.Math.max.name ∈ lw_g) (hf : 1 ≤ R.frames) (hlo : (rest.map fun v => v.category).sum + 13 ≤ R.locals) (hc : cells ≤ R.cells) (hs : slots ≤ R.slots) (e1 : x = iN a) (e2 : y = iN b) (ha : i3 a) (hb : i3 b) (hdg : decode cc pc = .ok (.invokestatic index, 3)) (k : W p l e R s m args below meth c H locs cells slots Q (F0 m (pc + 3) ls (.int (iN (max a b)) :: rest))) : W p l e R s m args below meth c H locs cells slots Q (F0 m pc ls (.int y :: .int x :: rest)) := by
  subst e1; subst e2
  have hts := X.1.2.2.2.2
  refine va_mmax X.1.1 X.1.2.1 (X.1.2.2.1.trans hsz.symm) X.1.2.2.2.1 (hts _ hlk) (hts _ st_Mmax) (hts _ id_Math) (hts _ co_Mmax) hf hlo hc hs hdg ?_
  have h : (if iN a < iN b then iN b else iN a) = iN (max a b) := by
    by_cases q : a < b
    · rw [if_pos ((iN_lt ha hb).mpr q), Int.max_eq_right (by omega)]
    · rw [if_neg (fun z => q ((iN_lt ha hb).mp z)), Int.max_eq_left (by omega)]
  rw [h]
  exact k
theorem ri_mmin {x y : Int32} {a b : Int} (X : gx p m c cc nL s args own D cI cR) (hsz : ls.size = nL) (hlk : Cond.methodLink own index Lib.Math.min.name ∈ lw_g) (hf : 1 ≤ R.frames) (hlo : (rest.map fun v => v.category).sum + 13 ≤ R.locals) (hc : cells ≤ R.cells) (hs : slots ≤ R.slots) (e1 : x = iN a) (e2 : y = iN b) (ha : i3 a) (hb : i3 b) (hdg : decode cc pc = .ok (.invokestatic index, 3)) (k : W p l e R s m args below meth c H locs cells slots Q (F0 m (pc + 3) ls (.int (iN (min a b)) :: rest))) : W p l e R s m args below meth c H locs cells slots Q (F0 m pc ls (.int y :: .int x :: rest)) := by
  subst e1; subst e2
  have hts := X.1.2.2.2.2
  refine va_mmin X.1.1 X.1.2.1 (X.1.2.2.1.trans hsz.symm) X.1.2.2.2.1 (hts _ hlk) (hts _ st_Mmin) (hts _ id_Math) (hts _ co_Mmin) hf hlo hc hs hdg ?_
  have h : (if iN b < iN a then iN b else iN a) = iN (min a b) := by
    by_cases q : b < a
    · rw [if_pos ((iN_lt hb ha).mpr q), Int.min_eq_right (by omega)]
    · rw [if_neg (fun z => q ((iN_lt hb ha).mp z)), Int.min_eq_left (by omega)]
  rw [h]
  exact k
theorem rj_mabs {x : Int64} {a : Int} (X : gx p m c cc nL s args own D cI cR) (hsz : ls.size = nL) (hlk : Cond.methodLink own index Lib.MathLoose.abs_long.x ∈ lw_g) (hf : 1 ≤ R.frames) (hlo : (rest.map fun v => v.category).sum + 13 ≤ R.locals) (hc : cells ≤ R.cells) (hs : slots ≤ R.slots) (e1 : x = jN a) (ha : i6 a) (hdg : decode cc pc = .ok (.invokestatic index, 3)) (k : W p l e R s m args below meth c H locs cells slots Q (F0 m (pc + 3) ls (.long (jN (zabs a)) :: rest))) : W p l e R s m args below meth c H locs cells slots Q (F0 m pc ls (.long x :: rest)) := by
  subst e1
  have hts := X.1.2.2.2.2
  have hz : i6 0 := ⟨by decide, by decide⟩
  refine va_mabs_long X.1.1 X.1.2.1 (X.1.2.2.1.trans hsz.symm) X.1.2.2.2.1 (hts _ hlk) (hts _ st_Mabs) (hts _ id_Math) (hts _ co_Mabs) hf hlo hc hs hdg ?_
  have h : (if 0 < jN a then jN a else -jN a) = jN (zabs a) := by
    have e0 : (0 : Int64) = jN 0 := rfl
    unfold zabs
    by_cases q : 0 < a
    · rw [e0, if_pos ((jN_lt hz ha).mpr q), if_pos q]
    · rw [e0, if_neg (fun z => q ((jN_lt hz ha).mp z)), if_neg q, jN_neg]
  rw [h]
  exact k
end MM
/-- bounds of products -/
theorem mb {a b A B : Int} (h1 : -A ≤ a) (h2 : a ≤ A) (h3 : -B ≤ b) (h4 : b ≤ B) : -(A * B) ≤ a * b ∧ a * b ≤ A * B := by
  have q1 := Int.mul_nonneg (show 0 ≤ A - a by omega) (show 0 ≤ B + b by omega)
  have q2 := Int.mul_nonneg (show 0 ≤ A + a by omega) (show 0 ≤ B - b by omega)
  have q3 := Int.mul_nonneg (show 0 ≤ A - a by omega) (show 0 ≤ B - b by omega)
  have q4 := Int.mul_nonneg (show 0 ≤ A + a by omega) (show 0 ≤ B + b by omega)
  grind
theorem mbc {a b : Int} (A B C : Int) (h1 : -A ≤ a) (h2 : a ≤ A) (h3 : -B ≤ b) (h4 : b ≤ B) (hC : A * B = C) : -C ≤ a * b ∧ a * b ≤ C := by
  have := mb h1 h2 h3 h4
  rw [hC] at this
  exact this
noncomputable def bI (p : Prop) : Int := @ite _ p (Classical.propDecidable p) 1 0
theorem bI_t {p : Prop} (h : p) : bI p = 1 := if_pos h
theorem bI_f {p : Prop} (h : ¬ p) : bI p = 0 := if_neg h
theorem bI_0 {p : Prop} (h : bI p = 0) : ¬ p := fun q => by rw [bI_t q] at h; omega
theorem bI_n {p : Prop} (h : ¬ bI p = 0) : p := by
  by_cases q : p
  · exact q
  · exact absurd (bI_f q) h
theorem bI_01 (p : Prop) : bI p = 0 ∨ bI p = 1 := by
  by_cases q : p
  · exact Or.inr (bI_t q)
  · exact Or.inl (bI_f q)
theorem bI_3 (p : Prop) : i3 (bI p) := by
  have := bI_01 p; unfold i3; omega
theorem bI_iff {p q : Prop} (h : p ↔ q) : bI p = bI q := by rw [propext h]
