/-! THE REFERENCE: its world. v k is the number in field k, F k what the array of field k holds. -/
def mCell (A : Nat → Nat) (v : Nat → Int) : va_E := .inr (4, [.int (iN (v 0)), .int (iN (v 1)), .ref (A 2), .ref (A 3), .ref (A 4), .ref (A 5), .ref (A 6), .int (iN (v 7)), .ref (A 8), .ref (A 9), .int (iN (v 10)), .long (jN (v 11)), .long (jN (v 12)), .long (jN (v 13)), .long (jN (v 14)), .long (jN (v 15)), .long (jN (v 16)), .long (jN (v 17)), .long (jN (v 18)), .long (jN (v 19)), .long (jN (v 20)), .long (jN (v 21)), .long (jN (v 22))])
def mArr (cI : ClassId) (n : Nat) (G : Nat → Int) : va_E := .inl (cI, n, .inl (fun j => iN (G j)))
def mSt (cI : ClassId) (m : Nat) (A : Nat → Nat) (f : Nat → va_E) (v : Nat → Int) (F : Nat → Nat → Int) : Nat → va_E := fun q => if q = m then mCell A v else if q = A 2 then mArr cI 192 (F 2) else if q = A 3 then mArr cI 192 (F 3) else if q = A 4 then mArr cI 8 (F 4) else if q = A 5 then mArr cI 576 (F 5) else if q = A 6 then mArr cI 576 (F 6) else if q = A 8 then mArr cI 576 (F 8) else if q = A 9 then mArr cI 576 (F 9) else f q
def mg (L : List Nat) (m : Nat) (A : Nat → Nat) : Prop := (m ∈ L ∧ A 2 ∈ L ∧ A 3 ∈ L ∧ A 4 ∈ L ∧ A 5 ∈ L ∧ A 6 ∈ L ∧ A 8 ∈ L ∧ A 9 ∈ L) ∧ (A 2 ≠ m ∧ A 3 ≠ m ∧ A 4 ≠ m ∧ A 5 ≠ m ∧ A 6 ≠ m ∧ A 8 ≠ m ∧ A 9 ≠ m) ∧ (A 2 ≠ A 3 ∧ A 2 ≠ A 4 ∧ A 2 ≠ A 5 ∧ A 2 ≠ A 6 ∧ A 2 ≠ A 8 ∧ A 2 ≠ A 9 ∧ A 3 ≠ A 4 ∧ A 3 ≠ A 5 ∧ A 3 ≠ A 6 ∧ A 3 ≠ A 8 ∧ A 3 ≠ A 9 ∧ A 4 ≠ A 5 ∧ A 4 ≠ A 6 ∧ A 4 ≠ A 8 ∧ A 4 ≠ A 9 ∧ A 5 ≠ A 6 ∧ A 5 ≠ A 8 ∧ A 5 ≠ A 9 ∧ A 6 ≠ A 8 ∧ A 6 ≠ A 9 ∧ A 8 ≠ A 9)
section MW
variable {cI : ClassId} {m : Nat} {A : Nat → Nat} {f : Nat → va_E} {v v2 : Nat → Int} {F : Nat → Nat → Int} {G : Nat → Int} {L : List Nat}
theorem mS_m : mSt cI m A f v F m = mCell A v := if_pos rfl
theorem mS_2 (g : mg L m A) : mSt cI m A f v F (A 2) = mArr cI 192 (F 2) := by
  obtain ⟨-, ⟨m2, m3, m4, m5, m6, m8, m9⟩, ⟨d23, d24, d25, d26, d28, d29, d34, d35, d36, d38, d39, d45, d46, d48, d49, d56, d58, d59, d68, d69, d89⟩⟩ := g
  unfold mSt
  grind
theorem mS_3 (g : mg L m A) : mSt cI m A f v F (A 3) = mArr cI 192 (F 3) := by
  obtain ⟨-, ⟨m2, m3, m4, m5, m6, m8, m9⟩, ⟨d23, d24, d25, d26, d28, d29, d34, d35, d36, d38, d39, d45, d46, d48, d49, d56, d58, d59, d68, d69, d89⟩⟩ := g
  unfold mSt
  grind
theorem mS_4 (g : mg L m A) : mSt cI m A f v F (A 4) = mArr cI 8 (F 4) := by
  obtain ⟨-, ⟨m2, m3, m4, m5, m6, m8, m9⟩, ⟨d23, d24, d25, d26, d28, d29, d34, d35, d36, d38, d39, d45, d46, d48, d49, d56, d58, d59, d68, d69, d89⟩⟩ := g
  unfold mSt
  grind
theorem mS_5 (g : mg L m A) : mSt cI m A f v F (A 5) = mArr cI 576 (F 5) := by
  obtain ⟨-, ⟨m2, m3, m4, m5, m6, m8, m9⟩, ⟨d23, d24, d25, d26, d28, d29, d34, d35, d36, d38, d39, d45, d46, d48, d49, d56, d58, d59, d68, d69, d89⟩⟩ := g
  unfold mSt
  grind
theorem mS_6 (g : mg L m A) : mSt cI m A f v F (A 6) = mArr cI 576 (F 6) := by
  obtain ⟨-, ⟨m2, m3, m4, m5, m6, m8, m9⟩, ⟨d23, d24, d25, d26, d28, d29, d34, d35, d36, d38, d39, d45, d46, d48, d49, d56, d58, d59, d68, d69, d89⟩⟩ := g
  unfold mSt
  grind
theorem mS_8 (g : mg L m A) : mSt cI m A f v F (A 8) = mArr cI 576 (F 8) := by
  obtain ⟨-, ⟨m2, m3, m4, m5, m6, m8, m9⟩, ⟨d23, d24, d25, d26, d28, d29, d34, d35, d36, d38, d39, d45, d46, d48, d49, d56, d58, d59, d68, d69, d89⟩⟩ := g
  unfold mSt
  grind
theorem mS_9 (g : mg L m A) : mSt cI m A f v F (A 9) = mArr cI 576 (F 9) := by
  obtain ⟨-, ⟨m2, m3, m4, m5, m6, m8, m9⟩, ⟨d23, d24, d25, d26, d28, d29, d34, d35, d36, d38, d39, d45, d46, d48, d49, d56, d58, d59, d68, d69, d89⟩⟩ := g
  unfold mSt
  grind
theorem mU_m : va_up (mSt cI m A f v F) m (mCell A v2) = mSt cI m A f v2 F := by
  funext q; unfold va_up mSt; grind
theorem mU_2 (g : mg L m A) : va_up (mSt cI m A f v F) (A 2) (mArr cI 192 G) = mSt cI m A f v (va_up F 2 G) := by
  obtain ⟨-, ⟨m2, m3, m4, m5, m6, m8, m9⟩, ⟨d23, d24, d25, d26, d28, d29, d34, d35, d36, d38, d39, d45, d46, d48, d49, d56, d58, d59, d68, d69, d89⟩⟩ := g
  funext q; unfold va_up mSt; grind
theorem mU_3 (g : mg L m A) : va_up (mSt cI m A f v F) (A 3) (mArr cI 192 G) = mSt cI m A f v (va_up F 3 G) := by
  obtain ⟨-, ⟨m2, m3, m4, m5, m6, m8, m9⟩, ⟨d23, d24, d25, d26, d28, d29, d34, d35, d36, d38, d39, d45, d46, d48, d49, d56, d58, d59, d68, d69, d89⟩⟩ := g
  funext q; unfold va_up mSt; grind
theorem mU_4 (g : mg L m A) : va_up (mSt cI m A f v F) (A 4) (mArr cI 8 G) = mSt cI m A f v (va_up F 4 G) := by
  obtain ⟨-, ⟨m2, m3, m4, m5, m6, m8, m9⟩, ⟨d23, d24, d25, d26, d28, d29, d34, d35, d36, d38, d39, d45, d46, d48, d49, d56, d58, d59, d68, d69, d89⟩⟩ := g
  funext q; unfold va_up mSt; grind
theorem mU_5 (g : mg L m A) : va_up (mSt cI m A f v F) (A 5) (mArr cI 576 G) = mSt cI m A f v (va_up F 5 G) := by
  obtain ⟨-, ⟨m2, m3, m4, m5, m6, m8, m9⟩, ⟨d23, d24, d25, d26, d28, d29, d34, d35, d36, d38, d39, d45, d46, d48, d49, d56, d58, d59, d68, d69, d89⟩⟩ := g
  funext q; unfold va_up mSt; grind
theorem mU_6 (g : mg L m A) : va_up (mSt cI m A f v F) (A 6) (mArr cI 576 G) = mSt cI m A f v (va_up F 6 G) := by
  obtain ⟨-, ⟨m2, m3, m4, m5, m6, m8, m9⟩, ⟨d23, d24, d25, d26, d28, d29, d34, d35, d36, d38, d39, d45, d46, d48, d49, d56, d58, d59, d68, d69, d89⟩⟩ := g
  funext q; unfold va_up mSt; grind
theorem mU_8 (g : mg L m A) : va_up (mSt cI m A f v F) (A 8) (mArr cI 576 G) = mSt cI m A f v (va_up F 8 G) := by
  obtain ⟨-, ⟨m2, m3, m4, m5, m6, m8, m9⟩, ⟨d23, d24, d25, d26, d28, d29, d34, d35, d36, d38, d39, d45, d46, d48, d49, d56, d58, d59, d68, d69, d89⟩⟩ := g
  funext q; unfold va_up mSt; grind
theorem mU_9 (g : mg L m A) : va_up (mSt cI m A f v F) (A 9) (mArr cI 576 G) = mSt cI m A f v (va_up F 9 G) := by
  obtain ⟨-, ⟨m2, m3, m4, m5, m6, m8, m9⟩, ⟨d23, d24, d25, d26, d28, d29, d34, d35, d36, d38, d39, d45, d46, d48, d49, d56, d58, d59, d68, d69, d89⟩⟩ := g
  funext q; unfold va_up mSt; grind
end MW
theorem vin {z : Int} {N : Nat} (h0 : 0 ≤ z) (h1 : z < N) (hN : N < 2147483648) : vp_in (iN z) N := by
  rw [show z = ((z.toNat : Nat) : Int) by omega]; exact iN_in (by omega) hN
theorem vcl {z : Int} (h0 : 0 ≤ z) (h1 : z < 2147483648) : (iN z).toNatClampNeg = z.toNat := by
  conv => lhs; rw [show z = ((z.toNat : Nat) : Int) by omega]
  exact iN_cl (by omega)
theorem vclN {z : Int} (N : Nat) (h0 : 0 ≤ z) (h1 : z < N) (hN : N < 2147483648) : (iN z).toNatClampNeg = z.toNat := vcl h0 (by omega)
theorem upd_iN {G : Nat → Int} {k : Nat} {x : Int} : upd (fun j => iN (G j)) k (iN x) = fun j => iN (va_up G k x j) := by
  funext j; unfold upd va_up; split <;> rfl

set_option maxHeartbeats 4000000 in
set_option maxRecDepth 100000 in
theorem c_M_in (l : Launch) {D : va_G} {cI cR : ClassId} {L : List Nat} {f : Nat → va_E} {z x y : Int} (h1 : i3 z) (h2 : i3 x) (h3 : i3 y) : gMi D cI cR l y_M_in (Cond.code y_M_in b_M_in 3 (some .boolean) :: lw_g) { frames := 0, cells := 0, slots := 0, locals := 0 } [.int (iN (z)), .int (iN (x)), .int (iN (y))] L f (fun r u => r = iN (bI (x ≤ z ∧ z ≤ y)) ∧ u = (L, f)) := by
  intro sz
  refine g_enter (by decide) rfl (Nat.le_of_ble_eq_true rfl) ?_
  intro p e s m below meth cd ls X hrt hlk hnm hl hsz w
  have X : gx p m cd b_M_in 3 s _ "HullSumsModel" D cI cR := X
  have hx := X.1.1
  have hb := X.1.2.1
  have hl : lv_has ls 3 [(0, .int (iN (z))), (1, .int (iN (x))), (2, .int (iN (y)))] := hl
  refine lv_iload_n hx hb d_M_in_0 rfl (lv_at hl 0 rfl) ?_
  refine lv_iload_n hx hb d_M_in_1 rfl (lv_at hl 1 rfl) ?_
  refine ri_clt (a := z) (b := x) (tgt := 14) hx hb d_M_in_2 (by decide) rfl rfl h1 h2 (fun c2 => ?_) (fun c2 => ?_)
  · skip
    refine lv_iconst (v := iN (0)) hx hb d_M_in_14 (by decide) ?_
    exact g_zret X w hrt hlk d_M_in_15 rfl ⟨by rw [bI_f (fun h => by have := h.1; have := h.2; omega)], rfl⟩
  · skip
    refine lv_iload_n hx hb d_M_in_5 rfl (lv_at hl 0 rfl) ?_
    refine lv_iload_n hx hb d_M_in_6 rfl (lv_at hl 2 rfl) ?_
    refine ri_cgt (a := z) (b := y) (tgt := 14) hx hb d_M_in_7 (by decide) rfl rfl h1 h3 (fun c7 => ?_) (fun c7 => ?_)
    · skip
      refine lv_iconst (v := iN (0)) hx hb d_M_in_14 (by decide) ?_
      exact g_zret X w hrt hlk d_M_in_15 rfl ⟨by rw [bI_f (fun h => by have := h.1; have := h.2; omega)], rfl⟩
    · skip
      refine lv_iconst (v := iN (1)) hx hb d_M_in_10 (by decide) ?_
      refine lv_goto (tgt := 15) hx hb d_M_in_11 (by decide) ?_
      exact g_zret X w hrt hlk d_M_in_15 rfl ⟨by rw [bI_t ⟨by omega, by omega⟩], rfl⟩
set_option maxHeartbeats 4000000 in
set_option maxRecDepth 100000 in
theorem c_M_turn (l : Launch) {D : va_G} {cI cR : ClassId} {L : List Nat} {f : Nat → va_E} {px py ax ay bx by_ : Int} : gMl D cI cR l y_M_turn (Cond.code y_M_turn b_M_turn 12 (some .long) :: lw_g) { frames := 0, cells := 0, slots := 0, locals := 0 } [.long (jN (px)), .long (jN (py)), .long (jN (ax)), .long (jN (ay)), .long (jN (bx)), .long (jN (by_))] L f (fun r u => r = jN ((ax - px) * (by_ - py) - (ay - py) * (bx - px)) ∧ u = (L, f)) := by
  intro sz
  refine g_enter (by decide) rfl (Nat.le_of_ble_eq_true rfl) ?_
  intro p e s m below meth cd ls X hrt hlk hnm hl hsz w
  have X : gx p m cd b_M_turn 12 s _ "HullSumsModel" D cI cR := X
  have hx := X.1.1
  have hb := X.1.2.1
  have hl : lv_has ls 12 [(0, .long (jN (px))), (2, .long (jN (py))), (4, .long (jN (ax))), (6, .long (jN (ay))), (8, .long (jN (bx))), (10, .long (jN (by_)))] := hl
  refine lv_lload hx hb d_M_turn_0 (lv_at hl 2 rfl) ?_
  refine lv_lload_n hx hb d_M_turn_2 rfl (lv_at hl 0 rfl) ?_
  refine rj_sub (a := ax) (b := px) hx hb d_M_turn_3 rfl rfl ?_
  refine lv_lload hx hb d_M_turn_4 (lv_at hl 5 rfl) ?_
  refine lv_lload_n hx hb d_M_turn_6 rfl (lv_at hl 1 rfl) ?_
  refine rj_sub (a := by_) (b := py) hx hb d_M_turn_7 rfl rfl ?_
  refine rj_mul (a := (ax - px)) (b := (by_ - py)) hx hb d_M_turn_8 rfl rfl ?_
  refine lv_lload hx hb d_M_turn_9 (lv_at hl 3 rfl) ?_
  refine lv_lload_n hx hb d_M_turn_11 rfl (lv_at hl 1 rfl) ?_
  refine rj_sub (a := ay) (b := py) hx hb d_M_turn_12 rfl rfl ?_
  refine lv_lload hx hb d_M_turn_13 (lv_at hl 4 rfl) ?_
  refine lv_lload_n hx hb d_M_turn_15 rfl (lv_at hl 0 rfl) ?_
  refine rj_sub (a := bx) (b := px) hx hb d_M_turn_16 rfl rfl ?_
  refine rj_mul (a := (ay - py)) (b := (bx - px)) hx hb d_M_turn_17 rfl rfl ?_
  refine rj_sub (a := ((ax - px) * (by_ - py))) (b := ((ay - py) * (bx - px))) hx hb d_M_turn_18 rfl rfl ?_
  exact g_lret X w hrt hlk d_M_turn_19 ⟨rfl, rfl⟩
set_option maxHeartbeats 4000000 in
set_option maxRecDepth 100000 in
theorem c_M_square (l : Launch) {D : va_G} {cI cR : ClassId} {L : List Nat} {f : Nat → va_E} {px py ax ay : Int} : gMl D cI cR l y_M_square (Cond.code y_M_square b_M_square 8 (some .long) :: lw_g) { frames := 0, cells := 0, slots := 0, locals := 0 } [.long (jN (px)), .long (jN (py)), .long (jN (ax)), .long (jN (ay))] L f (fun r u => r = jN ((px - ax) * (px - ax) + (py - ay) * (py - ay)) ∧ u = (L, f)) := by
  intro sz
  refine g_enter (by decide) rfl (Nat.le_of_ble_eq_true rfl) ?_
  intro p e s m below meth cd ls X hrt hlk hnm hl hsz w
  have X : gx p m cd b_M_square 8 s _ "HullSumsModel" D cI cR := X
  have hx := X.1.1
  have hb := X.1.2.1
  have hl : lv_has ls 8 [(0, .long (jN (px))), (2, .long (jN (py))), (4, .long (jN (ax))), (6, .long (jN (ay)))] := hl
  refine lv_lload_n hx hb d_M_square_0 rfl (lv_at hl 0 rfl) ?_
  refine lv_lload hx hb d_M_square_1 (lv_at hl 2 rfl) ?_
  refine rj_sub (a := px) (b := ax) hx hb d_M_square_3 rfl rfl ?_
  refine lv_lload_n hx hb d_M_square_4 rfl (lv_at hl 0 rfl) ?_
  refine lv_lload hx hb d_M_square_5 (lv_at hl 2 rfl) ?_
  refine rj_sub (a := px) (b := ax) hx hb d_M_square_7 rfl rfl ?_
  refine rj_mul (a := (px - ax)) (b := (px - ax)) hx hb d_M_square_8 rfl rfl ?_
  refine lv_lload_n hx hb d_M_square_9 rfl (lv_at hl 1 rfl) ?_
  refine lv_lload hx hb d_M_square_10 (lv_at hl 3 rfl) ?_
  refine rj_sub (a := py) (b := ay) hx hb d_M_square_12 rfl rfl ?_
  refine lv_lload_n hx hb d_M_square_13 rfl (lv_at hl 1 rfl) ?_
  refine lv_lload hx hb d_M_square_14 (lv_at hl 3 rfl) ?_
  refine rj_sub (a := py) (b := ay) hx hb d_M_square_16 rfl rfl ?_
  refine rj_mul (a := (py - ay)) (b := (py - ay)) hx hb d_M_square_17 rfl rfl ?_
  refine rj_add (a := ((px - ax) * (px - ax))) (b := ((py - ay) * (py - ay))) hx hb d_M_square_18 rfl rfl ?_
  exact g_lret X w hrt hlk d_M_square_19 ⟨rfl, rfl⟩
set_option maxHeartbeats 4000000 in
set_option maxRecDepth 100000 in
theorem c_M_common (l : Launch) {D : va_G} {cI cR : ClassId} {L : List Nat} {f : Nat → va_E} {a b : Int} (ha : i6 a) (hb6 : i6 b) (ha2 : a ≠ -9223372036854775808) (hb2 : b ≠ -9223372036854775808) : gMl D cI cR l y_M_common (Cond.code y_M_common b_M_common 10 (some .long) :: lw_g) { frames := 0, cells := 0, slots := 0, locals := 0 } [.long (jN (a)), .long (jN (b))] L f (fun r u => r = jN (Int.gcd a b) ∧ u = (L, f)) := by
  intro sz
  refine g_enter (by decide) rfl (Nat.le_of_ble_eq_true rfl) ?_
  intro p e s m below meth cd ls X hrt hlk hnm hl hsz w
  have X : gx p m cd b_M_common 10 s _ "HullSumsModel" D cI cR := X
  have hx := X.1.1
  have hb := X.1.2.1
  have hl : lv_has ls 10 [(0, .long (jN (a))), (2, .long (jN (b)))] := hl
  refine lv_lload_n hx hb d_M_common_0 rfl (lv_at hl 0 rfl) ?_
  refine lv_lconst (v := jN (0)) hx hb d_M_common_1 (by decide) ?_
  refine rj_cge (a := a) (b := 0) (tgt := 11) hx hb d_M_common_2 d_M_common_3 (by decide) rfl rfl ha (by unfold i6; omega) (fun c2 => ?_) (fun c2 => ?_)
  · skip
    refine lv_lload_n hx hb d_M_common_11 rfl (lv_at hl 0 rfl) ?_
    refine lv_lstore (lv' := [(4, .long (jN (a))), (0, .long (jN (a))), (2, .long (jN (b)))]) hx hb d_M_common_12 hl (by decide) rfl (fun ls hl => ?_)
    refine lv_lload_n hx hb d_M_common_14 rfl (lv_at hl 2 rfl) ?_
    refine lv_lconst (v := jN (0)) hx hb d_M_common_15 (by decide) ?_
    refine rj_cge (a := b) (b := 0) (tgt := 25) hx hb d_M_common_16 d_M_common_17 (by decide) rfl rfl hb6 (by unfold i6; omega) (fun c16 => ?_) (fun c16 => ?_)
    · skip
      refine lv_lload_n hx hb d_M_common_25 rfl (lv_at hl 2 rfl) ?_
      refine lv_lstore (lv' := [(6, .long (jN (b))), (4, .long (jN (a))), (0, .long (jN (a))), (2, .long (jN (b)))]) hx hb d_M_common_26 hl (by decide) rfl (fun ls hl => ?_)
      refine g_loop (σ := Int × Int) (fun z9 => z9.2.toNat) (fun z9 => [(4, .long (jN (z9.1))), (6, .long (jN (z9.2)))]) L (fun z9 => f) (fun z9 => (0 ≤ z9.1 ∧ 0 ≤ z9.2) ∧ Int.gcd z9.1 z9.2 = Int.gcd a b ∧ i6 z9.1 ∧ i6 z9.2) ?_ (a, b) _ _ _ ⟨⟨by (try dsimp only); omega, by (try dsimp only); omega⟩, by first | rfl | (dsimp only; rw [Int.gcd_neg, Int.neg_gcd]) | (dsimp only; rw [Int.gcd_neg]) | (dsimp only; rw [Int.neg_gcd]), by (try dsimp only); unfold i6 at *; omega, by (try dsimp only); unfold i6 at *; omega⟩ w (lv_sub hl [1, 0] rfl)
      intro z9 H locs ls hI w hl ih
      obtain ⟨x, y⟩ := z9
      have hl : lv_has ls 10 [(4, .long (jN (x))), (6, .long (jN (y)))] := hl
      have w : gw D (gA L sz) s.heap H locs L (f) := w
      have hI : (0 ≤ x ∧ 0 ≤ y) ∧ Int.gcd x y = Int.gcd a b ∧ i6 x ∧ i6 y := hI
      have hI0 := hI.1
      refine lv_lload hx hb d_M_common_28 (lv_at hl 1 rfl) ?_
      refine lv_lconst (v := jN (0)) hx hb d_M_common_30 (by decide) ?_
      refine rj_ceq (a := y) (b := 0) (tgt := 53) hx hb d_M_common_31 d_M_common_32 (by decide) rfl rfl hI.2.2.2 (by unfold i6; omega) (fun c31 => ?_) (fun c31 => ?_)
      · skip
        refine lv_lload hx hb d_M_common_53 (lv_at hl 0 rfl) ?_
        exact g_lret X w hrt hlk d_M_common_55 ⟨by have e0 : y = 0 := (by omega); rw [← hI.2.1, e0, Int.gcd_zero_right, show ((x.natAbs : Nat) : Int) = x by omega], rfl⟩
      · skip
        refine lv_lload hx hb d_M_common_35 (lv_at hl 0 rfl) ?_
        refine lv_lload hx hb d_M_common_37 (lv_at hl 1 rfl) ?_
        refine rj_rem (a := x) (b := y) hx hb d_M_common_39 rfl rfl hI.2.2.1 hI.2.2.2 (by omega) ?_
        refine lv_lstore (lv' := [(8, .long (jN ((x.tmod y)))), (4, .long (jN (x))), (6, .long (jN (y)))]) hx hb d_M_common_40 hl (by decide) rfl (fun ls hl => ?_)
        refine lv_lload hx hb d_M_common_42 (lv_at hl 2 rfl) ?_
        refine lv_lstore (lv' := [(4, .long (jN (y))), (8, .long (jN ((x.tmod y)))), (6, .long (jN (y)))]) hx hb d_M_common_44 hl (by decide) rfl (fun ls hl => ?_)
        refine lv_lload hx hb d_M_common_46 (lv_at hl 1 rfl) ?_
        refine lv_lstore (lv' := [(6, .long (jN ((x.tmod y)))), (4, .long (jN (y))), (8, .long (jN ((x.tmod y))))]) hx hb d_M_common_48 hl (by decide) rfl (fun ls hl => ?_)
        refine lv_goto (tgt := 28) hx hb d_M_common_50 (by decide) ?_
        have hI' : (0 ≤ y ∧ 0 ≤ (x.tmod y)) ∧ Int.gcd y (x.tmod y) = Int.gcd a b ∧ i6 y ∧ i6 (x.tmod y) := ⟨⟨hI.1.2, (eu_step (x := x) (y := y) (by omega) hI.1.1).1⟩, by rw [eu_gcd hI.1.1 (by omega)]; exact hI.2.1, hI.2.2.2, by have := eu_step (x := x) (y := y) (by omega) hI.1.1; have := hI.2.2.2; unfold i6 at *; omega⟩
        exact ih (y, (x.tmod y)) _ _ _ (by have := eu_step (x := x) (y := y) (by omega) hI.1.1; (try dsimp only); omega) hI' w (lv_sub hl [1, 0] rfl)
    · skip
      refine lv_lload_n hx hb d_M_common_20 rfl (lv_at hl 2 rfl) ?_
      refine rj_neg (a := b) hx hb d_M_common_21 rfl ?_
      refine lv_goto (tgt := 26) hx hb d_M_common_22 (by decide) ?_
      refine lv_lstore (lv' := [(6, .long (jN ((-b)))), (4, .long (jN (a))), (0, .long (jN (a))), (2, .long (jN (b)))]) hx hb d_M_common_26 hl (by decide) rfl (fun ls hl => ?_)
      refine g_loop (σ := Int × Int) (fun z9 => z9.2.toNat) (fun z9 => [(4, .long (jN (z9.1))), (6, .long (jN (z9.2)))]) L (fun z9 => f) (fun z9 => (0 ≤ z9.1 ∧ 0 ≤ z9.2) ∧ Int.gcd z9.1 z9.2 = Int.gcd a b ∧ i6 z9.1 ∧ i6 z9.2) ?_ (a, (-b)) _ _ _ ⟨⟨by (try dsimp only); omega, by (try dsimp only); omega⟩, by first | rfl | (dsimp only; rw [Int.gcd_neg, Int.neg_gcd]) | (dsimp only; rw [Int.gcd_neg]) | (dsimp only; rw [Int.neg_gcd]), by (try dsimp only); unfold i6 at *; omega, by (try dsimp only); unfold i6 at *; omega⟩ w (lv_sub hl [1, 0] rfl)
      intro z9 H locs ls hI w hl ih
      obtain ⟨x, y⟩ := z9
      have hl : lv_has ls 10 [(4, .long (jN (x))), (6, .long (jN (y)))] := hl
      have w : gw D (gA L sz) s.heap H locs L (f) := w
      have hI : (0 ≤ x ∧ 0 ≤ y) ∧ Int.gcd x y = Int.gcd a b ∧ i6 x ∧ i6 y := hI
      have hI0 := hI.1
      refine lv_lload hx hb d_M_common_28 (lv_at hl 1 rfl) ?_
      refine lv_lconst (v := jN (0)) hx hb d_M_common_30 (by decide) ?_
      refine rj_ceq (a := y) (b := 0) (tgt := 53) hx hb d_M_common_31 d_M_common_32 (by decide) rfl rfl hI.2.2.2 (by unfold i6; omega) (fun c31 => ?_) (fun c31 => ?_)
      · skip
        refine lv_lload hx hb d_M_common_53 (lv_at hl 0 rfl) ?_
        exact g_lret X w hrt hlk d_M_common_55 ⟨by have e0 : y = 0 := (by omega); rw [← hI.2.1, e0, Int.gcd_zero_right, show ((x.natAbs : Nat) : Int) = x by omega], rfl⟩
      · skip
        refine lv_lload hx hb d_M_common_35 (lv_at hl 0 rfl) ?_
        refine lv_lload hx hb d_M_common_37 (lv_at hl 1 rfl) ?_
        refine rj_rem (a := x) (b := y) hx hb d_M_common_39 rfl rfl hI.2.2.1 hI.2.2.2 (by omega) ?_
        refine lv_lstore (lv' := [(8, .long (jN ((x.tmod y)))), (4, .long (jN (x))), (6, .long (jN (y)))]) hx hb d_M_common_40 hl (by decide) rfl (fun ls hl => ?_)
        refine lv_lload hx hb d_M_common_42 (lv_at hl 2 rfl) ?_
        refine lv_lstore (lv' := [(4, .long (jN (y))), (8, .long (jN ((x.tmod y)))), (6, .long (jN (y)))]) hx hb d_M_common_44 hl (by decide) rfl (fun ls hl => ?_)
        refine lv_lload hx hb d_M_common_46 (lv_at hl 1 rfl) ?_
        refine lv_lstore (lv' := [(6, .long (jN ((x.tmod y)))), (4, .long (jN (y))), (8, .long (jN ((x.tmod y))))]) hx hb d_M_common_48 hl (by decide) rfl (fun ls hl => ?_)
        refine lv_goto (tgt := 28) hx hb d_M_common_50 (by decide) ?_
        have hI' : (0 ≤ y ∧ 0 ≤ (x.tmod y)) ∧ Int.gcd y (x.tmod y) = Int.gcd a b ∧ i6 y ∧ i6 (x.tmod y) := ⟨⟨hI.1.2, (eu_step (x := x) (y := y) (by omega) hI.1.1).1⟩, by rw [eu_gcd hI.1.1 (by omega)]; exact hI.2.1, hI.2.2.2, by have := eu_step (x := x) (y := y) (by omega) hI.1.1; have := hI.2.2.2; unfold i6 at *; omega⟩
        exact ih (y, (x.tmod y)) _ _ _ (by have := eu_step (x := x) (y := y) (by omega) hI.1.1; (try dsimp only); omega) hI' w (lv_sub hl [1, 0] rfl)
  · skip
    refine lv_lload_n hx hb d_M_common_6 rfl (lv_at hl 0 rfl) ?_
    refine rj_neg (a := a) hx hb d_M_common_7 rfl ?_
    refine lv_goto (tgt := 12) hx hb d_M_common_8 (by decide) ?_
    refine lv_lstore (lv' := [(4, .long (jN ((-a)))), (0, .long (jN (a))), (2, .long (jN (b)))]) hx hb d_M_common_12 hl (by decide) rfl (fun ls hl => ?_)
    refine lv_lload_n hx hb d_M_common_14 rfl (lv_at hl 2 rfl) ?_
    refine lv_lconst (v := jN (0)) hx hb d_M_common_15 (by decide) ?_
    refine rj_cge (a := b) (b := 0) (tgt := 25) hx hb d_M_common_16 d_M_common_17 (by decide) rfl rfl hb6 (by unfold i6; omega) (fun c16 => ?_) (fun c16 => ?_)
    · skip
      refine lv_lload_n hx hb d_M_common_25 rfl (lv_at hl 2 rfl) ?_
      refine lv_lstore (lv' := [(6, .long (jN (b))), (4, .long (jN ((-a)))), (0, .long (jN (a))), (2, .long (jN (b)))]) hx hb d_M_common_26 hl (by decide) rfl (fun ls hl => ?_)
      refine g_loop (σ := Int × Int) (fun z9 => z9.2.toNat) (fun z9 => [(4, .long (jN (z9.1))), (6, .long (jN (z9.2)))]) L (fun z9 => f) (fun z9 => (0 ≤ z9.1 ∧ 0 ≤ z9.2) ∧ Int.gcd z9.1 z9.2 = Int.gcd a b ∧ i6 z9.1 ∧ i6 z9.2) ?_ ((-a), b) _ _ _ ⟨⟨by (try dsimp only); omega, by (try dsimp only); omega⟩, by first | rfl | (dsimp only; rw [Int.gcd_neg, Int.neg_gcd]) | (dsimp only; rw [Int.gcd_neg]) | (dsimp only; rw [Int.neg_gcd]), by (try dsimp only); unfold i6 at *; omega, by (try dsimp only); unfold i6 at *; omega⟩ w (lv_sub hl [1, 0] rfl)
      intro z9 H locs ls hI w hl ih
      obtain ⟨x, y⟩ := z9
      have hl : lv_has ls 10 [(4, .long (jN (x))), (6, .long (jN (y)))] := hl
      have w : gw D (gA L sz) s.heap H locs L (f) := w
      have hI : (0 ≤ x ∧ 0 ≤ y) ∧ Int.gcd x y = Int.gcd a b ∧ i6 x ∧ i6 y := hI
      have hI0 := hI.1
      refine lv_lload hx hb d_M_common_28 (lv_at hl 1 rfl) ?_
      refine lv_lconst (v := jN (0)) hx hb d_M_common_30 (by decide) ?_
      refine rj_ceq (a := y) (b := 0) (tgt := 53) hx hb d_M_common_31 d_M_common_32 (by decide) rfl rfl hI.2.2.2 (by unfold i6; omega) (fun c31 => ?_) (fun c31 => ?_)
      · skip
        refine lv_lload hx hb d_M_common_53 (lv_at hl 0 rfl) ?_
        exact g_lret X w hrt hlk d_M_common_55 ⟨by have e0 : y = 0 := (by omega); rw [← hI.2.1, e0, Int.gcd_zero_right, show ((x.natAbs : Nat) : Int) = x by omega], rfl⟩
      · skip
        refine lv_lload hx hb d_M_common_35 (lv_at hl 0 rfl) ?_
        refine lv_lload hx hb d_M_common_37 (lv_at hl 1 rfl) ?_
        refine rj_rem (a := x) (b := y) hx hb d_M_common_39 rfl rfl hI.2.2.1 hI.2.2.2 (by omega) ?_
        refine lv_lstore (lv' := [(8, .long (jN ((x.tmod y)))), (4, .long (jN (x))), (6, .long (jN (y)))]) hx hb d_M_common_40 hl (by decide) rfl (fun ls hl => ?_)
        refine lv_lload hx hb d_M_common_42 (lv_at hl 2 rfl) ?_
        refine lv_lstore (lv' := [(4, .long (jN (y))), (8, .long (jN ((x.tmod y)))), (6, .long (jN (y)))]) hx hb d_M_common_44 hl (by decide) rfl (fun ls hl => ?_)
        refine lv_lload hx hb d_M_common_46 (lv_at hl 1 rfl) ?_
        refine lv_lstore (lv' := [(6, .long (jN ((x.tmod y)))), (4, .long (jN (y))), (8, .long (jN ((x.tmod y))))]) hx hb d_M_common_48 hl (by decide) rfl (fun ls hl => ?_)
        refine lv_goto (tgt := 28) hx hb d_M_common_50 (by decide) ?_
        have hI' : (0 ≤ y ∧ 0 ≤ (x.tmod y)) ∧ Int.gcd y (x.tmod y) = Int.gcd a b ∧ i6 y ∧ i6 (x.tmod y) := ⟨⟨hI.1.2, (eu_step (x := x) (y := y) (by omega) hI.1.1).1⟩, by rw [eu_gcd hI.1.1 (by omega)]; exact hI.2.1, hI.2.2.2, by have := eu_step (x := x) (y := y) (by omega) hI.1.1; have := hI.2.2.2; unfold i6 at *; omega⟩
        exact ih (y, (x.tmod y)) _ _ _ (by have := eu_step (x := x) (y := y) (by omega) hI.1.1; (try dsimp only); omega) hI' w (lv_sub hl [1, 0] rfl)
    · skip
      refine lv_lload_n hx hb d_M_common_20 rfl (lv_at hl 2 rfl) ?_
      refine rj_neg (a := b) hx hb d_M_common_21 rfl ?_
      refine lv_goto (tgt := 26) hx hb d_M_common_22 (by decide) ?_
      refine lv_lstore (lv' := [(6, .long (jN ((-b)))), (4, .long (jN ((-a)))), (0, .long (jN (a))), (2, .long (jN (b)))]) hx hb d_M_common_26 hl (by decide) rfl (fun ls hl => ?_)
      refine g_loop (σ := Int × Int) (fun z9 => z9.2.toNat) (fun z9 => [(4, .long (jN (z9.1))), (6, .long (jN (z9.2)))]) L (fun z9 => f) (fun z9 => (0 ≤ z9.1 ∧ 0 ≤ z9.2) ∧ Int.gcd z9.1 z9.2 = Int.gcd a b ∧ i6 z9.1 ∧ i6 z9.2) ?_ ((-a), (-b)) _ _ _ ⟨⟨by (try dsimp only); omega, by (try dsimp only); omega⟩, by first | rfl | (dsimp only; rw [Int.gcd_neg, Int.neg_gcd]) | (dsimp only; rw [Int.gcd_neg]) | (dsimp only; rw [Int.neg_gcd]), by (try dsimp only); unfold i6 at *; omega, by (try dsimp only); unfold i6 at *; omega⟩ w (lv_sub hl [1, 0] rfl)
      intro z9 H locs ls hI w hl ih
      obtain ⟨x, y⟩ := z9
      have hl : lv_has ls 10 [(4, .long (jN (x))), (6, .long (jN (y)))] := hl
      have w : gw D (gA L sz) s.heap H locs L (f) := w
      have hI : (0 ≤ x ∧ 0 ≤ y) ∧ Int.gcd x y = Int.gcd a b ∧ i6 x ∧ i6 y := hI
      have hI0 := hI.1
      refine lv_lload hx hb d_M_common_28 (lv_at hl 1 rfl) ?_
      refine lv_lconst (v := jN (0)) hx hb d_M_common_30 (by decide) ?_
      refine rj_ceq (a := y) (b := 0) (tgt := 53) hx hb d_M_common_31 d_M_common_32 (by decide) rfl rfl hI.2.2.2 (by unfold i6; omega) (fun c31 => ?_) (fun c31 => ?_)
      · skip
        refine lv_lload hx hb d_M_common_53 (lv_at hl 0 rfl) ?_
        exact g_lret X w hrt hlk d_M_common_55 ⟨by have e0 : y = 0 := (by omega); rw [← hI.2.1, e0, Int.gcd_zero_right, show ((x.natAbs : Nat) : Int) = x by omega], rfl⟩
      · skip
        refine lv_lload hx hb d_M_common_35 (lv_at hl 0 rfl) ?_
        refine lv_lload hx hb d_M_common_37 (lv_at hl 1 rfl) ?_
        refine rj_rem (a := x) (b := y) hx hb d_M_common_39 rfl rfl hI.2.2.1 hI.2.2.2 (by omega) ?_
        refine lv_lstore (lv' := [(8, .long (jN ((x.tmod y)))), (4, .long (jN (x))), (6, .long (jN (y)))]) hx hb d_M_common_40 hl (by decide) rfl (fun ls hl => ?_)
        refine lv_lload hx hb d_M_common_42 (lv_at hl 2 rfl) ?_
        refine lv_lstore (lv' := [(4, .long (jN (y))), (8, .long (jN ((x.tmod y)))), (6, .long (jN (y)))]) hx hb d_M_common_44 hl (by decide) rfl (fun ls hl => ?_)
        refine lv_lload hx hb d_M_common_46 (lv_at hl 1 rfl) ?_
        refine lv_lstore (lv' := [(6, .long (jN ((x.tmod y)))), (4, .long (jN (y))), (8, .long (jN ((x.tmod y))))]) hx hb d_M_common_48 hl (by decide) rfl (fun ls hl => ?_)
        refine lv_goto (tgt := 28) hx hb d_M_common_50 (by decide) ?_
        have hI' : (0 ≤ y ∧ 0 ≤ (x.tmod y)) ∧ Int.gcd y (x.tmod y) = Int.gcd a b ∧ i6 y ∧ i6 (x.tmod y) := ⟨⟨hI.1.2, (eu_step (x := x) (y := y) (by omega) hI.1.1).1⟩, by rw [eu_gcd hI.1.1 (by omega)]; exact hI.2.1, hI.2.2.2, by have := eu_step (x := x) (y := y) (by omega) hI.1.1; have := hI.2.2.2; unfold i6 at *; omega⟩
        exact ih (y, (x.tmod y)) _ _ _ (by have := eu_step (x := x) (y := y) (by omega) hI.1.1; (try dsimp only); omega) hI' w (lv_sub hl [1, 0] rfl)
set_option maxHeartbeats 4000000 in
set_option maxRecDepth 100000 in
theorem c_M_clear (l : Launch) {D : va_G} {cI cR : ClassId} {L : List Nat} {f : Nat → va_E} {mo : Nat} {A : Nat → Nat} {v : Nat → Int} {F : Nat → Nat → Int} (g : mg L mo A) : gMv D cI cR l y_M_clear (Cond.code y_M_clear b_M_clear 1 none :: lw_g) { frames := 0, cells := 0, slots := 0, locals := 0 } [.ref mo] L (mSt cI mo A f v F) (fun u => ∃ v' : Nat → Int, u = (L, mSt cI mo A f v' F) ∧ v' 0 = 0 ∧ v' 1 = 0 ∧ v' 11 = 0 ∧ v' 12 = 1 ∧ ∀ k, k ≠ 0 → k ≠ 1 → k ≠ 11 → k ≠ 12 → v' k = v k) := by
  intro sz
  refine g_enter (by decide) rfl (Nat.le_of_ble_eq_true rfl) ?_
  intro p e s m below meth cd ls X hrt hlk hnm hl hsz w
  have X : gx p m cd b_M_clear 1 s _ "HullSumsModel" D cI cR := X
  have hx := X.1.1
  have hb := X.1.2.1
  have hl : lv_has ls 1 [(0, .ref mo)] := hl
  refine lv_aload_n hx hb d_M_clear_0 rfl (lv_at hl 0 rfl) ?_
  refine lv_iconst (v := iN (0)) hx hb d_M_clear_1 (by decide) ?_
  refine gk_put X w g.1.1 (show (mSt cI mo A f v F) mo = .inr (4, _) from mS_m) rfl in_M ty_M tyok_M nm_M 0 (by decide) lk_M_35 rfl (ty := .int) (by decide +kernel) rfl rfl (Nat.le_of_ble_eq_true rfl) d_M_clear_2 (fun H locs w => ?_)
  obtain ⟨v1, hv1⟩ : ∃ q : Nat → Int, q = va_up v 0 (0) := ⟨_, rfl⟩
  have v1s : v1 0 = 0 := by rw [hv1, va_up_self]
  have v1n : ∀ j, j ≠ 0 → v1 j = v j := fun j hj => by rw [hv1, va_up_ne _ _ hj]
  have w : gw D (gA L sz) s.heap H locs L (mSt cI mo A f v1 F) := by rw [hv1, ← mU_m (v := v)]; exact w
  refine lv_aload_n hx hb d_M_clear_5 rfl (lv_at hl 0 rfl) ?_
  refine lv_iconst (v := iN (0)) hx hb d_M_clear_6 (by decide) ?_
  refine gk_put X w g.1.1 (show (mSt cI mo A f v1 F) mo = .inr (4, _) from mS_m) rfl in_M ty_M tyok_M nm_M 1 (by decide) lk_M_39 rfl (ty := .int) (by decide +kernel) rfl rfl (Nat.le_of_ble_eq_true rfl) d_M_clear_7 (fun H locs w => ?_)
  obtain ⟨v2, hv2⟩ : ∃ q : Nat → Int, q = va_up v1 1 (0) := ⟨_, rfl⟩
  have v2s : v2 1 = 0 := by rw [hv2, va_up_self]
  have v2n : ∀ j, j ≠ 1 → v2 j = v1 j := fun j hj => by rw [hv2, va_up_ne _ _ hj]
  have w : gw D (gA L sz) s.heap H locs L (mSt cI mo A f v2 F) := by rw [hv2, ← mU_m (v := v1)]; exact w
  refine lv_aload_n hx hb d_M_clear_10 rfl (lv_at hl 0 rfl) ?_
  refine lv_lconst (v := jN (0)) hx hb d_M_clear_11 (by decide) ?_
  refine gk_put X w g.1.1 (show (mSt cI mo A f v2 F) mo = .inr (4, _) from mS_m) rfl in_M ty_M tyok_M nm_M 11 (by decide) lk_M_42 rfl (ty := .long) (by decide +kernel) rfl rfl (Nat.le_of_ble_eq_true rfl) d_M_clear_12 (fun H locs w => ?_)
  obtain ⟨v3, hv3⟩ : ∃ q : Nat → Int, q = va_up v2 11 (0) := ⟨_, rfl⟩
  have v3s : v3 11 = 0 := by rw [hv3, va_up_self]
  have v3n : ∀ j, j ≠ 11 → v3 j = v2 j := fun j hj => by rw [hv3, va_up_ne _ _ hj]
  have w : gw D (gA L sz) s.heap H locs L (mSt cI mo A f v3 F) := by rw [hv3, ← mU_m (v := v2)]; exact w
  refine lv_aload_n hx hb d_M_clear_15 rfl (lv_at hl 0 rfl) ?_
  refine lv_lconst (v := jN (1)) hx hb d_M_clear_16 (by decide) ?_
  refine gk_put X w g.1.1 (show (mSt cI mo A f v3 F) mo = .inr (4, _) from mS_m) rfl in_M ty_M tyok_M nm_M 12 (by decide) lk_M_31 rfl (ty := .long) (by decide +kernel) rfl rfl (Nat.le_of_ble_eq_true rfl) d_M_clear_17 (fun H locs w => ?_)
  obtain ⟨v4, hv4⟩ : ∃ q : Nat → Int, q = va_up v3 12 (1) := ⟨_, rfl⟩
  have v4s : v4 12 = 1 := by rw [hv4, va_up_self]
  have v4n : ∀ j, j ≠ 12 → v4 j = v3 j := fun j hj => by rw [hv4, va_up_ne _ _ hj]
  have w : gw D (gA L sz) s.heap H locs L (mSt cI mo A f v4 F) := by rw [hv4, ← mU_m (v := v3)]; exact w
  exact g_vret X w hrt hlk d_M_clear_20 ⟨_, rfl, show v4 0 = 0 from ((((v4n 0 (by decide)).trans (v3n 0 (by decide))).trans (v2n 0 (by decide))).trans (v1s)), show v4 1 = 0 from (((v4n 1 (by decide)).trans (v3n 1 (by decide))).trans (v2s)), show v4 11 = 0 from ((v4n 11 (by decide)).trans (v3s)), show v4 12 = 1 from (v4s), fun k h0 h1 h11 h12 => ((((v4n k h12).trans (v3n k h11)).trans (v2n k h1)).trans (v1n k h0))⟩
set_option maxHeartbeats 4000000 in
set_option maxRecDepth 100000 in
theorem c_M_is (l : Launch) {D : va_G} {cI cR : ClassId} {L : List Nat} {f : Nat → va_E} {mo : Nat} {A : Nat → Nat} {v : Nat → Int} {F : Nat → Nat → Int} (g : mg L mo A) (hv0 : v 0 = 0) (hs1 : i3 (v 1)) {z : Int} (hz : i3 z) : gMi D cI cR l y_M_is (Cond.code y_M_is b_M_is 2 (some .boolean) :: lw_g) { frames := 0, cells := 0, slots := 0, locals := 0 } [.ref mo, .int (iN (z))] L (mSt cI mo A f v F) (fun r u => r = iN (bI (0 ≤ z ∧ z < v 1)) ∧ u = (L, mSt cI mo A f v F)) := by
  intro sz
  refine g_enter (by decide) rfl (Nat.le_of_ble_eq_true rfl) ?_
  intro p e s m below meth cd ls X hrt hlk hnm hl hsz w
  have X : gx p m cd b_M_is 2 s _ "HullSumsModel" D cI cR := X
  have hx := X.1.1
  have hb := X.1.2.1
  have hl : lv_has ls 2 [(0, .ref mo), (1, .int (iN (z)))] := hl
  refine lv_aload_n hx hb d_M_is_0 rfl (lv_at hl 0 rfl) ?_
  refine lv_iconst (v := iN (0)) hx hb d_M_is_1 (by decide) ?_
  refine gk_put X w g.1.1 (show (mSt cI mo A f v F) mo = .inr (4, _) from mS_m) rfl in_M ty_M tyok_M nm_M 0 (by decide) lk_M_35 rfl (ty := .int) (by decide +kernel) rfl rfl (Nat.le_of_ble_eq_true rfl) d_M_is_2 (fun H locs w => ?_)
  obtain ⟨v1, hv1⟩ : ∃ q : Nat → Int, q = va_up v 0 (0) := ⟨_, rfl⟩
  have v1s : v1 0 = 0 := by rw [hv1, va_up_self]
  have v1n : ∀ j, j ≠ 0 → v1 j = v j := fun j hj => by rw [hv1, va_up_ne _ _ hj]
  have w : gw D (gA L sz) s.heap H locs L (mSt cI mo A f v1 F) := by rw [hv1, ← mU_m (v := v)]; exact w
  have v1e : v1 = v := by funext k; by_cases e9 : k = 0; (subst e9; rw [v1s, hv0]); exact v1n k e9
  rw [v1e] at w
  refine lv_iload_n hx hb d_M_is_5 rfl (lv_at hl 1 rfl) ?_
  refine ri_zlt (a := z) (tgt := 21) hx hb d_M_is_6 (by decide) rfl hz (fun c6 => ?_) (fun c6 => ?_)
  · skip
    refine lv_iconst (v := iN (0)) hx hb d_M_is_21 (by decide) ?_
    exact g_zret X w hrt hlk d_M_is_22 rfl ⟨by rw [bI_f (fun h => by have := h.1; have := h.2; omega)], rfl⟩
  · skip
    refine lv_iload_n hx hb d_M_is_9 rfl (lv_at hl 1 rfl) ?_
    refine lv_aload_n hx hb d_M_is_10 rfl (lv_at hl 0 rfl) ?_
    refine gk_get X w g.1.1 (show (mSt cI mo A f v F) mo = .inr (4, _) from mS_m) rfl in_M 1 (by decide) lk_M_39 rfl d_M_is_11 ?_
    refine ri_cge (a := z) (b := (v 1)) (tgt := 21) hx hb d_M_is_14 (by decide) rfl rfl hz hs1 (fun c14 => ?_) (fun c14 => ?_)
    · skip
      refine lv_iconst (v := iN (0)) hx hb d_M_is_21 (by decide) ?_
      exact g_zret X w hrt hlk d_M_is_22 rfl ⟨by rw [bI_f (fun h => by have := h.1; have := h.2; omega)], rfl⟩
    · skip
      refine lv_iconst (v := iN (1)) hx hb d_M_is_17 (by decide) ?_
      refine lv_goto (tgt := 22) hx hb d_M_is_18 (by decide) ?_
      exact g_zret X w hrt hlk d_M_is_22 rfl ⟨by rw [bI_t ⟨by omega, by omega⟩], rfl⟩
def aft (n i : Int) : Int := if i + 1 < n then i + 1 else 0
set_option maxHeartbeats 4000000 in
set_option maxRecDepth 100000 in
theorem c_M_after (l : Launch) {D : va_G} {cI cR : ClassId} {L : List Nat} {f : Nat → va_E} {mo : Nat} {A : Nat → Nat} {v : Nat → Int} {F : Nat → Nat → Int} (g : mg L mo A) (h10 : i3 (v 10)) {z : Int} (hz : -2147483648 ≤ z ∧ z ≤ 2147483646) : gMi D cI cR l y_M_after (Cond.code y_M_after b_M_after 2 (some .int) :: lw_g) { frames := 0, cells := 0, slots := 0, locals := 0 } [.ref mo, .int (iN (z))] L (mSt cI mo A f v F) (fun r u => r = iN (aft (v 10) z) ∧ u = (L, mSt cI mo A f v F)) := by
  intro sz
  refine g_enter (by decide) rfl (Nat.le_of_ble_eq_true rfl) ?_
  intro p e s m below meth cd ls X hrt hlk hnm hl hsz w
  have X : gx p m cd b_M_after 2 s _ "HullSumsModel" D cI cR := X
  have hx := X.1.1
  have hb := X.1.2.1
  have hl : lv_has ls 2 [(0, .ref mo), (1, .int (iN (z)))] := hl
  refine lv_iload_n hx hb d_M_after_0 rfl (lv_at hl 1 rfl) ?_
  refine lv_iconst (v := iN (1)) hx hb d_M_after_1 (by decide) ?_
  refine ri_add (a := z) (b := 1) hx hb d_M_after_2 rfl rfl ?_
  refine lv_aload_n hx hb d_M_after_3 rfl (lv_at hl 0 rfl) ?_
  refine gk_get X w g.1.1 (show (mSt cI mo A f v F) mo = .inr (4, _) from mS_m) rfl in_M 10 (by decide) lk_M_51 rfl d_M_after_4 ?_
  refine ri_cge (a := (z + 1)) (b := (v 10)) (tgt := 16) hx hb d_M_after_7 (by decide) rfl rfl (by unfold i3; omega) h10 (fun c7 => ?_) (fun c7 => ?_)
  · skip
    refine lv_iconst (v := iN (0)) hx hb d_M_after_16 (by decide) ?_
    exact g_iret X w hrt hlk d_M_after_17 ⟨by unfold aft; rw [if_neg (by omega)], rfl⟩
  · skip
    refine lv_iload_n hx hb d_M_after_10 rfl (lv_at hl 1 rfl) ?_
    refine lv_iconst (v := iN (1)) hx hb d_M_after_11 (by decide) ?_
    refine ri_add (a := z) (b := 1) hx hb d_M_after_12 rfl rfl ?_
    refine lv_goto (tgt := 17) hx hb d_M_after_13 (by decide) ?_
    exact g_iret X w hrt hlk d_M_after_17 ⟨by unfold aft; rw [if_pos (by omega)], rfl⟩
