/-! ROWS: what is asked of a row without changing it -/
def pb (B : Int) (P : List Pt) : Prop := ∀ i : Int, -B ≤ pX P i ∧ pX P i ≤ B ∧ -B ≤ pY P i ∧ pY P i ≤ B
def pT (P : List Pt) (i j x y : Int) : Int := (pX P j - pX P i) * (y - pY P i) - (pY P j - pY P i) * (x - pX P i)
def nx (P : List Pt) (i : Int) : Int := if i + 1 < (P.length : Int) then i + 1 else 0
def sq (P : List Pt) (i j : Int) : Int := (pX P i - pX P j) * (pX P i - pX P j) + (pY P i - pY P j) * (pY P i - pY P j)
def off (P : List Pt) (i x y : Int) : Int := pT P i (nx P i) x y
def sd (P : List Pt) : Int := if P.length < 2 then 0 else P.length
theorem nx_3 {P : List Pt} {i : Int} (h0 : 0 ≤ i) (h1 : i ≤ 100) : 0 ≤ nx P i ∧ nx P i ≤ 101 := by unfold nx; split <;> omega
theorem nx_4 {P : List Pt} {i : Int} (hn : P.length ≤ 48) (h : 0 ≤ i ∧ i ≤ 100) : 0 ≤ nx P i ∧ nx P i ≤ 100 := by unfold nx; split <;> omega
theorem ssq (a : Int) : 0 ≤ a * a := by
  rcases Int.le_total 0 a with h | h
  · exact Int.mul_nonneg h h
  · exact Int.mul_nonneg_of_nonpos_of_nonpos h h
theorem pX_3 {P : List Pt} (h : pb 600 P) (i : Int) : i3 (pX P i) := by have := h i; unfold i3; omega
theorem pY_3 {P : List Pt} (h : pb 600 P) (i : Int) : i3 (pY P i) := by have := h i; unfold i3; omega
theorem pT_b {P : List Pt} (h : pb 600 P) (i j : Int) {x y : Int} (hx : -1000 ≤ x ∧ x ≤ 1000) (hy : -1000 ≤ y ∧ y ≤ 1000) : -4000000 ≤ pT P i j x y ∧ pT P i j x y ≤ 4000000 := by
  have a := h i; have b := h j
  have q1 := mbc (a := pX P j - pX P i) (b := y - pY P i) 1200 1600 1920000 (by omega) (by omega) (by omega) (by omega) (by decide)
  have q2 := mbc (a := pY P j - pY P i) (b := x - pX P i) 1200 1600 1920000 (by omega) (by omega) (by omega) (by omega) (by decide)
  unfold pT; omega
theorem pT_3 {P : List Pt} (h : pb 600 P) (i j : Int) {x y : Int} (hx : -1000 ≤ x ∧ x ≤ 1000) (hy : -1000 ≤ y ∧ y ≤ 1000) : i3 (pT P i j x y) := by
  have := pT_b h i j hx hy; unfold i3; omega
theorem sq_b {P : List Pt} (h : pb 600 P) (i j : Int) : 0 ≤ sq P i j ∧ sq P i j ≤ 2880000 := by
  have a := h i; have b := h j
  have q1 := mbc (a := pX P i - pX P j) (b := pX P i - pX P j) 1200 1200 1440000 (by omega) (by omega) (by omega) (by omega) (by decide)
  have q2 := mbc (a := pY P i - pY P j) (b := pY P i - pY P j) 1200 1200 1440000 (by omega) (by omega) (by omega) (by omega) (by decide)
  have r1 := ssq (pX P i - pX P j)
  have r2 := ssq (pY P i - pY P j)
  unfold sq; omega

set_option maxHeartbeats 4000000 in
set_option maxRecDepth 100000 in
theorem c_R_squareBetween (l : Launch) {D : va_G} {cI cR : ClassId} {L : List Nat} {f : Nat → va_E} {rx ry : Nat → Nat} {a : Nat} {P : List Pt} (ho : ro L rx ry a) (hr : rowIs cI rx ry f a P) {i : Int} (hi : 0 ≤ i ∧ i ≤ 100) {j : Int} (hj : 0 ≤ j ∧ j ≤ 100) : gMi D cI cR l y_R_squareBetween (Cond.code y_R_squareBetween b_R_squareBetween 5 (some .int) :: lw_g) { frames := 1, cells := 0, slots := 0, locals := 21 } [.ref a, .int (iN (i)), .int (iN (j))] L f (fun r u => r = iN (sq P i j) ∧ u = (L, f)) := by
  intro sz
  refine g_enter (by decide) rfl (Nat.le_of_ble_eq_true rfl) ?_
  intro p e s m below meth cd ls X hrt hlk hnm hl hsz w
  have X : gx p m cd b_R_squareBetween 5 s _ "HullSums$Row" D cI cR := X
  have hx := X.1.1
  have hb := X.1.2.1
  have hl : lv_has ls 5 [(0, .ref a), (1, .int (iN (i))), (2, .int (iN (j)))] := hl
  have hn48 := hr.1
  refine lv_aload_n hx hb d_R_squareBetween_0 rfl (lv_at hl 0 rfl) ?_
  refine lv_iload_n hx hb d_R_squareBetween_1 rfl (lv_at hl 1 rfl) ?_
  refine g_ci w (g_runV (As := [.int (iN (i))]) (rest := []) X w (c_R_x l ho hr (by unfold i3; omega)) k_R_x v_R_x lk_R_22 ho.1 hr.2.1 rfl ⟨(Nat.le_of_ble_eq_true rfl), (Nat.le_of_ble_eq_true rfl)⟩ rfl hl.1 rfl (Nat.le_of_ble_eq_true rfl) d_R_squareBetween_2 ⟨Nat.zero_le _, Nat.zero_le _⟩) (fun r u H locs hp w => ?_)
  obtain ⟨rfl, rfl⟩ := hp
  have w : gw D (gA L sz) s.heap H locs L f := w
  refine lv_aload_n hx hb d_R_squareBetween_5 rfl (lv_at hl 0 rfl) ?_
  refine lv_iload_n hx hb d_R_squareBetween_6 rfl (lv_at hl 2 rfl) ?_
  refine g_ci w (g_runV (As := [.int (iN (j))]) (rest := [.int (iN ((pX P i)))]) X w (c_R_x l ho hr (by unfold i3; omega)) k_R_x v_R_x lk_R_22 ho.1 hr.2.1 rfl ⟨(Nat.le_of_ble_eq_true rfl), (Nat.le_of_ble_eq_true rfl)⟩ rfl hl.1 rfl (Nat.le_of_ble_eq_true rfl) d_R_squareBetween_7 ⟨Nat.zero_le _, Nat.zero_le _⟩) (fun r u H locs hp w => ?_)
  obtain ⟨rfl, rfl⟩ := hp
  have w : gw D (gA L sz) s.heap H locs L f := w
  refine ri_sub (a := (pX P i)) (b := (pX P j)) hx hb d_R_squareBetween_10 rfl rfl ?_
  refine lv_istore_n (lv' := [(3, .int (iN (((pX P i) - (pX P j))))), (0, .ref a), (1, .int (iN (i))), (2, .int (iN (j)))]) hx hb d_R_squareBetween_11 rfl hl (by decide) rfl (fun ls hl => ?_)
  refine lv_aload_n hx hb d_R_squareBetween_12 rfl (lv_at hl 1 rfl) ?_
  refine lv_iload_n hx hb d_R_squareBetween_13 rfl (lv_at hl 2 rfl) ?_
  refine g_ci w (g_runV (As := [.int (iN (i))]) (rest := []) X w (c_R_y l ho hr (by unfold i3; omega)) k_R_y v_R_y lk_R_26 ho.1 hr.2.1 rfl ⟨(Nat.le_of_ble_eq_true rfl), (Nat.le_of_ble_eq_true rfl)⟩ rfl hl.1 rfl (Nat.le_of_ble_eq_true rfl) d_R_squareBetween_14 ⟨Nat.zero_le _, Nat.zero_le _⟩) (fun r u H locs hp w => ?_)
  obtain ⟨rfl, rfl⟩ := hp
  have w : gw D (gA L sz) s.heap H locs L f := w
  refine lv_aload_n hx hb d_R_squareBetween_17 rfl (lv_at hl 1 rfl) ?_
  refine lv_iload_n hx hb d_R_squareBetween_18 rfl (lv_at hl 3 rfl) ?_
  refine g_ci w (g_runV (As := [.int (iN (j))]) (rest := [.int (iN ((pY P i)))]) X w (c_R_y l ho hr (by unfold i3; omega)) k_R_y v_R_y lk_R_26 ho.1 hr.2.1 rfl ⟨(Nat.le_of_ble_eq_true rfl), (Nat.le_of_ble_eq_true rfl)⟩ rfl hl.1 rfl (Nat.le_of_ble_eq_true rfl) d_R_squareBetween_19 ⟨Nat.zero_le _, Nat.zero_le _⟩) (fun r u H locs hp w => ?_)
  obtain ⟨rfl, rfl⟩ := hp
  have w : gw D (gA L sz) s.heap H locs L f := w
  refine ri_sub (a := (pY P i)) (b := (pY P j)) hx hb d_R_squareBetween_22 rfl rfl ?_
  refine lv_istore (lv' := [(4, .int (iN (((pY P i) - (pY P j))))), (3, .int (iN (((pX P i) - (pX P j))))), (0, .ref a), (1, .int (iN (i))), (2, .int (iN (j)))]) hx hb d_R_squareBetween_23 hl (by decide) rfl (fun ls hl => ?_)
  refine lv_iload_n hx hb d_R_squareBetween_25 rfl (lv_at hl 1 rfl) ?_
  refine lv_iload_n hx hb d_R_squareBetween_26 rfl (lv_at hl 1 rfl) ?_
  refine ri_mul (a := ((pX P i) - (pX P j))) (b := ((pX P i) - (pX P j))) hx hb d_R_squareBetween_27 rfl rfl ?_
  refine lv_iload hx hb d_R_squareBetween_28 (lv_at hl 0 rfl) ?_
  refine lv_iload hx hb d_R_squareBetween_30 (lv_at hl 0 rfl) ?_
  refine ri_mul (a := ((pY P i) - (pY P j))) (b := ((pY P i) - (pY P j))) hx hb d_R_squareBetween_32 rfl rfl ?_
  refine ri_add (a := (((pX P i) - (pX P j)) * ((pX P i) - (pX P j)))) (b := (((pY P i) - (pY P j)) * ((pY P i) - (pY P j)))) hx hb d_R_squareBetween_33 rfl rfl ?_
  exact g_iret X w hrt hlk d_R_squareBetween_34 ⟨rfl, rfl⟩
set_option maxHeartbeats 4000000 in
set_option maxRecDepth 100000 in
theorem c_R_squareFromZero (l : Launch) {D : va_G} {cI cR : ClassId} {L : List Nat} {f : Nat → va_E} {rx ry : Nat → Nat} {a : Nat} {P : List Pt} (ho : ro L rx ry a) (hr : rowIs cI rx ry f a P) {i : Int} (hi : 0 ≤ i ∧ i ≤ 100) : gMi D cI cR l y_R_squareFromZero (Cond.code y_R_squareFromZero b_R_squareFromZero 2 (some .int) :: lw_g) { frames := 1, cells := 0, slots := 0, locals := 21 } [.ref a, .int (iN (i))] L f (fun r u => r = iN (pX P i * pX P i + pY P i * pY P i) ∧ u = (L, f)) := by
  intro sz
  refine g_enter (by decide) rfl (Nat.le_of_ble_eq_true rfl) ?_
  intro p e s m below meth cd ls X hrt hlk hnm hl hsz w
  have X : gx p m cd b_R_squareFromZero 2 s _ "HullSums$Row" D cI cR := X
  have hx := X.1.1
  have hb := X.1.2.1
  have hl : lv_has ls 2 [(0, .ref a), (1, .int (iN (i)))] := hl
  have hn48 := hr.1
  refine lv_aload_n hx hb d_R_squareFromZero_0 rfl (lv_at hl 0 rfl) ?_
  refine lv_iload_n hx hb d_R_squareFromZero_1 rfl (lv_at hl 1 rfl) ?_
  refine g_ci w (g_runV (As := [.int (iN (i))]) (rest := []) X w (c_R_x l ho hr (by unfold i3; omega)) k_R_x v_R_x lk_R_22 ho.1 hr.2.1 rfl ⟨(Nat.le_of_ble_eq_true rfl), (Nat.le_of_ble_eq_true rfl)⟩ rfl hl.1 rfl (Nat.le_of_ble_eq_true rfl) d_R_squareFromZero_2 ⟨Nat.zero_le _, Nat.zero_le _⟩) (fun r u H locs hp w => ?_)
  obtain ⟨rfl, rfl⟩ := hp
  have w : gw D (gA L sz) s.heap H locs L f := w
  refine lv_aload_n hx hb d_R_squareFromZero_5 rfl (lv_at hl 0 rfl) ?_
  refine lv_iload_n hx hb d_R_squareFromZero_6 rfl (lv_at hl 1 rfl) ?_
  refine g_ci w (g_runV (As := [.int (iN (i))]) (rest := [.int (iN ((pX P i)))]) X w (c_R_x l ho hr (by unfold i3; omega)) k_R_x v_R_x lk_R_22 ho.1 hr.2.1 rfl ⟨(Nat.le_of_ble_eq_true rfl), (Nat.le_of_ble_eq_true rfl)⟩ rfl hl.1 rfl (Nat.le_of_ble_eq_true rfl) d_R_squareFromZero_7 ⟨Nat.zero_le _, Nat.zero_le _⟩) (fun r u H locs hp w => ?_)
  obtain ⟨rfl, rfl⟩ := hp
  have w : gw D (gA L sz) s.heap H locs L f := w
  refine ri_mul (a := (pX P i)) (b := (pX P i)) hx hb d_R_squareFromZero_10 rfl rfl ?_
  refine lv_aload_n hx hb d_R_squareFromZero_11 rfl (lv_at hl 0 rfl) ?_
  refine lv_iload_n hx hb d_R_squareFromZero_12 rfl (lv_at hl 1 rfl) ?_
  refine g_ci w (g_runV (As := [.int (iN (i))]) (rest := [.int (iN (((pX P i) * (pX P i))))]) X w (c_R_y l ho hr (by unfold i3; omega)) k_R_y v_R_y lk_R_26 ho.1 hr.2.1 rfl ⟨(Nat.le_of_ble_eq_true rfl), (Nat.le_of_ble_eq_true rfl)⟩ rfl hl.1 rfl (Nat.le_of_ble_eq_true rfl) d_R_squareFromZero_13 ⟨Nat.zero_le _, Nat.zero_le _⟩) (fun r u H locs hp w => ?_)
  obtain ⟨rfl, rfl⟩ := hp
  have w : gw D (gA L sz) s.heap H locs L f := w
  refine lv_aload_n hx hb d_R_squareFromZero_16 rfl (lv_at hl 0 rfl) ?_
  refine lv_iload_n hx hb d_R_squareFromZero_17 rfl (lv_at hl 1 rfl) ?_
  refine g_ci w (g_runV (As := [.int (iN (i))]) (rest := [.int (iN ((pY P i))), .int (iN (((pX P i) * (pX P i))))]) X w (c_R_y l ho hr (by unfold i3; omega)) k_R_y v_R_y lk_R_26 ho.1 hr.2.1 rfl ⟨(Nat.le_of_ble_eq_true rfl), (Nat.le_of_ble_eq_true rfl)⟩ rfl hl.1 rfl (Nat.le_of_ble_eq_true rfl) d_R_squareFromZero_18 ⟨Nat.zero_le _, Nat.zero_le _⟩) (fun r u H locs hp w => ?_)
  obtain ⟨rfl, rfl⟩ := hp
  have w : gw D (gA L sz) s.heap H locs L f := w
  refine ri_mul (a := (pY P i)) (b := (pY P i)) hx hb d_R_squareFromZero_21 rfl rfl ?_
  refine ri_add (a := ((pX P i) * (pX P i))) (b := ((pY P i) * (pY P i))) hx hb d_R_squareFromZero_22 rfl rfl ?_
  exact g_iret X w hrt hlk d_R_squareFromZero_23 ⟨rfl, rfl⟩
set_option maxHeartbeats 4000000 in
set_option maxRecDepth 100000 in
theorem c_R_turn (l : Launch) {D : va_G} {cI cR : ClassId} {L : List Nat} {f : Nat → va_E} {rx ry : Nat → Nat} {a : Nat} {P : List Pt} (ho : ro L rx ry a) (hr : rowIs cI rx ry f a P) {x y : Int} {i : Int} (hi : 0 ≤ i ∧ i ≤ 100) {j : Int} (hj : 0 ≤ j ∧ j ≤ 100) : gMi D cI cR l y_R_turn (Cond.code y_R_turn b_R_turn 5 (some .int) :: lw_g) { frames := 1, cells := 0, slots := 0, locals := 21 } [.ref a, .int (iN (i)), .int (iN (j)), .int (iN (x)), .int (iN (y))] L f (fun r u => r = iN (pT P i j x y) ∧ u = (L, f)) := by
  intro sz
  refine g_enter (by decide) rfl (Nat.le_of_ble_eq_true rfl) ?_
  intro p e s m below meth cd ls X hrt hlk hnm hl hsz w
  have X : gx p m cd b_R_turn 5 s _ "HullSums$Row" D cI cR := X
  have hx := X.1.1
  have hb := X.1.2.1
  have hl : lv_has ls 5 [(0, .ref a), (1, .int (iN (i))), (2, .int (iN (j))), (3, .int (iN (x))), (4, .int (iN (y)))] := hl
  have hn48 := hr.1
  refine lv_aload_n hx hb d_R_turn_0 rfl (lv_at hl 0 rfl) ?_
  refine lv_iload_n hx hb d_R_turn_1 rfl (lv_at hl 2 rfl) ?_
  refine g_ci w (g_runV (As := [.int (iN (j))]) (rest := []) X w (c_R_x l ho hr (by unfold i3; omega)) k_R_x v_R_x lk_R_22 ho.1 hr.2.1 rfl ⟨(Nat.le_of_ble_eq_true rfl), (Nat.le_of_ble_eq_true rfl)⟩ rfl hl.1 rfl (Nat.le_of_ble_eq_true rfl) d_R_turn_2 ⟨Nat.zero_le _, Nat.zero_le _⟩) (fun r u H locs hp w => ?_)
  obtain ⟨rfl, rfl⟩ := hp
  have w : gw D (gA L sz) s.heap H locs L f := w
  refine lv_aload_n hx hb d_R_turn_5 rfl (lv_at hl 0 rfl) ?_
  refine lv_iload_n hx hb d_R_turn_6 rfl (lv_at hl 1 rfl) ?_
  refine g_ci w (g_runV (As := [.int (iN (i))]) (rest := [.int (iN ((pX P j)))]) X w (c_R_x l ho hr (by unfold i3; omega)) k_R_x v_R_x lk_R_22 ho.1 hr.2.1 rfl ⟨(Nat.le_of_ble_eq_true rfl), (Nat.le_of_ble_eq_true rfl)⟩ rfl hl.1 rfl (Nat.le_of_ble_eq_true rfl) d_R_turn_7 ⟨Nat.zero_le _, Nat.zero_le _⟩) (fun r u H locs hp w => ?_)
  obtain ⟨rfl, rfl⟩ := hp
  have w : gw D (gA L sz) s.heap H locs L f := w
  refine ri_sub (a := (pX P j)) (b := (pX P i)) hx hb d_R_turn_10 rfl rfl ?_
  refine lv_iload hx hb d_R_turn_11 (lv_at hl 4 rfl) ?_
  refine lv_aload_n hx hb d_R_turn_13 rfl (lv_at hl 0 rfl) ?_
  refine lv_iload_n hx hb d_R_turn_14 rfl (lv_at hl 1 rfl) ?_
  refine g_ci w (g_runV (As := [.int (iN (i))]) (rest := [.int (iN (y)), .int (iN (((pX P j) - (pX P i))))]) X w (c_R_y l ho hr (by unfold i3; omega)) k_R_y v_R_y lk_R_26 ho.1 hr.2.1 rfl ⟨(Nat.le_of_ble_eq_true rfl), (Nat.le_of_ble_eq_true rfl)⟩ rfl hl.1 rfl (Nat.le_of_ble_eq_true rfl) d_R_turn_15 ⟨Nat.zero_le _, Nat.zero_le _⟩) (fun r u H locs hp w => ?_)
  obtain ⟨rfl, rfl⟩ := hp
  have w : gw D (gA L sz) s.heap H locs L f := w
  refine ri_sub (a := y) (b := (pY P i)) hx hb d_R_turn_18 rfl rfl ?_
  refine ri_mul (a := ((pX P j) - (pX P i))) (b := (y - (pY P i))) hx hb d_R_turn_19 rfl rfl ?_
  refine lv_aload_n hx hb d_R_turn_20 rfl (lv_at hl 0 rfl) ?_
  refine lv_iload_n hx hb d_R_turn_21 rfl (lv_at hl 2 rfl) ?_
  refine g_ci w (g_runV (As := [.int (iN (j))]) (rest := [.int (iN ((((pX P j) - (pX P i)) * (y - (pY P i)))))]) X w (c_R_y l ho hr (by unfold i3; omega)) k_R_y v_R_y lk_R_26 ho.1 hr.2.1 rfl ⟨(Nat.le_of_ble_eq_true rfl), (Nat.le_of_ble_eq_true rfl)⟩ rfl hl.1 rfl (Nat.le_of_ble_eq_true rfl) d_R_turn_22 ⟨Nat.zero_le _, Nat.zero_le _⟩) (fun r u H locs hp w => ?_)
  obtain ⟨rfl, rfl⟩ := hp
  have w : gw D (gA L sz) s.heap H locs L f := w
  refine lv_aload_n hx hb d_R_turn_25 rfl (lv_at hl 0 rfl) ?_
  refine lv_iload_n hx hb d_R_turn_26 rfl (lv_at hl 1 rfl) ?_
  refine g_ci w (g_runV (As := [.int (iN (i))]) (rest := [.int (iN ((pY P j))), .int (iN ((((pX P j) - (pX P i)) * (y - (pY P i)))))]) X w (c_R_y l ho hr (by unfold i3; omega)) k_R_y v_R_y lk_R_26 ho.1 hr.2.1 rfl ⟨(Nat.le_of_ble_eq_true rfl), (Nat.le_of_ble_eq_true rfl)⟩ rfl hl.1 rfl (Nat.le_of_ble_eq_true rfl) d_R_turn_27 ⟨Nat.zero_le _, Nat.zero_le _⟩) (fun r u H locs hp w => ?_)
  obtain ⟨rfl, rfl⟩ := hp
  have w : gw D (gA L sz) s.heap H locs L f := w
  refine ri_sub (a := (pY P j)) (b := (pY P i)) hx hb d_R_turn_30 rfl rfl ?_
  refine lv_iload_n hx hb d_R_turn_31 rfl (lv_at hl 3 rfl) ?_
  refine lv_aload_n hx hb d_R_turn_32 rfl (lv_at hl 0 rfl) ?_
  refine lv_iload_n hx hb d_R_turn_33 rfl (lv_at hl 1 rfl) ?_
  refine g_ci w (g_runV (As := [.int (iN (i))]) (rest := [.int (iN (x)), .int (iN (((pY P j) - (pY P i)))), .int (iN ((((pX P j) - (pX P i)) * (y - (pY P i)))))]) X w (c_R_x l ho hr (by unfold i3; omega)) k_R_x v_R_x lk_R_22 ho.1 hr.2.1 rfl ⟨(Nat.le_of_ble_eq_true rfl), (Nat.le_of_ble_eq_true rfl)⟩ rfl hl.1 rfl (Nat.le_of_ble_eq_true rfl) d_R_turn_34 ⟨Nat.zero_le _, Nat.zero_le _⟩) (fun r u H locs hp w => ?_)
  obtain ⟨rfl, rfl⟩ := hp
  have w : gw D (gA L sz) s.heap H locs L f := w
  refine ri_sub (a := x) (b := (pX P i)) hx hb d_R_turn_37 rfl rfl ?_
  refine ri_mul (a := ((pY P j) - (pY P i))) (b := (x - (pX P i))) hx hb d_R_turn_38 rfl rfl ?_
  refine ri_sub (a := (((pX P j) - (pX P i)) * (y - (pY P i)))) (b := (((pY P j) - (pY P i)) * (x - (pX P i)))) hx hb d_R_turn_39 rfl rfl ?_
  exact g_iret X w hrt hlk d_R_turn_40 ⟨rfl, rfl⟩
set_option maxHeartbeats 4000000 in
set_option maxRecDepth 100000 in
theorem c_R_sides (l : Launch) {D : va_G} {cI cR : ClassId} {L : List Nat} {f : Nat → va_E} {rx ry : Nat → Nat} {a : Nat} {P : List Pt} (ho : ro L rx ry a) (hr : rowIs cI rx ry f a P) : gMi D cI cR l y_R_sides (Cond.code y_R_sides b_R_sides 1 (some .int) :: lw_g) { frames := 0, cells := 0, slots := 0, locals := 0 } [.ref a] L f (fun r u => r = iN (sd P) ∧ u = (L, f)) := by
  intro sz
  refine g_enter (by decide) rfl (Nat.le_of_ble_eq_true rfl) ?_
  intro p e s m below meth cd ls X hrt hlk hnm hl hsz w
  have X : gx p m cd b_R_sides 1 s _ "HullSums$Row" D cI cR := X
  have hx := X.1.1
  have hb := X.1.2.1
  have hl : lv_has ls 1 [(0, .ref a)] := hl
  have hn48 := hr.1
  refine lv_aload_n hx hb d_R_sides_0 rfl (lv_at hl 0 rfl) ?_
  refine gk_get X w ho.1 hr.2.1 rfl in_R 2 (by decide) lk_R_18 rfl d_R_sides_1 ?_
  refine lv_iconst (v := iN (2)) hx hb d_R_sides_4 (by decide) ?_
  refine ri_cge (a := (P.length : Int)) (b := 2) (tgt := 12) hx hb d_R_sides_5 (by decide) rfl rfl (by have := hr.1; unfold i3; omega) (by unfold i3; omega) (fun c5 => ?_) (fun c5 => ?_)
  · skip
    refine lv_aload_n hx hb d_R_sides_12 rfl (lv_at hl 0 rfl) ?_
    refine gk_get X w ho.1 hr.2.1 rfl in_R 2 (by decide) lk_R_18 rfl d_R_sides_13 ?_
    exact g_iret X w hrt hlk d_R_sides_16 ⟨by unfold sd; rw [if_neg (by omega)], rfl⟩
  · skip
    refine lv_iconst (v := iN (0)) hx hb d_R_sides_8 (by decide) ?_
    refine lv_goto (tgt := 16) hx hb d_R_sides_9 (by decide) ?_
    exact g_iret X w hrt hlk d_R_sides_16 ⟨by unfold sd; rw [if_pos (by omega)], rfl⟩
set_option maxHeartbeats 4000000 in
set_option maxRecDepth 100000 in
theorem c_R_next (l : Launch) {D : va_G} {cI cR : ClassId} {L : List Nat} {f : Nat → va_E} {rx ry : Nat → Nat} {a : Nat} {P : List Pt} (ho : ro L rx ry a) (hr : rowIs cI rx ry f a P) {i : Int} (hi : 0 ≤ i ∧ i ≤ 100) : gMi D cI cR l y_R_next (Cond.code y_R_next b_R_next 2 (some .int) :: lw_g) { frames := 0, cells := 0, slots := 0, locals := 0 } [.ref a, .int (iN (i))] L f (fun r u => r = iN (nx P i) ∧ u = (L, f)) := by
  intro sz
  refine g_enter (by decide) rfl (Nat.le_of_ble_eq_true rfl) ?_
  intro p e s m below meth cd ls X hrt hlk hnm hl hsz w
  have X : gx p m cd b_R_next 2 s _ "HullSums$Row" D cI cR := X
  have hx := X.1.1
  have hb := X.1.2.1
  have hl : lv_has ls 2 [(0, .ref a), (1, .int (iN (i)))] := hl
  have hn48 := hr.1
  refine lv_iload_n hx hb d_R_next_0 rfl (lv_at hl 1 rfl) ?_
  refine lv_iconst (v := iN (1)) hx hb d_R_next_1 (by decide) ?_
  refine ri_add (a := i) (b := 1) hx hb d_R_next_2 rfl rfl ?_
  refine lv_aload_n hx hb d_R_next_3 rfl (lv_at hl 0 rfl) ?_
  refine gk_get X w ho.1 hr.2.1 rfl in_R 2 (by decide) lk_R_18 rfl d_R_next_4 ?_
  refine ri_cge (a := (i + 1)) (b := (P.length : Int)) (tgt := 16) hx hb d_R_next_7 (by decide) rfl rfl (by have := hr.1; unfold i3; omega) (by have := hr.1; unfold i3; omega) (fun c7 => ?_) (fun c7 => ?_)
  · skip
    refine lv_iconst (v := iN (0)) hx hb d_R_next_16 (by decide) ?_
    exact g_iret X w hrt hlk d_R_next_17 ⟨by unfold nx; rw [if_neg (by omega)], rfl⟩
  · skip
    refine lv_iload_n hx hb d_R_next_10 rfl (lv_at hl 1 rfl) ?_
    refine lv_iconst (v := iN (1)) hx hb d_R_next_11 (by decide) ?_
    refine ri_add (a := i) (b := 1) hx hb d_R_next_12 rfl rfl ?_
    refine lv_goto (tgt := 17) hx hb d_R_next_13 (by decide) ?_
    exact g_iret X w hrt hlk d_R_next_17 ⟨by unfold nx; rw [if_pos (by omega)], rfl⟩
set_option maxHeartbeats 4000000 in
set_option maxRecDepth 100000 in
theorem c_R_sideX (l : Launch) {D : va_G} {cI cR : ClassId} {L : List Nat} {f : Nat → va_E} {rx ry : Nat → Nat} {a : Nat} {P : List Pt} (ho : ro L rx ry a) (hr : rowIs cI rx ry f a P) {i : Int} (hi : 0 ≤ i ∧ i ≤ 100) : gMi D cI cR l y_R_sideX (Cond.code y_R_sideX b_R_sideX 2 (some .int) :: lw_g) { frames := 1, cells := 0, slots := 0, locals := 21 } [.ref a, .int (iN (i))] L f (fun r u => r = iN (pX P (nx P i) - pX P i) ∧ u = (L, f)) := by
  intro sz
  refine g_enter (by decide) rfl (Nat.le_of_ble_eq_true rfl) ?_
  intro p e s m below meth cd ls X hrt hlk hnm hl hsz w
  have X : gx p m cd b_R_sideX 2 s _ "HullSums$Row" D cI cR := X
  have hx := X.1.1
  have hb := X.1.2.1
  have hl : lv_has ls 2 [(0, .ref a), (1, .int (iN (i)))] := hl
  have hn48 := hr.1
  refine lv_aload_n hx hb d_R_sideX_0 rfl (lv_at hl 0 rfl) ?_
  refine lv_aload_n hx hb d_R_sideX_1 rfl (lv_at hl 0 rfl) ?_
  refine lv_iload_n hx hb d_R_sideX_2 rfl (lv_at hl 1 rfl) ?_
  refine g_ci w (g_runV (As := [.int (iN (i))]) (rest := [.ref a]) X w (c_R_next l ho hr (by omega)) k_R_next v_R_next lk_R_57 ho.1 hr.2.1 rfl ⟨(Nat.le_of_ble_eq_true rfl), (Nat.le_of_ble_eq_true rfl)⟩ rfl hl.1 rfl (Nat.le_of_ble_eq_true rfl) d_R_sideX_3 ⟨Nat.zero_le _, Nat.zero_le _⟩) (fun r u H locs hp w => ?_)
  obtain ⟨rfl, rfl⟩ := hp
  have w : gw D (gA L sz) s.heap H locs L f := w
  refine g_ci w (g_runV (As := [.int (iN ((nx P i)))]) (rest := []) X w (c_R_x l ho hr (by have := nx_3 (P := P) hi.1 hi.2; unfold i3; omega)) k_R_x v_R_x lk_R_22 ho.1 hr.2.1 rfl ⟨(Nat.le_of_ble_eq_true rfl), (Nat.le_of_ble_eq_true rfl)⟩ rfl hl.1 rfl (Nat.le_of_ble_eq_true rfl) d_R_sideX_6 ⟨Nat.zero_le _, Nat.zero_le _⟩) (fun r u H locs hp w => ?_)
  obtain ⟨rfl, rfl⟩ := hp
  have w : gw D (gA L sz) s.heap H locs L f := w
  refine lv_aload_n hx hb d_R_sideX_9 rfl (lv_at hl 0 rfl) ?_
  refine lv_iload_n hx hb d_R_sideX_10 rfl (lv_at hl 1 rfl) ?_
  refine g_ci w (g_runV (As := [.int (iN (i))]) (rest := [.int (iN ((pX P (nx P i))))]) X w (c_R_x l ho hr (by unfold i3; omega)) k_R_x v_R_x lk_R_22 ho.1 hr.2.1 rfl ⟨(Nat.le_of_ble_eq_true rfl), (Nat.le_of_ble_eq_true rfl)⟩ rfl hl.1 rfl (Nat.le_of_ble_eq_true rfl) d_R_sideX_11 ⟨Nat.zero_le _, Nat.zero_le _⟩) (fun r u H locs hp w => ?_)
  obtain ⟨rfl, rfl⟩ := hp
  have w : gw D (gA L sz) s.heap H locs L f := w
  refine ri_sub (a := (pX P (nx P i))) (b := (pX P i)) hx hb d_R_sideX_14 rfl rfl ?_
  exact g_iret X w hrt hlk d_R_sideX_15 ⟨rfl, rfl⟩
set_option maxHeartbeats 4000000 in
set_option maxRecDepth 100000 in
theorem c_R_sideY (l : Launch) {D : va_G} {cI cR : ClassId} {L : List Nat} {f : Nat → va_E} {rx ry : Nat → Nat} {a : Nat} {P : List Pt} (ho : ro L rx ry a) (hr : rowIs cI rx ry f a P) {i : Int} (hi : 0 ≤ i ∧ i ≤ 100) : gMi D cI cR l y_R_sideY (Cond.code y_R_sideY b_R_sideY 2 (some .int) :: lw_g) { frames := 1, cells := 0, slots := 0, locals := 21 } [.ref a, .int (iN (i))] L f (fun r u => r = iN (pY P (nx P i) - pY P i) ∧ u = (L, f)) := by
  intro sz
  refine g_enter (by decide) rfl (Nat.le_of_ble_eq_true rfl) ?_
  intro p e s m below meth cd ls X hrt hlk hnm hl hsz w
  have X : gx p m cd b_R_sideY 2 s _ "HullSums$Row" D cI cR := X
  have hx := X.1.1
  have hb := X.1.2.1
  have hl : lv_has ls 2 [(0, .ref a), (1, .int (iN (i)))] := hl
  have hn48 := hr.1
  refine lv_aload_n hx hb d_R_sideY_0 rfl (lv_at hl 0 rfl) ?_
  refine lv_aload_n hx hb d_R_sideY_1 rfl (lv_at hl 0 rfl) ?_
  refine lv_iload_n hx hb d_R_sideY_2 rfl (lv_at hl 1 rfl) ?_
  refine g_ci w (g_runV (As := [.int (iN (i))]) (rest := [.ref a]) X w (c_R_next l ho hr (by omega)) k_R_next v_R_next lk_R_57 ho.1 hr.2.1 rfl ⟨(Nat.le_of_ble_eq_true rfl), (Nat.le_of_ble_eq_true rfl)⟩ rfl hl.1 rfl (Nat.le_of_ble_eq_true rfl) d_R_sideY_3 ⟨Nat.zero_le _, Nat.zero_le _⟩) (fun r u H locs hp w => ?_)
  obtain ⟨rfl, rfl⟩ := hp
  have w : gw D (gA L sz) s.heap H locs L f := w
  refine g_ci w (g_runV (As := [.int (iN ((nx P i)))]) (rest := []) X w (c_R_y l ho hr (by have := nx_3 (P := P) hi.1 hi.2; unfold i3; omega)) k_R_y v_R_y lk_R_26 ho.1 hr.2.1 rfl ⟨(Nat.le_of_ble_eq_true rfl), (Nat.le_of_ble_eq_true rfl)⟩ rfl hl.1 rfl (Nat.le_of_ble_eq_true rfl) d_R_sideY_6 ⟨Nat.zero_le _, Nat.zero_le _⟩) (fun r u H locs hp w => ?_)
  obtain ⟨rfl, rfl⟩ := hp
  have w : gw D (gA L sz) s.heap H locs L f := w
  refine lv_aload_n hx hb d_R_sideY_9 rfl (lv_at hl 0 rfl) ?_
  refine lv_iload_n hx hb d_R_sideY_10 rfl (lv_at hl 1 rfl) ?_
  refine g_ci w (g_runV (As := [.int (iN (i))]) (rest := [.int (iN ((pY P (nx P i))))]) X w (c_R_y l ho hr (by unfold i3; omega)) k_R_y v_R_y lk_R_26 ho.1 hr.2.1 rfl ⟨(Nat.le_of_ble_eq_true rfl), (Nat.le_of_ble_eq_true rfl)⟩ rfl hl.1 rfl (Nat.le_of_ble_eq_true rfl) d_R_sideY_11 ⟨Nat.zero_le _, Nat.zero_le _⟩) (fun r u H locs hp w => ?_)
  obtain ⟨rfl, rfl⟩ := hp
  have w : gw D (gA L sz) s.heap H locs L f := w
  refine ri_sub (a := (pY P (nx P i))) (b := (pY P i)) hx hb d_R_sideY_14 rfl rfl ?_
  exact g_iret X w hrt hlk d_R_sideY_15 ⟨rfl, rfl⟩
set_option maxHeartbeats 4000000 in
set_option maxRecDepth 100000 in
theorem c_R_squareOfSide (l : Launch) {D : va_G} {cI cR : ClassId} {L : List Nat} {f : Nat → va_E} {rx ry : Nat → Nat} {a : Nat} {P : List Pt} (ho : ro L rx ry a) (hr : rowIs cI rx ry f a P) {i : Int} (hi : 0 ≤ i ∧ i ≤ 100) : gMi D cI cR l y_R_squareOfSide (Cond.code y_R_squareOfSide b_R_squareOfSide 2 (some .int) :: lw_g) { frames := 2, cells := 0, slots := 0, locals := 45 } [.ref a, .int (iN (i))] L f (fun r u => r = iN (sq P i (nx P i)) ∧ u = (L, f)) := by
  intro sz
  refine g_enter (by decide) rfl (Nat.le_of_ble_eq_true rfl) ?_
  intro p e s m below meth cd ls X hrt hlk hnm hl hsz w
  have X : gx p m cd b_R_squareOfSide 2 s _ "HullSums$Row" D cI cR := X
  have hx := X.1.1
  have hb := X.1.2.1
  have hl : lv_has ls 2 [(0, .ref a), (1, .int (iN (i)))] := hl
  have hn48 := hr.1
  refine lv_aload_n hx hb d_R_squareOfSide_0 rfl (lv_at hl 0 rfl) ?_
  refine lv_iload_n hx hb d_R_squareOfSide_1 rfl (lv_at hl 1 rfl) ?_
  refine lv_aload_n hx hb d_R_squareOfSide_2 rfl (lv_at hl 0 rfl) ?_
  refine lv_iload_n hx hb d_R_squareOfSide_3 rfl (lv_at hl 1 rfl) ?_
  refine g_ci w (g_runV (As := [.int (iN (i))]) (rest := [.int (iN (i)), .ref a]) X w (c_R_next l ho hr (by omega)) k_R_next v_R_next lk_R_57 ho.1 hr.2.1 rfl ⟨(Nat.le_of_ble_eq_true rfl), (Nat.le_of_ble_eq_true rfl)⟩ rfl hl.1 rfl (Nat.le_of_ble_eq_true rfl) d_R_squareOfSide_4 ⟨Nat.zero_le _, Nat.zero_le _⟩) (fun r u H locs hp w => ?_)
  obtain ⟨rfl, rfl⟩ := hp
  have w : gw D (gA L sz) s.heap H locs L f := w
  refine g_ci w (g_runV (As := [.int (iN (i)), .int (iN ((nx P i)))]) (rest := []) X w (c_R_squareBetween l ho hr (by omega) (nx_4 hr.1 hi)) k_R_squareBetween v_R_squareBetween lk_R_60 ho.1 hr.2.1 rfl ⟨(Nat.le_of_ble_eq_true rfl), (Nat.le_of_ble_eq_true rfl)⟩ rfl hl.1 rfl (Nat.le_of_ble_eq_true rfl) d_R_squareOfSide_7 ⟨Nat.zero_le _, Nat.zero_le _⟩) (fun r u H locs hp w => ?_)
  obtain ⟨rfl, rfl⟩ := hp
  have w : gw D (gA L sz) s.heap H locs L f := w
  exact g_iret X w hrt hlk d_R_squareOfSide_10 ⟨rfl, rfl⟩
set_option maxHeartbeats 4000000 in
set_option maxRecDepth 100000 in
theorem c_R_offSide (l : Launch) {D : va_G} {cI cR : ClassId} {L : List Nat} {f : Nat → va_E} {rx ry : Nat → Nat} {a : Nat} {P : List Pt} (ho : ro L rx ry a) (hr : rowIs cI rx ry f a P) {x y : Int} {i : Int} (hi : 0 ≤ i ∧ i ≤ 100) : gMi D cI cR l y_R_offSide (Cond.code y_R_offSide b_R_offSide 4 (some .int) :: lw_g) { frames := 2, cells := 0, slots := 0, locals := 45 } [.ref a, .int (iN (i)), .int (iN (x)), .int (iN (y))] L f (fun r u => r = iN (off P i x y) ∧ u = (L, f)) := by
  intro sz
  refine g_enter (by decide) rfl (Nat.le_of_ble_eq_true rfl) ?_
  intro p e s m below meth cd ls X hrt hlk hnm hl hsz w
  have X : gx p m cd b_R_offSide 4 s _ "HullSums$Row" D cI cR := X
  have hx := X.1.1
  have hb := X.1.2.1
  have hl : lv_has ls 4 [(0, .ref a), (1, .int (iN (i))), (2, .int (iN (x))), (3, .int (iN (y)))] := hl
  have hn48 := hr.1
  refine lv_aload_n hx hb d_R_offSide_0 rfl (lv_at hl 0 rfl) ?_
  refine lv_iload_n hx hb d_R_offSide_1 rfl (lv_at hl 1 rfl) ?_
  refine lv_aload_n hx hb d_R_offSide_2 rfl (lv_at hl 0 rfl) ?_
  refine lv_iload_n hx hb d_R_offSide_3 rfl (lv_at hl 1 rfl) ?_
  refine g_ci w (g_runV (As := [.int (iN (i))]) (rest := [.int (iN (i)), .ref a]) X w (c_R_next l ho hr (by omega)) k_R_next v_R_next lk_R_57 ho.1 hr.2.1 rfl ⟨(Nat.le_of_ble_eq_true rfl), (Nat.le_of_ble_eq_true rfl)⟩ rfl hl.1 rfl (Nat.le_of_ble_eq_true rfl) d_R_offSide_4 ⟨Nat.zero_le _, Nat.zero_le _⟩) (fun r u H locs hp w => ?_)
  obtain ⟨rfl, rfl⟩ := hp
  have w : gw D (gA L sz) s.heap H locs L f := w
  refine lv_iload_n hx hb d_R_offSide_7 rfl (lv_at hl 2 rfl) ?_
  refine lv_iload_n hx hb d_R_offSide_8 rfl (lv_at hl 3 rfl) ?_
  refine g_ci w (g_runV (As := [.int (iN (i)), .int (iN ((nx P i))), .int (iN (x)), .int (iN (y))]) (rest := []) X w (c_R_turn l ho hr (x := x) (y := y) (by omega) (nx_4 hr.1 hi)) k_R_turn v_R_turn lk_R_50 ho.1 hr.2.1 rfl ⟨(Nat.le_of_ble_eq_true rfl), (Nat.le_of_ble_eq_true rfl)⟩ rfl hl.1 rfl (Nat.le_of_ble_eq_true rfl) d_R_offSide_9 ⟨Nat.zero_le _, Nat.zero_le _⟩) (fun r u H locs hp w => ?_)
  obtain ⟨rfl, rfl⟩ := hp
  have w : gw D (gA L sz) s.heap H locs L f := w
  exact g_iret X w hrt hlk d_R_offSide_12 ⟨rfl, rfl⟩
