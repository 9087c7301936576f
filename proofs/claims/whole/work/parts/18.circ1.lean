/-! LOWEST AND CIRCLE -/
theorem va_same {f : Nat → va_E} {a : Nat} {c : va_E} (h : f a = c) : va_up f a c = f := by
  funext q; by_cases e : q = a
  · subst e; rw [va_up_self, h]
  · rw [va_up_ne _ _ e]
/-- the object a is none of the cells of the row r -/
def oo (rx ry : Nat → Nat) (a r : Nat) : Prop := r ≠ a ∧ rx r ≠ a ∧ ry r ≠ a
theorem rowIs_up {cI : ClassId} {rx ry : Nat → Nat} {f : Nat → va_E} {a r : Nat} {c : va_E} {P : List Pt} (h : oo rx ry a r) (hr : rowIs cI rx ry f r P) : rowIs cI rx ry (va_up f a c) r P := by
  obtain ⟨h0, h1, F1, F2, h2, h3, h4⟩ := hr
  exact ⟨h0, by rw [va_up_ne _ _ h.1]; exact h1, F1, F2, by rw [va_up_ne _ _ h.2.1]; exact h2, by rw [va_up_ne _ _ h.2.2]; exact h3, h4⟩
def cL (o u b : Int) : va_E := .inr (3, [.long (jN o), .long (jN u), .int (iN b)])
def cC (px py ux uy un : Int) : va_E := .inr (2, [.long (jN px), .long (jN py), .long (jN ux), .long (jN uy), .long (jN un)])

set_option maxHeartbeats 4000000 in
set_option maxRecDepth 100000 in
theorem c_L_forget (l : Launch) {D : va_G} {cI cR : ClassId} {L : List Nat} {f : Nat → va_E} {a : Nat} {o u b : Int} (ha : a ∈ L) (he : f a = cL o u b) : gMv D cI cR l y_L_forget (Cond.code y_L_forget b_L_forget 1 none :: lw_g) { frames := 0, cells := 0, slots := 0, locals := 0 } [.ref a] L f (fun u => u = (L, va_up f a (cL 0 1 0))) := by
  intro sz
  refine g_enter (by decide) rfl (Nat.le_of_ble_eq_true rfl) ?_
  intro p e s m below meth cd ls X hrt hlk hnm hl hsz w
  have X : gx p m cd b_L_forget 1 s _ "HullSums$Lowest" D cI cR := X
  have hx := X.1.1
  have hb := X.1.2.1
  have hl : lv_has ls 1 [(0, .ref a)] := hl
  have w : gw D (gA L sz) s.heap s.heap [] L (va_up f a (.inr (3, [.long (jN (o)), .long (jN (u)), .int (iN (b))]))) := by rw [va_same (c := .inr (3, [.long (jN (o)), .long (jN (u)), .int (iN (b))])) he]; exact w
  refine lv_aload_n hx hb d_L_forget_0 rfl (lv_at hl 0 rfl) ?_
  refine lv_lconst (v := jN (0)) hx hb d_L_forget_1 (by decide) ?_
  refine gk_put X w ha (va_up_self _ _ _) rfl in_L ty_L tyok_L nm_L 0 (by decide) lk_L_7 rfl (ty := .long) (by decide +kernel) rfl rfl (Nat.le_of_ble_eq_true rfl) d_L_forget_2 (fun H locs w => ?_)
  have w : gw D (gA L sz) s.heap H locs L (va_up f a (.inr (3, [.long (jN (0)), .long (jN (u)), .int (iN (b))]))) := by rw [bx_uu] at w; exact w
  refine lv_aload_n hx hb d_L_forget_5 rfl (lv_at hl 0 rfl) ?_
  refine lv_lconst (v := jN (1)) hx hb d_L_forget_6 (by decide) ?_
  refine gk_put X w ha (va_up_self _ _ _) rfl in_L ty_L tyok_L nm_L 1 (by decide) lk_L_13 rfl (ty := .long) (by decide +kernel) rfl rfl (Nat.le_of_ble_eq_true rfl) d_L_forget_7 (fun H locs w => ?_)
  have w : gw D (gA L sz) s.heap H locs L (va_up f a (.inr (3, [.long (jN (0)), .long (jN (1)), .int (iN (b))]))) := by rw [bx_uu] at w; exact w
  refine lv_aload_n hx hb d_L_forget_10 rfl (lv_at hl 0 rfl) ?_
  refine lv_iconst (v := iN (0)) hx hb d_L_forget_11 (by decide) ?_
  refine gk_put X w ha (va_up_self _ _ _) rfl in_L ty_L tyok_L nm_L 2 (by decide) lk_L_16 rfl (ty := .boolean) (by decide +kernel) rfl rfl (Nat.le_of_ble_eq_true rfl) d_L_forget_12 (fun H locs w => ?_)
  have w : gw D (gA L sz) s.heap H locs L (va_up f a (.inr (3, [.long (jN (0)), .long (jN (1)), .int (iN (0))]))) := by rw [bx_uu] at w; exact w
  exact g_vret X w hrt hlk d_L_forget_15 rfl
set_option maxHeartbeats 4000000 in
set_option maxRecDepth 100000 in
theorem c_L_over (l : Launch) {D : va_G} {cI cR : ClassId} {L : List Nat} {f : Nat → va_E} {a : Nat} {o u b : Int} (ha : a ∈ L) (he : f a = cL o u b) : gMl D cI cR l y_L_over (Cond.code y_L_over b_L_over 1 (some .long) :: lw_g) { frames := 0, cells := 0, slots := 0, locals := 0 } [.ref a] L f (fun r u => r = jN o ∧ u = (L, f)) := by
  intro sz
  refine g_enter (by decide) rfl (Nat.le_of_ble_eq_true rfl) ?_
  intro p e s m below meth cd ls X hrt hlk hnm hl hsz w
  have X : gx p m cd b_L_over 1 s _ "HullSums$Lowest" D cI cR := X
  have hx := X.1.1
  have hb := X.1.2.1
  have hl : lv_has ls 1 [(0, .ref a)] := hl
  refine lv_aload_n hx hb d_L_over_0 rfl (lv_at hl 0 rfl) ?_
  refine gk_get X w ha he rfl in_L 0 (by decide) lk_L_7 rfl d_L_over_1 ?_
  exact g_lret X w hrt hlk d_L_over_4 ⟨rfl, rfl⟩
set_option maxHeartbeats 4000000 in
set_option maxRecDepth 100000 in
theorem c_L_under (l : Launch) {D : va_G} {cI cR : ClassId} {L : List Nat} {f : Nat → va_E} {a : Nat} {o u b : Int} (ha : a ∈ L) (he : f a = cL o u b) : gMl D cI cR l y_L_under (Cond.code y_L_under b_L_under 1 (some .long) :: lw_g) { frames := 0, cells := 0, slots := 0, locals := 0 } [.ref a] L f (fun r u9 => r = jN u ∧ u9 = (L, f)) := by
  intro sz
  refine g_enter (by decide) rfl (Nat.le_of_ble_eq_true rfl) ?_
  intro p e s m below meth cd ls X hrt hlk hnm hl hsz w
  have X : gx p m cd b_L_under 1 s _ "HullSums$Lowest" D cI cR := X
  have hx := X.1.1
  have hb := X.1.2.1
  have hl : lv_has ls 1 [(0, .ref a)] := hl
  refine lv_aload_n hx hb d_L_under_0 rfl (lv_at hl 0 rfl) ?_
  refine gk_get X w ha he rfl in_L 1 (by decide) lk_L_13 rfl d_L_under_1 ?_
  exact g_lret X w hrt hlk d_L_under_4 ⟨rfl, rfl⟩
noncomputable def lTake (o u b no nu : Int) : va_E := by
  classical
  exact if b = 0 ∨ no * u < o * nu then cL no nu 1 else cL o u b
set_option maxHeartbeats 4000000 in
set_option maxRecDepth 100000 in
theorem c_L_take (l : Launch) {D : va_G} {cI cR : ClassId} {L : List Nat} {f : Nat → va_E} {a : Nat} {o u b : Int} (ha : a ∈ L) (he : f a = cL o u b) (hb01 : b = 0 ∨ b = 1) {no nu : Int} (h1 : i6 (no * u)) (h2 : i6 (o * nu)) : gMv D cI cR l y_L_take (Cond.code y_L_take b_L_take 5 none :: lw_g) { frames := 0, cells := 0, slots := 0, locals := 0 } [.ref a, .long (jN (no)), .long (jN (nu))] L f (fun u9 => u9 = (L, va_up f a (lTake o u b no nu))) := by
  intro sz
  refine g_enter (by decide) rfl (Nat.le_of_ble_eq_true rfl) ?_
  intro p e s m below meth cd ls X hrt hlk hnm hl hsz w
  have X : gx p m cd b_L_take 5 s _ "HullSums$Lowest" D cI cR := X
  have hx := X.1.1
  have hb := X.1.2.1
  have hl : lv_has ls 5 [(0, .ref a), (1, .long (jN (no))), (3, .long (jN (nu)))] := hl
  have w : gw D (gA L sz) s.heap s.heap [] L (va_up f a (.inr (3, [.long (jN (o)), .long (jN (u)), .int (iN (b))]))) := by rw [va_same (c := .inr (3, [.long (jN (o)), .long (jN (u)), .int (iN (b))])) he]; exact w
  refine lv_aload_n hx hb d_L_take_0 rfl (lv_at hl 0 rfl) ?_
  refine gk_get X w ha (va_up_self _ _ _) rfl in_L 2 (by decide) lk_L_16 rfl d_L_take_1 ?_
  refine ri_zeq (a := b) (tgt := 23) hx hb d_L_take_4 (by decide) rfl (by unfold i3; omega) (fun c4 => ?_) (fun c4 => ?_)
  · skip
    refine lv_aload_n hx hb d_L_take_23 rfl (lv_at hl 0 rfl) ?_
    refine lv_lload_n hx hb d_L_take_24 rfl (lv_at hl 1 rfl) ?_
    refine gk_put X w ha (va_up_self _ _ _) rfl in_L ty_L tyok_L nm_L 0 (by decide) lk_L_7 rfl (ty := .long) (by decide +kernel) rfl rfl (Nat.le_of_ble_eq_true rfl) d_L_take_25 (fun H locs w => ?_)
    have w : gw D (gA L sz) s.heap H locs L (va_up f a (.inr (3, [.long (jN (no)), .long (jN (u)), .int (iN (b))]))) := by rw [bx_uu] at w; exact w
    refine lv_aload_n hx hb d_L_take_28 rfl (lv_at hl 0 rfl) ?_
    refine lv_lload_n hx hb d_L_take_29 rfl (lv_at hl 2 rfl) ?_
    refine gk_put X w ha (va_up_self _ _ _) rfl in_L ty_L tyok_L nm_L 1 (by decide) lk_L_13 rfl (ty := .long) (by decide +kernel) rfl rfl (Nat.le_of_ble_eq_true rfl) d_L_take_30 (fun H locs w => ?_)
    have w : gw D (gA L sz) s.heap H locs L (va_up f a (.inr (3, [.long (jN (no)), .long (jN (nu)), .int (iN (b))]))) := by rw [bx_uu] at w; exact w
    refine lv_aload_n hx hb d_L_take_33 rfl (lv_at hl 0 rfl) ?_
    refine lv_iconst (v := iN (1)) hx hb d_L_take_34 (by decide) ?_
    refine gk_put X w ha (va_up_self _ _ _) rfl in_L ty_L tyok_L nm_L 2 (by decide) lk_L_16 rfl (ty := .boolean) (by decide +kernel) rfl rfl (Nat.le_of_ble_eq_true rfl) d_L_take_35 (fun H locs w => ?_)
    have w : gw D (gA L sz) s.heap H locs L (va_up f a (.inr (3, [.long (jN (no)), .long (jN (nu)), .int (iN (1))]))) := by rw [bx_uu] at w; exact w
    exact g_vret X w hrt hlk d_L_take_38 (by unfold lTake; rw [if_pos (by omega)]; rfl)
  · skip
    refine lv_lload_n hx hb d_L_take_7 rfl (lv_at hl 1 rfl) ?_
    refine lv_aload_n hx hb d_L_take_8 rfl (lv_at hl 0 rfl) ?_
    refine gk_get X w ha (va_up_self _ _ _) rfl in_L 1 (by decide) lk_L_13 rfl d_L_take_9 ?_
    refine rj_mul (a := no) (b := u) hx hb d_L_take_12 rfl rfl ?_
    refine lv_aload_n hx hb d_L_take_13 rfl (lv_at hl 0 rfl) ?_
    refine gk_get X w ha (va_up_self _ _ _) rfl in_L 0 (by decide) lk_L_7 rfl d_L_take_14 ?_
    refine lv_lload_n hx hb d_L_take_17 rfl (lv_at hl 2 rfl) ?_
    refine rj_mul (a := o) (b := nu) hx hb d_L_take_18 rfl rfl ?_
    refine rj_cge (a := (no * u)) (b := (o * nu)) (tgt := 38) hx hb d_L_take_19 d_L_take_20 (by decide) rfl rfl h1 h2 (fun c19 => ?_) (fun c19 => ?_)
    · skip
      exact g_vret X w hrt hlk d_L_take_38 (by unfold lTake; rw [if_neg (by omega)]; rfl)
    · skip
      refine lv_aload_n hx hb d_L_take_23 rfl (lv_at hl 0 rfl) ?_
      refine lv_lload_n hx hb d_L_take_24 rfl (lv_at hl 1 rfl) ?_
      refine gk_put X w ha (va_up_self _ _ _) rfl in_L ty_L tyok_L nm_L 0 (by decide) lk_L_7 rfl (ty := .long) (by decide +kernel) rfl rfl (Nat.le_of_ble_eq_true rfl) d_L_take_25 (fun H locs w => ?_)
      have w : gw D (gA L sz) s.heap H locs L (va_up f a (.inr (3, [.long (jN (no)), .long (jN (u)), .int (iN (b))]))) := by rw [bx_uu] at w; exact w
      refine lv_aload_n hx hb d_L_take_28 rfl (lv_at hl 0 rfl) ?_
      refine lv_lload_n hx hb d_L_take_29 rfl (lv_at hl 2 rfl) ?_
      refine gk_put X w ha (va_up_self _ _ _) rfl in_L ty_L tyok_L nm_L 1 (by decide) lk_L_13 rfl (ty := .long) (by decide +kernel) rfl rfl (Nat.le_of_ble_eq_true rfl) d_L_take_30 (fun H locs w => ?_)
      have w : gw D (gA L sz) s.heap H locs L (va_up f a (.inr (3, [.long (jN (no)), .long (jN (nu)), .int (iN (b))]))) := by rw [bx_uu] at w; exact w
      refine lv_aload_n hx hb d_L_take_33 rfl (lv_at hl 0 rfl) ?_
      refine lv_iconst (v := iN (1)) hx hb d_L_take_34 (by decide) ?_
      refine gk_put X w ha (va_up_self _ _ _) rfl in_L ty_L tyok_L nm_L 2 (by decide) lk_L_16 rfl (ty := .boolean) (by decide +kernel) rfl rfl (Nat.le_of_ble_eq_true rfl) d_L_take_35 (fun H locs w => ?_)
      have w : gw D (gA L sz) s.heap H locs L (va_up f a (.inr (3, [.long (jN (no)), .long (jN (nu)), .int (iN (1))]))) := by rw [bx_uu] at w; exact w
      exact g_vret X w hrt hlk d_L_take_38 (by unfold lTake; rw [if_pos (by omega)]; rfl)
set_option maxHeartbeats 4000000 in
set_option maxRecDepth 100000 in
theorem c_C_middleX (l : Launch) {D : va_G} {cI cR : ClassId} {L : List Nat} {f : Nat → va_E} {a : Nat} {px py ux uy un : Int} (ha : a ∈ L) (he : f a = cC px py ux uy un) : gMl D cI cR l y_C_middleX (Cond.code y_C_middleX b_C_middleX 1 (some .long) :: lw_g) { frames := 0, cells := 0, slots := 0, locals := 0 } [.ref a] L f (fun r u => r = jN (px * un + ux) ∧ u = (L, f)) := by
  intro sz
  refine g_enter (by decide) rfl (Nat.le_of_ble_eq_true rfl) ?_
  intro p e s m below meth cd ls X hrt hlk hnm hl hsz w
  have X : gx p m cd b_C_middleX 1 s _ "HullSums$Circle" D cI cR := X
  have hx := X.1.1
  have hb := X.1.2.1
  have hl : lv_has ls 1 [(0, .ref a)] := hl
  refine lv_aload_n hx hb d_C_middleX_0 rfl (lv_at hl 0 rfl) ?_
  refine gk_get X w ha he rfl in_C 0 (by decide) lk_C_7 rfl d_C_middleX_1 ?_
  refine lv_aload_n hx hb d_C_middleX_4 rfl (lv_at hl 0 rfl) ?_
  refine gk_get X w ha he rfl in_C 4 (by decide) lk_C_22 rfl d_C_middleX_5 ?_
  refine rj_mul (a := px) (b := un) hx hb d_C_middleX_8 rfl rfl ?_
  refine lv_aload_n hx hb d_C_middleX_9 rfl (lv_at hl 0 rfl) ?_
  refine gk_get X w ha he rfl in_C 2 (by decide) lk_C_16 rfl d_C_middleX_10 ?_
  refine rj_add (a := (px * un)) (b := ux) hx hb d_C_middleX_13 rfl rfl ?_
  exact g_lret X w hrt hlk d_C_middleX_14 ⟨rfl, rfl⟩
set_option maxHeartbeats 4000000 in
set_option maxRecDepth 100000 in
theorem c_C_middleY (l : Launch) {D : va_G} {cI cR : ClassId} {L : List Nat} {f : Nat → va_E} {a : Nat} {px py ux uy un : Int} (ha : a ∈ L) (he : f a = cC px py ux uy un) : gMl D cI cR l y_C_middleY (Cond.code y_C_middleY b_C_middleY 1 (some .long) :: lw_g) { frames := 0, cells := 0, slots := 0, locals := 0 } [.ref a] L f (fun r u => r = jN (py * un + uy) ∧ u = (L, f)) := by
  intro sz
  refine g_enter (by decide) rfl (Nat.le_of_ble_eq_true rfl) ?_
  intro p e s m below meth cd ls X hrt hlk hnm hl hsz w
  have X : gx p m cd b_C_middleY 1 s _ "HullSums$Circle" D cI cR := X
  have hx := X.1.1
  have hb := X.1.2.1
  have hl : lv_has ls 1 [(0, .ref a)] := hl
  refine lv_aload_n hx hb d_C_middleY_0 rfl (lv_at hl 0 rfl) ?_
  refine gk_get X w ha he rfl in_C 1 (by decide) lk_C_13 rfl d_C_middleY_1 ?_
  refine lv_aload_n hx hb d_C_middleY_4 rfl (lv_at hl 0 rfl) ?_
  refine gk_get X w ha he rfl in_C 4 (by decide) lk_C_22 rfl d_C_middleY_5 ?_
  refine rj_mul (a := py) (b := un) hx hb d_C_middleY_8 rfl rfl ?_
  refine lv_aload_n hx hb d_C_middleY_9 rfl (lv_at hl 0 rfl) ?_
  refine gk_get X w ha he rfl in_C 3 (by decide) lk_C_19 rfl d_C_middleY_10 ?_
  refine rj_add (a := (py * un)) (b := uy) hx hb d_C_middleY_13 rfl rfl ?_
  exact g_lret X w hrt hlk d_C_middleY_14 ⟨rfl, rfl⟩
set_option maxHeartbeats 4000000 in
set_option maxRecDepth 100000 in
theorem c_C_middleUnder (l : Launch) {D : va_G} {cI cR : ClassId} {L : List Nat} {f : Nat → va_E} {a : Nat} {px py ux uy un : Int} (ha : a ∈ L) (he : f a = cC px py ux uy un) : gMl D cI cR l y_C_middleUnder (Cond.code y_C_middleUnder b_C_middleUnder 1 (some .long) :: lw_g) { frames := 0, cells := 0, slots := 0, locals := 0 } [.ref a] L f (fun r u => r = jN (un) ∧ u = (L, f)) := by
  intro sz
  refine g_enter (by decide) rfl (Nat.le_of_ble_eq_true rfl) ?_
  intro p e s m below meth cd ls X hrt hlk hnm hl hsz w
  have X : gx p m cd b_C_middleUnder 1 s _ "HullSums$Circle" D cI cR := X
  have hx := X.1.1
  have hb := X.1.2.1
  have hl : lv_has ls 1 [(0, .ref a)] := hl
  refine lv_aload_n hx hb d_C_middleUnder_0 rfl (lv_at hl 0 rfl) ?_
  refine gk_get X w ha he rfl in_C 4 (by decide) lk_C_22 rfl d_C_middleUnder_1 ?_
  exact g_lret X w hrt hlk d_C_middleUnder_4 ⟨rfl, rfl⟩
set_option maxHeartbeats 4000000 in
set_option maxRecDepth 100000 in
theorem c_C_squareOver (l : Launch) {D : va_G} {cI cR : ClassId} {L : List Nat} {f : Nat → va_E} {a : Nat} {px py ux uy un : Int} (ha : a ∈ L) (he : f a = cC px py ux uy un) : gMl D cI cR l y_C_squareOver (Cond.code y_C_squareOver b_C_squareOver 1 (some .long) :: lw_g) { frames := 0, cells := 0, slots := 0, locals := 0 } [.ref a] L f (fun r u => r = jN (ux * ux + uy * uy) ∧ u = (L, f)) := by
  intro sz
  refine g_enter (by decide) rfl (Nat.le_of_ble_eq_true rfl) ?_
  intro p e s m below meth cd ls X hrt hlk hnm hl hsz w
  have X : gx p m cd b_C_squareOver 1 s _ "HullSums$Circle" D cI cR := X
  have hx := X.1.1
  have hb := X.1.2.1
  have hl : lv_has ls 1 [(0, .ref a)] := hl
  refine lv_aload_n hx hb d_C_squareOver_0 rfl (lv_at hl 0 rfl) ?_
  refine gk_get X w ha he rfl in_C 2 (by decide) lk_C_16 rfl d_C_squareOver_1 ?_
  refine lv_aload_n hx hb d_C_squareOver_4 rfl (lv_at hl 0 rfl) ?_
  refine gk_get X w ha he rfl in_C 2 (by decide) lk_C_16 rfl d_C_squareOver_5 ?_
  refine rj_mul (a := ux) (b := ux) hx hb d_C_squareOver_8 rfl rfl ?_
  refine lv_aload_n hx hb d_C_squareOver_9 rfl (lv_at hl 0 rfl) ?_
  refine gk_get X w ha he rfl in_C 3 (by decide) lk_C_19 rfl d_C_squareOver_10 ?_
  refine lv_aload_n hx hb d_C_squareOver_13 rfl (lv_at hl 0 rfl) ?_
  refine gk_get X w ha he rfl in_C 3 (by decide) lk_C_19 rfl d_C_squareOver_14 ?_
  refine rj_mul (a := uy) (b := uy) hx hb d_C_squareOver_17 rfl rfl ?_
  refine rj_add (a := (ux * ux)) (b := (uy * uy)) hx hb d_C_squareOver_18 rfl rfl ?_
  exact g_lret X w hrt hlk d_C_squareOver_19 ⟨rfl, rfl⟩
set_option maxHeartbeats 4000000 in
set_option maxRecDepth 100000 in
theorem c_C_squareUnder (l : Launch) {D : va_G} {cI cR : ClassId} {L : List Nat} {f : Nat → va_E} {a : Nat} {px py ux uy un : Int} (ha : a ∈ L) (he : f a = cC px py ux uy un) : gMl D cI cR l y_C_squareUnder (Cond.code y_C_squareUnder b_C_squareUnder 1 (some .long) :: lw_g) { frames := 0, cells := 0, slots := 0, locals := 0 } [.ref a] L f (fun r u => r = jN (un * un) ∧ u = (L, f)) := by
  intro sz
  refine g_enter (by decide) rfl (Nat.le_of_ble_eq_true rfl) ?_
  intro p e s m below meth cd ls X hrt hlk hnm hl hsz w
  have X : gx p m cd b_C_squareUnder 1 s _ "HullSums$Circle" D cI cR := X
  have hx := X.1.1
  have hb := X.1.2.1
  have hl : lv_has ls 1 [(0, .ref a)] := hl
  refine lv_aload_n hx hb d_C_squareUnder_0 rfl (lv_at hl 0 rfl) ?_
  refine gk_get X w ha he rfl in_C 4 (by decide) lk_C_22 rfl d_C_squareUnder_1 ?_
  refine lv_aload_n hx hb d_C_squareUnder_4 rfl (lv_at hl 0 rfl) ?_
  refine gk_get X w ha he rfl in_C 4 (by decide) lk_C_22 rfl d_C_squareUnder_5 ?_
  refine rj_mul (a := un) (b := un) hx hb d_C_squareUnder_8 rfl rfl ?_
  exact g_lret X w hrt hlk d_C_squareUnder_9 ⟨rfl, rfl⟩
theorem has_b {P : List Pt} {px py ux uy un i : Int} (hB : pb 300 P) (hc : -300 ≤ px ∧ px ≤ 300 ∧ -300 ≤ py ∧ py ≤ 300 ∧ -864000000 ≤ ux ∧ ux ≤ 864000000 ∧ -864000000 ≤ uy ∧ uy ≤ 864000000 ∧ -1440000 ≤ un ∧ un ≤ 1440000) :
    i6 (((pX P i - px) * (pX P i - px) + (pY P i - py) * (pY P i - py)) * un) ∧ i6 (2 * ((pX P i - px) * ux + (pY P i - py) * uy)) := by
  have h := hB i
  have q1 := mbc (a := pX P i - px) (b := pX P i - px) 600 600 360000 (by omega) (by omega) (by omega) (by omega) (by decide)
  have q2 := mbc (a := pY P i - py) (b := pY P i - py) 600 600 360000 (by omega) (by omega) (by omega) (by omega) (by decide)
  have q3 := mbc (a := (pX P i - px) * (pX P i - px) + (pY P i - py) * (pY P i - py)) (b := un) 720000 1440000 1036800000000 (by omega) (by omega) (by omega) (by omega) (by decide)
  have q4 := mbc (a := pX P i - px) (b := ux) 600 864000000 518400000000 (by omega) (by omega) (by omega) (by omega) (by decide)
  have q5 := mbc (a := pY P i - py) (b := uy) 600 864000000 518400000000 (by omega) (by omega) (by omega) (by omega) (by decide)
  unfold i6; omega
def cB (px py ux uy un : Int) : Prop := -300 ≤ px ∧ px ≤ 300 ∧ -300 ≤ py ∧ py ≤ 300 ∧ -864000000 ≤ ux ∧ ux ≤ 864000000 ∧ -864000000 ≤ uy ∧ uy ≤ 864000000 ∧ -1440000 ≤ un ∧ un ≤ 1440000
def cHas (px py ux uy un x y : Int) : Prop := ((x - px) * (x - px) + (y - py) * (y - py)) * un ≤ 2 * ((x - px) * ux + (y - py) * uy)
set_option maxHeartbeats 4000000 in
set_option maxRecDepth 100000 in
theorem c_C_has (l : Launch) {D : va_G} {cI cR : ClassId} {L : List Nat} {f : Nat → va_E} {a : Nat} {px py ux uy un : Int} (ha : a ∈ L) (he : f a = cC px py ux uy un) {rx ry : Nat → Nat} {r0 : Nat} {P : List Pt} (hor : ro L rx ry r0) (hr : rowIs cI rx ry f r0 P) (hoo : oo rx ry a r0) (hB : pb 300 P) {i : Int} (hi : 0 ≤ i ∧ i ≤ 100) (hcb : cB px py ux uy un) : gMi D cI cR l y_C_has (Cond.code y_C_has b_C_has 7 (some .boolean) :: lw_g) { frames := 1, cells := 0, slots := 0, locals := 21 } [.ref a, .ref r0, .int (iN (i))] L f (fun r u => r = iN (bI (cHas px py ux uy un (pX P i) (pY P i))) ∧ u = (L, f)) := by
  intro sz
  refine g_enter (by decide) rfl (Nat.le_of_ble_eq_true rfl) ?_
  intro p e s m below meth cd ls X hrt hlk hnm hl hsz w
  have X : gx p m cd b_C_has 7 s _ "HullSums$Circle" D cI cR := X
  have hx := X.1.1
  have hb := X.1.2.1
  have hl : lv_has ls 7 [(0, .ref a), (1, .ref r0), (2, .int (iN (i)))] := hl
  refine lv_aload_n hx hb d_C_has_0 rfl (lv_at hl 1 rfl) ?_
  refine lv_iload_n hx hb d_C_has_1 rfl (lv_at hl 2 rfl) ?_
  refine g_ci w (g_runV (As := [.int (iN (i))]) (rest := []) X w (c_R_x l hor hr (by unfold i3; omega)) k_R_x v_R_x lk_C_53 hor.1 hr.2.1 rfl ⟨(Nat.le_of_ble_eq_true rfl), (Nat.le_of_ble_eq_true rfl)⟩ rfl hl.1 rfl (Nat.le_of_ble_eq_true rfl) d_C_has_2 ⟨Nat.zero_le _, Nat.zero_le _⟩) (fun r u H locs hp w => ?_)
  obtain ⟨rfl, rfl⟩ := hp
  have w : gw D (gA L sz) s.heap H locs L f := w
  refine ri_i2l (a := (pX P i)) hx hb d_C_has_5 rfl (by have := hB i; unfold i3; omega) ?_
  refine lv_aload_n hx hb d_C_has_6 rfl (lv_at hl 0 rfl) ?_
  refine gk_get X w ha he rfl in_C 0 (by decide) lk_C_7 rfl d_C_has_7 ?_
  refine rj_sub (a := (pX P i)) (b := px) hx hb d_C_has_10 rfl rfl ?_
  refine lv_lstore_n (lv' := [(3, .long (jN (((pX P i) - px)))), (0, .ref a), (1, .ref r0), (2, .int (iN (i)))]) hx hb d_C_has_11 rfl hl (by decide) rfl (fun ls hl => ?_)
  refine lv_aload_n hx hb d_C_has_12 rfl (lv_at hl 2 rfl) ?_
  refine lv_iload_n hx hb d_C_has_13 rfl (lv_at hl 3 rfl) ?_
  refine g_ci w (g_runV (As := [.int (iN (i))]) (rest := []) X w (c_R_y l hor hr (by unfold i3; omega)) k_R_y v_R_y lk_C_57 hor.1 hr.2.1 rfl ⟨(Nat.le_of_ble_eq_true rfl), (Nat.le_of_ble_eq_true rfl)⟩ rfl hl.1 rfl (Nat.le_of_ble_eq_true rfl) d_C_has_14 ⟨Nat.zero_le _, Nat.zero_le _⟩) (fun r u H locs hp w => ?_)
  obtain ⟨rfl, rfl⟩ := hp
  have w : gw D (gA L sz) s.heap H locs L f := w
  refine ri_i2l (a := (pY P i)) hx hb d_C_has_17 rfl (by have := hB i; unfold i3; omega) ?_
  refine lv_aload_n hx hb d_C_has_18 rfl (lv_at hl 1 rfl) ?_
  refine gk_get X w ha he rfl in_C 1 (by decide) lk_C_13 rfl d_C_has_19 ?_
  refine rj_sub (a := (pY P i)) (b := py) hx hb d_C_has_22 rfl rfl ?_
  refine lv_lstore (lv' := [(5, .long (jN (((pY P i) - py)))), (3, .long (jN (((pX P i) - px)))), (0, .ref a), (1, .ref r0), (2, .int (iN (i)))]) hx hb d_C_has_23 hl (by decide) rfl (fun ls hl => ?_)
  refine lv_lload_n hx hb d_C_has_25 rfl (lv_at hl 1 rfl) ?_
  refine lv_lload_n hx hb d_C_has_26 rfl (lv_at hl 1 rfl) ?_
  refine rj_mul (a := ((pX P i) - px)) (b := ((pX P i) - px)) hx hb d_C_has_27 rfl rfl ?_
  refine lv_lload hx hb d_C_has_28 (lv_at hl 0 rfl) ?_
  refine lv_lload hx hb d_C_has_30 (lv_at hl 0 rfl) ?_
  refine rj_mul (a := ((pY P i) - py)) (b := ((pY P i) - py)) hx hb d_C_has_32 rfl rfl ?_
  refine rj_add (a := (((pX P i) - px) * ((pX P i) - px))) (b := (((pY P i) - py) * ((pY P i) - py))) hx hb d_C_has_33 rfl rfl ?_
  refine lv_aload_n hx hb d_C_has_34 rfl (lv_at hl 2 rfl) ?_
  refine gk_get X w ha he rfl in_C 4 (by decide) lk_C_22 rfl d_C_has_35 ?_
  refine rj_mul (a := ((((pX P i) - px) * ((pX P i) - px)) + (((pY P i) - py) * ((pY P i) - py)))) (b := un) hx hb d_C_has_38 rfl rfl ?_
  refine lv_ldc2 hx hb X.1.2.2.2.1 (X.1.2.2.2.2 _ lk_C_60) d_C_has_39 ?_
  refine lv_lload_n hx hb d_C_has_42 rfl (lv_at hl 1 rfl) ?_
  refine lv_aload_n hx hb d_C_has_43 rfl (lv_at hl 2 rfl) ?_
  refine gk_get X w ha he rfl in_C 2 (by decide) lk_C_16 rfl d_C_has_44 ?_
  refine rj_mul (a := ((pX P i) - px)) (b := ux) hx hb d_C_has_47 rfl rfl ?_
  refine lv_lload hx hb d_C_has_48 (lv_at hl 0 rfl) ?_
  refine lv_aload_n hx hb d_C_has_50 rfl (lv_at hl 2 rfl) ?_
  refine gk_get X w ha he rfl in_C 3 (by decide) lk_C_19 rfl d_C_has_51 ?_
  refine rj_mul (a := ((pY P i) - py)) (b := uy) hx hb d_C_has_54 rfl rfl ?_
  refine rj_add (a := (((pX P i) - px) * ux)) (b := (((pY P i) - py) * uy)) hx hb d_C_has_55 rfl rfl ?_
  refine rj_mul (a := 2) (b := ((((pX P i) - px) * ux) + (((pY P i) - py) * uy))) hx hb d_C_has_56 rfl rfl ?_
  refine rj_cgt (a := (((((pX P i) - px) * ((pX P i) - px)) + (((pY P i) - py) * ((pY P i) - py))) * un)) (b := (2 * ((((pX P i) - px) * ux) + (((pY P i) - py) * uy)))) (tgt := 65) hx hb d_C_has_57 d_C_has_58 (by decide) rfl rfl (has_b hB hcb).1 (has_b hB hcb).2 (fun c57 => ?_) (fun c57 => ?_)
  · skip
    refine lv_iconst (v := iN (0)) hx hb d_C_has_65 (by decide) ?_
    exact g_zret X w hrt hlk d_C_has_66 rfl ⟨by rw [bI_f (show ¬ cHas px py ux uy un (pX P i) (pY P i) by unfold cHas; omega)], rfl⟩
  · skip
    refine lv_iconst (v := iN (1)) hx hb d_C_has_61 (by decide) ?_
    refine lv_goto (tgt := 66) hx hb d_C_has_62 (by decide) ?_
    exact g_zret X w hrt hlk d_C_has_66 rfl ⟨by rw [bI_t (show cHas px py ux uy un (pX P i) (pY P i) by unfold cHas; omega)], rfl⟩
set_option maxHeartbeats 4000000 in
set_option maxRecDepth 100000 in
theorem c_C_shrinkTo (l : Launch) {D : va_G} {cI cR : ClassId} {L : List Nat} {f : Nat → va_E} {a : Nat} {px py ux uy un : Int} (ha : a ∈ L) (he : f a = cC px py ux uy un) {rx ry : Nat → Nat} {r0 : Nat} {P : List Pt} (hor : ro L rx ry r0) (hr : rowIs cI rx ry f r0 P) (hoo : oo rx ry a r0) (hB : pb 300 P) {i : Int} (hi : 0 ≤ i ∧ i ≤ 100) : gMv D cI cR l y_C_shrinkTo (Cond.code y_C_shrinkTo b_C_shrinkTo 3 none :: lw_g) { frames := 1, cells := 0, slots := 0, locals := 21 } [.ref a, .ref r0, .int (iN (i))] L f (fun u => u = (L, va_up f a (cC (pX P i) (pY P i) 0 0 1))) := by
  intro sz
  refine g_enter (by decide) rfl (Nat.le_of_ble_eq_true rfl) ?_
  intro p e s m below meth cd ls X hrt hlk hnm hl hsz w
  have X : gx p m cd b_C_shrinkTo 3 s _ "HullSums$Circle" D cI cR := X
  have hx := X.1.1
  have hb := X.1.2.1
  have hl : lv_has ls 3 [(0, .ref a), (1, .ref r0), (2, .int (iN (i)))] := hl
  have w : gw D (gA L sz) s.heap s.heap [] L (va_up f a (.inr (2, [.long (jN (px)), .long (jN (py)), .long (jN (ux)), .long (jN (uy)), .long (jN (un))]))) := by rw [va_same (c := .inr (2, [.long (jN (px)), .long (jN (py)), .long (jN (ux)), .long (jN (uy)), .long (jN (un))])) he]; exact w
  refine lv_aload_n hx hb d_C_shrinkTo_0 rfl (lv_at hl 0 rfl) ?_
  refine lv_aload_n hx hb d_C_shrinkTo_1 rfl (lv_at hl 1 rfl) ?_
  refine lv_iload_n hx hb d_C_shrinkTo_2 rfl (lv_at hl 2 rfl) ?_
  refine g_ci w (g_runV (As := [.int (iN (i))]) (rest := [.ref a]) X w (c_R_x l hor (rowIs_up hoo hr) (by unfold i3; omega)) k_R_x v_R_x lk_C_53 hor.1 (rowIs_up hoo hr).2.1 rfl ⟨(Nat.le_of_ble_eq_true rfl), (Nat.le_of_ble_eq_true rfl)⟩ rfl hl.1 rfl (Nat.le_of_ble_eq_true rfl) d_C_shrinkTo_3 ⟨Nat.zero_le _, Nat.zero_le _⟩) (fun r u H locs hp w => ?_)
  obtain ⟨rfl, rfl⟩ := hp
  have w : gw D (gA L sz) s.heap H locs L (va_up f a (.inr (2, [.long (jN (px)), .long (jN (py)), .long (jN (ux)), .long (jN (uy)), .long (jN (un))]))) := w
  refine ri_i2l (a := (pX P i)) hx hb d_C_shrinkTo_6 rfl (by have := hB i; unfold i3; omega) ?_
  refine gk_put X w ha (va_up_self _ _ _) rfl in_C ty_C tyok_C nm_C 0 (by decide) lk_C_7 rfl (ty := .long) (by decide +kernel) rfl rfl (Nat.le_of_ble_eq_true rfl) d_C_shrinkTo_7 (fun H locs w => ?_)
  have w : gw D (gA L sz) s.heap H locs L (va_up f a (.inr (2, [.long (jN ((pX P i))), .long (jN (py)), .long (jN (ux)), .long (jN (uy)), .long (jN (un))]))) := by rw [bx_uu] at w; exact w
  refine lv_aload_n hx hb d_C_shrinkTo_10 rfl (lv_at hl 0 rfl) ?_
  refine lv_aload_n hx hb d_C_shrinkTo_11 rfl (lv_at hl 1 rfl) ?_
  refine lv_iload_n hx hb d_C_shrinkTo_12 rfl (lv_at hl 2 rfl) ?_
  refine g_ci w (g_runV (As := [.int (iN (i))]) (rest := [.ref a]) X w (c_R_y l hor (rowIs_up hoo hr) (by unfold i3; omega)) k_R_y v_R_y lk_C_57 hor.1 (rowIs_up hoo hr).2.1 rfl ⟨(Nat.le_of_ble_eq_true rfl), (Nat.le_of_ble_eq_true rfl)⟩ rfl hl.1 rfl (Nat.le_of_ble_eq_true rfl) d_C_shrinkTo_13 ⟨Nat.zero_le _, Nat.zero_le _⟩) (fun r u H locs hp w => ?_)
  obtain ⟨rfl, rfl⟩ := hp
  have w : gw D (gA L sz) s.heap H locs L (va_up f a (.inr (2, [.long (jN ((pX P i))), .long (jN (py)), .long (jN (ux)), .long (jN (uy)), .long (jN (un))]))) := w
  refine ri_i2l (a := (pY P i)) hx hb d_C_shrinkTo_16 rfl (by have := hB i; unfold i3; omega) ?_
  refine gk_put X w ha (va_up_self _ _ _) rfl in_C ty_C tyok_C nm_C 1 (by decide) lk_C_13 rfl (ty := .long) (by decide +kernel) rfl rfl (Nat.le_of_ble_eq_true rfl) d_C_shrinkTo_17 (fun H locs w => ?_)
  have w : gw D (gA L sz) s.heap H locs L (va_up f a (.inr (2, [.long (jN ((pX P i))), .long (jN ((pY P i))), .long (jN (ux)), .long (jN (uy)), .long (jN (un))]))) := by rw [bx_uu] at w; exact w
  refine lv_aload_n hx hb d_C_shrinkTo_20 rfl (lv_at hl 0 rfl) ?_
  refine lv_lconst (v := jN (0)) hx hb d_C_shrinkTo_21 (by decide) ?_
  refine gk_put X w ha (va_up_self _ _ _) rfl in_C ty_C tyok_C nm_C 2 (by decide) lk_C_16 rfl (ty := .long) (by decide +kernel) rfl rfl (Nat.le_of_ble_eq_true rfl) d_C_shrinkTo_22 (fun H locs w => ?_)
  have w : gw D (gA L sz) s.heap H locs L (va_up f a (.inr (2, [.long (jN ((pX P i))), .long (jN ((pY P i))), .long (jN (0)), .long (jN (uy)), .long (jN (un))]))) := by rw [bx_uu] at w; exact w
  refine lv_aload_n hx hb d_C_shrinkTo_25 rfl (lv_at hl 0 rfl) ?_
  refine lv_lconst (v := jN (0)) hx hb d_C_shrinkTo_26 (by decide) ?_
  refine gk_put X w ha (va_up_self _ _ _) rfl in_C ty_C tyok_C nm_C 3 (by decide) lk_C_19 rfl (ty := .long) (by decide +kernel) rfl rfl (Nat.le_of_ble_eq_true rfl) d_C_shrinkTo_27 (fun H locs w => ?_)
  have w : gw D (gA L sz) s.heap H locs L (va_up f a (.inr (2, [.long (jN ((pX P i))), .long (jN ((pY P i))), .long (jN (0)), .long (jN (0)), .long (jN (un))]))) := by rw [bx_uu] at w; exact w
  refine lv_aload_n hx hb d_C_shrinkTo_30 rfl (lv_at hl 0 rfl) ?_
  refine lv_lconst (v := jN (1)) hx hb d_C_shrinkTo_31 (by decide) ?_
  refine gk_put X w ha (va_up_self _ _ _) rfl in_C ty_C tyok_C nm_C 4 (by decide) lk_C_22 rfl (ty := .long) (by decide +kernel) rfl rfl (Nat.le_of_ble_eq_true rfl) d_C_shrinkTo_32 (fun H locs w => ?_)
  have w : gw D (gA L sz) s.heap H locs L (va_up f a (.inr (2, [.long (jN ((pX P i))), .long (jN ((pY P i))), .long (jN (0)), .long (jN (0)), .long (jN (1))]))) := by rw [bx_uu] at w; exact w
  exact g_vret X w hrt hlk d_C_shrinkTo_35 rfl
set_option maxHeartbeats 4000000 in
set_option maxRecDepth 100000 in
theorem c_C_spanAcross (l : Launch) {D : va_G} {cI cR : ClassId} {L : List Nat} {f : Nat → va_E} {a : Nat} {px py ux uy un : Int} (ha : a ∈ L) (he : f a = cC px py ux uy un) {rx ry : Nat → Nat} {r0 : Nat} {P : List Pt} (hor : ro L rx ry r0) (hr : rowIs cI rx ry f r0 P) (hoo : oo rx ry a r0) (hB : pb 300 P) {i : Int} (hi : 0 ≤ i ∧ i ≤ 100) {j : Int} (hj : 0 ≤ j ∧ j ≤ 100) : gMv D cI cR l y_C_spanAcross (Cond.code y_C_spanAcross b_C_spanAcross 4 none :: lw_g) { frames := 1, cells := 0, slots := 0, locals := 21 } [.ref a, .ref r0, .int (iN (i)), .int (iN (j))] L f (fun u => u = (L, va_up f a (cC (pX P i) (pY P i) (pX P j - pX P i) (pY P j - pY P i) 2))) := by
  intro sz
  refine g_enter (by decide) rfl (Nat.le_of_ble_eq_true rfl) ?_
  intro p e s m below meth cd ls X hrt hlk hnm hl hsz w
  have X : gx p m cd b_C_spanAcross 4 s _ "HullSums$Circle" D cI cR := X
  have hx := X.1.1
  have hb := X.1.2.1
  have hl : lv_has ls 4 [(0, .ref a), (1, .ref r0), (2, .int (iN (i))), (3, .int (iN (j)))] := hl
  have w : gw D (gA L sz) s.heap s.heap [] L (va_up f a (.inr (2, [.long (jN (px)), .long (jN (py)), .long (jN (ux)), .long (jN (uy)), .long (jN (un))]))) := by rw [va_same (c := .inr (2, [.long (jN (px)), .long (jN (py)), .long (jN (ux)), .long (jN (uy)), .long (jN (un))])) he]; exact w
  refine lv_aload_n hx hb d_C_spanAcross_0 rfl (lv_at hl 0 rfl) ?_
  refine lv_aload_n hx hb d_C_spanAcross_1 rfl (lv_at hl 1 rfl) ?_
  refine lv_iload_n hx hb d_C_spanAcross_2 rfl (lv_at hl 2 rfl) ?_
  refine g_ci w (g_runV (As := [.int (iN (i))]) (rest := [.ref a]) X w (c_R_x l hor (rowIs_up hoo hr) (by unfold i3; omega)) k_R_x v_R_x lk_C_53 hor.1 (rowIs_up hoo hr).2.1 rfl ⟨(Nat.le_of_ble_eq_true rfl), (Nat.le_of_ble_eq_true rfl)⟩ rfl hl.1 rfl (Nat.le_of_ble_eq_true rfl) d_C_spanAcross_3 ⟨Nat.zero_le _, Nat.zero_le _⟩) (fun r u H locs hp w => ?_)
  obtain ⟨rfl, rfl⟩ := hp
  have w : gw D (gA L sz) s.heap H locs L (va_up f a (.inr (2, [.long (jN (px)), .long (jN (py)), .long (jN (ux)), .long (jN (uy)), .long (jN (un))]))) := w
  refine ri_i2l (a := (pX P i)) hx hb d_C_spanAcross_6 rfl (by have := hB i; have := hB j; unfold i3; omega) ?_
  refine gk_put X w ha (va_up_self _ _ _) rfl in_C ty_C tyok_C nm_C 0 (by decide) lk_C_7 rfl (ty := .long) (by decide +kernel) rfl rfl (Nat.le_of_ble_eq_true rfl) d_C_spanAcross_7 (fun H locs w => ?_)
  have w : gw D (gA L sz) s.heap H locs L (va_up f a (.inr (2, [.long (jN ((pX P i))), .long (jN (py)), .long (jN (ux)), .long (jN (uy)), .long (jN (un))]))) := by rw [bx_uu] at w; exact w
  refine lv_aload_n hx hb d_C_spanAcross_10 rfl (lv_at hl 0 rfl) ?_
  refine lv_aload_n hx hb d_C_spanAcross_11 rfl (lv_at hl 1 rfl) ?_
  refine lv_iload_n hx hb d_C_spanAcross_12 rfl (lv_at hl 2 rfl) ?_
  refine g_ci w (g_runV (As := [.int (iN (i))]) (rest := [.ref a]) X w (c_R_y l hor (rowIs_up hoo hr) (by unfold i3; omega)) k_R_y v_R_y lk_C_57 hor.1 (rowIs_up hoo hr).2.1 rfl ⟨(Nat.le_of_ble_eq_true rfl), (Nat.le_of_ble_eq_true rfl)⟩ rfl hl.1 rfl (Nat.le_of_ble_eq_true rfl) d_C_spanAcross_13 ⟨Nat.zero_le _, Nat.zero_le _⟩) (fun r u H locs hp w => ?_)
  obtain ⟨rfl, rfl⟩ := hp
  have w : gw D (gA L sz) s.heap H locs L (va_up f a (.inr (2, [.long (jN ((pX P i))), .long (jN (py)), .long (jN (ux)), .long (jN (uy)), .long (jN (un))]))) := w
  refine ri_i2l (a := (pY P i)) hx hb d_C_spanAcross_16 rfl (by have := hB i; have := hB j; unfold i3; omega) ?_
  refine gk_put X w ha (va_up_self _ _ _) rfl in_C ty_C tyok_C nm_C 1 (by decide) lk_C_13 rfl (ty := .long) (by decide +kernel) rfl rfl (Nat.le_of_ble_eq_true rfl) d_C_spanAcross_17 (fun H locs w => ?_)
  have w : gw D (gA L sz) s.heap H locs L (va_up f a (.inr (2, [.long (jN ((pX P i))), .long (jN ((pY P i))), .long (jN (ux)), .long (jN (uy)), .long (jN (un))]))) := by rw [bx_uu] at w; exact w
  refine lv_aload_n hx hb d_C_spanAcross_20 rfl (lv_at hl 0 rfl) ?_
  refine lv_aload_n hx hb d_C_spanAcross_21 rfl (lv_at hl 1 rfl) ?_
  refine lv_iload_n hx hb d_C_spanAcross_22 rfl (lv_at hl 3 rfl) ?_
  refine g_ci w (g_runV (As := [.int (iN (j))]) (rest := [.ref a]) X w (c_R_x l hor (rowIs_up hoo hr) (by unfold i3; omega)) k_R_x v_R_x lk_C_53 hor.1 (rowIs_up hoo hr).2.1 rfl ⟨(Nat.le_of_ble_eq_true rfl), (Nat.le_of_ble_eq_true rfl)⟩ rfl hl.1 rfl (Nat.le_of_ble_eq_true rfl) d_C_spanAcross_23 ⟨Nat.zero_le _, Nat.zero_le _⟩) (fun r u H locs hp w => ?_)
  obtain ⟨rfl, rfl⟩ := hp
  have w : gw D (gA L sz) s.heap H locs L (va_up f a (.inr (2, [.long (jN ((pX P i))), .long (jN ((pY P i))), .long (jN (ux)), .long (jN (uy)), .long (jN (un))]))) := w
  refine ri_i2l (a := (pX P j)) hx hb d_C_spanAcross_26 rfl (by have := hB i; have := hB j; unfold i3; omega) ?_
  refine lv_aload_n hx hb d_C_spanAcross_27 rfl (lv_at hl 0 rfl) ?_
  refine gk_get X w ha (va_up_self _ _ _) rfl in_C 0 (by decide) lk_C_7 rfl d_C_spanAcross_28 ?_
  refine rj_sub (a := (pX P j)) (b := (pX P i)) hx hb d_C_spanAcross_31 rfl rfl ?_
  refine gk_put X w ha (va_up_self _ _ _) rfl in_C ty_C tyok_C nm_C 2 (by decide) lk_C_16 rfl (ty := .long) (by decide +kernel) rfl rfl (Nat.le_of_ble_eq_true rfl) d_C_spanAcross_32 (fun H locs w => ?_)
  have w : gw D (gA L sz) s.heap H locs L (va_up f a (.inr (2, [.long (jN ((pX P i))), .long (jN ((pY P i))), .long (jN (((pX P j) - (pX P i)))), .long (jN (uy)), .long (jN (un))]))) := by rw [bx_uu] at w; exact w
  refine lv_aload_n hx hb d_C_spanAcross_35 rfl (lv_at hl 0 rfl) ?_
  refine lv_aload_n hx hb d_C_spanAcross_36 rfl (lv_at hl 1 rfl) ?_
  refine lv_iload_n hx hb d_C_spanAcross_37 rfl (lv_at hl 3 rfl) ?_
  refine g_ci w (g_runV (As := [.int (iN (j))]) (rest := [.ref a]) X w (c_R_y l hor (rowIs_up hoo hr) (by unfold i3; omega)) k_R_y v_R_y lk_C_57 hor.1 (rowIs_up hoo hr).2.1 rfl ⟨(Nat.le_of_ble_eq_true rfl), (Nat.le_of_ble_eq_true rfl)⟩ rfl hl.1 rfl (Nat.le_of_ble_eq_true rfl) d_C_spanAcross_38 ⟨Nat.zero_le _, Nat.zero_le _⟩) (fun r u H locs hp w => ?_)
  obtain ⟨rfl, rfl⟩ := hp
  have w : gw D (gA L sz) s.heap H locs L (va_up f a (.inr (2, [.long (jN ((pX P i))), .long (jN ((pY P i))), .long (jN (((pX P j) - (pX P i)))), .long (jN (uy)), .long (jN (un))]))) := w
  refine ri_i2l (a := (pY P j)) hx hb d_C_spanAcross_41 rfl (by have := hB i; have := hB j; unfold i3; omega) ?_
  refine lv_aload_n hx hb d_C_spanAcross_42 rfl (lv_at hl 0 rfl) ?_
  refine gk_get X w ha (va_up_self _ _ _) rfl in_C 1 (by decide) lk_C_13 rfl d_C_spanAcross_43 ?_
  refine rj_sub (a := (pY P j)) (b := (pY P i)) hx hb d_C_spanAcross_46 rfl rfl ?_
  refine gk_put X w ha (va_up_self _ _ _) rfl in_C ty_C tyok_C nm_C 3 (by decide) lk_C_19 rfl (ty := .long) (by decide +kernel) rfl rfl (Nat.le_of_ble_eq_true rfl) d_C_spanAcross_47 (fun H locs w => ?_)
  have w : gw D (gA L sz) s.heap H locs L (va_up f a (.inr (2, [.long (jN ((pX P i))), .long (jN ((pY P i))), .long (jN (((pX P j) - (pX P i)))), .long (jN (((pY P j) - (pY P i)))), .long (jN (un))]))) := by rw [bx_uu] at w; exact w
  refine lv_aload_n hx hb d_C_spanAcross_50 rfl (lv_at hl 0 rfl) ?_
  refine lv_ldc2 hx hb X.1.2.2.2.1 (X.1.2.2.2.2 _ lk_C_60) d_C_spanAcross_51 ?_
  refine gk_put X w ha (va_up_self _ _ _) rfl in_C ty_C tyok_C nm_C 4 (by decide) lk_C_22 rfl (ty := .long) (by decide +kernel) rfl rfl (Nat.le_of_ble_eq_true rfl) d_C_spanAcross_54 (fun H locs w => ?_)
  have w : gw D (gA L sz) s.heap H locs L (va_up f a (.inr (2, [.long (jN ((pX P i))), .long (jN ((pY P i))), .long (jN (((pX P j) - (pX P i)))), .long (jN (((pY P j) - (pY P i)))), .long (jN (2))]))) := by rw [bx_uu] at w; exact w
  exact g_vret X w hrt hlk d_C_spanAcross_57 rfl
def twi (P : List Pt) (i j k : Int) : Int := (pX P j - pX P i) * (pY P k - pY P i) - (pY P j - pY P i) * (pX P k - pX P i)
def sgn (z : Int) : Int := if z < 0 then -1 else 1
def psx (P : List Pt) (i j k : Int) : Int := (pY P k - pY P i) * ((pX P j - pX P i) * (pX P j - pX P i) + (pY P j - pY P i) * (pY P j - pY P i)) - (pY P j - pY P i) * ((pX P k - pX P i) * (pX P k - pX P i) + (pY P k - pY P i) * (pY P k - pY P i))
def psy (P : List Pt) (i j k : Int) : Int := (pX P j - pX P i) * ((pX P k - pX P i) * (pX P k - pX P i) + (pY P k - pY P i) * (pY P k - pY P i)) - (pX P k - pX P i) * ((pX P j - pX P i) * (pX P j - pX P i) + (pY P j - pY P i) * (pY P j - pY P i))
theorem pass_b {P : List Pt} (hB : pb 300 P) (i j k : Int) : (-720000 ≤ twi P i j k ∧ twi P i j k ≤ 720000) ∧ (-864000000 ≤ psx P i j k ∧ psx P i j k ≤ 864000000) ∧ (-864000000 ≤ psy P i j k ∧ psy P i j k ≤ 864000000) := by
  have a := hB i; have b := hB j; have c := hB k
  have q1 := mbc (a := pX P j - pX P i) (b := pX P j - pX P i) 600 600 360000 (by omega) (by omega) (by omega) (by omega) (by decide)
  have q2 := mbc (a := pY P j - pY P i) (b := pY P j - pY P i) 600 600 360000 (by omega) (by omega) (by omega) (by omega) (by decide)
  have q3 := mbc (a := pX P k - pX P i) (b := pX P k - pX P i) 600 600 360000 (by omega) (by omega) (by omega) (by omega) (by decide)
  have q4 := mbc (a := pY P k - pY P i) (b := pY P k - pY P i) 600 600 360000 (by omega) (by omega) (by omega) (by omega) (by decide)
  have q5 := mbc (a := pX P j - pX P i) (b := pY P k - pY P i) 600 600 360000 (by omega) (by omega) (by omega) (by omega) (by decide)
  have q6 := mbc (a := pY P j - pY P i) (b := pX P k - pX P i) 600 600 360000 (by omega) (by omega) (by omega) (by omega) (by decide)
  have q7 := mbc (a := pY P k - pY P i) (b := (pX P j - pX P i) * (pX P j - pX P i) + (pY P j - pY P i) * (pY P j - pY P i)) 600 720000 432000000 (by omega) (by omega) (by omega) (by omega) (by decide)
  have q8 := mbc (a := pY P j - pY P i) (b := (pX P k - pX P i) * (pX P k - pX P i) + (pY P k - pY P i) * (pY P k - pY P i)) 600 720000 432000000 (by omega) (by omega) (by omega) (by omega) (by decide)
  have q9 := mbc (a := pX P j - pX P i) (b := (pX P k - pX P i) * (pX P k - pX P i) + (pY P k - pY P i) * (pY P k - pY P i)) 600 720000 432000000 (by omega) (by omega) (by omega) (by omega) (by decide)
  have q10 := mbc (a := pX P k - pX P i) (b := (pX P j - pX P i) * (pX P j - pX P i) + (pY P j - pY P i) * (pY P j - pY P i)) 600 720000 432000000 (by omega) (by omega) (by omega) (by omega) (by decide)
  unfold twi psx psy; omega
set_option maxHeartbeats 4000000 in
set_option maxRecDepth 100000 in
theorem c_C_passThrough (l : Launch) {D : va_G} {cI cR : ClassId} {L : List Nat} {f : Nat → va_E} {a : Nat} {px py ux uy un : Int} (ha : a ∈ L) (he : f a = cC px py ux uy un) {rx ry : Nat → Nat} {r0 : Nat} {P : List Pt} (hor : ro L rx ry r0) (hr : rowIs cI rx ry f r0 P) (hoo : oo rx ry a r0) (hB : pb 300 P) {i : Int} (hi : 0 ≤ i ∧ i ≤ 100) {j : Int} (hj : 0 ≤ j ∧ j ≤ 100) {k : Int} (hk : 0 ≤ k ∧ k ≤ 100) : gMv D cI cR l y_C_passThrough (Cond.code y_C_passThrough b_C_passThrough 21 none :: lw_g) { frames := 1, cells := 0, slots := 0, locals := 21 } [.ref a, .ref r0, .int (iN (i)), .int (iN (j)), .int (iN (k))] L f (fun u => u = (L, va_up f a (cC (pX P i) (pY P i) (sgn (twi P i j k) * psx P i j k) (sgn (twi P i j k) * psy P i j k) (sgn (twi P i j k) * 2 * twi P i j k)))) := by
  intro sz
  refine g_enter (by decide) rfl (Nat.le_of_ble_eq_true rfl) ?_
  intro p e s m below meth cd ls X hrt hlk hnm hl hsz w
  have X : gx p m cd b_C_passThrough 21 s _ "HullSums$Circle" D cI cR := X
  have hx := X.1.1
  have hb := X.1.2.1
  have hl : lv_has ls 21 [(0, .ref a), (1, .ref r0), (2, .int (iN (i))), (3, .int (iN (j))), (4, .int (iN (k)))] := hl
  have w : gw D (gA L sz) s.heap s.heap [] L (va_up f a (.inr (2, [.long (jN (px)), .long (jN (py)), .long (jN (ux)), .long (jN (uy)), .long (jN (un))]))) := by rw [va_same (c := .inr (2, [.long (jN (px)), .long (jN (py)), .long (jN (ux)), .long (jN (uy)), .long (jN (un))])) he]; exact w
  refine lv_aload_n hx hb d_C_passThrough_0 rfl (lv_at hl 0 rfl) ?_
  refine lv_aload_n hx hb d_C_passThrough_1 rfl (lv_at hl 1 rfl) ?_
  refine lv_iload_n hx hb d_C_passThrough_2 rfl (lv_at hl 2 rfl) ?_
  refine g_ci w (g_runV (As := [.int (iN (i))]) (rest := [.ref a]) X w (c_R_x l hor (rowIs_up hoo hr) (by unfold i3; omega)) k_R_x v_R_x lk_C_53 hor.1 (rowIs_up hoo hr).2.1 rfl ⟨(Nat.le_of_ble_eq_true rfl), (Nat.le_of_ble_eq_true rfl)⟩ rfl hl.1 rfl (Nat.le_of_ble_eq_true rfl) d_C_passThrough_3 ⟨Nat.zero_le _, Nat.zero_le _⟩) (fun r u H locs hp w => ?_)
  obtain ⟨rfl, rfl⟩ := hp
  have w : gw D (gA L sz) s.heap H locs L (va_up f a (.inr (2, [.long (jN (px)), .long (jN (py)), .long (jN (ux)), .long (jN (uy)), .long (jN (un))]))) := w
  refine ri_i2l (a := (pX P i)) hx hb d_C_passThrough_6 rfl (by have := hB i; have := hB j; have := hB k; unfold i3; omega) ?_
  refine gk_put X w ha (va_up_self _ _ _) rfl in_C ty_C tyok_C nm_C 0 (by decide) lk_C_7 rfl (ty := .long) (by decide +kernel) rfl rfl (Nat.le_of_ble_eq_true rfl) d_C_passThrough_7 (fun H locs w => ?_)
  have w : gw D (gA L sz) s.heap H locs L (va_up f a (.inr (2, [.long (jN ((pX P i))), .long (jN (py)), .long (jN (ux)), .long (jN (uy)), .long (jN (un))]))) := by rw [bx_uu] at w; exact w
  refine lv_aload_n hx hb d_C_passThrough_10 rfl (lv_at hl 0 rfl) ?_
  refine lv_aload_n hx hb d_C_passThrough_11 rfl (lv_at hl 1 rfl) ?_
  refine lv_iload_n hx hb d_C_passThrough_12 rfl (lv_at hl 2 rfl) ?_
  refine g_ci w (g_runV (As := [.int (iN (i))]) (rest := [.ref a]) X w (c_R_y l hor (rowIs_up hoo hr) (by unfold i3; omega)) k_R_y v_R_y lk_C_57 hor.1 (rowIs_up hoo hr).2.1 rfl ⟨(Nat.le_of_ble_eq_true rfl), (Nat.le_of_ble_eq_true rfl)⟩ rfl hl.1 rfl (Nat.le_of_ble_eq_true rfl) d_C_passThrough_13 ⟨Nat.zero_le _, Nat.zero_le _⟩) (fun r u H locs hp w => ?_)
  obtain ⟨rfl, rfl⟩ := hp
  have w : gw D (gA L sz) s.heap H locs L (va_up f a (.inr (2, [.long (jN ((pX P i))), .long (jN (py)), .long (jN (ux)), .long (jN (uy)), .long (jN (un))]))) := w
  refine ri_i2l (a := (pY P i)) hx hb d_C_passThrough_16 rfl (by have := hB i; have := hB j; have := hB k; unfold i3; omega) ?_
  refine gk_put X w ha (va_up_self _ _ _) rfl in_C ty_C tyok_C nm_C 1 (by decide) lk_C_13 rfl (ty := .long) (by decide +kernel) rfl rfl (Nat.le_of_ble_eq_true rfl) d_C_passThrough_17 (fun H locs w => ?_)
  have w : gw D (gA L sz) s.heap H locs L (va_up f a (.inr (2, [.long (jN ((pX P i))), .long (jN ((pY P i))), .long (jN (ux)), .long (jN (uy)), .long (jN (un))]))) := by rw [bx_uu] at w; exact w
  refine lv_aload_n hx hb d_C_passThrough_20 rfl (lv_at hl 1 rfl) ?_
  refine lv_iload_n hx hb d_C_passThrough_21 rfl (lv_at hl 3 rfl) ?_
  refine g_ci w (g_runV (As := [.int (iN (j))]) (rest := []) X w (c_R_x l hor (rowIs_up hoo hr) (by unfold i3; omega)) k_R_x v_R_x lk_C_53 hor.1 (rowIs_up hoo hr).2.1 rfl ⟨(Nat.le_of_ble_eq_true rfl), (Nat.le_of_ble_eq_true rfl)⟩ rfl hl.1 rfl (Nat.le_of_ble_eq_true rfl) d_C_passThrough_22 ⟨Nat.zero_le _, Nat.zero_le _⟩) (fun r u H locs hp w => ?_)
  obtain ⟨rfl, rfl⟩ := hp
  have w : gw D (gA L sz) s.heap H locs L (va_up f a (.inr (2, [.long (jN ((pX P i))), .long (jN ((pY P i))), .long (jN (ux)), .long (jN (uy)), .long (jN (un))]))) := w
  refine ri_i2l (a := (pX P j)) hx hb d_C_passThrough_25 rfl (by have := hB i; have := hB j; have := hB k; unfold i3; omega) ?_
  refine lv_aload_n hx hb d_C_passThrough_26 rfl (lv_at hl 0 rfl) ?_
  refine gk_get X w ha (va_up_self _ _ _) rfl in_C 0 (by decide) lk_C_7 rfl d_C_passThrough_27 ?_
  refine rj_sub (a := (pX P j)) (b := (pX P i)) hx hb d_C_passThrough_30 rfl rfl ?_
  refine lv_lstore (lv' := [(5, .long (jN (((pX P j) - (pX P i))))), (0, .ref a), (1, .ref r0), (2, .int (iN (i))), (3, .int (iN (j))), (4, .int (iN (k)))]) hx hb d_C_passThrough_31 hl (by decide) rfl (fun ls hl => ?_)
  refine lv_aload_n hx hb d_C_passThrough_33 rfl (lv_at hl 2 rfl) ?_
  refine lv_iload_n hx hb d_C_passThrough_34 rfl (lv_at hl 4 rfl) ?_
  refine g_ci w (g_runV (As := [.int (iN (j))]) (rest := []) X w (c_R_y l hor (rowIs_up hoo hr) (by unfold i3; omega)) k_R_y v_R_y lk_C_57 hor.1 (rowIs_up hoo hr).2.1 rfl ⟨(Nat.le_of_ble_eq_true rfl), (Nat.le_of_ble_eq_true rfl)⟩ rfl hl.1 rfl (Nat.le_of_ble_eq_true rfl) d_C_passThrough_35 ⟨Nat.zero_le _, Nat.zero_le _⟩) (fun r u H locs hp w => ?_)
  obtain ⟨rfl, rfl⟩ := hp
  have w : gw D (gA L sz) s.heap H locs L (va_up f a (.inr (2, [.long (jN ((pX P i))), .long (jN ((pY P i))), .long (jN (ux)), .long (jN (uy)), .long (jN (un))]))) := w
  refine ri_i2l (a := (pY P j)) hx hb d_C_passThrough_38 rfl (by have := hB i; have := hB j; have := hB k; unfold i3; omega) ?_
  refine lv_aload_n hx hb d_C_passThrough_39 rfl (lv_at hl 1 rfl) ?_
  refine gk_get X w ha (va_up_self _ _ _) rfl in_C 1 (by decide) lk_C_13 rfl d_C_passThrough_40 ?_
  refine rj_sub (a := (pY P j)) (b := (pY P i)) hx hb d_C_passThrough_43 rfl rfl ?_
  refine lv_lstore (lv' := [(7, .long (jN (((pY P j) - (pY P i))))), (5, .long (jN (((pX P j) - (pX P i))))), (0, .ref a), (1, .ref r0), (2, .int (iN (i))), (3, .int (iN (j))), (4, .int (iN (k)))]) hx hb d_C_passThrough_44 hl (by decide) rfl (fun ls hl => ?_)
  refine lv_aload_n hx hb d_C_passThrough_46 rfl (lv_at hl 3 rfl) ?_
  refine lv_iload hx hb d_C_passThrough_47 (lv_at hl 6 rfl) ?_
  refine g_ci w (g_runV (As := [.int (iN (k))]) (rest := []) X w (c_R_x l hor (rowIs_up hoo hr) (by unfold i3; omega)) k_R_x v_R_x lk_C_53 hor.1 (rowIs_up hoo hr).2.1 rfl ⟨(Nat.le_of_ble_eq_true rfl), (Nat.le_of_ble_eq_true rfl)⟩ rfl hl.1 rfl (Nat.le_of_ble_eq_true rfl) d_C_passThrough_49 ⟨Nat.zero_le _, Nat.zero_le _⟩) (fun r u H locs hp w => ?_)
  obtain ⟨rfl, rfl⟩ := hp
  have w : gw D (gA L sz) s.heap H locs L (va_up f a (.inr (2, [.long (jN ((pX P i))), .long (jN ((pY P i))), .long (jN (ux)), .long (jN (uy)), .long (jN (un))]))) := w
  refine ri_i2l (a := (pX P k)) hx hb d_C_passThrough_52 rfl (by have := hB i; have := hB j; have := hB k; unfold i3; omega) ?_
  refine lv_aload_n hx hb d_C_passThrough_53 rfl (lv_at hl 2 rfl) ?_
  refine gk_get X w ha (va_up_self _ _ _) rfl in_C 0 (by decide) lk_C_7 rfl d_C_passThrough_54 ?_
  refine rj_sub (a := (pX P k)) (b := (pX P i)) hx hb d_C_passThrough_57 rfl rfl ?_
  refine lv_lstore (lv' := [(9, .long (jN (((pX P k) - (pX P i))))), (7, .long (jN (((pY P j) - (pY P i))))), (5, .long (jN (((pX P j) - (pX P i))))), (0, .ref a), (1, .ref r0), (2, .int (iN (i))), (3, .int (iN (j))), (4, .int (iN (k)))]) hx hb d_C_passThrough_58 hl (by decide) rfl (fun ls hl => ?_)
  refine lv_aload_n hx hb d_C_passThrough_60 rfl (lv_at hl 4 rfl) ?_
  refine lv_iload hx hb d_C_passThrough_61 (lv_at hl 7 rfl) ?_
  refine g_ci w (g_runV (As := [.int (iN (k))]) (rest := []) X w (c_R_y l hor (rowIs_up hoo hr) (by unfold i3; omega)) k_R_y v_R_y lk_C_57 hor.1 (rowIs_up hoo hr).2.1 rfl ⟨(Nat.le_of_ble_eq_true rfl), (Nat.le_of_ble_eq_true rfl)⟩ rfl hl.1 rfl (Nat.le_of_ble_eq_true rfl) d_C_passThrough_63 ⟨Nat.zero_le _, Nat.zero_le _⟩) (fun r u H locs hp w => ?_)
  obtain ⟨rfl, rfl⟩ := hp
  have w : gw D (gA L sz) s.heap H locs L (va_up f a (.inr (2, [.long (jN ((pX P i))), .long (jN ((pY P i))), .long (jN (ux)), .long (jN (uy)), .long (jN (un))]))) := w
  refine ri_i2l (a := (pY P k)) hx hb d_C_passThrough_66 rfl (by have := hB i; have := hB j; have := hB k; unfold i3; omega) ?_
  refine lv_aload_n hx hb d_C_passThrough_67 rfl (lv_at hl 3 rfl) ?_
  refine gk_get X w ha (va_up_self _ _ _) rfl in_C 1 (by decide) lk_C_13 rfl d_C_passThrough_68 ?_
  refine rj_sub (a := (pY P k)) (b := (pY P i)) hx hb d_C_passThrough_71 rfl rfl ?_
  refine lv_lstore (lv' := [(11, .long (jN (((pY P k) - (pY P i))))), (9, .long (jN (((pX P k) - (pX P i))))), (7, .long (jN (((pY P j) - (pY P i))))), (5, .long (jN (((pX P j) - (pX P i))))), (0, .ref a), (1, .ref r0), (2, .int (iN (i))), (3, .int (iN (j))), (4, .int (iN (k)))]) hx hb d_C_passThrough_72 hl (by decide) rfl (fun ls hl => ?_)
  refine lv_lload hx hb d_C_passThrough_74 (lv_at hl 3 rfl) ?_
  refine lv_lload hx hb d_C_passThrough_76 (lv_at hl 3 rfl) ?_
  refine rj_mul (a := ((pX P j) - (pX P i))) (b := ((pX P j) - (pX P i))) hx hb d_C_passThrough_78 rfl rfl ?_
  refine lv_lload hx hb d_C_passThrough_79 (lv_at hl 2 rfl) ?_
  refine lv_lload hx hb d_C_passThrough_81 (lv_at hl 2 rfl) ?_
  refine rj_mul (a := ((pY P j) - (pY P i))) (b := ((pY P j) - (pY P i))) hx hb d_C_passThrough_83 rfl rfl ?_
  refine rj_add (a := (((pX P j) - (pX P i)) * ((pX P j) - (pX P i)))) (b := (((pY P j) - (pY P i)) * ((pY P j) - (pY P i)))) hx hb d_C_passThrough_84 rfl rfl ?_
  refine lv_lstore (lv' := [(13, .long (jN (((((pX P j) - (pX P i)) * ((pX P j) - (pX P i))) + (((pY P j) - (pY P i)) * ((pY P j) - (pY P i))))))), (11, .long (jN (((pY P k) - (pY P i))))), (9, .long (jN (((pX P k) - (pX P i))))), (7, .long (jN (((pY P j) - (pY P i))))), (5, .long (jN (((pX P j) - (pX P i))))), (0, .ref a), (1, .ref r0), (2, .int (iN (i))), (3, .int (iN (j))), (4, .int (iN (k)))]) hx hb d_C_passThrough_85 hl (by decide) rfl (fun ls hl => ?_)
  refine lv_lload hx hb d_C_passThrough_87 (lv_at hl 2 rfl) ?_
  refine lv_lload hx hb d_C_passThrough_89 (lv_at hl 2 rfl) ?_
  refine rj_mul (a := ((pX P k) - (pX P i))) (b := ((pX P k) - (pX P i))) hx hb d_C_passThrough_91 rfl rfl ?_
  refine lv_lload hx hb d_C_passThrough_92 (lv_at hl 1 rfl) ?_
  refine lv_lload hx hb d_C_passThrough_94 (lv_at hl 1 rfl) ?_
  refine rj_mul (a := ((pY P k) - (pY P i))) (b := ((pY P k) - (pY P i))) hx hb d_C_passThrough_96 rfl rfl ?_
  refine rj_add (a := (((pX P k) - (pX P i)) * ((pX P k) - (pX P i)))) (b := (((pY P k) - (pY P i)) * ((pY P k) - (pY P i)))) hx hb d_C_passThrough_97 rfl rfl ?_
  refine lv_lstore (lv' := [(15, .long (jN (((((pX P k) - (pX P i)) * ((pX P k) - (pX P i))) + (((pY P k) - (pY P i)) * ((pY P k) - (pY P i))))))), (13, .long (jN (((((pX P j) - (pX P i)) * ((pX P j) - (pX P i))) + (((pY P j) - (pY P i)) * ((pY P j) - (pY P i))))))), (11, .long (jN (((pY P k) - (pY P i))))), (9, .long (jN (((pX P k) - (pX P i))))), (7, .long (jN (((pY P j) - (pY P i))))), (5, .long (jN (((pX P j) - (pX P i))))), (0, .ref a), (1, .ref r0), (2, .int (iN (i))), (3, .int (iN (j))), (4, .int (iN (k)))]) hx hb d_C_passThrough_98 hl (by decide) rfl (fun ls hl => ?_)
  refine lv_lload hx hb d_C_passThrough_100 (lv_at hl 5 rfl) ?_
  refine lv_lload hx hb d_C_passThrough_102 (lv_at hl 2 rfl) ?_
  refine rj_mul (a := ((pX P j) - (pX P i))) (b := ((pY P k) - (pY P i))) hx hb d_C_passThrough_104 rfl rfl ?_
  refine lv_lload hx hb d_C_passThrough_105 (lv_at hl 4 rfl) ?_
  refine lv_lload hx hb d_C_passThrough_107 (lv_at hl 3 rfl) ?_
  refine rj_mul (a := ((pY P j) - (pY P i))) (b := ((pX P k) - (pX P i))) hx hb d_C_passThrough_109 rfl rfl ?_
  refine rj_sub (a := (((pX P j) - (pX P i)) * ((pY P k) - (pY P i)))) (b := (((pY P j) - (pY P i)) * ((pX P k) - (pX P i)))) hx hb d_C_passThrough_110 rfl rfl ?_
  refine lv_lstore (lv' := [(17, .long (jN (((((pX P j) - (pX P i)) * ((pY P k) - (pY P i))) - (((pY P j) - (pY P i)) * ((pX P k) - (pX P i))))))), (15, .long (jN (((((pX P k) - (pX P i)) * ((pX P k) - (pX P i))) + (((pY P k) - (pY P i)) * ((pY P k) - (pY P i))))))), (13, .long (jN (((((pX P j) - (pX P i)) * ((pX P j) - (pX P i))) + (((pY P j) - (pY P i)) * ((pY P j) - (pY P i))))))), (11, .long (jN (((pY P k) - (pY P i))))), (9, .long (jN (((pX P k) - (pX P i))))), (7, .long (jN (((pY P j) - (pY P i))))), (5, .long (jN (((pX P j) - (pX P i))))), (0, .ref a), (1, .ref r0), (2, .int (iN (i))), (3, .int (iN (j))), (4, .int (iN (k)))]) hx hb d_C_passThrough_111 hl (by decide) rfl (fun ls hl => ?_)
  refine lv_lload hx hb d_C_passThrough_113 (lv_at hl 0 rfl) ?_
  refine lv_lconst (v := jN (0)) hx hb d_C_passThrough_115 (by decide) ?_
  refine rj_cge (a := ((((pX P j) - (pX P i)) * ((pY P k) - (pY P i))) - (((pY P j) - (pY P i)) * ((pX P k) - (pX P i))))) (b := 0) (tgt := 126) hx hb d_C_passThrough_116 d_C_passThrough_117 (by decide) rfl rfl (by have := (pass_b hB i j k).1; unfold twi at this; unfold i6; omega) (by unfold i6; omega) (fun c116 => ?_) (fun c116 => ?_)
  · skip
    refine lv_lconst (v := jN (1)) hx hb d_C_passThrough_126 (by decide) ?_
    refine lv_lstore (lv' := [(19, .long (jN (1))), (17, .long (jN (((((pX P j) - (pX P i)) * ((pY P k) - (pY P i))) - (((pY P j) - (pY P i)) * ((pX P k) - (pX P i))))))), (15, .long (jN (((((pX P k) - (pX P i)) * ((pX P k) - (pX P i))) + (((pY P k) - (pY P i)) * ((pY P k) - (pY P i))))))), (13, .long (jN (((((pX P j) - (pX P i)) * ((pX P j) - (pX P i))) + (((pY P j) - (pY P i)) * ((pY P j) - (pY P i))))))), (11, .long (jN (((pY P k) - (pY P i))))), (9, .long (jN (((pX P k) - (pX P i))))), (7, .long (jN (((pY P j) - (pY P i))))), (5, .long (jN (((pX P j) - (pX P i))))), (0, .ref a), (1, .ref r0), (2, .int (iN (i))), (3, .int (iN (j))), (4, .int (iN (k)))]) hx hb d_C_passThrough_127 hl (by decide) rfl (fun ls hl => ?_)
    refine lv_aload_n hx hb d_C_passThrough_129 rfl (lv_at hl 8 rfl) ?_
    refine lv_lload hx hb d_C_passThrough_130 (lv_at hl 0 rfl) ?_
    refine lv_lload hx hb d_C_passThrough_132 (lv_at hl 4 rfl) ?_
    refine lv_lload hx hb d_C_passThrough_134 (lv_at hl 3 rfl) ?_
    refine rj_mul (a := ((pY P k) - (pY P i))) (b := ((((pX P j) - (pX P i)) * ((pX P j) - (pX P i))) + (((pY P j) - (pY P i)) * ((pY P j) - (pY P i))))) hx hb d_C_passThrough_136 rfl rfl ?_
    refine lv_lload hx hb d_C_passThrough_137 (lv_at hl 6 rfl) ?_
    refine lv_lload hx hb d_C_passThrough_139 (lv_at hl 2 rfl) ?_
    refine rj_mul (a := ((pY P j) - (pY P i))) (b := ((((pX P k) - (pX P i)) * ((pX P k) - (pX P i))) + (((pY P k) - (pY P i)) * ((pY P k) - (pY P i))))) hx hb d_C_passThrough_141 rfl rfl ?_
    refine rj_sub (a := (((pY P k) - (pY P i)) * ((((pX P j) - (pX P i)) * ((pX P j) - (pX P i))) + (((pY P j) - (pY P i)) * ((pY P j) - (pY P i)))))) (b := (((pY P j) - (pY P i)) * ((((pX P k) - (pX P i)) * ((pX P k) - (pX P i))) + (((pY P k) - (pY P i)) * ((pY P k) - (pY P i)))))) hx hb d_C_passThrough_142 rfl rfl ?_
    refine rj_mul (a := 1) (b := ((((pY P k) - (pY P i)) * ((((pX P j) - (pX P i)) * ((pX P j) - (pX P i))) + (((pY P j) - (pY P i)) * ((pY P j) - (pY P i))))) - (((pY P j) - (pY P i)) * ((((pX P k) - (pX P i)) * ((pX P k) - (pX P i))) + (((pY P k) - (pY P i)) * ((pY P k) - (pY P i))))))) hx hb d_C_passThrough_143 rfl rfl ?_
    refine gk_put X w ha (va_up_self _ _ _) rfl in_C ty_C tyok_C nm_C 2 (by decide) lk_C_16 rfl (ty := .long) (by decide +kernel) rfl rfl (Nat.le_of_ble_eq_true rfl) d_C_passThrough_144 (fun H locs w => ?_)
    have w : gw D (gA L sz) s.heap H locs L (va_up f a (.inr (2, [.long (jN ((pX P i))), .long (jN ((pY P i))), .long (jN ((1 * ((((pY P k) - (pY P i)) * ((((pX P j) - (pX P i)) * ((pX P j) - (pX P i))) + (((pY P j) - (pY P i)) * ((pY P j) - (pY P i))))) - (((pY P j) - (pY P i)) * ((((pX P k) - (pX P i)) * ((pX P k) - (pX P i))) + (((pY P k) - (pY P i)) * ((pY P k) - (pY P i))))))))), .long (jN (uy)), .long (jN (un))]))) := by rw [bx_uu] at w; exact w
    refine lv_aload_n hx hb d_C_passThrough_147 rfl (lv_at hl 8 rfl) ?_
    refine lv_lload hx hb d_C_passThrough_148 (lv_at hl 0 rfl) ?_
    refine lv_lload hx hb d_C_passThrough_150 (lv_at hl 7 rfl) ?_
    refine lv_lload hx hb d_C_passThrough_152 (lv_at hl 2 rfl) ?_
    refine rj_mul (a := ((pX P j) - (pX P i))) (b := ((((pX P k) - (pX P i)) * ((pX P k) - (pX P i))) + (((pY P k) - (pY P i)) * ((pY P k) - (pY P i))))) hx hb d_C_passThrough_154 rfl rfl ?_
    refine lv_lload hx hb d_C_passThrough_155 (lv_at hl 5 rfl) ?_
    refine lv_lload hx hb d_C_passThrough_157 (lv_at hl 3 rfl) ?_
    refine rj_mul (a := ((pX P k) - (pX P i))) (b := ((((pX P j) - (pX P i)) * ((pX P j) - (pX P i))) + (((pY P j) - (pY P i)) * ((pY P j) - (pY P i))))) hx hb d_C_passThrough_159 rfl rfl ?_
    refine rj_sub (a := (((pX P j) - (pX P i)) * ((((pX P k) - (pX P i)) * ((pX P k) - (pX P i))) + (((pY P k) - (pY P i)) * ((pY P k) - (pY P i)))))) (b := (((pX P k) - (pX P i)) * ((((pX P j) - (pX P i)) * ((pX P j) - (pX P i))) + (((pY P j) - (pY P i)) * ((pY P j) - (pY P i)))))) hx hb d_C_passThrough_160 rfl rfl ?_
    refine rj_mul (a := 1) (b := ((((pX P j) - (pX P i)) * ((((pX P k) - (pX P i)) * ((pX P k) - (pX P i))) + (((pY P k) - (pY P i)) * ((pY P k) - (pY P i))))) - (((pX P k) - (pX P i)) * ((((pX P j) - (pX P i)) * ((pX P j) - (pX P i))) + (((pY P j) - (pY P i)) * ((pY P j) - (pY P i))))))) hx hb d_C_passThrough_161 rfl rfl ?_
    refine gk_put X w ha (va_up_self _ _ _) rfl in_C ty_C tyok_C nm_C 3 (by decide) lk_C_19 rfl (ty := .long) (by decide +kernel) rfl rfl (Nat.le_of_ble_eq_true rfl) d_C_passThrough_162 (fun H locs w => ?_)
    have w : gw D (gA L sz) s.heap H locs L (va_up f a (.inr (2, [.long (jN ((pX P i))), .long (jN ((pY P i))), .long (jN ((1 * ((((pY P k) - (pY P i)) * ((((pX P j) - (pX P i)) * ((pX P j) - (pX P i))) + (((pY P j) - (pY P i)) * ((pY P j) - (pY P i))))) - (((pY P j) - (pY P i)) * ((((pX P k) - (pX P i)) * ((pX P k) - (pX P i))) + (((pY P k) - (pY P i)) * ((pY P k) - (pY P i))))))))), .long (jN ((1 * ((((pX P j) - (pX P i)) * ((((pX P k) - (pX P i)) * ((pX P k) - (pX P i))) + (((pY P k) - (pY P i)) * ((pY P k) - (pY P i))))) - (((pX P k) - (pX P i)) * ((((pX P j) - (pX P i)) * ((pX P j) - (pX P i))) + (((pY P j) - (pY P i)) * ((pY P j) - (pY P i))))))))), .long (jN (un))]))) := by rw [bx_uu] at w; exact w
    refine lv_aload_n hx hb d_C_passThrough_165 rfl (lv_at hl 8 rfl) ?_
    refine lv_lload hx hb d_C_passThrough_166 (lv_at hl 0 rfl) ?_
    refine lv_ldc2 hx hb X.1.2.2.2.1 (X.1.2.2.2.2 _ lk_C_60) d_C_passThrough_168 ?_
    refine rj_mul (a := 1) (b := 2) hx hb d_C_passThrough_171 rfl rfl ?_
    refine lv_lload hx hb d_C_passThrough_172 (lv_at hl 1 rfl) ?_
    refine rj_mul (a := (1 * 2)) (b := ((((pX P j) - (pX P i)) * ((pY P k) - (pY P i))) - (((pY P j) - (pY P i)) * ((pX P k) - (pX P i))))) hx hb d_C_passThrough_174 rfl rfl ?_
    refine gk_put X w ha (va_up_self _ _ _) rfl in_C ty_C tyok_C nm_C 4 (by decide) lk_C_22 rfl (ty := .long) (by decide +kernel) rfl rfl (Nat.le_of_ble_eq_true rfl) d_C_passThrough_175 (fun H locs w => ?_)
    have w : gw D (gA L sz) s.heap H locs L (va_up f a (.inr (2, [.long (jN ((pX P i))), .long (jN ((pY P i))), .long (jN ((1 * ((((pY P k) - (pY P i)) * ((((pX P j) - (pX P i)) * ((pX P j) - (pX P i))) + (((pY P j) - (pY P i)) * ((pY P j) - (pY P i))))) - (((pY P j) - (pY P i)) * ((((pX P k) - (pX P i)) * ((pX P k) - (pX P i))) + (((pY P k) - (pY P i)) * ((pY P k) - (pY P i))))))))), .long (jN ((1 * ((((pX P j) - (pX P i)) * ((((pX P k) - (pX P i)) * ((pX P k) - (pX P i))) + (((pY P k) - (pY P i)) * ((pY P k) - (pY P i))))) - (((pX P k) - (pX P i)) * ((((pX P j) - (pX P i)) * ((pX P j) - (pX P i))) + (((pY P j) - (pY P i)) * ((pY P j) - (pY P i))))))))), .long (jN (((1 * 2) * ((((pX P j) - (pX P i)) * ((pY P k) - (pY P i))) - (((pY P j) - (pY P i)) * ((pX P k) - (pX P i)))))))]))) := by rw [bx_uu] at w; exact w
    have hsg : sgn (twi P i j k) = 1 := by unfold sgn twi; rw [if_neg (by omega)]
    exact g_vret X w hrt hlk d_C_passThrough_178 (by rw [hsg]; rfl)
  · skip
    refine lv_ldc2 hx hb X.1.2.2.2.1 (X.1.2.2.2.2 _ lk_C_62) d_C_passThrough_120 ?_
    refine lv_goto (tgt := 127) hx hb d_C_passThrough_123 (by decide) ?_
    refine lv_lstore (lv' := [(19, .long (jN ((-1)))), (17, .long (jN (((((pX P j) - (pX P i)) * ((pY P k) - (pY P i))) - (((pY P j) - (pY P i)) * ((pX P k) - (pX P i))))))), (15, .long (jN (((((pX P k) - (pX P i)) * ((pX P k) - (pX P i))) + (((pY P k) - (pY P i)) * ((pY P k) - (pY P i))))))), (13, .long (jN (((((pX P j) - (pX P i)) * ((pX P j) - (pX P i))) + (((pY P j) - (pY P i)) * ((pY P j) - (pY P i))))))), (11, .long (jN (((pY P k) - (pY P i))))), (9, .long (jN (((pX P k) - (pX P i))))), (7, .long (jN (((pY P j) - (pY P i))))), (5, .long (jN (((pX P j) - (pX P i))))), (0, .ref a), (1, .ref r0), (2, .int (iN (i))), (3, .int (iN (j))), (4, .int (iN (k)))]) hx hb d_C_passThrough_127 hl (by decide) rfl (fun ls hl => ?_)
    refine lv_aload_n hx hb d_C_passThrough_129 rfl (lv_at hl 8 rfl) ?_
    refine lv_lload hx hb d_C_passThrough_130 (lv_at hl 0 rfl) ?_
    refine lv_lload hx hb d_C_passThrough_132 (lv_at hl 4 rfl) ?_
    refine lv_lload hx hb d_C_passThrough_134 (lv_at hl 3 rfl) ?_
    refine rj_mul (a := ((pY P k) - (pY P i))) (b := ((((pX P j) - (pX P i)) * ((pX P j) - (pX P i))) + (((pY P j) - (pY P i)) * ((pY P j) - (pY P i))))) hx hb d_C_passThrough_136 rfl rfl ?_
    refine lv_lload hx hb d_C_passThrough_137 (lv_at hl 6 rfl) ?_
    refine lv_lload hx hb d_C_passThrough_139 (lv_at hl 2 rfl) ?_
    refine rj_mul (a := ((pY P j) - (pY P i))) (b := ((((pX P k) - (pX P i)) * ((pX P k) - (pX P i))) + (((pY P k) - (pY P i)) * ((pY P k) - (pY P i))))) hx hb d_C_passThrough_141 rfl rfl ?_
    refine rj_sub (a := (((pY P k) - (pY P i)) * ((((pX P j) - (pX P i)) * ((pX P j) - (pX P i))) + (((pY P j) - (pY P i)) * ((pY P j) - (pY P i)))))) (b := (((pY P j) - (pY P i)) * ((((pX P k) - (pX P i)) * ((pX P k) - (pX P i))) + (((pY P k) - (pY P i)) * ((pY P k) - (pY P i)))))) hx hb d_C_passThrough_142 rfl rfl ?_
    refine rj_mul (a := (-1)) (b := ((((pY P k) - (pY P i)) * ((((pX P j) - (pX P i)) * ((pX P j) - (pX P i))) + (((pY P j) - (pY P i)) * ((pY P j) - (pY P i))))) - (((pY P j) - (pY P i)) * ((((pX P k) - (pX P i)) * ((pX P k) - (pX P i))) + (((pY P k) - (pY P i)) * ((pY P k) - (pY P i))))))) hx hb d_C_passThrough_143 rfl rfl ?_
    refine gk_put X w ha (va_up_self _ _ _) rfl in_C ty_C tyok_C nm_C 2 (by decide) lk_C_16 rfl (ty := .long) (by decide +kernel) rfl rfl (Nat.le_of_ble_eq_true rfl) d_C_passThrough_144 (fun H locs w => ?_)
    have w : gw D (gA L sz) s.heap H locs L (va_up f a (.inr (2, [.long (jN ((pX P i))), .long (jN ((pY P i))), .long (jN (((-1) * ((((pY P k) - (pY P i)) * ((((pX P j) - (pX P i)) * ((pX P j) - (pX P i))) + (((pY P j) - (pY P i)) * ((pY P j) - (pY P i))))) - (((pY P j) - (pY P i)) * ((((pX P k) - (pX P i)) * ((pX P k) - (pX P i))) + (((pY P k) - (pY P i)) * ((pY P k) - (pY P i))))))))), .long (jN (uy)), .long (jN (un))]))) := by rw [bx_uu] at w; exact w
    refine lv_aload_n hx hb d_C_passThrough_147 rfl (lv_at hl 8 rfl) ?_
    refine lv_lload hx hb d_C_passThrough_148 (lv_at hl 0 rfl) ?_
    refine lv_lload hx hb d_C_passThrough_150 (lv_at hl 7 rfl) ?_
    refine lv_lload hx hb d_C_passThrough_152 (lv_at hl 2 rfl) ?_
    refine rj_mul (a := ((pX P j) - (pX P i))) (b := ((((pX P k) - (pX P i)) * ((pX P k) - (pX P i))) + (((pY P k) - (pY P i)) * ((pY P k) - (pY P i))))) hx hb d_C_passThrough_154 rfl rfl ?_
    refine lv_lload hx hb d_C_passThrough_155 (lv_at hl 5 rfl) ?_
    refine lv_lload hx hb d_C_passThrough_157 (lv_at hl 3 rfl) ?_
    refine rj_mul (a := ((pX P k) - (pX P i))) (b := ((((pX P j) - (pX P i)) * ((pX P j) - (pX P i))) + (((pY P j) - (pY P i)) * ((pY P j) - (pY P i))))) hx hb d_C_passThrough_159 rfl rfl ?_
    refine rj_sub (a := (((pX P j) - (pX P i)) * ((((pX P k) - (pX P i)) * ((pX P k) - (pX P i))) + (((pY P k) - (pY P i)) * ((pY P k) - (pY P i)))))) (b := (((pX P k) - (pX P i)) * ((((pX P j) - (pX P i)) * ((pX P j) - (pX P i))) + (((pY P j) - (pY P i)) * ((pY P j) - (pY P i)))))) hx hb d_C_passThrough_160 rfl rfl ?_
    refine rj_mul (a := (-1)) (b := ((((pX P j) - (pX P i)) * ((((pX P k) - (pX P i)) * ((pX P k) - (pX P i))) + (((pY P k) - (pY P i)) * ((pY P k) - (pY P i))))) - (((pX P k) - (pX P i)) * ((((pX P j) - (pX P i)) * ((pX P j) - (pX P i))) + (((pY P j) - (pY P i)) * ((pY P j) - (pY P i))))))) hx hb d_C_passThrough_161 rfl rfl ?_
    refine gk_put X w ha (va_up_self _ _ _) rfl in_C ty_C tyok_C nm_C 3 (by decide) lk_C_19 rfl (ty := .long) (by decide +kernel) rfl rfl (Nat.le_of_ble_eq_true rfl) d_C_passThrough_162 (fun H locs w => ?_)
    have w : gw D (gA L sz) s.heap H locs L (va_up f a (.inr (2, [.long (jN ((pX P i))), .long (jN ((pY P i))), .long (jN (((-1) * ((((pY P k) - (pY P i)) * ((((pX P j) - (pX P i)) * ((pX P j) - (pX P i))) + (((pY P j) - (pY P i)) * ((pY P j) - (pY P i))))) - (((pY P j) - (pY P i)) * ((((pX P k) - (pX P i)) * ((pX P k) - (pX P i))) + (((pY P k) - (pY P i)) * ((pY P k) - (pY P i))))))))), .long (jN (((-1) * ((((pX P j) - (pX P i)) * ((((pX P k) - (pX P i)) * ((pX P k) - (pX P i))) + (((pY P k) - (pY P i)) * ((pY P k) - (pY P i))))) - (((pX P k) - (pX P i)) * ((((pX P j) - (pX P i)) * ((pX P j) - (pX P i))) + (((pY P j) - (pY P i)) * ((pY P j) - (pY P i))))))))), .long (jN (un))]))) := by rw [bx_uu] at w; exact w
    refine lv_aload_n hx hb d_C_passThrough_165 rfl (lv_at hl 8 rfl) ?_
    refine lv_lload hx hb d_C_passThrough_166 (lv_at hl 0 rfl) ?_
    refine lv_ldc2 hx hb X.1.2.2.2.1 (X.1.2.2.2.2 _ lk_C_60) d_C_passThrough_168 ?_
    refine rj_mul (a := (-1)) (b := 2) hx hb d_C_passThrough_171 rfl rfl ?_
    refine lv_lload hx hb d_C_passThrough_172 (lv_at hl 1 rfl) ?_
    refine rj_mul (a := ((-1) * 2)) (b := ((((pX P j) - (pX P i)) * ((pY P k) - (pY P i))) - (((pY P j) - (pY P i)) * ((pX P k) - (pX P i))))) hx hb d_C_passThrough_174 rfl rfl ?_
    refine gk_put X w ha (va_up_self _ _ _) rfl in_C ty_C tyok_C nm_C 4 (by decide) lk_C_22 rfl (ty := .long) (by decide +kernel) rfl rfl (Nat.le_of_ble_eq_true rfl) d_C_passThrough_175 (fun H locs w => ?_)
    have w : gw D (gA L sz) s.heap H locs L (va_up f a (.inr (2, [.long (jN ((pX P i))), .long (jN ((pY P i))), .long (jN (((-1) * ((((pY P k) - (pY P i)) * ((((pX P j) - (pX P i)) * ((pX P j) - (pX P i))) + (((pY P j) - (pY P i)) * ((pY P j) - (pY P i))))) - (((pY P j) - (pY P i)) * ((((pX P k) - (pX P i)) * ((pX P k) - (pX P i))) + (((pY P k) - (pY P i)) * ((pY P k) - (pY P i))))))))), .long (jN (((-1) * ((((pX P j) - (pX P i)) * ((((pX P k) - (pX P i)) * ((pX P k) - (pX P i))) + (((pY P k) - (pY P i)) * ((pY P k) - (pY P i))))) - (((pX P k) - (pX P i)) * ((((pX P j) - (pX P i)) * ((pX P j) - (pX P i))) + (((pY P j) - (pY P i)) * ((pY P j) - (pY P i))))))))), .long (jN ((((-1) * 2) * ((((pX P j) - (pX P i)) * ((pY P k) - (pY P i))) - (((pY P j) - (pY P i)) * ((pX P k) - (pX P i)))))))]))) := by rw [bx_uu] at w; exact w
    have hsg : sgn (twi P i j k) = -1 := by unfold sgn twi; rw [if_pos (by omega)]
    exact g_vret X w hrt hlk d_C_passThrough_178 (by rw [hsg]; rfl)
