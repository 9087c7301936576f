/-! ROWS: the points of a row; what each method of Row answers -/
abbrev Pt : Type := Int × Int
def rowIs (cI : ClassId) (rx ry : Nat → Nat) (f : Nat → va_E) (a : Nat) (P : List Pt) : Prop :=
  P.length ≤ 48 ∧ f a = .inr (1, [.ref (rx a), .ref (ry a), .int (iN P.length)]) ∧ ∃ X Y : Nat → Int32, f (rx a) = .inl (cI, 48, .inl X) ∧ f (ry a) = .inl (cI, 48, .inl Y) ∧ ∀ i q, P[i]? = some q → X i = iN q.1 ∧ Y i = iN q.2
def ro (L : List Nat) (rx ry : Nat → Nat) (a : Nat) : Prop := a ∈ L ∧ rx a ∈ L ∧ ry a ∈ L ∧ a ≠ rx a ∧ a ≠ ry a ∧ rx a ≠ ry a
def pX (P : List Pt) (z : Int) : Int := if z < 0 then 0 else ((P[z.toNat]?).getD (0, 0)).1
def pY (P : List Pt) (z : Int) : Int := if z < 0 then 0 else ((P[z.toNat]?).getD (0, 0)).2
theorem pX_neg {P : List Pt} {z : Int} (h : z < 0) : pX P z = 0 := by simp [pX, h]
theorem pY_neg {P : List Pt} {z : Int} (h : z < 0) : pY P z = 0 := by simp [pY, h]
theorem pX_big {P : List Pt} {z : Int} (h : P.length ≤ z) : pX P z = 0 := by
  unfold pX; split
  · rfl
  · rw [List.getElem?_eq_none (by omega)]; rfl
theorem pY_big {P : List Pt} {z : Int} (h : P.length ≤ z) : pY P z = 0 := by
  unfold pY; split
  · rfl
  · rw [List.getElem?_eq_none (by omega)]; rfl
theorem pX_nat {P : List Pt} {i : Nat} {q : Pt} (h : P[i]? = some q) : pX P i = q.1 := by
  unfold pX; rw [if_neg (by omega)]; simp [h]
theorem pY_nat {P : List Pt} {i : Nat} {q : Pt} (h : P[i]? = some q) : pY P i = q.2 := by
  unfold pY; rw [if_neg (by omega)]; simp [h]
theorem px_at {P : List Pt} {z : Int} (h0 : ¬ z < 0) (h1 : ¬ (P.length : Int) ≤ z) : ∃ (i : Nat) (q : Pt), z = i ∧ i < P.length ∧ P[i]? = some q := by
  refine ⟨z.toNat, P[z.toNat]'(by omega), by omega, by omega, ?_⟩
  simp

set_option maxHeartbeats 4000000 in
set_option maxRecDepth 100000 in
theorem c_R_x (l : Launch) {D : va_G} {cI cR : ClassId} {L : List Nat} {f : Nat → va_E} {rx ry : Nat → Nat} {a : Nat} {P : List Pt} (ho : ro L rx ry a) (hr : rowIs cI rx ry f a P) {z : Int} (hz : i3 z) : gMi D cI cR l y_R_x (Cond.code y_R_x b_R_x 2 (some .int) :: lw_g) { frames := 0, cells := 0, slots := 0, locals := 0 } [.ref a, .int (iN z)] L f (fun r u => r = iN (pX P z) ∧ u = (L, f)) := by
  obtain ⟨hn, h1, F1, F2, h2, h3, h4⟩ := hr
  intro sz
  refine g_enter (by decide) rfl (Nat.le_of_ble_eq_true rfl) ?_
  intro p e s m below meth cd ls X hrt hlk hnm hl hsz w
  have X : gx p m cd b_R_x 2 s _ "HullSums$Row" D cI cR := X
  have hx := X.1.1
  have hb := X.1.2.1
  have hl : lv_has ls 2 [(0, .ref a), (1, .int (iN z))] := hl
  refine lv_iload_n hx hb d_R_x_0 rfl (lv_at hl 1 rfl) ?_
  refine ri_zlt (a := z) (tgt := 30) hx hb d_R_x_1 (by decide) rfl hz (fun c1 => ?_) (fun c1 => ?_)
  · skip
    refine lv_iconst (v := iN (0)) hx hb d_R_x_30 (by decide) ?_
    exact g_iret X w hrt hlk d_R_x_31 ⟨by rw [pX_neg c1], rfl⟩
  · skip
    refine lv_iload_n hx hb d_R_x_4 rfl (lv_at hl 1 rfl) ?_
    refine lv_aload_n hx hb d_R_x_5 rfl (lv_at hl 0 rfl) ?_
    refine gk_get X w ho.1 h1 rfl in_R 2 (by decide) lk_R_18 rfl d_R_x_6 ?_
    refine ri_cge (a := z) (b := (P.length : Int)) (tgt := 30) hx hb d_R_x_9 (by decide) rfl rfl hz (by unfold i3; omega) (fun c9 => ?_) (fun c9 => ?_)
    · skip
      refine lv_iconst (v := iN (0)) hx hb d_R_x_30 (by decide) ?_
      exact g_iret X w hrt hlk d_R_x_31 ⟨by rw [pX_big c9], rfl⟩
    · skip
      refine lv_iload_n hx hb d_R_x_12 rfl (lv_at hl 1 rfl) ?_
      refine lv_aload_n hx hb d_R_x_13 rfl (lv_at hl 0 rfl) ?_
      refine gk_get X w ho.1 h1 rfl in_R 0 (by decide) lk_R_9 rfl d_R_x_14 ?_
      refine gk_alen X w 0 ho.2.1 h2 rfl (v := iN (48)) rfl d_R_x_17 ?_
      refine ri_cge (a := z) (b := 48) (tgt := 30) hx hb d_R_x_18 (by decide) rfl rfl hz (by unfold i3; omega) (fun c18 => ?_) (fun c18 => ?_)
      · skip
        refine lv_iconst (v := iN (0)) hx hb d_R_x_30 (by decide) ?_
        exact g_iret X w hrt hlk d_R_x_31 ⟨by rw [pX_big (by omega)], rfl⟩
      · skip
        refine lv_aload_n hx hb d_R_x_21 rfl (lv_at hl 0 rfl) ?_
        refine gk_get X w ho.1 h1 rfl in_R 0 (by decide) lk_R_9 rfl d_R_x_22 ?_
        refine lv_iload_n hx hb d_R_x_25 rfl (lv_at hl 1 rfl) ?_
        obtain ⟨i, q, rfl, hi, hq⟩ := px_at (P := P) c1 c9
        refine gk_iald X w 0 ho.2.1 h2 rfl (iN_in (by omega) (by decide)) d_R_x_26 ?_
        rw [iN_cl (by omega), (h4 i q hq).1]
        refine lv_goto (tgt := 31) hx hb d_R_x_27 (by decide) ?_
        exact g_iret X w hrt hlk d_R_x_31 ⟨by rw [pX_nat hq], rfl⟩
set_option maxHeartbeats 4000000 in
set_option maxRecDepth 100000 in
theorem c_R_y (l : Launch) {D : va_G} {cI cR : ClassId} {L : List Nat} {f : Nat → va_E} {rx ry : Nat → Nat} {a : Nat} {P : List Pt} (ho : ro L rx ry a) (hr : rowIs cI rx ry f a P) {z : Int} (hz : i3 z) : gMi D cI cR l y_R_y (Cond.code y_R_y b_R_y 2 (some .int) :: lw_g) { frames := 0, cells := 0, slots := 0, locals := 0 } [.ref a, .int (iN z)] L f (fun r u => r = iN (pY P z) ∧ u = (L, f)) := by
  obtain ⟨hn, h1, F1, F2, h2, h3, h4⟩ := hr
  intro sz
  refine g_enter (by decide) rfl (Nat.le_of_ble_eq_true rfl) ?_
  intro p e s m below meth cd ls X hrt hlk hnm hl hsz w
  have X : gx p m cd b_R_y 2 s _ "HullSums$Row" D cI cR := X
  have hx := X.1.1
  have hb := X.1.2.1
  have hl : lv_has ls 2 [(0, .ref a), (1, .int (iN z))] := hl
  refine lv_iload_n hx hb d_R_y_0 rfl (lv_at hl 1 rfl) ?_
  refine ri_zlt (a := z) (tgt := 30) hx hb d_R_y_1 (by decide) rfl hz (fun c1 => ?_) (fun c1 => ?_)
  · skip
    refine lv_iconst (v := iN (0)) hx hb d_R_y_30 (by decide) ?_
    exact g_iret X w hrt hlk d_R_y_31 ⟨by rw [pY_neg c1], rfl⟩
  · skip
    refine lv_iload_n hx hb d_R_y_4 rfl (lv_at hl 1 rfl) ?_
    refine lv_aload_n hx hb d_R_y_5 rfl (lv_at hl 0 rfl) ?_
    refine gk_get X w ho.1 h1 rfl in_R 2 (by decide) lk_R_18 rfl d_R_y_6 ?_
    refine ri_cge (a := z) (b := (P.length : Int)) (tgt := 30) hx hb d_R_y_9 (by decide) rfl rfl hz (by unfold i3; omega) (fun c9 => ?_) (fun c9 => ?_)
    · skip
      refine lv_iconst (v := iN (0)) hx hb d_R_y_30 (by decide) ?_
      exact g_iret X w hrt hlk d_R_y_31 ⟨by rw [pY_big c9], rfl⟩
    · skip
      refine lv_iload_n hx hb d_R_y_12 rfl (lv_at hl 1 rfl) ?_
      refine lv_aload_n hx hb d_R_y_13 rfl (lv_at hl 0 rfl) ?_
      refine gk_get X w ho.1 h1 rfl in_R 1 (by decide) lk_R_15 rfl d_R_y_14 ?_
      refine gk_alen X w 0 ho.2.2.1 h3 rfl (v := iN (48)) rfl d_R_y_17 ?_
      refine ri_cge (a := z) (b := 48) (tgt := 30) hx hb d_R_y_18 (by decide) rfl rfl hz (by unfold i3; omega) (fun c18 => ?_) (fun c18 => ?_)
      · skip
        refine lv_iconst (v := iN (0)) hx hb d_R_y_30 (by decide) ?_
        exact g_iret X w hrt hlk d_R_y_31 ⟨by rw [pY_big (by omega)], rfl⟩
      · skip
        refine lv_aload_n hx hb d_R_y_21 rfl (lv_at hl 0 rfl) ?_
        refine gk_get X w ho.1 h1 rfl in_R 1 (by decide) lk_R_15 rfl d_R_y_22 ?_
        refine lv_iload_n hx hb d_R_y_25 rfl (lv_at hl 1 rfl) ?_
        obtain ⟨i, q, rfl, hi, hq⟩ := px_at (P := P) c1 c9
        refine gk_iald X w 0 ho.2.2.1 h3 rfl (iN_in (by omega) (by decide)) d_R_y_26 ?_
        rw [iN_cl (by omega), (h4 i q hq).2]
        refine lv_goto (tgt := 31) hx hb d_R_y_27 (by decide) ?_
        exact g_iret X w hrt hlk d_R_y_31 ⟨by rw [pY_nat hq], rfl⟩
set_option maxHeartbeats 4000000 in
set_option maxRecDepth 100000 in
theorem c_R_size (l : Launch) {D : va_G} {cI cR : ClassId} {L : List Nat} {f : Nat → va_E} {rx ry : Nat → Nat} {a : Nat} {P : List Pt} (ho : ro L rx ry a) (hr : rowIs cI rx ry f a P) : gMi D cI cR l y_R_size (Cond.code y_R_size b_R_size 1 (some .int) :: lw_g) { frames := 0, cells := 0, slots := 0, locals := 0 } [.ref a] L f (fun r u => r = iN P.length ∧ u = (L, f)) := by
  obtain ⟨hn, h1, F1, F2, h2, h3, h4⟩ := hr
  intro sz
  refine g_enter (by decide) rfl (Nat.le_of_ble_eq_true rfl) ?_
  intro p e s m below meth cd ls X hrt hlk hnm hl hsz w
  have X : gx p m cd b_R_size 1 s _ "HullSums$Row" D cI cR := X
  have hx := X.1.1
  have hb := X.1.2.1
  have hl : lv_has ls 1 [(0, .ref a)] := hl
  refine lv_aload_n hx hb d_R_size_0 rfl (lv_at hl 0 rfl) ?_
  refine gk_get X w ho.1 h1 rfl in_R 2 (by decide) lk_R_18 rfl d_R_size_1 ?_
  exact g_iret X w hrt hlk d_R_size_4 ⟨rfl, rfl⟩
