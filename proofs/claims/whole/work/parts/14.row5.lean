/-! ROWS: what changes them. A row's store is rst of its arrays and its size over the rest. -/
def rst (cI : ClassId) (rx ry : Nat → Nat) (f : Nat → va_E) (a : Nat) (X Y : Nat → Int32) (n : Int) : Nat → va_E :=
  va_up (va_up (va_up f (rx a) (.inl (cI, 48, .inl X))) (ry a) (.inl (cI, 48, .inl Y))) a (.inr (1, [.ref (rx a), .ref (ry a), .int (iN n)]))
def chg (rx ry : Nat → Nat) (a : Nat) (f g : Nat → va_E) : Prop := ∀ q, q ≠ a → q ≠ rx a → q ≠ ry a → g q = f q
/-- two rows have no cell in common -/
def rd (rx ry : Nat → Nat) (a b : Nat) : Prop := a ≠ b ∧ a ≠ rx b ∧ a ≠ ry b ∧ rx a ≠ b ∧ rx a ≠ rx b ∧ rx a ≠ ry b ∧ ry a ≠ b ∧ ry a ≠ rx b ∧ ry a ≠ ry b
theorem rd.symm {rx ry : Nat → Nat} {a b : Nat} (h : rd rx ry a b) : rd rx ry b a := by unfold rd at *; omega
section RS
variable {cI : ClassId} {rx ry : Nat → Nat} {f g : Nat → va_E} {a b : Nat} {X Y X' Y' : Nat → Int32} {n n' : Int} {L : List Nat} {P : List Pt}
theorem rst_a : rst cI rx ry f a X Y n a = .inr (1, [.ref (rx a), .ref (ry a), .int (iN n)]) := va_up_self _ _ _
theorem rst_x (ho : ro L rx ry a) : rst cI rx ry f a X Y n (rx a) = .inl (cI, 48, .inl X) := by
  obtain ⟨-, -, -, h1, h2, h3⟩ := ho
  unfold rst
  rw [va_up_ne _ _ (by omega), va_up_ne _ _ (by omega), va_up_self]
theorem rst_y (ho : ro L rx ry a) : rst cI rx ry f a X Y n (ry a) = .inl (cI, 48, .inl Y) := by
  obtain ⟨-, -, -, h1, h2, h3⟩ := ho
  unfold rst
  rw [va_up_ne _ _ (by omega), va_up_self]
theorem rst_q {q : Nat} (h1 : q ≠ a) (h2 : q ≠ rx a) (h3 : q ≠ ry a) : rst cI rx ry f a X Y n q = f q := by
  unfold rst
  rw [va_up_ne _ _ h1, va_up_ne _ _ h3, va_up_ne _ _ h2]
theorem rst_chg : chg rx ry a f (rst cI rx ry f a X Y n) := fun _ h1 h2 h3 => rst_q h1 h2 h3
theorem rst_ux (ho : ro L rx ry a) : va_up (rst cI rx ry f a X Y n) (rx a) (.inl (cI, 48, .inl X')) = rst cI rx ry f a X' Y n := by
  obtain ⟨-, -, -, h1, h2, h3⟩ := ho
  funext q
  by_cases e1 : q = rx a
  · subst e1; rw [va_up_self]; unfold rst; rw [va_up_ne _ _ (by omega), va_up_ne _ _ (by omega), va_up_self]
  · rw [va_up_ne _ _ e1]
    unfold rst
    by_cases e2 : q = a
    · subst e2; rw [va_up_self, va_up_self]
    · rw [va_up_ne _ _ e2, va_up_ne _ _ e2]
      by_cases e3 : q = ry a
      · subst e3; rw [va_up_self, va_up_self]
      · rw [va_up_ne _ _ e3, va_up_ne _ _ e3, va_up_ne _ _ e1, va_up_ne _ _ e1]
theorem rst_uy (ho : ro L rx ry a) : va_up (rst cI rx ry f a X Y n) (ry a) (.inl (cI, 48, .inl Y')) = rst cI rx ry f a X Y' n := by
  obtain ⟨-, -, -, h1, h2, h3⟩ := ho
  funext q
  by_cases e1 : q = ry a
  · subst e1; rw [va_up_self]; unfold rst; rw [va_up_ne _ _ (by omega), va_up_self]
  · rw [va_up_ne _ _ e1]
    unfold rst
    by_cases e2 : q = a
    · subst e2; rw [va_up_self, va_up_self]
    · rw [va_up_ne _ _ e2, va_up_ne _ _ e2, va_up_ne _ _ e1, va_up_ne _ _ e1]
theorem rst_un : va_up (rst cI rx ry f a X Y n) a (.inr (1, [.ref (rx a), .ref (ry a), .int (iN n')])) = rst cI rx ry f a X Y n' := by
  funext q
  by_cases e1 : q = a
  · subst e1; rw [va_up_self, rst_a]
  · rw [va_up_ne _ _ e1]; unfold rst; rw [va_up_ne _ _ e1, va_up_ne _ _ e1]
theorem rst_0 (h1 : f a = .inr (1, [.ref (rx a), .ref (ry a), .int (iN n)])) (h2 : f (rx a) = .inl (cI, 48, .inl X)) (h3 : f (ry a) = .inl (cI, 48, .inl Y)) : rst cI rx ry f a X Y n = f := by
  funext q
  unfold rst
  by_cases e1 : q = a
  · subst e1; rw [va_up_self, h1]
  · rw [va_up_ne _ _ e1]
    by_cases e2 : q = ry a
    · subst e2; rw [va_up_self, h3]
    · rw [va_up_ne _ _ e2]
      by_cases e3 : q = rx a
      · subst e3; rw [va_up_self, h2]
      · rw [va_up_ne _ _ e3]
theorem rowIs_rst (ho : ro L rx ry a) (hn : P.length ≤ 48) (h : ∀ i q, P[i]? = some q → X i = iN q.1 ∧ Y i = iN q.2) : rowIs cI rx ry (rst cI rx ry f a X Y P.length) a P :=
  ⟨hn, rst_a, X, Y, rst_x ho, rst_y ho, h⟩
theorem rowIs_keep (hd : rd rx ry a b) (hc : chg rx ry b f g) (h : rowIs cI rx ry f a P) : rowIs cI rx ry g a P := by
  obtain ⟨h0, h1, F1, F2, h2, h3, h4⟩ := h
  obtain ⟨d1, d2, d3, d4, d5, d6, d7, d8, d9⟩ := hd
  exact ⟨h0, by rw [hc a d1 d2 d3]; exact h1, F1, F2, by rw [hc _ d4 d5 d6]; exact h2, by rw [hc _ d7 d8 d9]; exact h3, h4⟩
theorem chg_trans {h : Nat → va_E} (h1 : chg rx ry a f g) (h2 : chg rx ry a g h) : chg rx ry a f h := fun q q1 q2 q3 => (h2 q q1 q2 q3).trans (h1 q q1 q2 q3)
end RS

set_option maxHeartbeats 4000000 in
set_option maxRecDepth 100000 in
theorem c_R_empty (l : Launch) {D : va_G} {cI cR : ClassId} {L : List Nat} {f : Nat → va_E} {rx ry : Nat → Nat} {a : Nat} {P : List Pt} (ho : ro L rx ry a) (hr : rowIs cI rx ry f a P) : gMv D cI cR l y_R_empty (Cond.code y_R_empty b_R_empty 1 none :: lw_g) { frames := 0, cells := 0, slots := 0, locals := 0 } [.ref a] L f (fun u => ∃ g, u = (L, g) ∧ rowIs cI rx ry g a ([]) ∧ chg rx ry a f g) := by
  intro sz
  refine g_enter (by decide) rfl (Nat.le_of_ble_eq_true rfl) ?_
  intro p e s m below meth cd ls X hrt hlk hnm hl hsz w
  have X : gx p m cd b_R_empty 1 s _ "HullSums$Row" D cI cR := X
  have hx := X.1.1
  have hb := X.1.2.1
  have hl : lv_has ls 1 [(0, .ref a)] := hl
  obtain ⟨hn48, h1, F1, F2, h2, h3, h4⟩ := hr
  have w : gw D (gA L sz) s.heap s.heap [] L (rst cI rx ry f a F1 F2 P.length) := by rw [rst_0 h1 h2 h3]; exact w
  refine lv_aload_n hx hb d_R_empty_0 rfl (lv_at hl 0 rfl) ?_
  refine lv_iconst (v := iN (0)) hx hb d_R_empty_1 (by decide) ?_
  refine gk_put X w ho.1 rst_a rfl in_R ty_R tyok_R nm_R 2 (by decide) lk_R_18 rfl (ty := .int) (by decide +kernel) rfl rfl (Nat.le_of_ble_eq_true rfl) d_R_empty_2 (fun H locs w => ?_)
  have w : gw D (gA L sz) s.heap H locs L (rst cI rx ry f a F1 F2 0) := by rw [← rst_un (n := (P.length : Int))]; exact w
  exact g_vret X w hrt hlk d_R_empty_5 ⟨_, rfl, rowIs_rst (P := []) ho (by decide) (fun i q h => by simp at h), rst_chg⟩
set_option maxHeartbeats 4000000 in
set_option maxRecDepth 100000 in
theorem c_R_dropLast (l : Launch) {D : va_G} {cI cR : ClassId} {L : List Nat} {f : Nat → va_E} {rx ry : Nat → Nat} {a : Nat} {P : List Pt} (ho : ro L rx ry a) (hr : rowIs cI rx ry f a P) : gMv D cI cR l y_R_dropLast (Cond.code y_R_dropLast b_R_dropLast 1 none :: lw_g) { frames := 0, cells := 0, slots := 0, locals := 0 } [.ref a] L f (fun u => ∃ g, u = (L, g) ∧ rowIs cI rx ry g a (P.dropLast) ∧ chg rx ry a f g) := by
  intro sz
  refine g_enter (by decide) rfl (Nat.le_of_ble_eq_true rfl) ?_
  intro p e s m below meth cd ls X hrt hlk hnm hl hsz w
  have X : gx p m cd b_R_dropLast 1 s _ "HullSums$Row" D cI cR := X
  have hx := X.1.1
  have hb := X.1.2.1
  have hl : lv_has ls 1 [(0, .ref a)] := hl
  obtain ⟨hn48, h1, F1, F2, h2, h3, h4⟩ := hr
  have w : gw D (gA L sz) s.heap s.heap [] L (rst cI rx ry f a F1 F2 P.length) := by rw [rst_0 h1 h2 h3]; exact w
  refine lv_aload_n hx hb d_R_dropLast_0 rfl (lv_at hl 0 rfl) ?_
  refine gk_get X w ho.1 rst_a rfl in_R 2 (by decide) lk_R_18 rfl d_R_dropLast_1 ?_
  refine ri_zle (a := (P.length : Int)) (tgt := 17) hx hb d_R_dropLast_4 (by decide) rfl (by unfold i3; omega) (fun c4 => ?_) (fun c4 => ?_)
  · skip
    have hP : P = [] := List.length_eq_zero_iff.mp (by omega)
    exact g_vret X w hrt hlk d_R_dropLast_17 ⟨_, rfl, by subst hP; exact rowIs_rst (P := []) ho (by decide) (fun i q h => by simp at h), rst_chg⟩
  · skip
    refine lv_aload_n hx hb d_R_dropLast_7 rfl (lv_at hl 0 rfl) ?_
    refine lv_dup hx hb d_R_dropLast_8 rfl ?_
    refine gk_get X w ho.1 rst_a rfl in_R 2 (by decide) lk_R_18 rfl d_R_dropLast_9 ?_
    refine lv_iconst (v := iN (1)) hx hb d_R_dropLast_12 (by decide) ?_
    refine ri_sub (a := (P.length : Int)) (b := 1) hx hb d_R_dropLast_13 rfl rfl ?_
    refine gk_put X w ho.1 rst_a rfl in_R ty_R tyok_R nm_R 2 (by decide) lk_R_18 rfl (ty := .int) (by decide +kernel) rfl rfl (Nat.le_of_ble_eq_true rfl) d_R_dropLast_14 (fun H locs w => ?_)
    have w : gw D (gA L sz) s.heap H locs L (rst cI rx ry f a F1 F2 ((P.length : Int) - 1)) := by rw [← rst_un (n := (P.length : Int))]; exact w
    have e : ((P.length : Int) - 1) = ((P.dropLast.length : Nat) : Int) := by rw [List.length_dropLast]; omega
    rw [e] at w
    exact g_vret X w hrt hlk d_R_dropLast_17 ⟨_, rfl, rowIs_rst ho (by rw [List.length_dropLast]; omega) (fun i q h => h4 i q (by rw [List.getElem?_dropLast] at h; split at h; exact h; exact absurd h (by simp))), rst_chg⟩
theorem up_at {P : List Pt} {F1 F2 : Nat → Int32} {x y : Int} (h4 : ∀ i q, P[i]? = some q → F1 i = iN q.1 ∧ F2 i = iN q.2) : ∀ i q, (P ++ [(x, y)])[i]? = some q → upd F1 P.length (iN x) i = iN q.1 ∧ upd F2 P.length (iN y) i = iN q.2 := by
  intro i q h
  by_cases e : i = P.length
  · subst e
    simp at h
    subst h
    unfold upd; simp
  · rw [List.getElem?_append] at h
    split at h
    · unfold upd; rw [if_neg e, if_neg e]; exact h4 i q h
    · rename_i h5
      rw [List.getElem?_eq_none (by simp; omega)] at h
      exact absurd h (by simp)
set_option maxHeartbeats 4000000 in
set_option maxRecDepth 100000 in
theorem c_R_add (l : Launch) {D : va_G} {cI cR : ClassId} {L : List Nat} {f : Nat → va_E} {rx ry : Nat → Nat} {a : Nat} {P : List Pt} (ho : ro L rx ry a) (hr : rowIs cI rx ry f a P) (hlt : P.length < 48) {x y : Int} : gMv D cI cR l y_R_add (Cond.code y_R_add b_R_add 3 none :: lw_g) { frames := 0, cells := 0, slots := 0, locals := 0 } [.ref a, .int (iN (x)), .int (iN (y))] L f (fun u => ∃ g, u = (L, g) ∧ rowIs cI rx ry g a (P ++ [(x, y)]) ∧ chg rx ry a f g) := by
  intro sz
  refine g_enter (by decide) rfl (Nat.le_of_ble_eq_true rfl) ?_
  intro p e s m below meth cd ls X hrt hlk hnm hl hsz w
  have X : gx p m cd b_R_add 3 s _ "HullSums$Row" D cI cR := X
  have hx := X.1.1
  have hb := X.1.2.1
  have hl : lv_has ls 3 [(0, .ref a), (1, .int (iN (x))), (2, .int (iN (y)))] := hl
  obtain ⟨hn48, h1, F1, F2, h2, h3, h4⟩ := hr
  have w : gw D (gA L sz) s.heap s.heap [] L (rst cI rx ry f a F1 F2 P.length) := by rw [rst_0 h1 h2 h3]; exact w
  refine lv_aload_n hx hb d_R_add_0 rfl (lv_at hl 0 rfl) ?_
  refine gk_get X w ho.1 rst_a rfl in_R 2 (by decide) lk_R_18 rfl d_R_add_1 ?_
  refine ri_zlt (a := (P.length : Int)) (tgt := 61) hx hb d_R_add_4 (by decide) rfl (by unfold i3; omega) (fun c4 => ?_) (fun c4 => ?_)
  · skip
    omega
  · skip
    refine lv_aload_n hx hb d_R_add_7 rfl (lv_at hl 0 rfl) ?_
    refine gk_get X w ho.1 rst_a rfl in_R 2 (by decide) lk_R_18 rfl d_R_add_8 ?_
    refine lv_aload_n hx hb d_R_add_11 rfl (lv_at hl 0 rfl) ?_
    refine gk_get X w ho.1 rst_a rfl in_R 0 (by decide) lk_R_9 rfl d_R_add_12 ?_
    refine gk_alen X w 0 ho.2.1 (rst_x ho) rfl (v := iN (48)) rfl d_R_add_15 ?_
    refine ri_cge (a := (P.length : Int)) (b := 48) (tgt := 61) hx hb d_R_add_16 (by decide) rfl rfl (by unfold i3; omega) (by unfold i3; omega) (fun c16 => ?_) (fun c16 => ?_)
    · skip
      omega
    · skip
      refine lv_aload_n hx hb d_R_add_19 rfl (lv_at hl 0 rfl) ?_
      refine gk_get X w ho.1 rst_a rfl in_R 2 (by decide) lk_R_18 rfl d_R_add_20 ?_
      refine lv_aload_n hx hb d_R_add_23 rfl (lv_at hl 0 rfl) ?_
      refine gk_get X w ho.1 rst_a rfl in_R 1 (by decide) lk_R_15 rfl d_R_add_24 ?_
      refine gk_alen X w 0 ho.2.2.1 (rst_y ho) rfl (v := iN (48)) rfl d_R_add_27 ?_
      refine ri_cge (a := (P.length : Int)) (b := 48) (tgt := 61) hx hb d_R_add_28 (by decide) rfl rfl (by unfold i3; omega) (by unfold i3; omega) (fun c28 => ?_) (fun c28 => ?_)
      · skip
        omega
      · skip
        refine lv_aload_n hx hb d_R_add_31 rfl (lv_at hl 0 rfl) ?_
        refine gk_get X w ho.1 rst_a rfl in_R 0 (by decide) lk_R_9 rfl d_R_add_32 ?_
        refine lv_aload_n hx hb d_R_add_35 rfl (lv_at hl 0 rfl) ?_
        refine gk_get X w ho.1 rst_a rfl in_R 2 (by decide) lk_R_18 rfl d_R_add_36 ?_
        refine lv_iload_n hx hb d_R_add_39 rfl (lv_at hl 1 rfl) ?_
        refine gk_iast X w 0 ho.2.1 (rst_x ho) rfl (iN_in (by omega) (by decide)) d_R_add_40 (fun H locs w => ?_)
        rw [iN_cl (by omega)] at w
        have w : gw D (gA L sz) s.heap H locs L (rst cI rx ry f a (upd F1 P.length (iN (x))) F2 (P.length : Int)) := by rw [← rst_ux (X := F1) (Y := F2) ho]; exact w
        refine lv_aload_n hx hb d_R_add_41 rfl (lv_at hl 0 rfl) ?_
        refine gk_get X w ho.1 rst_a rfl in_R 1 (by decide) lk_R_15 rfl d_R_add_42 ?_
        refine lv_aload_n hx hb d_R_add_45 rfl (lv_at hl 0 rfl) ?_
        refine gk_get X w ho.1 rst_a rfl in_R 2 (by decide) lk_R_18 rfl d_R_add_46 ?_
        refine lv_iload_n hx hb d_R_add_49 rfl (lv_at hl 2 rfl) ?_
        refine gk_iast X w 0 ho.2.2.1 (rst_y ho) rfl (iN_in (by omega) (by decide)) d_R_add_50 (fun H locs w => ?_)
        rw [iN_cl (by omega)] at w
        have w : gw D (gA L sz) s.heap H locs L (rst cI rx ry f a (upd F1 P.length (iN (x))) (upd F2 P.length (iN (y))) (P.length : Int)) := by rw [← rst_uy (Y := F2) ho]; exact w
        refine lv_aload_n hx hb d_R_add_51 rfl (lv_at hl 0 rfl) ?_
        refine lv_dup hx hb d_R_add_52 rfl ?_
        refine gk_get X w ho.1 rst_a rfl in_R 2 (by decide) lk_R_18 rfl d_R_add_53 ?_
        refine lv_iconst (v := iN (1)) hx hb d_R_add_56 (by decide) ?_
        refine ri_add (a := (P.length : Int)) (b := 1) hx hb d_R_add_57 rfl rfl ?_
        refine gk_put X w ho.1 rst_a rfl in_R ty_R tyok_R nm_R 2 (by decide) lk_R_18 rfl (ty := .int) (by decide +kernel) rfl rfl (Nat.le_of_ble_eq_true rfl) d_R_add_58 (fun H locs w => ?_)
        have w : gw D (gA L sz) s.heap H locs L (rst cI rx ry f a (upd F1 P.length (iN (x))) (upd F2 P.length (iN (y))) ((P.length : Int) + 1)) := by rw [← rst_un (n := (P.length : Int))]; exact w
        rw [show ((P.length : Int) + 1) = (((P ++ [(x, y)]).length : Nat) : Int) by simp] at w
        exact g_vret X w hrt hlk d_R_add_61 ⟨_, rfl, rowIs_rst ho (by simp; omega) (up_at h4), rst_chg⟩
