/-! ROWS: asked of all points of a row -/
theorem px_get {P : List Pt} {i : Int} (h0 : 0 ≤ i) (h1 : i < P.length) : ∃ (k : Nat) (q : Pt), i = k ∧ P[k]? = some q ∧ pX P i = q.1 ∧ pY P i = q.2 := by
  obtain ⟨k, q, e, _, hq⟩ := px_at (P := P) (z := i) (by omega) (by omega)
  subst e
  exact ⟨k, q, rfl, hq, pX_nat hq, pY_nat hq⟩
def pin (P : List Pt) (n : Int) (x y : Int) : Prop := ∃ i : Int, 0 ≤ i ∧ i < n ∧ pX P i = x ∧ pY P i = y
theorem pin_mem {P : List Pt} {x y : Int} : pin P P.length x y ↔ (x, y) ∈ P := by
  constructor
  · rintro ⟨i, h0, h1, hx, hy⟩
    obtain ⟨k, q, e, hq, ex, ey⟩ := px_get h0 h1
    have : q = (x, y) := by rw [← hx, ← hy, ex, ey]
    rw [← this]
    exact List.mem_of_getElem? hq
  · intro h
    obtain ⟨k, hk⟩ := List.getElem?_of_mem h
    have hlt : k < P.length := (List.getElem?_eq_some_iff.mp hk).1
    exact ⟨k, by omega, by omega, pX_nat hk, pY_nat hk⟩

set_option maxHeartbeats 4000000 in
set_option maxRecDepth 100000 in
theorem c_R_has (l : Launch) {D : va_G} {cI cR : ClassId} {L : List Nat} {f : Nat → va_E} {rx ry : Nat → Nat} {a : Nat} {P : List Pt} (ho : ro L rx ry a) (hr : rowIs cI rx ry f a P) (hB : pb 600 P) {x y : Int} (hx3 : i3 x) (hy3 : i3 y) : gMi D cI cR l y_R_has (Cond.code y_R_has b_R_has 4 (some .boolean) :: lw_g) { frames := 1, cells := 0, slots := 0, locals := 21 } [.ref a, .int (iN (x)), .int (iN (y))] L f (fun r u => r = iN (bI (pin P P.length x y)) ∧ u = (L, f)) := by
  intro sz
  refine g_enter (by decide) rfl (Nat.le_of_ble_eq_true rfl) ?_
  intro p e s m below meth cd ls X hrt hlk hnm hl hsz w
  have X : gx p m cd b_R_has 4 s _ "HullSums$Row" D cI cR := X
  have hx := X.1.1
  have hb := X.1.2.1
  have hl : lv_has ls 4 [(0, .ref a), (1, .int (iN (x))), (2, .int (iN (y)))] := hl
  have hn48 := hr.1
  refine lv_iconst (v := iN (0)) hx hb d_R_has_0 (by decide) ?_
  refine lv_istore_n (lv' := [(3, .int (iN (0))), (0, .ref a), (1, .int (iN (x))), (2, .int (iN (y)))]) hx hb d_R_has_1 rfl hl (by decide) rfl (fun ls hl => ?_)
  refine g_loop (σ := Int) (fun z9 => (P.length - z9).toNat) (fun z9 => [(0, .ref a), (1, .int (iN (x))), (2, .int (iN (y))), (3, .int (iN (z9)))]) L (fun z9 => f) (fun z9 => 0 ≤ z9 ∧ z9 ≤ P.length ∧ ¬ pin P z9 x y) ?_ 0 _ _ _ ⟨by omega, by omega, fun ⟨_, q0, q1, _⟩ => by omega⟩ w (lv_sub hl [1, 2, 3, 0] rfl)
  intro i H locs ls hI w hl ih
  have hl : lv_has ls 4 [(0, .ref a), (1, .int (iN (x))), (2, .int (iN (y))), (3, .int (iN (i)))] := hl
  have w : gw D (gA L sz) s.heap H locs L (f) := w
  have hI : 0 ≤ i ∧ i ≤ P.length ∧ ¬ pin P i x y := hI
  obtain ⟨h0, h1, h2⟩ := hI
  refine lv_iload_n hx hb d_R_has_2 rfl (lv_at hl 3 rfl) ?_
  refine lv_aload_n hx hb d_R_has_3 rfl (lv_at hl 0 rfl) ?_
  refine gk_get X w ho.1 hr.2.1 rfl in_R 2 (by decide) lk_R_18 rfl d_R_has_4 ?_
  refine ri_cge (a := i) (b := (P.length : Int)) (tgt := 36) hx hb d_R_has_7 (by decide) rfl rfl (by have := hr.1; unfold i3; omega) (by have := hr.1; unfold i3; omega) (fun c7 => ?_) (fun c7 => ?_)
  · skip
    refine lv_iconst (v := iN (0)) hx hb d_R_has_36 (by decide) ?_
    exact g_zret X w hrt hlk d_R_has_37 rfl ⟨by rw [bI_f (fun h => h2 (by obtain ⟨j, q0, q1, q2⟩ := h; exact ⟨j, q0, by omega, q2⟩))], rfl⟩
  · skip
    refine lv_aload_n hx hb d_R_has_10 rfl (lv_at hl 0 rfl) ?_
    refine lv_iload_n hx hb d_R_has_11 rfl (lv_at hl 3 rfl) ?_
    refine g_ci w (g_runV (As := [.int (iN (i))]) (rest := []) X w (c_R_x l ho hr (by unfold i3; omega)) k_R_x v_R_x lk_R_22 ho.1 hr.2.1 rfl ⟨(Nat.le_of_ble_eq_true rfl), (Nat.le_of_ble_eq_true rfl)⟩ rfl hl.1 rfl (Nat.le_of_ble_eq_true rfl) d_R_has_12 ⟨Nat.zero_le _, Nat.zero_le _⟩) (fun r u H locs hp w => ?_)
    obtain ⟨rfl, rfl⟩ := hp
    have w : gw D (gA L sz) s.heap H locs L f := w
    refine lv_iload_n hx hb d_R_has_15 rfl (lv_at hl 1 rfl) ?_
    refine ri_cne (a := (pX P i)) (b := x) (tgt := 30) hx hb d_R_has_16 (by decide) rfl rfl (pX_3 hB _) hx3 (fun c16 => ?_) (fun c16 => ?_)
    · skip
      refine lv_iinc (v := iN ((i + 1))) (lv' := [(3, .int (iN ((i + 1)))), (0, .ref a), (1, .int (iN (x))), (2, .int (iN (y)))]) hx hb d_R_has_30 hl (k := 3) rfl (by rw [show (i + 1) = i + (1 : Int) by omega, ← iN_add]; rfl) (by decide) rfl (fun ls hl => ?_)
      refine lv_goto (tgt := 2) hx hb d_R_has_33 (by decide) ?_
      exact ih (i + 1) _ _ _ (by omega) ⟨by omega, by omega, fun ⟨j, q0, q1, q2, q3⟩ => (by by_cases e : j = i; (subst e; first | exact absurd q2 c16 | exact absurd q3 c25 | simp_all); exact h2 ⟨j, q0, by omega, q2, q3⟩)⟩ w (lv_sub hl [1, 2, 3, 0] rfl)
    · skip
      refine lv_aload_n hx hb d_R_has_19 rfl (lv_at hl 0 rfl) ?_
      refine lv_iload_n hx hb d_R_has_20 rfl (lv_at hl 3 rfl) ?_
      refine g_ci w (g_runV (As := [.int (iN (i))]) (rest := []) X w (c_R_y l ho hr (by unfold i3; omega)) k_R_y v_R_y lk_R_26 ho.1 hr.2.1 rfl ⟨(Nat.le_of_ble_eq_true rfl), (Nat.le_of_ble_eq_true rfl)⟩ rfl hl.1 rfl (Nat.le_of_ble_eq_true rfl) d_R_has_21 ⟨Nat.zero_le _, Nat.zero_le _⟩) (fun r u H locs hp w => ?_)
      obtain ⟨rfl, rfl⟩ := hp
      have w : gw D (gA L sz) s.heap H locs L f := w
      refine lv_iload_n hx hb d_R_has_24 rfl (lv_at hl 2 rfl) ?_
      refine ri_cne (a := (pY P i)) (b := y) (tgt := 30) hx hb d_R_has_25 (by decide) rfl rfl (pY_3 hB _) hy3 (fun c25 => ?_) (fun c25 => ?_)
      · skip
        refine lv_iinc (v := iN ((i + 1))) (lv' := [(3, .int (iN ((i + 1)))), (0, .ref a), (1, .int (iN (x))), (2, .int (iN (y)))]) hx hb d_R_has_30 hl (k := 3) rfl (by rw [show (i + 1) = i + (1 : Int) by omega, ← iN_add]; rfl) (by decide) rfl (fun ls hl => ?_)
        refine lv_goto (tgt := 2) hx hb d_R_has_33 (by decide) ?_
        exact ih (i + 1) _ _ _ (by omega) ⟨by omega, by omega, fun ⟨j, q0, q1, q2, q3⟩ => (by by_cases e : j = i; (subst e; first | exact absurd q2 c16 | exact absurd q3 c25 | simp_all); exact h2 ⟨j, q0, by omega, q2, q3⟩)⟩ w (lv_sub hl [1, 2, 3, 0] rfl)
      · skip
        refine lv_iconst (v := iN (1)) hx hb d_R_has_28 (by decide) ?_
        exact g_zret X w hrt hlk d_R_has_29 rfl ⟨by rw [bI_t ⟨i, h0, by omega, by simp_all, by simp_all⟩], rfl⟩
def thin (P : List Pt) (x y : Int) : Prop := P.length ≠ 0 ∧ pT P 0 (P.length - 1) x y = 0 ∧ min (pX P 0) (pX P (P.length - 1)) ≤ x ∧ x ≤ max (pX P 0) (pX P (P.length - 1)) ∧ min (pY P 0) (pY P (P.length - 1)) ≤ y ∧ y ≤ max (pY P 0) (pY P (P.length - 1))
set_option maxHeartbeats 4000000 in
set_option maxRecDepth 100000 in
theorem c_R_isOnThin (l : Launch) {D : va_G} {cI cR : ClassId} {L : List Nat} {f : Nat → va_E} {rx ry : Nat → Nat} {a : Nat} {P : List Pt} (ho : ro L rx ry a) (hr : rowIs cI rx ry f a P) (hB : pb 600 P) {x y : Int} (hx0 : -1000 ≤ x ∧ x ≤ 1000) (hy0 : -1000 ≤ y ∧ y ≤ 1000) : gMi D cI cR l y_R_isOnThin (Cond.code y_R_isOnThin b_R_isOnThin 4 (some .boolean) :: lw_g) { frames := 2, cells := 0, slots := 0, locals := 45 } [.ref a, .int (iN (x)), .int (iN (y))] L f (fun r u => r = iN (bI (thin P x y)) ∧ u = (L, f)) := by
  intro sz
  refine g_enter (by decide) rfl (Nat.le_of_ble_eq_true rfl) ?_
  intro p e s m below meth cd ls X hrt hlk hnm hl hsz w
  have X : gx p m cd b_R_isOnThin 4 s _ "HullSums$Row" D cI cR := X
  have hx := X.1.1
  have hb := X.1.2.1
  have hl : lv_has ls 4 [(0, .ref a), (1, .int (iN (x))), (2, .int (iN (y)))] := hl
  have hn48 := hr.1
  refine lv_aload_n hx hb d_R_isOnThin_0 rfl (lv_at hl 0 rfl) ?_
  refine gk_get X w ho.1 hr.2.1 rfl in_R 2 (by decide) lk_R_18 rfl d_R_isOnThin_1 ?_
  refine ri_zne (a := (P.length : Int)) (tgt := 9) hx hb d_R_isOnThin_4 (by decide) rfl (by have := hr.1; unfold i3; omega) (fun c4 => ?_) (fun c4 => ?_)
  · skip
    refine lv_aload_n hx hb d_R_isOnThin_9 rfl (lv_at hl 0 rfl) ?_
    refine gk_get X w ho.1 hr.2.1 rfl in_R 2 (by decide) lk_R_18 rfl d_R_isOnThin_10 ?_
    refine lv_iconst (v := iN (1)) hx hb d_R_isOnThin_13 (by decide) ?_
    refine ri_sub (a := (P.length : Int)) (b := 1) hx hb d_R_isOnThin_14 rfl rfl ?_
    refine lv_istore_n (lv' := [(3, .int (iN (((P.length : Int) - 1)))), (0, .ref a), (1, .int (iN (x))), (2, .int (iN (y)))]) hx hb d_R_isOnThin_15 rfl hl (by decide) rfl (fun ls hl => ?_)
    refine lv_aload_n hx hb d_R_isOnThin_16 rfl (lv_at hl 1 rfl) ?_
    refine lv_iconst (v := iN (0)) hx hb d_R_isOnThin_17 (by decide) ?_
    refine lv_iload_n hx hb d_R_isOnThin_18 rfl (lv_at hl 0 rfl) ?_
    refine lv_iload_n hx hb d_R_isOnThin_19 rfl (lv_at hl 2 rfl) ?_
    refine lv_iload_n hx hb d_R_isOnThin_20 rfl (lv_at hl 3 rfl) ?_
    refine g_ci w (g_runV (As := [.int (iN (0)), .int (iN (((P.length : Int) - 1))), .int (iN (x)), .int (iN (y))]) (rest := []) X w (c_R_turn l ho hr (x := x) (y := y) (by omega) (by have := hr.1; omega)) k_R_turn v_R_turn lk_R_50 ho.1 hr.2.1 rfl ⟨(Nat.le_of_ble_eq_true rfl), (Nat.le_of_ble_eq_true rfl)⟩ rfl hl.1 rfl (Nat.le_of_ble_eq_true rfl) d_R_isOnThin_21 ⟨Nat.zero_le _, Nat.zero_le _⟩) (fun r u H locs hp w => ?_)
    obtain ⟨rfl, rfl⟩ := hp
    have w : gw D (gA L sz) s.heap H locs L f := w
    refine ri_zne (a := (pT P 0 ((P.length : Int) - 1) x y)) (tgt := 99) hx hb d_R_isOnThin_24 (by decide) rfl (pT_3 hB _ _ hx0 hy0) (fun c24 => ?_) (fun c24 => ?_)
    · skip
      refine lv_iconst (v := iN (0)) hx hb d_R_isOnThin_99 (by decide) ?_
      exact g_zret X w hrt hlk d_R_isOnThin_100 rfl ⟨by rw [bI_f (fun h => by obtain ⟨q1, q2, q3, q4, q5, q6⟩ := h; omega)], rfl⟩
    · skip
      refine lv_iload_n hx hb d_R_isOnThin_27 rfl (lv_at hl 2 rfl) ?_
      refine lv_aload_n hx hb d_R_isOnThin_28 rfl (lv_at hl 1 rfl) ?_
      refine lv_iconst (v := iN (0)) hx hb d_R_isOnThin_29 (by decide) ?_
      refine g_ci w (g_runV (As := [.int (iN (0))]) (rest := [.int (iN (x))]) X w (c_R_x l ho hr (by unfold i3; omega)) k_R_x v_R_x lk_R_22 ho.1 hr.2.1 rfl ⟨(Nat.le_of_ble_eq_true rfl), (Nat.le_of_ble_eq_true rfl)⟩ rfl hl.1 rfl (Nat.le_of_ble_eq_true rfl) d_R_isOnThin_30 ⟨Nat.zero_le _, Nat.zero_le _⟩) (fun r u H locs hp w => ?_)
      obtain ⟨rfl, rfl⟩ := hp
      have w : gw D (gA L sz) s.heap H locs L f := w
      refine lv_aload_n hx hb d_R_isOnThin_33 rfl (lv_at hl 1 rfl) ?_
      refine lv_iload_n hx hb d_R_isOnThin_34 rfl (lv_at hl 0 rfl) ?_
      refine g_ci w (g_runV (As := [.int (iN (((P.length : Int) - 1)))]) (rest := [.int (iN ((pX P 0))), .int (iN (x))]) X w (c_R_x l ho hr (by have := hr.1; unfold i3; omega)) k_R_x v_R_x lk_R_22 ho.1 hr.2.1 rfl ⟨(Nat.le_of_ble_eq_true rfl), (Nat.le_of_ble_eq_true rfl)⟩ rfl hl.1 rfl (Nat.le_of_ble_eq_true rfl) d_R_isOnThin_35 ⟨Nat.zero_le _, Nat.zero_le _⟩) (fun r u H locs hp w => ?_)
      obtain ⟨rfl, rfl⟩ := hp
      have w : gw D (gA L sz) s.heap H locs L f := w
      refine ri_mmin (a := (pX P 0)) (b := (pX P ((P.length : Int) - 1))) X hl.1 lk_R_85 (Nat.le_of_ble_eq_true rfl) (Nat.le_of_ble_eq_true rfl) (Nat.zero_le _) (Nat.zero_le _) rfl rfl (pX_3 hB _) (pX_3 hB _) d_R_isOnThin_38 ?_
      refine ri_clt (a := x) (b := (min (pX P 0) (pX P ((P.length : Int) - 1)))) (tgt := 99) hx hb d_R_isOnThin_41 (by decide) rfl rfl (by unfold i3; omega) (by have := pX_3 hB 0; have := pX_3 hB (P.length - 1); unfold i3 at *; omega) (fun c41 => ?_) (fun c41 => ?_)
      · skip
        refine lv_iconst (v := iN (0)) hx hb d_R_isOnThin_99 (by decide) ?_
        exact g_zret X w hrt hlk d_R_isOnThin_100 rfl ⟨by rw [bI_f (fun h => by obtain ⟨q1, q2, q3, q4, q5, q6⟩ := h; omega)], rfl⟩
      · skip
        refine lv_iload_n hx hb d_R_isOnThin_44 rfl (lv_at hl 2 rfl) ?_
        refine lv_aload_n hx hb d_R_isOnThin_45 rfl (lv_at hl 1 rfl) ?_
        refine lv_iconst (v := iN (0)) hx hb d_R_isOnThin_46 (by decide) ?_
        refine g_ci w (g_runV (As := [.int (iN (0))]) (rest := [.int (iN (x))]) X w (c_R_x l ho hr (by unfold i3; omega)) k_R_x v_R_x lk_R_22 ho.1 hr.2.1 rfl ⟨(Nat.le_of_ble_eq_true rfl), (Nat.le_of_ble_eq_true rfl)⟩ rfl hl.1 rfl (Nat.le_of_ble_eq_true rfl) d_R_isOnThin_47 ⟨Nat.zero_le _, Nat.zero_le _⟩) (fun r u H locs hp w => ?_)
        obtain ⟨rfl, rfl⟩ := hp
        have w : gw D (gA L sz) s.heap H locs L f := w
        refine lv_aload_n hx hb d_R_isOnThin_50 rfl (lv_at hl 1 rfl) ?_
        refine lv_iload_n hx hb d_R_isOnThin_51 rfl (lv_at hl 0 rfl) ?_
        refine g_ci w (g_runV (As := [.int (iN (((P.length : Int) - 1)))]) (rest := [.int (iN ((pX P 0))), .int (iN (x))]) X w (c_R_x l ho hr (by have := hr.1; unfold i3; omega)) k_R_x v_R_x lk_R_22 ho.1 hr.2.1 rfl ⟨(Nat.le_of_ble_eq_true rfl), (Nat.le_of_ble_eq_true rfl)⟩ rfl hl.1 rfl (Nat.le_of_ble_eq_true rfl) d_R_isOnThin_52 ⟨Nat.zero_le _, Nat.zero_le _⟩) (fun r u H locs hp w => ?_)
        obtain ⟨rfl, rfl⟩ := hp
        have w : gw D (gA L sz) s.heap H locs L f := w
        refine ri_mmax (a := (pX P 0)) (b := (pX P ((P.length : Int) - 1))) X hl.1 lk_R_68 (Nat.le_of_ble_eq_true rfl) (Nat.le_of_ble_eq_true rfl) (Nat.zero_le _) (Nat.zero_le _) rfl rfl (pX_3 hB _) (pX_3 hB _) d_R_isOnThin_55 ?_
        refine ri_cgt (a := x) (b := (max (pX P 0) (pX P ((P.length : Int) - 1)))) (tgt := 99) hx hb d_R_isOnThin_58 (by decide) rfl rfl (by unfold i3; omega) (by have := pX_3 hB 0; have := pX_3 hB (P.length - 1); unfold i3 at *; omega) (fun c58 => ?_) (fun c58 => ?_)
        · skip
          refine lv_iconst (v := iN (0)) hx hb d_R_isOnThin_99 (by decide) ?_
          exact g_zret X w hrt hlk d_R_isOnThin_100 rfl ⟨by rw [bI_f (fun h => by obtain ⟨q1, q2, q3, q4, q5, q6⟩ := h; omega)], rfl⟩
        · skip
          refine lv_iload_n hx hb d_R_isOnThin_61 rfl (lv_at hl 3 rfl) ?_
          refine lv_aload_n hx hb d_R_isOnThin_62 rfl (lv_at hl 1 rfl) ?_
          refine lv_iconst (v := iN (0)) hx hb d_R_isOnThin_63 (by decide) ?_
          refine g_ci w (g_runV (As := [.int (iN (0))]) (rest := [.int (iN (y))]) X w (c_R_y l ho hr (by unfold i3; omega)) k_R_y v_R_y lk_R_26 ho.1 hr.2.1 rfl ⟨(Nat.le_of_ble_eq_true rfl), (Nat.le_of_ble_eq_true rfl)⟩ rfl hl.1 rfl (Nat.le_of_ble_eq_true rfl) d_R_isOnThin_64 ⟨Nat.zero_le _, Nat.zero_le _⟩) (fun r u H locs hp w => ?_)
          obtain ⟨rfl, rfl⟩ := hp
          have w : gw D (gA L sz) s.heap H locs L f := w
          refine lv_aload_n hx hb d_R_isOnThin_67 rfl (lv_at hl 1 rfl) ?_
          refine lv_iload_n hx hb d_R_isOnThin_68 rfl (lv_at hl 0 rfl) ?_
          refine g_ci w (g_runV (As := [.int (iN (((P.length : Int) - 1)))]) (rest := [.int (iN ((pY P 0))), .int (iN (y))]) X w (c_R_y l ho hr (by have := hr.1; unfold i3; omega)) k_R_y v_R_y lk_R_26 ho.1 hr.2.1 rfl ⟨(Nat.le_of_ble_eq_true rfl), (Nat.le_of_ble_eq_true rfl)⟩ rfl hl.1 rfl (Nat.le_of_ble_eq_true rfl) d_R_isOnThin_69 ⟨Nat.zero_le _, Nat.zero_le _⟩) (fun r u H locs hp w => ?_)
          obtain ⟨rfl, rfl⟩ := hp
          have w : gw D (gA L sz) s.heap H locs L f := w
          refine ri_mmin (a := (pY P 0)) (b := (pY P ((P.length : Int) - 1))) X hl.1 lk_R_85 (Nat.le_of_ble_eq_true rfl) (Nat.le_of_ble_eq_true rfl) (Nat.zero_le _) (Nat.zero_le _) rfl rfl (pY_3 hB _) (pY_3 hB _) d_R_isOnThin_72 ?_
          refine ri_clt (a := y) (b := (min (pY P 0) (pY P ((P.length : Int) - 1)))) (tgt := 99) hx hb d_R_isOnThin_75 (by decide) rfl rfl (by unfold i3; omega) (by have := pY_3 hB 0; have := pY_3 hB (P.length - 1); unfold i3 at *; omega) (fun c75 => ?_) (fun c75 => ?_)
          · skip
            refine lv_iconst (v := iN (0)) hx hb d_R_isOnThin_99 (by decide) ?_
            exact g_zret X w hrt hlk d_R_isOnThin_100 rfl ⟨by rw [bI_f (fun h => by obtain ⟨q1, q2, q3, q4, q5, q6⟩ := h; omega)], rfl⟩
          · skip
            refine lv_iload_n hx hb d_R_isOnThin_78 rfl (lv_at hl 3 rfl) ?_
            refine lv_aload_n hx hb d_R_isOnThin_79 rfl (lv_at hl 1 rfl) ?_
            refine lv_iconst (v := iN (0)) hx hb d_R_isOnThin_80 (by decide) ?_
            refine g_ci w (g_runV (As := [.int (iN (0))]) (rest := [.int (iN (y))]) X w (c_R_y l ho hr (by unfold i3; omega)) k_R_y v_R_y lk_R_26 ho.1 hr.2.1 rfl ⟨(Nat.le_of_ble_eq_true rfl), (Nat.le_of_ble_eq_true rfl)⟩ rfl hl.1 rfl (Nat.le_of_ble_eq_true rfl) d_R_isOnThin_81 ⟨Nat.zero_le _, Nat.zero_le _⟩) (fun r u H locs hp w => ?_)
            obtain ⟨rfl, rfl⟩ := hp
            have w : gw D (gA L sz) s.heap H locs L f := w
            refine lv_aload_n hx hb d_R_isOnThin_84 rfl (lv_at hl 1 rfl) ?_
            refine lv_iload_n hx hb d_R_isOnThin_85 rfl (lv_at hl 0 rfl) ?_
            refine g_ci w (g_runV (As := [.int (iN (((P.length : Int) - 1)))]) (rest := [.int (iN ((pY P 0))), .int (iN (y))]) X w (c_R_y l ho hr (by have := hr.1; unfold i3; omega)) k_R_y v_R_y lk_R_26 ho.1 hr.2.1 rfl ⟨(Nat.le_of_ble_eq_true rfl), (Nat.le_of_ble_eq_true rfl)⟩ rfl hl.1 rfl (Nat.le_of_ble_eq_true rfl) d_R_isOnThin_86 ⟨Nat.zero_le _, Nat.zero_le _⟩) (fun r u H locs hp w => ?_)
            obtain ⟨rfl, rfl⟩ := hp
            have w : gw D (gA L sz) s.heap H locs L f := w
            refine ri_mmax (a := (pY P 0)) (b := (pY P ((P.length : Int) - 1))) X hl.1 lk_R_68 (Nat.le_of_ble_eq_true rfl) (Nat.le_of_ble_eq_true rfl) (Nat.zero_le _) (Nat.zero_le _) rfl rfl (pY_3 hB _) (pY_3 hB _) d_R_isOnThin_89 ?_
            refine ri_cgt (a := y) (b := (max (pY P 0) (pY P ((P.length : Int) - 1)))) (tgt := 99) hx hb d_R_isOnThin_92 (by decide) rfl rfl (by unfold i3; omega) (by have := pY_3 hB 0; have := pY_3 hB (P.length - 1); unfold i3 at *; omega) (fun c92 => ?_) (fun c92 => ?_)
            · skip
              refine lv_iconst (v := iN (0)) hx hb d_R_isOnThin_99 (by decide) ?_
              exact g_zret X w hrt hlk d_R_isOnThin_100 rfl ⟨by rw [bI_f (fun h => by obtain ⟨q1, q2, q3, q4, q5, q6⟩ := h; omega)], rfl⟩
            · skip
              refine lv_iconst (v := iN (1)) hx hb d_R_isOnThin_95 (by decide) ?_
              refine lv_goto (tgt := 100) hx hb d_R_isOnThin_96 (by decide) ?_
              exact g_zret X w hrt hlk d_R_isOnThin_100 rfl ⟨by rw [bI_t ⟨by omega, by omega, by omega, by omega, by omega, by omega⟩], rfl⟩
  · skip
    refine lv_iconst (v := iN (0)) hx hb d_R_isOnThin_7 (by decide) ?_
    exact g_zret X w hrt hlk d_R_isOnThin_8 rfl ⟨by rw [bI_f (fun h => by obtain ⟨q1, q2, q3, q4, q5, q6⟩ := h; omega)], rfl⟩
def out_ (P : List Pt) (n x y : Int) : Prop := ∃ i : Int, 0 ≤ i ∧ i < n ∧ off P i x y < 0
def bor_ (P : List Pt) (n x y : Int) : Prop := ∃ i : Int, 0 ≤ i ∧ i < n ∧ off P i x y = 0
noncomputable def plc (P : List Pt) (x y : Int) : Int := if P.length < 3 then bI (thin P x y) else (1 - bI (out_ P P.length x y)) * (2 - bI (bor_ P P.length x y))
theorem out_s {P : List Pt} {i x y : Int} (h : ¬ out_ P i x y) (h2 : ¬ off P i x y < 0) : ¬ out_ P (i + 1) x y := by
  rintro ⟨j, q0, q1, q2⟩
  by_cases e : j = i
  · subst e; exact h2 q2
  · exact h ⟨j, q0, by omega, q2⟩
theorem bor_s {P : List Pt} {i x y : Int} (h2 : ¬ off P i x y = 0) : bor_ P (i + 1) x y ↔ bor_ P i x y := by
  constructor
  · rintro ⟨j, q0, q1, q2⟩
    by_cases e : j = i
    · subst e; exact absurd q2 h2
    · exact ⟨j, q0, by omega, q2⟩
  · rintro ⟨j, q0, q1, q2⟩; exact ⟨j, q0, by omega, q2⟩

set_option maxHeartbeats 4000000 in
set_option maxRecDepth 100000 in
theorem c_R_place (l : Launch) {D : va_G} {cI cR : ClassId} {L : List Nat} {f : Nat → va_E} {rx ry : Nat → Nat} {a : Nat} {P : List Pt} (ho : ro L rx ry a) (hr : rowIs cI rx ry f a P) (hB : pb 600 P) {x y : Int} (hx0 : -1000 ≤ x ∧ x ≤ 1000) (hy0 : -1000 ≤ y ∧ y ≤ 1000) : gMi D cI cR l y_R_place (Cond.code y_R_place b_R_place 6 (some .int) :: lw_g) { frames := 3, cells := 0, slots := 0, locals := 68 } [.ref a, .int (iN (x)), .int (iN (y))] L f (fun r u => r = iN (plc P x y) ∧ u = (L, f)) := by
  intro sz
  refine g_enter (by decide) rfl (Nat.le_of_ble_eq_true rfl) ?_
  intro p e s m below meth cd ls X hrt hlk hnm hl hsz w
  have X : gx p m cd b_R_place 6 s _ "HullSums$Row" D cI cR := X
  have hx := X.1.1
  have hb := X.1.2.1
  have hl : lv_has ls 6 [(0, .ref a), (1, .int (iN (x))), (2, .int (iN (y)))] := hl
  have hn48 := hr.1
  refine lv_aload_n hx hb d_R_place_0 rfl (lv_at hl 0 rfl) ?_
  refine gk_get X w ho.1 hr.2.1 rfl in_R 2 (by decide) lk_R_18 rfl d_R_place_1 ?_
  refine lv_iconst (v := iN (3)) hx hb d_R_place_4 (by decide) ?_
  refine ri_cge (a := (P.length : Int)) (b := 3) (tgt := 23) hx hb d_R_place_5 (by decide) rfl rfl (by have := hr.1; unfold i3; omega) (by unfold i3; omega) (fun c5 => ?_) (fun c5 => ?_)
  · skip
    refine lv_iconst (v := iN (2)) hx hb d_R_place_23 (by decide) ?_
    refine lv_istore_n (lv' := [(3, .int (iN (2))), (0, .ref a), (1, .int (iN (x))), (2, .int (iN (y)))]) hx hb d_R_place_24 rfl hl (by decide) rfl (fun ls hl => ?_)
    refine lv_iconst (v := iN (0)) hx hb d_R_place_25 (by decide) ?_
    refine lv_istore (lv' := [(4, .int (iN (0))), (3, .int (iN (2))), (0, .ref a), (1, .int (iN (x))), (2, .int (iN (y)))]) hx hb d_R_place_26 hl (by decide) rfl (fun ls hl => ?_)
    refine g_loop (σ := Int × Int) (fun z9 => (P.length - z9.1).toNat) (fun z9 => [(0, .ref a), (1, .int (iN (x))), (2, .int (iN (y))), (3, .int (iN (z9.2))), (4, .int (iN (z9.1)))]) L (fun z9 => f) (fun z9 => 0 ≤ z9.1 ∧ z9.1 ≤ P.length ∧ ¬ out_ P z9.1 x y ∧ z9.2 = 2 - bI (bor_ P z9.1 x y)) ?_ (0, 2) _ _ _ ⟨by omega, by omega, fun ⟨_, q0, q1, _⟩ => by omega, by rw [bI_f (fun ⟨_, q0, q1, _⟩ => by omega)]; rfl⟩ w (lv_sub hl [2, 3, 4, 1, 0] rfl)
    intro z9 H locs ls hI w hl ih
    obtain ⟨i, k⟩ := z9
    have hl : lv_has ls 6 [(0, .ref a), (1, .int (iN (x))), (2, .int (iN (y))), (3, .int (iN (k))), (4, .int (iN (i)))] := hl
    have w : gw D (gA L sz) s.heap H locs L (f) := w
    have hI : 0 ≤ i ∧ i ≤ P.length ∧ ¬ out_ P i x y ∧ k = 2 - bI (bor_ P i x y) := hI
    obtain ⟨h0, h1, h2, h3⟩ := hI
    refine lv_iload hx hb d_R_place_28 (lv_at hl 4 rfl) ?_
    refine lv_aload_n hx hb d_R_place_30 rfl (lv_at hl 0 rfl) ?_
    refine gk_get X w ho.1 hr.2.1 rfl in_R 2 (by decide) lk_R_18 rfl d_R_place_31 ?_
    refine ri_cge (a := i) (b := (P.length : Int)) (tgt := 67) hx hb d_R_place_34 (by decide) rfl rfl (by have := hr.1; unfold i3; omega) (by have := hr.1; unfold i3; omega) (fun c34 => ?_) (fun c34 => ?_)
    · skip
      refine lv_iload_n hx hb d_R_place_67 rfl (lv_at hl 3 rfl) ?_
      exact g_iret X w hrt hlk d_R_place_68 ⟨by unfold plc; rw [if_neg (by omega), show (P.length : Int) = i by omega, bI_f h2, h3]; simp, rfl⟩
    · skip
      refine lv_aload_n hx hb d_R_place_37 rfl (lv_at hl 0 rfl) ?_
      refine lv_iload hx hb d_R_place_38 (lv_at hl 4 rfl) ?_
      refine lv_iload_n hx hb d_R_place_40 rfl (lv_at hl 1 rfl) ?_
      refine lv_iload_n hx hb d_R_place_41 rfl (lv_at hl 2 rfl) ?_
      refine g_ci w (g_runV (As := [.int (iN (i)), .int (iN (x)), .int (iN (y))]) (rest := []) X w (c_R_offSide l ho hr (x := x) (y := y) (by have := hr.1; omega)) k_R_offSide v_R_offSide lk_R_64 ho.1 hr.2.1 rfl ⟨(Nat.le_of_ble_eq_true rfl), (Nat.le_of_ble_eq_true rfl)⟩ rfl hl.1 rfl (Nat.le_of_ble_eq_true rfl) d_R_place_42 ⟨Nat.zero_le _, Nat.zero_le _⟩) (fun r u H locs hp w => ?_)
      obtain ⟨rfl, rfl⟩ := hp
      have w : gw D (gA L sz) s.heap H locs L f := w
      refine lv_istore (lv' := [(5, .int (iN ((off P i x y)))), (0, .ref a), (1, .int (iN (x))), (2, .int (iN (y))), (3, .int (iN (k))), (4, .int (iN (i)))]) hx hb d_R_place_45 hl (by decide) rfl (fun ls hl => ?_)
      refine lv_iload hx hb d_R_place_47 (lv_at hl 0 rfl) ?_
      refine ri_zge (a := (off P i x y)) (tgt := 54) hx hb d_R_place_49 (by decide) rfl (pT_3 hB _ _ hx0 hy0) (fun c49 => ?_) (fun c49 => ?_)
      · skip
        refine lv_iload hx hb d_R_place_54 (lv_at hl 0 rfl) ?_
        refine ri_zne (a := (off P i x y)) (tgt := 61) hx hb d_R_place_56 (by decide) rfl (pT_3 hB _ _ hx0 hy0) (fun c56 => ?_) (fun c56 => ?_)
        · skip
          refine lv_iinc (v := iN ((i + 1))) (lv' := [(4, .int (iN ((i + 1)))), (5, .int (iN ((off P i x y)))), (0, .ref a), (1, .int (iN (x))), (2, .int (iN (y))), (3, .int (iN (k)))]) hx hb d_R_place_61 hl (k := 5) rfl (by rw [show (i + 1) = i + (1 : Int) by omega, ← iN_add]; rfl) (by decide) rfl (fun ls hl => ?_)
          refine lv_goto (tgt := 28) hx hb d_R_place_64 (by decide) ?_
          exact ih ((i + 1), k) _ _ _ (by omega) ⟨by omega, by omega, out_s h2 (by omega), by rw [bI_iff (bor_s (by omega))]; exact h3⟩ w (lv_sub hl [2, 3, 4, 5, 0] rfl)
        · skip
          refine lv_iconst (v := iN (1)) hx hb d_R_place_59 (by decide) ?_
          refine lv_istore_n (lv' := [(3, .int (iN (1))), (5, .int (iN ((off P i x y)))), (0, .ref a), (1, .int (iN (x))), (2, .int (iN (y))), (4, .int (iN (i)))]) hx hb d_R_place_60 rfl hl (by decide) rfl (fun ls hl => ?_)
          refine lv_iinc (v := iN ((i + 1))) (lv' := [(4, .int (iN ((i + 1)))), (3, .int (iN (1))), (5, .int (iN ((off P i x y)))), (0, .ref a), (1, .int (iN (x))), (2, .int (iN (y)))]) hx hb d_R_place_61 hl (k := 5) rfl (by rw [show (i + 1) = i + (1 : Int) by omega, ← iN_add]; rfl) (by decide) rfl (fun ls hl => ?_)
          refine lv_goto (tgt := 28) hx hb d_R_place_64 (by decide) ?_
          exact ih ((i + 1), 1) _ _ _ (by omega) ⟨by omega, by omega, out_s h2 (by omega), by rw [bI_t ⟨i, h0, by omega, by omega⟩]; rfl⟩ w (lv_sub hl [3, 4, 5, 1, 0] rfl)
      · skip
        refine lv_iconst (v := iN (0)) hx hb d_R_place_52 (by decide) ?_
        exact g_iret X w hrt hlk d_R_place_53 ⟨by unfold plc; rw [if_neg (by omega), bI_t ⟨i, h0, by omega, by omega⟩]; simp, rfl⟩
  · skip
    refine lv_aload_n hx hb d_R_place_8 rfl (lv_at hl 0 rfl) ?_
    refine lv_iload_n hx hb d_R_place_9 rfl (lv_at hl 1 rfl) ?_
    refine lv_iload_n hx hb d_R_place_10 rfl (lv_at hl 2 rfl) ?_
    refine g_ci w (g_runV (As := [.int (iN (x)), .int (iN (y))]) (rest := []) X w (c_R_isOnThin l ho hr hB hx0 hy0) k_R_isOnThin v_R_isOnThin lk_R_82 ho.1 hr.2.1 rfl ⟨(Nat.le_of_ble_eq_true rfl), (Nat.le_of_ble_eq_true rfl)⟩ rfl hl.1 rfl (Nat.le_of_ble_eq_true rfl) d_R_place_11 ⟨Nat.zero_le _, Nat.zero_le _⟩) (fun r u H locs hp w => ?_)
    obtain ⟨rfl, rfl⟩ := hp
    have w : gw D (gA L sz) s.heap H locs L f := w
    refine ri_zeq (a := (bI (thin P x y))) (tgt := 21) hx hb d_R_place_14 (by decide) rfl (bI_3 _) (fun c14 => ?_) (fun c14 => ?_)
    · skip
      refine lv_iconst (v := iN (0)) hx hb d_R_place_21 (by decide) ?_
      exact g_iret X w hrt hlk d_R_place_22 ⟨by unfold plc; rw [if_pos (by omega)]; rw [c14], rfl⟩
    · skip
      refine lv_iconst (v := iN (1)) hx hb d_R_place_17 (by decide) ?_
      refine lv_goto (tgt := 22) hx hb d_R_place_18 (by decide) ?_
      exact g_iret X w hrt hlk d_R_place_22 ⟨by unfold plc; rw [if_pos (by omega)]; rw [bI_t (bI_n c14)], rfl⟩
