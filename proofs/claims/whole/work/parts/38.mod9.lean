/-! THE REFERENCE: its public methods, second part -/
set_option maxHeartbeats 4000000 in
set_option maxRecDepth 100000 in
theorem c_M_holds (l : Launch) {D : va_G} {cI cR : ClassId} {L : List Nat} {f : Nat → va_E} {mo : Nat} {A : Nat → Nat} {v : Nat → Int} {F : Nat → Nat → Int} (g : mg L mo A) {K t1 t2 : Int} {S : Nat → List Pt} (hI0 : mInv v F K S) (h11 : v 11 = t1) (h12 : v 12 = t2) (hok : okS K S) (hhu : hulS K S) {z : Int} (hz : i3 z) {x y : Int} (hx3 : i3 x) (hy3 : i3 y) : gMi D cI cR l y_M_holds (Cond.code y_M_holds b_M_holds 4 (some .int) :: lw_g) { frames := 4, cells := 0, slots := 0, locals := 102 } [.ref mo, .int (iN (z)), .int (iN (x)), .int (iN (y))] L (mSt cI mo A f v F) (fun r u => r = iN (if (0 ≤ z ∧ z < K) then (if (-1000 ≤ x ∧ x ≤ 1000) ∧ (-1000 ≤ y ∧ y ≤ 1000) then plM (hullF (S z.toNat)) x y else -2) else -1) ∧ mpost L cI mo A f K t1 t2 S u) := by
  intro sz
  refine g_enter (by decide) rfl (Nat.le_of_ble_eq_true rfl) ?_
  intro p e s m below meth cd ls X hrt hlk hnm hl hsz w
  have X : gx p m cd b_M_holds 4 s _ "HullSumsModel" D cI cR := X
  have hx := X.1.1
  have hb := X.1.2.1
  have hl : lv_has ls 4 [(0, .ref mo), (1, .int (iN (z))), (2, .int (iN (x))), (3, .int (iN (y)))] := hl
  have hI1 := hI0
  obtain ⟨hi0, hi1, hi2, hi3, hi4⟩ := hI1
  refine lv_aload_n hx hb d_M_holds_0 rfl (lv_at hl 0 rfl) ?_
  refine lv_iload_n hx hb d_M_holds_1 rfl (lv_at hl 1 rfl) ?_
  refine g_ci w (g_runV (As := [.int (iN (z))]) (rest := []) X w (c_M_is l g (v := v) (F := F) hi0 (by rw [hi1]; unfold i3; omega) (z := z) hz) k_M_is v_M_is lk_M_79 g.1.1 (show mSt cI mo A f v F mo = .inr (4, _) from mS_m) rfl ⟨(Nat.le_of_ble_eq_true rfl), (Nat.le_of_ble_eq_true rfl)⟩ rfl hl.1 rfl (Nat.le_of_ble_eq_true rfl) d_M_holds_2 ⟨(Nat.le_of_ble_eq_true rfl), (Nat.le_of_ble_eq_true rfl)⟩) (fun r u H locs hp w => ?_)
  obtain ⟨hr9, rfl⟩ := hp
  rw [hi1] at hr9
  subst hr9
  have w : gw D (gA L sz) s.heap H locs L (mSt cI mo A f v F) := w
  refine ri_zne (a := (bI (0 ≤ z ∧ z < K))) (tgt := 10) hx hb d_M_holds_5 (by decide) rfl (bI_3 _) (fun c5 => ?_) (fun c5 => ?_)
  · skip
    refine lv_iload_n hx hb d_M_holds_10 rfl (lv_at hl 2 rfl) ?_
    refine lv_sipush (v := iN (-1000)) hx hb d_M_holds_11 (by decide) ?_
    refine lv_sipush (v := iN (1000)) hx hb d_M_holds_14 (by decide) ?_
    refine g_ci w (g_runS (As := [.int (iN (x)), .int (iN (-1000)), .int (iN (1000))]) (rest := []) X w (c_M_in l (z := x) (x := -1000) (y := 1000) hx3 (by unfold i3; omega) (by unfold i3; omega)) k_M_in lk_M_83 st_M_in ⟨(Nat.le_of_ble_eq_true rfl), (Nat.le_of_ble_eq_true rfl)⟩ rfl hl.1 rfl (Nat.le_of_ble_eq_true rfl) d_M_holds_17 ⟨Nat.zero_le _, Nat.zero_le _⟩) (fun r u H locs hp w => ?_)
    obtain ⟨rfl, rfl⟩ := hp
    have w : gw D (gA L sz) s.heap H locs L (mSt cI mo A f v F) := w
    refine ri_zeq (a := (bI (-1000 ≤ x ∧ x ≤ 1000))) (tgt := 36) hx hb d_M_holds_20 (by decide) rfl (bI_3 _) (fun c20 => ?_) (fun c20 => ?_)
    · skip
      refine lv_bipush (v := iN (-2)) hx hb d_M_holds_36 (by decide) ?_
      exact g_iret X w hrt hlk d_M_holds_38 ⟨by rw [if_pos (bI_n c5), if_neg (fun q => by first | exact bI_0 c20 q.1 | exact bI_0 (by omega) q.2)], ⟨v, F, rfl, hI0, h11, h12⟩⟩
    · skip
      refine lv_iload_n hx hb d_M_holds_23 rfl (lv_at hl 3 rfl) ?_
      refine lv_sipush (v := iN (-1000)) hx hb d_M_holds_24 (by decide) ?_
      refine lv_sipush (v := iN (1000)) hx hb d_M_holds_27 (by decide) ?_
      refine g_ci w (g_runS (As := [.int (iN (y)), .int (iN (-1000)), .int (iN (1000))]) (rest := []) X w (c_M_in l (z := y) (x := -1000) (y := 1000) hy3 (by unfold i3; omega) (by unfold i3; omega)) k_M_in lk_M_83 st_M_in ⟨(Nat.le_of_ble_eq_true rfl), (Nat.le_of_ble_eq_true rfl)⟩ rfl hl.1 rfl (Nat.le_of_ble_eq_true rfl) d_M_holds_30 ⟨Nat.zero_le _, Nat.zero_le _⟩) (fun r u H locs hp w => ?_)
      obtain ⟨rfl, rfl⟩ := hp
      have w : gw D (gA L sz) s.heap H locs L (mSt cI mo A f v F) := w
      refine ri_zne (a := (bI (-1000 ≤ y ∧ y ≤ 1000))) (tgt := 39) hx hb d_M_holds_33 (by decide) rfl (bI_3 _) (fun c33 => ?_) (fun c33 => ?_)
      · skip
        refine lv_aload_n hx hb d_M_holds_39 rfl (lv_at hl 0 rfl) ?_
        refine lv_iload_n hx hb d_M_holds_40 rfl (lv_at hl 1 rfl) ?_
        have hzr : 0 ≤ z ∧ z < K := bI_n (by omega)
        obtain ⟨Wl, eWl⟩ : ∃ q, q = S z.toNat := ⟨_, rfl⟩
        obtain ⟨Hu, eHu⟩ : ∃ q, q = hullF (S z.toNat) := ⟨_, rfl⟩
        have hoz := hok z.toNat (by omega)
        have hhz : isHL Wl Hu := by rw [eWl, eHu]; exact hhu z.toNat (by omega)
        have hH576 := hhz.2.2.1
        have hHb : pb 600 Hu := by rw [eHu]; exact pb_of (by decide) (pbl_le (by decide) (pbl_hull hoz.2))
        have hHb3 : pb 300 Hu := by rw [eHu]; exact pb_of (by decide) (pbl_hull hoz.2)
        have hWb : pb 300 Wl := by rw [eWl]; exact pb_of (by decide) hoz.2
        have hW24 : Wl.length ≤ 24 := by rw [eWl]; exact hoz.1
        refine g_cv w (g_runV (As := [.int (iN (z))]) (rest := []) X w ((by have h9 := c_M_load (D := D) (cR := cR) (cI := cI) (f := f) l g hI0 (z := z) hzr hoz.1 (pbl_le (by decide) hoz.2) (Hu := Hu) (by rw [← eWl]; exact hhz); rw [← eWl] at h9; exact h9)) k_M_load v_M_load lk_M_87 g.1.1 (show mSt cI mo A f v F mo = .inr (4, _) from mS_m) rfl ⟨(Nat.le_of_ble_eq_true rfl), (Nat.le_of_ble_eq_true rfl)⟩ rfl hl.1 rfl (Nat.le_of_ble_eq_true rfl) d_M_holds_41 ⟨(Nat.le_of_ble_eq_true rfl), (Nat.le_of_ble_eq_true rfl)⟩) (fun u H locs hp w => ?_)
        obtain ⟨v8, F8, rfl, hL8, hn8, hf8⟩ := hp
        have w : gw D (gA L sz) s.heap H locs L (mSt cI mo A f v8 F8) := w
        obtain ⟨h7, h10, hwF, hhF⟩ := id hL8
        have hI8 := mInv_k hI0 (hn8 0 (by decide) (by decide)) (hn8 1 (by decide) (by decide)) hf8
        have h118 := (hn8 11 (by decide) (by decide)).trans h11
        have h128 := (hn8 12 (by decide) (by decide)).trans h12
        refine lv_aload_n hx hb d_M_holds_44 rfl (lv_at hl 0 rfl) ?_
        refine lv_iload_n hx hb d_M_holds_45 rfl (lv_at hl 2 rfl) ?_
        refine ri_i2l (a := x) hx hb d_M_holds_46 rfl hx3 ?_
        refine lv_iload_n hx hb d_M_holds_47 rfl (lv_at hl 3 rfl) ?_
        refine ri_i2l (a := y) hx hb d_M_holds_48 rfl hy3 ?_
        refine g_ci w (g_runV (As := [.long (jN (x)), .long (jN (y))]) (rest := []) X w (c_M_placeOf l g (v := v8) (F := F8) hL8 hH576 hHb (x := x) (y := y) (bI_n c20) (bI_n c33)) k_M_placeOf v_M_placeOf lk_M_91 g.1.1 (show (mSt cI mo A f v8 F8) mo = .inr (4, _) from mS_m) rfl ⟨(Nat.le_of_ble_eq_true rfl), (Nat.le_of_ble_eq_true rfl)⟩ rfl hl.1 rfl (Nat.le_of_ble_eq_true rfl) d_M_holds_49 ⟨Nat.zero_le _, Nat.zero_le _⟩) (fun r u H locs hp w => ?_)
        obtain ⟨rfl, rfl⟩ := hp
        have w : gw D (gA L sz) s.heap H locs L (mSt cI mo A f v8 F8) := w
        exact g_iret X w hrt hlk d_M_holds_52 ⟨by rw [if_pos hzr, if_pos ⟨bI_n c20, bI_n c33⟩, ← eHu], ⟨v8, F8, rfl, hI8, h118, h128⟩⟩
      · skip
        refine lv_bipush (v := iN (-2)) hx hb d_M_holds_36 (by decide) ?_
        exact g_iret X w hrt hlk d_M_holds_38 ⟨by rw [if_pos (bI_n c5), if_neg (fun q => by first | exact bI_0 c20 q.1 | exact bI_0 (by omega) q.2)], ⟨v, F, rfl, hI0, h11, h12⟩⟩
  · skip
    refine lv_iconst (v := iN (-1)) hx hb d_M_holds_8 (by decide) ?_
    exact g_iret X w hrt hlk d_M_holds_9 ⟨by rw [if_neg (bI_0 (by omega))], ⟨v, F, rfl, hI0, h11, h12⟩⟩
set_option maxHeartbeats 4000000 in
set_option maxRecDepth 100000 in
theorem c_M_corner (l : Launch) {D : va_G} {cI cR : ClassId} {L : List Nat} {f : Nat → va_E} {mo : Nat} {A : Nat → Nat} {v : Nat → Int} {F : Nat → Nat → Int} (g : mg L mo A) {K t1 t2 : Int} {S : Nat → List Pt} (hI0 : mInv v F K S) (h11 : v 11 = t1) (h12 : v 12 = t2) (hok : okS K S) (hhu : hulS K S) {z : Int} (hz : i3 z) {i : Int} (hii : i3 i) : gMi D cI cR l y_M_corner (Cond.code y_M_corner b_M_corner 3 (some .int) :: lw_g) { frames := 4, cells := 0, slots := 0, locals := 102 } [.ref mo, .int (iN (z)), .int (iN (i))] L (mSt cI mo A f v F) (fun r u => r = iN (if (0 ≤ z ∧ z < K) then (if 0 ≤ i ∧ i < (hullF (S z.toNat)).length then 1 else -2) else -1) ∧ crT ((0 ≤ z ∧ z < K) ∧ 0 ≤ i ∧ i < (hullF (S z.toNat)).length) (pX (hullF (S z.toNat)) i) (pY (hullF (S z.toNat)) i) t1 t2 (fun p q => mpost L cI mo A f K p q S u)) := by
  intro sz
  refine g_enter (by decide) rfl (Nat.le_of_ble_eq_true rfl) ?_
  intro p e s m below meth cd ls X hrt hlk hnm hl hsz w
  have X : gx p m cd b_M_corner 3 s _ "HullSumsModel" D cI cR := X
  have hx := X.1.1
  have hb := X.1.2.1
  have hl : lv_has ls 3 [(0, .ref mo), (1, .int (iN (z))), (2, .int (iN (i)))] := hl
  have hI1 := hI0
  obtain ⟨hi0, hi1, hi2, hi3, hi4⟩ := hI1
  refine lv_aload_n hx hb d_M_corner_0 rfl (lv_at hl 0 rfl) ?_
  refine lv_iload_n hx hb d_M_corner_1 rfl (lv_at hl 1 rfl) ?_
  refine g_ci w (g_runV (As := [.int (iN (z))]) (rest := []) X w (c_M_is l g (v := v) (F := F) hi0 (by rw [hi1]; unfold i3; omega) (z := z) hz) k_M_is v_M_is lk_M_79 g.1.1 (show mSt cI mo A f v F mo = .inr (4, _) from mS_m) rfl ⟨(Nat.le_of_ble_eq_true rfl), (Nat.le_of_ble_eq_true rfl)⟩ rfl hl.1 rfl (Nat.le_of_ble_eq_true rfl) d_M_corner_2 ⟨(Nat.le_of_ble_eq_true rfl), (Nat.le_of_ble_eq_true rfl)⟩) (fun r u H locs hp w => ?_)
  obtain ⟨hr9, rfl⟩ := hp
  rw [hi1] at hr9
  subst hr9
  have w : gw D (gA L sz) s.heap H locs L (mSt cI mo A f v F) := w
  refine ri_zne (a := (bI (0 ≤ z ∧ z < K))) (tgt := 10) hx hb d_M_corner_5 (by decide) rfl (bI_3 _) (fun c5 => ?_) (fun c5 => ?_)
  · skip
    refine lv_aload_n hx hb d_M_corner_10 rfl (lv_at hl 0 rfl) ?_
    refine lv_iload_n hx hb d_M_corner_11 rfl (lv_at hl 1 rfl) ?_
    have hzr : 0 ≤ z ∧ z < K := bI_n (by omega)
    obtain ⟨Wl, eWl⟩ : ∃ q, q = S z.toNat := ⟨_, rfl⟩
    obtain ⟨Hu, eHu⟩ : ∃ q, q = hullF (S z.toNat) := ⟨_, rfl⟩
    have hoz := hok z.toNat (by omega)
    have hhz : isHL Wl Hu := by rw [eWl, eHu]; exact hhu z.toNat (by omega)
    have hH576 := hhz.2.2.1
    have hHb : pb 600 Hu := by rw [eHu]; exact pb_of (by decide) (pbl_le (by decide) (pbl_hull hoz.2))
    have hHb3 : pb 300 Hu := by rw [eHu]; exact pb_of (by decide) (pbl_hull hoz.2)
    have hWb : pb 300 Wl := by rw [eWl]; exact pb_of (by decide) hoz.2
    have hW24 : Wl.length ≤ 24 := by rw [eWl]; exact hoz.1
    refine g_cv w (g_runV (As := [.int (iN (z))]) (rest := []) X w ((by have h9 := c_M_load (D := D) (cR := cR) (cI := cI) (f := f) l g hI0 (z := z) hzr hoz.1 (pbl_le (by decide) hoz.2) (Hu := Hu) (by rw [← eWl]; exact hhz); rw [← eWl] at h9; exact h9)) k_M_load v_M_load lk_M_87 g.1.1 (show mSt cI mo A f v F mo = .inr (4, _) from mS_m) rfl ⟨(Nat.le_of_ble_eq_true rfl), (Nat.le_of_ble_eq_true rfl)⟩ rfl hl.1 rfl (Nat.le_of_ble_eq_true rfl) d_M_corner_12 ⟨(Nat.le_of_ble_eq_true rfl), (Nat.le_of_ble_eq_true rfl)⟩) (fun u H locs hp w => ?_)
    obtain ⟨v8, F8, rfl, hL8, hn8, hf8⟩ := hp
    have w : gw D (gA L sz) s.heap H locs L (mSt cI mo A f v8 F8) := w
    obtain ⟨h7, h10, hwF, hhF⟩ := id hL8
    have hI8 := mInv_k hI0 (hn8 0 (by decide) (by decide)) (hn8 1 (by decide) (by decide)) hf8
    have h118 := (hn8 11 (by decide) (by decide)).trans h11
    have h128 := (hn8 12 (by decide) (by decide)).trans h12
    refine lv_iload_n hx hb d_M_corner_15 rfl (lv_at hl 2 rfl) ?_
    refine ri_zlt (a := i) (tgt := 27) hx hb d_M_corner_16 (by decide) rfl hii (fun c16 => ?_) (fun c16 => ?_)
    · skip
      refine lv_bipush (v := iN (-2)) hx hb d_M_corner_27 (by decide) ?_
      exact g_iret X w hrt hlk d_M_corner_29 ⟨by rw [if_pos hzr, ← eHu, if_neg (by omega)], by unfold crT; rw [← eHu, if_neg (fun q => by omega)]; exact ⟨v8, F8, rfl, hI8, h118, h128⟩⟩
    · skip
      refine lv_iload_n hx hb d_M_corner_19 rfl (lv_at hl 2 rfl) ?_
      refine lv_aload_n hx hb d_M_corner_20 rfl (lv_at hl 0 rfl) ?_
      refine gk_get X w g.1.1 (show (mSt cI mo A f v8 F8) mo = .inr (4, _) from mS_m) rfl in_M 10 (by decide) lk_M_51 rfl d_M_corner_21 ?_
      rw [show v8 10 = (Hu.length : Int) from h10]
      refine ri_clt (a := i) (b := (Hu.length : Int)) (tgt := 30) hx hb d_M_corner_24 (by decide) rfl rfl hii (by unfold i3; omega) (fun c24 => ?_) (fun c24 => ?_)
      · skip
        refine lv_aload_n hx hb d_M_corner_30 rfl (lv_at hl 0 rfl) ?_
        refine lv_aload_n hx hb d_M_corner_31 rfl (lv_at hl 0 rfl) ?_
        refine gk_get X w g.1.1 (show (mSt cI mo A f v8 F8) mo = .inr (4, _) from mS_m) rfl in_M 8 (by decide) lk_M_25 rfl d_M_corner_32 ?_
        refine lv_iload_n hx hb d_M_corner_35 rfl (lv_at hl 2 rfl) ?_
        refine gk_iald X w 0 g.1.2.2.2.2.2.2.1 (mS_8 g) rfl (vin (by omega) (show (i : Int) < 576 by have h9 : (i : Int) < Hu.length := (by omega); omega) (by decide)) d_M_corner_36 ?_
        rw [vcl (z := i) (by omega) (by have h9 : (i : Int) < Hu.length := (by omega); omega), hld_x hhF (i := i) (by omega) (by omega)]
        refine ri_i2l (a := (pX Hu i)) hx hb d_M_corner_37 rfl (by have := hHb i; unfold i3; omega) ?_
        refine gk_put X w g.1.1 (show (mSt cI mo A f v8 F8) mo = .inr (4, _) from mS_m) rfl in_M ty_M tyok_M nm_M 11 (by decide) lk_M_42 rfl (ty := .long) (by decide +kernel) rfl rfl (Nat.le_of_ble_eq_true rfl) d_M_corner_38 (fun H locs w => ?_)
        obtain ⟨v1, hv1⟩ : ∃ q : Nat → Int, q = va_up v8 11 ((pX Hu i)) := ⟨_, rfl⟩
        have v1s : v1 11 = (pX Hu i) := by rw [hv1, va_up_self]
        have v1n : ∀ j, j ≠ 11 → v1 j = v8 j := fun j hj => by rw [hv1, va_up_ne _ _ hj]
        have w : gw D (gA L sz) s.heap H locs L (mSt cI mo A f v1 F8) := by rw [hv1, ← mU_m (v := v8)]; exact w
        refine lv_aload_n hx hb d_M_corner_41 rfl (lv_at hl 0 rfl) ?_
        refine lv_aload_n hx hb d_M_corner_42 rfl (lv_at hl 0 rfl) ?_
        refine gk_get X w g.1.1 (show (mSt cI mo A f v1 F8) mo = .inr (4, _) from mS_m) rfl in_M 9 (by decide) lk_M_28 rfl d_M_corner_43 ?_
        refine lv_iload_n hx hb d_M_corner_46 rfl (lv_at hl 2 rfl) ?_
        refine gk_iald X w 0 g.1.2.2.2.2.2.2.2 (mS_9 g) rfl (vin (by omega) (show (i : Int) < 576 by have h9 : (i : Int) < Hu.length := (by omega); omega) (by decide)) d_M_corner_47 ?_
        rw [vcl (z := i) (by omega) (by have h9 : (i : Int) < Hu.length := (by omega); omega), hld_y hhF (i := i) (by omega) (by omega)]
        refine ri_i2l (a := (pY Hu i)) hx hb d_M_corner_48 rfl (by have := hHb i; unfold i3; omega) ?_
        refine gk_put X w g.1.1 (show (mSt cI mo A f v1 F8) mo = .inr (4, _) from mS_m) rfl in_M ty_M tyok_M nm_M 12 (by decide) lk_M_31 rfl (ty := .long) (by decide +kernel) rfl rfl (Nat.le_of_ble_eq_true rfl) d_M_corner_49 (fun H locs w => ?_)
        obtain ⟨v2, hv2⟩ : ∃ q : Nat → Int, q = va_up v1 12 ((pY Hu i)) := ⟨_, rfl⟩
        have v2s : v2 12 = (pY Hu i) := by rw [hv2, va_up_self]
        have v2n : ∀ j, j ≠ 12 → v2 j = v1 j := fun j hj => by rw [hv2, va_up_ne _ _ hj]
        have w : gw D (gA L sz) s.heap H locs L (mSt cI mo A f v2 F8) := by rw [hv2, ← mU_m (v := v1)]; exact w
        refine lv_iconst (v := iN (1)) hx hb d_M_corner_52 (by decide) ?_
        exact g_iret X w hrt hlk d_M_corner_53 ⟨by rw [if_pos hzr, ← eHu, if_pos (by omega)], by unfold crT; rw [← eHu, if_pos ⟨hzr, by omega, by omega⟩]; exact ⟨v2, F8, rfl, mInv_k hI8 ((v2n 0 (by decide)).trans (v1n 0 (by decide))) ((v2n 1 (by decide)).trans (v1n 1 (by decide))) (fun _ _ => rfl), (v2n 11 (by decide)).trans v1s, v2s⟩⟩
      · skip
        refine lv_bipush (v := iN (-2)) hx hb d_M_corner_27 (by decide) ?_
        exact g_iret X w hrt hlk d_M_corner_29 ⟨by rw [if_pos hzr, ← eHu, if_neg (by omega)], by unfold crT; rw [← eHu, if_neg (fun q => by omega)]; exact ⟨v8, F8, rfl, hI8, h118, h128⟩⟩
  · skip
    refine lv_iconst (v := iN (-1)) hx hb d_M_corner_8 (by decide) ?_
    exact g_iret X w hrt hlk d_M_corner_9 ⟨by rw [if_neg (bI_0 (by omega))], by unfold crT; rw [if_neg (fun q => bI_0 (by omega) q.1)]; exact ⟨v, F, rfl, hI0, h11, h12⟩⟩
set_option maxHeartbeats 4000000 in
set_option maxRecDepth 100000 in
theorem c_M_told (l : Launch) {D : va_G} {cI cR : ClassId} {L : List Nat} {f : Nat → va_E} {mo : Nat} {A : Nat → Nat} {v : Nat → Int} {F : Nat → Nat → Int} (g : mg L mo A) {K t1 t2 : Int} {S : Nat → List Pt} (hI0 : mInv v F K S) (h11 : v 11 = t1) (h12 : v 12 = t2) {wh : Int} (hw3 : i3 wh) : gMi D cI cR l y_M_told (Cond.code y_M_told b_M_told 4 (some .int) :: lw_g) { frames := 1, cells := 0, slots := 0, locals := 22 } [.ref mo, .int (iN (wh))] L (mSt cI mo A f v F) (fun r u => r = iN (if wh = 0 then K else if wh = 1 then tlS S K.toNat else -2) ∧ u = (L, mSt cI mo A f v F)) := by
  intro sz
  refine g_enter (by decide) rfl (Nat.le_of_ble_eq_true rfl) ?_
  intro p e s m below meth cd ls X hrt hlk hnm hl hsz w
  have X : gx p m cd b_M_told 4 s _ "HullSumsModel" D cI cR := X
  have hx := X.1.1
  have hb := X.1.2.1
  have hl : lv_has ls 4 [(0, .ref mo), (1, .int (iN (wh)))] := hl
  have hI1 := hI0
  obtain ⟨hi0, hi1, hi2, hi3, hi4⟩ := hI1
  have hv0 := hi0
  refine lv_aload_n hx hb d_M_told_0 rfl (lv_at hl 0 rfl) ?_
  refine lv_iconst (v := iN (0)) hx hb d_M_told_1 (by decide) ?_
  refine gk_put X w g.1.1 (show (mSt cI mo A f v F) mo = .inr (4, _) from mS_m) rfl in_M ty_M tyok_M nm_M 0 (by decide) lk_M_35 rfl (ty := .int) (by decide +kernel) rfl rfl (Nat.le_of_ble_eq_true rfl) d_M_told_2 (fun H locs w => ?_)
  obtain ⟨v1, hv1⟩ : ∃ q : Nat → Int, q = va_up v 0 (0) := ⟨_, rfl⟩
  have v1s : v1 0 = 0 := by rw [hv1, va_up_self]
  have v1n : ∀ j, j ≠ 0 → v1 j = v j := fun j hj => by rw [hv1, va_up_ne _ _ hj]
  have w : gw D (gA L sz) s.heap H locs L (mSt cI mo A f v1 F) := by rw [hv1, ← mU_m (v := v)]; exact w
  have v1e : v1 = v := by funext k; by_cases e9 : k = 0; (subst e9; rw [v1s, hv0]); exact v1n k e9
  rw [v1e] at w
  refine lv_iload_n hx hb d_M_told_5 rfl (lv_at hl 1 rfl) ?_
  refine lv_iconst (v := iN (0)) hx hb d_M_told_6 (by decide) ?_
  refine lv_iconst (v := iN (1)) hx hb d_M_told_7 (by decide) ?_
  refine g_ci w (g_runS (As := [.int (iN (wh)), .int (iN (0)), .int (iN (1))]) (rest := []) X w (c_M_in l (z := wh) (x := 0) (y := 1) hw3 (by unfold i3; omega) (by unfold i3; omega)) k_M_in lk_M_83 st_M_in ⟨(Nat.le_of_ble_eq_true rfl), (Nat.le_of_ble_eq_true rfl)⟩ rfl hl.1 rfl (Nat.le_of_ble_eq_true rfl) d_M_told_8 ⟨Nat.zero_le _, Nat.zero_le _⟩) (fun r u H locs hp w => ?_)
  obtain ⟨rfl, rfl⟩ := hp
  have w : gw D (gA L sz) s.heap H locs L (mSt cI mo A f v F) := w
  refine ri_zne (a := (bI (0 ≤ wh ∧ wh ≤ 1))) (tgt := 17) hx hb d_M_told_11 (by decide) rfl (bI_3 _) (fun c11 => ?_) (fun c11 => ?_)
  · skip
    refine lv_iconst (v := iN (0)) hx hb d_M_told_17 (by decide) ?_
    refine lv_istore_n (lv' := [(2, .int (iN (0))), (0, .ref mo), (1, .int (iN (wh)))]) hx hb d_M_told_18 rfl hl (by decide) rfl (fun ls hl => ?_)
    refine lv_iconst (v := iN (0)) hx hb d_M_told_19 (by decide) ?_
    refine lv_istore_n (lv' := [(3, .int (iN (0))), (2, .int (iN (0))), (0, .ref mo), (1, .int (iN (wh)))]) hx hb d_M_told_20 rfl hl (by decide) rfl (fun ls hl => ?_)
    refine g_loop (σ := Int × Int) (fun z9 => (K - z9.1).toNat) (fun z9 => [(0, .ref mo), (1, .int (iN (wh))), (2, .int (iN (z9.2))), (3, .int (iN (z9.1)))]) L (fun z9 => (mSt cI mo A f v F)) (fun z9 => 0 ≤ z9.1 ∧ z9.1 ≤ K ∧ z9.2 = tlS S z9.1.toNat) ?_ (0, 0) _ _ _ ⟨by omega, by omega, rfl⟩ w (lv_sub hl [2, 3, 1, 0] rfl)
    intro z9 H locs ls hI w hl ih
    obtain ⟨j, k⟩ := z9
    have hl : lv_has ls 4 [(0, .ref mo), (1, .int (iN (wh))), (2, .int (iN (k))), (3, .int (iN (j)))] := hl
    have w : gw D (gA L sz) s.heap H locs L ((mSt cI mo A f v F)) := w
    have hI : 0 ≤ j ∧ j ≤ K ∧ k = tlS S j.toNat := hI
    obtain ⟨h0, h1, h2⟩ := hI
    refine lv_iload_n hx hb d_M_told_21 rfl (lv_at hl 3 rfl) ?_
    refine lv_aload_n hx hb d_M_told_22 rfl (lv_at hl 0 rfl) ?_
    refine gk_get X w g.1.1 (show (mSt cI mo A f v F) mo = .inr (4, _) from mS_m) rfl in_M 1 (by decide) lk_M_39 rfl d_M_told_23 ?_
    rw [show v 1 = K from hi1]
    refine ri_cge (a := j) (b := K) (tgt := 44) hx hb d_M_told_26 (by decide) rfl rfl (by unfold i3; omega) (by unfold i3; omega) (fun c26 => ?_) (fun c26 => ?_)
    · skip
      refine lv_iload_n hx hb d_M_told_44 rfl (lv_at hl 1 rfl) ?_
      refine ri_zne (a := wh) (tgt := 55) hx hb d_M_told_45 (by decide) rfl hw3 (fun c45 => ?_) (fun c45 => ?_)
      · skip
        refine lv_iload_n hx hb d_M_told_55 rfl (lv_at hl 2 rfl) ?_
        exact g_iret X w hrt hlk d_M_told_56 ⟨by have h9 := bI_n (p := 0 ≤ wh ∧ wh ≤ 1) (by omega); rw [if_neg (by omega), if_pos (by omega), h2, show j = K by omega], rfl⟩
      · skip
        refine lv_aload_n hx hb d_M_told_48 rfl (lv_at hl 0 rfl) ?_
        refine gk_get X w g.1.1 (show (mSt cI mo A f v F) mo = .inr (4, _) from mS_m) rfl in_M 1 (by decide) lk_M_39 rfl d_M_told_49 ?_
        rw [show v 1 = K from hi1]
        refine lv_goto (tgt := 56) hx hb d_M_told_52 (by decide) ?_
        exact g_iret X w hrt hlk d_M_told_56 ⟨by rw [if_pos (by omega)], rfl⟩
    · skip
      refine lv_iload_n hx hb d_M_told_29 rfl (lv_at hl 2 rfl) ?_
      refine lv_aload_n hx hb d_M_told_30 rfl (lv_at hl 0 rfl) ?_
      refine gk_get X w g.1.1 (show (mSt cI mo A f v F) mo = .inr (4, _) from mS_m) rfl in_M 4 (by decide) lk_M_16 rfl d_M_told_31 ?_
      refine lv_iload_n hx hb d_M_told_34 rfl (lv_at hl 3 rfl) ?_
      refine gk_iald X w 0 g.1.2.2.2.1 (mS_4 g) rfl (vin (by omega) (by omega) (by decide)) d_M_told_35 ?_
      rw [vclN 8 (by omega) (by omega) (by decide)]
      refine ri_add (a := k) (b := (F 4 j.toNat)) hx hb d_M_told_36 rfl rfl ?_
      refine lv_istore_n (lv' := [(2, .int (iN ((k + (F 4 j.toNat))))), (0, .ref mo), (1, .int (iN (wh))), (3, .int (iN (j)))]) hx hb d_M_told_37 rfl hl (by decide) rfl (fun ls hl => ?_)
      refine lv_iinc (v := iN ((j + 1))) (lv' := [(3, .int (iN ((j + 1)))), (2, .int (iN ((k + (F 4 j.toNat))))), (0, .ref mo), (1, .int (iN (wh)))]) hx hb d_M_told_38 hl (k := 3) rfl (by rw [show (j + 1) = j + (1 : Int) by omega, ← iN_add]; rfl) (by decide) rfl (fun ls hl => ?_)
      refine lv_goto (tgt := 21) hx hb d_M_told_41 (by decide) ?_
      have hj4 := (hi4 j.toNat (by omega)).1
      exact ih ((j + 1), (k + (F 4 j.toNat))) _ _ _ (by omega) ⟨by omega, by omega, by rw [tn_s h0]; unfold tlS; rw [← h2, hj4]⟩ w (lv_sub hl [2, 3, 1, 0] rfl)
  · skip
    refine lv_bipush (v := iN (-2)) hx hb d_M_told_14 (by decide) ?_
    exact g_iret X w hrt hlk d_M_told_16 ⟨by have h9 := bI_0 (p := 0 ≤ wh ∧ wh ≤ 1) (by omega); rw [if_neg (by omega), if_neg (by omega)], rfl⟩
set_option maxHeartbeats 4000000 in
set_option maxRecDepth 100000 in
theorem c_M_wrong (l : Launch) {D : va_G} {cI cR : ClassId} {L : List Nat} {f : Nat → va_E} {mo : Nat} {A : Nat → Nat} {v : Nat → Int} {F : Nat → Nat → Int} (g : mg L mo A) {K t1 t2 : Int} {S : Nat → List Pt} (hI0 : mInv v F K S) (h11 : v 11 = t1) (h12 : v 12 = t2) (hok : okS K S) (hhu : hulS K S) {z : Int} (hz : i3 z) {z2 : Int} (hz2 : i3 z2) : gMi D cI cR l y_M_wrong (Cond.code y_M_wrong b_M_wrong 3 (some .int) :: lw_g) { frames := 1, cells := 0, slots := 0, locals := 21 } [.ref mo, .int (iN (z)), .int (iN (z2))] L (mSt cI mo A f v F) (fun r u => r = iN (flA K S z z2) ∧ u = (L, mSt cI mo A f v F)) := by
  intro sz
  refine g_enter (by decide) rfl (Nat.le_of_ble_eq_true rfl) ?_
  intro p e s m below meth cd ls X hrt hlk hnm hl hsz w
  have X : gx p m cd b_M_wrong 3 s _ "HullSumsModel" D cI cR := X
  have hx := X.1.1
  have hb := X.1.2.1
  have hl : lv_has ls 3 [(0, .ref mo), (1, .int (iN (z))), (2, .int (iN (z2)))] := hl
  have hI1 := hI0
  obtain ⟨hi0, hi1, hi2, hi3, hi4⟩ := hI1
  refine lv_aload_n hx hb d_M_wrong_0 rfl (lv_at hl 0 rfl) ?_
  refine lv_iload_n hx hb d_M_wrong_1 rfl (lv_at hl 1 rfl) ?_
  refine g_ci w (g_runV (As := [.int (iN (z))]) (rest := []) X w (c_M_is l g (v := v) (F := F) hi0 (by rw [hi1]; unfold i3; omega) (z := z) hz) k_M_is v_M_is lk_M_79 g.1.1 (show mSt cI mo A f v F mo = .inr (4, _) from mS_m) rfl ⟨(Nat.le_of_ble_eq_true rfl), (Nat.le_of_ble_eq_true rfl)⟩ rfl hl.1 rfl (Nat.le_of_ble_eq_true rfl) d_M_wrong_2 ⟨(Nat.le_of_ble_eq_true rfl), (Nat.le_of_ble_eq_true rfl)⟩) (fun r u H locs hp w => ?_)
  obtain ⟨hr9, rfl⟩ := hp
  rw [hi1] at hr9
  subst hr9
  have w : gw D (gA L sz) s.heap H locs L (mSt cI mo A f v F) := w
  refine ri_zeq (a := (bI (0 ≤ z ∧ z < K))) (tgt := 16) hx hb d_M_wrong_5 (by decide) rfl (bI_3 _) (fun c5 => ?_) (fun c5 => ?_)
  · skip
    refine lv_iconst (v := iN (-1)) hx hb d_M_wrong_16 (by decide) ?_
    refine lv_goto (tgt := 44) hx hb d_M_wrong_17 (by decide) ?_
    exact g_iret X w hrt hlk d_M_wrong_44 ⟨by unfold flA; rw [if_neg (fun q => by first | exact bI_0 c5 q.1 | exact bI_0 (by omega) q.2)], rfl⟩
  · skip
    refine lv_aload_n hx hb d_M_wrong_8 rfl (lv_at hl 0 rfl) ?_
    refine lv_iload_n hx hb d_M_wrong_9 rfl (lv_at hl 2 rfl) ?_
    refine g_ci w (g_runV (As := [.int (iN (z2))]) (rest := []) X w (c_M_is l g (v := v) (F := F) hi0 (by rw [hi1]; unfold i3; omega) (z := z2) hz2) k_M_is v_M_is lk_M_79 g.1.1 (show mSt cI mo A f v F mo = .inr (4, _) from mS_m) rfl ⟨(Nat.le_of_ble_eq_true rfl), (Nat.le_of_ble_eq_true rfl)⟩ rfl hl.1 rfl (Nat.le_of_ble_eq_true rfl) d_M_wrong_10 ⟨(Nat.le_of_ble_eq_true rfl), (Nat.le_of_ble_eq_true rfl)⟩) (fun r u H locs hp w => ?_)
    obtain ⟨hr9, rfl⟩ := hp
    rw [hi1] at hr9
    subst hr9
    have w : gw D (gA L sz) s.heap H locs L (mSt cI mo A f v F) := w
    refine ri_zne (a := (bI (0 ≤ z2 ∧ z2 < K))) (tgt := 20) hx hb d_M_wrong_13 (by decide) rfl (bI_3 _) (fun c13 => ?_) (fun c13 => ?_)
    · skip
      have hzr : 0 ≤ z ∧ z < K := bI_n c5
      have hyr : 0 ≤ z2 ∧ z2 < K := bI_n c13
      obtain ⟨hz4, hzq⟩ := hi4 z.toNat (by omega)
      obtain ⟨hy4, hyq⟩ := hi4 z2.toNat (by omega)
      have ho1 := (hok z.toNat (by omega)).1
      have ho2 := (hok z2.toNat (by omega)).1
      refine lv_aload_n hx hb d_M_wrong_20 rfl (lv_at hl 0 rfl) ?_
      refine gk_get X w g.1.1 (show (mSt cI mo A f v F) mo = .inr (4, _) from mS_m) rfl in_M 4 (by decide) lk_M_16 rfl d_M_wrong_21 ?_
      refine lv_iload_n hx hb d_M_wrong_24 rfl (lv_at hl 1 rfl) ?_
      refine gk_iald X w 0 g.1.2.2.2.1 (mS_4 g) rfl (vin (by omega) (by omega) (by decide)) d_M_wrong_25 ?_
      rw [vclN 8 (by omega) (by omega) (by decide)]
      refine ri_zeq (a := (F 4 z.toNat)) (tgt := 38) hx hb d_M_wrong_26 (by decide) rfl (by rw [hz4]; unfold i3; omega) (fun c26 => ?_) (fun c26 => ?_)
      · skip
        refine lv_bipush (v := iN (-3)) hx hb d_M_wrong_38 (by decide) ?_
        refine lv_goto (tgt := 44) hx hb d_M_wrong_40 (by decide) ?_
        exact g_iret X w hrt hlk d_M_wrong_44 ⟨by unfold flA; rw [if_pos ⟨hzr, hyr⟩, if_pos (by first | (rw [hz4] at c26; omega) | (rw [hy4] at c35; omega))], rfl⟩
      · skip
        refine lv_aload_n hx hb d_M_wrong_29 rfl (lv_at hl 0 rfl) ?_
        refine gk_get X w g.1.1 (show (mSt cI mo A f v F) mo = .inr (4, _) from mS_m) rfl in_M 4 (by decide) lk_M_16 rfl d_M_wrong_30 ?_
        refine lv_iload_n hx hb d_M_wrong_33 rfl (lv_at hl 2 rfl) ?_
        refine gk_iald X w 0 g.1.2.2.2.1 (mS_4 g) rfl (vin (by omega) (by omega) (by decide)) d_M_wrong_34 ?_
        rw [vclN 8 (by omega) (by omega) (by decide)]
        refine ri_zne (a := (F 4 z2.toNat)) (tgt := 43) hx hb d_M_wrong_35 (by decide) rfl (by rw [hy4]; unfold i3; omega) (fun c35 => ?_) (fun c35 => ?_)
        · skip
          refine lv_iconst (v := iN (0)) hx hb d_M_wrong_43 (by decide) ?_
          exact g_iret X w hrt hlk d_M_wrong_44 ⟨by unfold flA; rw [hz4] at c26; rw [hy4] at c35; rw [if_pos ⟨hzr, hyr⟩, if_neg (by omega)], rfl⟩
        · skip
          refine lv_bipush (v := iN (-3)) hx hb d_M_wrong_38 (by decide) ?_
          refine lv_goto (tgt := 44) hx hb d_M_wrong_40 (by decide) ?_
          exact g_iret X w hrt hlk d_M_wrong_44 ⟨by unfold flA; rw [if_pos ⟨hzr, hyr⟩, if_pos (by first | (rw [hz4] at c26; omega) | (rw [hy4] at c35; omega))], rfl⟩
    · skip
      refine lv_iconst (v := iN (-1)) hx hb d_M_wrong_16 (by decide) ?_
      refine lv_goto (tgt := 44) hx hb d_M_wrong_17 (by decide) ?_
      exact g_iret X w hrt hlk d_M_wrong_44 ⟨by unfold flA; rw [if_neg (fun q => by first | exact bI_0 c5 q.1 | exact bI_0 (by omega) q.2)], rfl⟩
def mspost (L : List Nat) (cI : ClassId) (mo : Nat) (A : Nat → Nat) (f : Nat → va_E) (K t1 t2 : Int) (S : Nat → List Pt) (C : List Pt) (r : Int32) (u : List Nat × (Nat → va_E)) : Prop :=
  (8 ≤ K ∧ r = iN (-5) ∧ mpost L cI mo A f K t1 t2 S u) ∨ (K < 8 ∧ r = iN K ∧ mpost L cI mo A f (K + 1) t1 t2 (supd S K.toNat C) u)
set_option maxHeartbeats 4000000 in
set_option maxRecDepth 100000 in
theorem c_M_set (l : Launch) {D : va_G} {cI cR : ClassId} {L : List Nat} {f : Nat → va_E} {mo : Nat} {A : Nat → Nat} {v : Nat → Int} {F : Nat → Nat → Int} (g : mg L mo A) {K t1 t2 : Int} {S : Nat → List Pt} (hI0 : mInv v F K S) (h11 : v 11 = t1) (h12 : v 12 = t2) : gMi D cI cR l y_M_set (Cond.code y_M_set b_M_set 1 (some .int) :: lw_g) { frames := 0, cells := 0, slots := 0, locals := 0 } [.ref mo] L (mSt cI mo A f v F) (fun r u => mspost L cI mo A f K t1 t2 S [] r u) := by
  intro sz
  refine g_enter (by decide) rfl (Nat.le_of_ble_eq_true rfl) ?_
  intro p e s m below meth cd ls X hrt hlk hnm hl hsz w
  have X : gx p m cd b_M_set 1 s _ "HullSumsModel" D cI cR := X
  have hx := X.1.1
  have hb := X.1.2.1
  have hl : lv_has ls 1 [(0, .ref mo)] := hl
  have hI1 := hI0
  obtain ⟨hi0, hi1, hi2, hi3, hi4⟩ := hI1
  have hv0 := hi0
  refine lv_aload_n hx hb d_M_set_0 rfl (lv_at hl 0 rfl) ?_
  refine lv_iconst (v := iN (0)) hx hb d_M_set_1 (by decide) ?_
  refine gk_put X w g.1.1 (show (mSt cI mo A f v F) mo = .inr (4, _) from mS_m) rfl in_M ty_M tyok_M nm_M 0 (by decide) lk_M_35 rfl (ty := .int) (by decide +kernel) rfl rfl (Nat.le_of_ble_eq_true rfl) d_M_set_2 (fun H locs w => ?_)
  obtain ⟨v1, hv1⟩ : ∃ q : Nat → Int, q = va_up v 0 (0) := ⟨_, rfl⟩
  have v1s : v1 0 = 0 := by rw [hv1, va_up_self]
  have v1n : ∀ j, j ≠ 0 → v1 j = v j := fun j hj => by rw [hv1, va_up_ne _ _ hj]
  have w : gw D (gA L sz) s.heap H locs L (mSt cI mo A f v1 F) := by rw [hv1, ← mU_m (v := v)]; exact w
  have v1e : v1 = v := by funext k; by_cases e9 : k = 0; (subst e9; rw [v1s, hv0]); exact v1n k e9
  rw [v1e] at w
  refine lv_aload_n hx hb d_M_set_5 rfl (lv_at hl 0 rfl) ?_
  refine gk_get X w g.1.1 (show (mSt cI mo A f v F) mo = .inr (4, _) from mS_m) rfl in_M 1 (by decide) lk_M_39 rfl d_M_set_6 ?_
  rw [show v 1 = K from hi1]
  refine lv_bipush (v := iN (8)) hx hb d_M_set_9 (by decide) ?_
  refine ri_cne (a := K) (b := 8) (tgt := 17) hx hb d_M_set_11 (by decide) rfl rfl (by unfold i3; omega) (by unfold i3; omega) (fun c11 => ?_) (fun c11 => ?_)
  · skip
    refine lv_aload_n hx hb d_M_set_17 rfl (lv_at hl 0 rfl) ?_
    refine gk_get X w g.1.1 (show (mSt cI mo A f v F) mo = .inr (4, _) from mS_m) rfl in_M 4 (by decide) lk_M_16 rfl d_M_set_18 ?_
    refine lv_aload_n hx hb d_M_set_21 rfl (lv_at hl 0 rfl) ?_
    refine gk_get X w g.1.1 (show (mSt cI mo A f v F) mo = .inr (4, _) from mS_m) rfl in_M 1 (by decide) lk_M_39 rfl d_M_set_22 ?_
    rw [show v 1 = K from hi1]
    refine lv_iconst (v := iN (0)) hx hb d_M_set_25 (by decide) ?_
    refine gk_iast X w 0 g.1.2.2.2.1 (mS_4 g) rfl (vin (by omega) (by omega) (by decide)) d_M_set_26 (fun H locs w => ?_)
    rw [vclN 8 (by omega) (by omega) (by decide), upd_iN] at w
    obtain ⟨F2, hF2⟩ : ∃ q : Nat → Nat → Int, q = (va_up F 4 (va_up (F 4) K.toNat 0)) := ⟨_, rfl⟩
    have w : gw D (gA L sz) s.heap H locs L (mSt cI mo A f v F2) := by rw [hF2, ← mU_4 (F := F) g]; exact w
    refine lv_aload_n hx hb d_M_set_27 rfl (lv_at hl 0 rfl) ?_
    refine lv_dup hx hb d_M_set_28 rfl ?_
    refine gk_get X w g.1.1 (show (mSt cI mo A f v F2) mo = .inr (4, _) from mS_m) rfl in_M 1 (by decide) lk_M_39 rfl d_M_set_29 ?_
    rw [show v 1 = K from hi1]
    refine lv_iconst (v := iN (1)) hx hb d_M_set_32 (by decide) ?_
    refine ri_add (a := K) (b := 1) hx hb d_M_set_33 rfl rfl ?_
    refine gk_put X w g.1.1 (show (mSt cI mo A f v F2) mo = .inr (4, _) from mS_m) rfl in_M ty_M tyok_M nm_M 1 (by decide) lk_M_39 rfl (ty := .int) (by decide +kernel) rfl rfl (Nat.le_of_ble_eq_true rfl) d_M_set_34 (fun H locs w => ?_)
    obtain ⟨v3, hv3⟩ : ∃ q : Nat → Int, q = va_up v 1 ((K + 1)) := ⟨_, rfl⟩
    have v3s : v3 1 = (K + 1) := by rw [hv3, va_up_self]
    have v3n : ∀ j, j ≠ 1 → v3 j = v j := fun j hj => by rw [hv3, va_up_ne _ _ hj]
    have w : gw D (gA L sz) s.heap H locs L (mSt cI mo A f v3 F2) := by rw [hv3, ← mU_m (v := v)]; exact w
    refine lv_aload_n hx hb d_M_set_37 rfl (lv_at hl 0 rfl) ?_
    refine gk_get X w g.1.1 (show (mSt cI mo A f v3 F2) mo = .inr (4, _) from mS_m) rfl in_M 1 (by decide) lk_M_39 rfl d_M_set_38 ?_
    rw [show v3 1 = (K + 1) from (v3s)]
    refine lv_iconst (v := iN (1)) hx hb d_M_set_41 (by decide) ?_
    refine ri_sub (a := (K + 1)) (b := 1) hx hb d_M_set_42 rfl rfl ?_
    refine g_iret X w hrt hlk d_M_set_43 (Or.inr ⟨by omega, by congr 1; omega, v3, F2, rfl, ⟨(v3n 0 (by decide)).trans hi0, by rw [v3s], by omega, by omega, fun i hi => ?_⟩, (v3n 11 (by decide)).trans h11, (v3n 12 (by decide)).trans h12⟩)
    by_cases e9 : i = K.toNat
    · subst e9; rw [su_s, hF2, va_up_self, va_up_self]; exact ⟨rfl, fun j q hq => by simp at hq⟩
    · rw [su_n e9, hF2, va_up_self, va_up_ne _ _ e9, va_up_ne _ _ (by decide), va_up_ne _ _ (by decide)]; exact hi4 i (by omega)
  · skip
    refine lv_bipush (v := iN (-5)) hx hb d_M_set_14 (by decide) ?_
    exact g_iret X w hrt hlk d_M_set_16 (Or.inl ⟨by omega, rfl, v, F, rfl, hI0, h11, h12⟩)
theorem mInv_pt {v : Nat → Int} {F F' : Nat → Nat → Int} {K : Int} {S : Nat → List Pt} {z x y : Int} (h : mInv v F K S) (hok : okS K S) (hz : 0 ≤ z ∧ z < K) (e4 : F' 4 = va_up (F 4) z.toNat (F 4 z.toNat + 1)) (e2 : F' 2 = va_up (F 2) (24 * z.toNat + (S z.toNat).length) x) (e3 : F' 3 = va_up (F 3) (24 * z.toNat + (S z.toNat).length) y) (hz4 : F 4 z.toNat = (S z.toNat).length) (hl : (S z.toNat).length < 24) : mInv v F' K (supd S z.toNat (S z.toNat ++ [(x, y)])) := by
  obtain ⟨a, b, c, d, e⟩ := h
  refine ⟨a, b, c, d, fun i hi => ?_⟩
  obtain ⟨i4, iq⟩ := e i hi
  by_cases ei : i = z.toNat
  · subst ei
    rw [su_s, e4, va_up_self]
    refine ⟨by rw [hz4]; simp, fun j q hq => ?_⟩
    rw [e2, e3]
    by_cases ej : j = (S z.toNat).length
    · subst ej
      simp at hq
      subst hq
      exact ⟨va_up_self _ _ _, va_up_self _ _ _⟩
    · rw [va_up_ne _ _ (by omega), va_up_ne _ _ (by omega)]
      rw [List.getElem?_append] at hq
      split at hq
      · exact iq j q hq
      · rw [List.getElem?_eq_none (by simp; omega)] at hq; exact absurd hq (by simp)
  · rw [su_n ei, e4, va_up_ne _ _ ei]
    refine ⟨i4, fun j q hq => ?_⟩
    have hj : j < (S i).length := (List.getElem?_eq_some_iff.mp hq).1
    have := (hok i hi).1
    rw [e2, e3, va_up_ne _ _ (by omega), va_up_ne _ _ (by omega)]
    exact iq j q hq
set_option maxHeartbeats 4000000 in
set_option maxRecDepth 100000 in
theorem c_M_point (l : Launch) {D : va_G} {cI cR : ClassId} {L : List Nat} {f : Nat → va_E} {mo : Nat} {A : Nat → Nat} {v : Nat → Int} {F : Nat → Nat → Int} (g : mg L mo A) {K t1 t2 : Int} {S : Nat → List Pt} (hI0 : mInv v F K S) (h11 : v 11 = t1) (h12 : v 12 = t2) (hok : okS K S) (hhu : hulS K S) {z : Int} (hz : i3 z) {x y : Int} (hx3 : i3 x) (hy3 : i3 y) : gMi D cI cR l y_M_point (Cond.code y_M_point b_M_point 5 (some .int) :: lw_g) { frames := 1, cells := 0, slots := 0, locals := 22 } [.ref mo, .int (iN (z)), .int (iN (x)), .int (iN (y))] L (mSt cI mo A f v F) (fun r u => r = iN (ptA K S z x y) ∧ mpost L cI mo A f K t1 t2 (ptS K S z x y) u) := by
  intro sz
  refine g_enter (by decide) rfl (Nat.le_of_ble_eq_true rfl) ?_
  intro p e s m below meth cd ls X hrt hlk hnm hl hsz w
  have X : gx p m cd b_M_point 5 s _ "HullSumsModel" D cI cR := X
  have hx := X.1.1
  have hb := X.1.2.1
  have hl : lv_has ls 5 [(0, .ref mo), (1, .int (iN (z))), (2, .int (iN (x))), (3, .int (iN (y)))] := hl
  have hI1 := hI0
  obtain ⟨hi0, hi1, hi2, hi3, hi4⟩ := hI1
  refine lv_aload_n hx hb d_M_point_0 rfl (lv_at hl 0 rfl) ?_
  refine lv_iload_n hx hb d_M_point_1 rfl (lv_at hl 1 rfl) ?_
  refine g_ci w (g_runV (As := [.int (iN (z))]) (rest := []) X w (c_M_is l g (v := v) (F := F) hi0 (by rw [hi1]; unfold i3; omega) (z := z) hz) k_M_is v_M_is lk_M_79 g.1.1 (show mSt cI mo A f v F mo = .inr (4, _) from mS_m) rfl ⟨(Nat.le_of_ble_eq_true rfl), (Nat.le_of_ble_eq_true rfl)⟩ rfl hl.1 rfl (Nat.le_of_ble_eq_true rfl) d_M_point_2 ⟨(Nat.le_of_ble_eq_true rfl), (Nat.le_of_ble_eq_true rfl)⟩) (fun r u H locs hp w => ?_)
  obtain ⟨hr9, rfl⟩ := hp
  rw [hi1] at hr9
  subst hr9
  have w : gw D (gA L sz) s.heap H locs L (mSt cI mo A f v F) := w
  refine ri_zne (a := (bI (0 ≤ z ∧ z < K))) (tgt := 10) hx hb d_M_point_5 (by decide) rfl (bI_3 _) (fun c5 => ?_) (fun c5 => ?_)
  · skip
    refine lv_iload_n hx hb d_M_point_10 rfl (lv_at hl 2 rfl) ?_
    refine lv_bipush (v := iN (-100)) hx hb d_M_point_11 (by decide) ?_
    refine lv_bipush (v := iN (100)) hx hb d_M_point_13 (by decide) ?_
    refine g_ci w (g_runS (As := [.int (iN (x)), .int (iN (-100)), .int (iN (100))]) (rest := []) X w (c_M_in l (z := x) (x := -100) (y := 100) hx3 (by unfold i3; omega) (by unfold i3; omega)) k_M_in lk_M_83 st_M_in ⟨(Nat.le_of_ble_eq_true rfl), (Nat.le_of_ble_eq_true rfl)⟩ rfl hl.1 rfl (Nat.le_of_ble_eq_true rfl) d_M_point_15 ⟨Nat.zero_le _, Nat.zero_le _⟩) (fun r u H locs hp w => ?_)
    obtain ⟨rfl, rfl⟩ := hp
    have w : gw D (gA L sz) s.heap H locs L (mSt cI mo A f v F) := w
    refine ri_zeq (a := (bI (-100 ≤ x ∧ x ≤ 100))) (tgt := 32) hx hb d_M_point_18 (by decide) rfl (bI_3 _) (fun c18 => ?_) (fun c18 => ?_)
    · skip
      refine lv_bipush (v := iN (-2)) hx hb d_M_point_32 (by decide) ?_
      have hA : ptA K S z x y = -2 := by unfold ptA; rw [if_pos (bI_n c5), if_neg (fun q => by first | exact bI_0 c18 q.1 | exact bI_0 (by omega) q.2)]
      exact g_iret X w hrt hlk d_M_point_34 ⟨by rw [hA], v, F, rfl, by rw [ptS_n hA (by decide)]; exact hI0, h11, h12⟩
    · skip
      refine lv_iload_n hx hb d_M_point_21 rfl (lv_at hl 3 rfl) ?_
      refine lv_bipush (v := iN (-100)) hx hb d_M_point_22 (by decide) ?_
      refine lv_bipush (v := iN (100)) hx hb d_M_point_24 (by decide) ?_
      refine g_ci w (g_runS (As := [.int (iN (y)), .int (iN (-100)), .int (iN (100))]) (rest := []) X w (c_M_in l (z := y) (x := -100) (y := 100) hy3 (by unfold i3; omega) (by unfold i3; omega)) k_M_in lk_M_83 st_M_in ⟨(Nat.le_of_ble_eq_true rfl), (Nat.le_of_ble_eq_true rfl)⟩ rfl hl.1 rfl (Nat.le_of_ble_eq_true rfl) d_M_point_26 ⟨Nat.zero_le _, Nat.zero_le _⟩) (fun r u H locs hp w => ?_)
      obtain ⟨rfl, rfl⟩ := hp
      have w : gw D (gA L sz) s.heap H locs L (mSt cI mo A f v F) := w
      refine ri_zne (a := (bI (-100 ≤ y ∧ y ≤ 100))) (tgt := 35) hx hb d_M_point_29 (by decide) rfl (bI_3 _) (fun c29 => ?_) (fun c29 => ?_)
      · skip
        have hzr : 0 ≤ z ∧ z < K := bI_n c5
        obtain ⟨hz4, hzq⟩ := hi4 z.toNat (by omega)
        obtain ⟨hl24, hbz⟩ := hok z.toNat (by omega)
        refine lv_iconst (v := iN (0)) hx hb d_M_point_35 (by decide) ?_
        refine lv_istore (lv' := [(4, .int (iN (0))), (0, .ref mo), (1, .int (iN (z))), (2, .int (iN (x))), (3, .int (iN (y)))]) hx hb d_M_point_36 hl (by decide) rfl (fun ls hl => ?_)
        refine g_loop (σ := Int) (fun z9 => ((S z.toNat).length - z9).toNat) (fun z9 => [(0, .ref mo), (1, .int (iN (z))), (2, .int (iN (x))), (3, .int (iN (y))), (4, .int (iN (z9)))]) L (fun z9 => (mSt cI mo A f v F)) (fun z9 => 0 ≤ z9 ∧ z9 ≤ (S z.toNat).length ∧ ¬ pin (S z.toNat) z9 x y) ?_ 0 _ _ _ ⟨by omega, by omega, fun ⟨_, q0, q1, _⟩ => by omega⟩ w (lv_sub hl [1, 2, 3, 4, 0] rfl)
        intro k H locs ls hI w hl ih
        have hl : lv_has ls 5 [(0, .ref mo), (1, .int (iN (z))), (2, .int (iN (x))), (3, .int (iN (y))), (4, .int (iN (k)))] := hl
        have w : gw D (gA L sz) s.heap H locs L ((mSt cI mo A f v F)) := w
        have hI : 0 ≤ k ∧ k ≤ (S z.toNat).length ∧ ¬ pin (S z.toNat) k x y := hI
        obtain ⟨h0, h1, h2⟩ := hI
        refine lv_iload hx hb d_M_point_38 (lv_at hl 4 rfl) ?_
        refine lv_aload_n hx hb d_M_point_40 rfl (lv_at hl 0 rfl) ?_
        refine gk_get X w g.1.1 (show (mSt cI mo A f v F) mo = .inr (4, _) from mS_m) rfl in_M 4 (by decide) lk_M_16 rfl d_M_point_41 ?_
        refine lv_iload_n hx hb d_M_point_44 rfl (lv_at hl 1 rfl) ?_
        refine gk_iald X w 0 g.1.2.2.2.1 (mS_4 g) rfl (vin (by omega) (by omega) (by decide)) d_M_point_45 ?_
        rw [vclN 8 (by omega) (by omega) (by decide)]
        refine ri_cge (a := k) (b := (F 4 z.toNat)) (tgt := 89) hx hb d_M_point_46 (by decide) rfl rfl (by unfold i3; omega) (by rw [hz4]; unfold i3; omega) (fun c46 => ?_) (fun c46 => ?_)
        · skip
          rw [hz4] at c46
          have hkl : k = (S z.toNat).length := by omega
          refine lv_aload_n hx hb d_M_point_89 rfl (lv_at hl 0 rfl) ?_
          refine gk_get X w g.1.1 (show (mSt cI mo A f v F) mo = .inr (4, _) from mS_m) rfl in_M 4 (by decide) lk_M_16 rfl d_M_point_90 ?_
          refine lv_iload_n hx hb d_M_point_93 rfl (lv_at hl 1 rfl) ?_
          refine gk_iald X w 0 g.1.2.2.2.1 (mS_4 g) rfl (vin (by omega) (by omega) (by decide)) d_M_point_94 ?_
          rw [vclN 8 (by omega) (by omega) (by decide)]
          refine lv_bipush (v := iN (24)) hx hb d_M_point_95 (by decide) ?_
          refine ri_cne (a := (F 4 z.toNat)) (b := 24) (tgt := 103) hx hb d_M_point_97 (by decide) rfl rfl (by rw [hz4]; unfold i3; omega) (by unfold i3; omega) (fun c97 => ?_) (fun c97 => ?_)
          · skip
            rw [hz4] at c97
            refine lv_aload_n hx hb d_M_point_103 rfl (lv_at hl 0 rfl) ?_
            refine gk_get X w g.1.1 (show (mSt cI mo A f v F) mo = .inr (4, _) from mS_m) rfl in_M 2 (by decide) lk_M_7 rfl d_M_point_104 ?_
            refine lv_bipush (v := iN (24)) hx hb d_M_point_107 (by decide) ?_
            refine lv_iload_n hx hb d_M_point_109 rfl (lv_at hl 1 rfl) ?_
            refine ri_mul (a := 24) (b := z) hx hb d_M_point_110 rfl rfl ?_
            refine lv_aload_n hx hb d_M_point_111 rfl (lv_at hl 0 rfl) ?_
            refine gk_get X w g.1.1 (show (mSt cI mo A f v F) mo = .inr (4, _) from mS_m) rfl in_M 4 (by decide) lk_M_16 rfl d_M_point_112 ?_
            refine lv_iload_n hx hb d_M_point_115 rfl (lv_at hl 1 rfl) ?_
            refine gk_iald X w 0 g.1.2.2.2.1 (mS_4 g) rfl (vin (by omega) (by omega) (by decide)) d_M_point_116 ?_
            rw [vclN 8 (by omega) (by omega) (by decide)]
            refine ri_add (a := (24 * z)) (b := (F 4 z.toNat)) hx hb d_M_point_117 rfl rfl ?_
            refine lv_iload_n hx hb d_M_point_118 rfl (lv_at hl 2 rfl) ?_
            refine gk_iast X w 0 g.1.2.1 (mS_2 g) rfl (vin (by rw [hz4]; omega) (by rw [hz4]; omega) (by decide)) d_M_point_119 (fun H locs w => ?_)
            rw [vclN 192 (by rw [hz4]; omega) (by rw [hz4]; omega) (by decide), upd_iN] at w
            obtain ⟨F1, hF1⟩ : ∃ q : Nat → Nat → Int, q = (va_up F 2 (va_up (F 2) ((24 * z) + (F 4 z.toNat)).toNat x)) := ⟨_, rfl⟩
            have w : gw D (gA L sz) s.heap H locs L (mSt cI mo A f v F1) := by rw [hF1, ← mU_2 (F := F) g]; exact w
            have FX4 : F1 4 = F 4 := by rw [hF1, va_up_ne _ _ (by decide)]
            refine lv_aload_n hx hb d_M_point_120 rfl (lv_at hl 0 rfl) ?_
            refine gk_get X w g.1.1 (show (mSt cI mo A f v F1) mo = .inr (4, _) from mS_m) rfl in_M 3 (by decide) lk_M_13 rfl d_M_point_121 ?_
            refine lv_bipush (v := iN (24)) hx hb d_M_point_124 (by decide) ?_
            refine lv_iload_n hx hb d_M_point_126 rfl (lv_at hl 1 rfl) ?_
            refine ri_mul (a := 24) (b := z) hx hb d_M_point_127 rfl rfl ?_
            refine lv_aload_n hx hb d_M_point_128 rfl (lv_at hl 0 rfl) ?_
            refine gk_get X w g.1.1 (show (mSt cI mo A f v F1) mo = .inr (4, _) from mS_m) rfl in_M 4 (by decide) lk_M_16 rfl d_M_point_129 ?_
            refine lv_iload_n hx hb d_M_point_132 rfl (lv_at hl 1 rfl) ?_
            refine gk_iald X w 0 g.1.2.2.2.1 (mS_4 g) rfl (vin (by omega) (by omega) (by decide)) d_M_point_133 ?_
            rw [vclN 8 (by omega) (by omega) (by decide)]
            refine ri_add (a := (24 * z)) (b := (F1 4 z.toNat)) hx hb d_M_point_134 rfl rfl ?_
            refine lv_iload_n hx hb d_M_point_135 rfl (lv_at hl 3 rfl) ?_
            refine gk_iast X w 0 g.1.2.2.1 (mS_3 g) rfl (vin (by rw [FX4, hz4]; omega) (by rw [FX4, hz4]; omega) (by decide)) d_M_point_136 (fun H locs w => ?_)
            rw [vclN 192 (by rw [FX4, hz4]; omega) (by rw [FX4, hz4]; omega) (by decide), upd_iN] at w
            obtain ⟨F2, hF2⟩ : ∃ q : Nat → Nat → Int, q = (va_up F1 3 (va_up (F1 3) ((24 * z) + (F1 4 z.toNat)).toNat y)) := ⟨_, rfl⟩
            have w : gw D (gA L sz) s.heap H locs L (mSt cI mo A f v F2) := by rw [hF2, ← mU_3 (F := F1) g]; exact w
            refine lv_aload_n hx hb d_M_point_137 rfl (lv_at hl 0 rfl) ?_
            refine gk_get X w g.1.1 (show (mSt cI mo A f v F2) mo = .inr (4, _) from mS_m) rfl in_M 4 (by decide) lk_M_16 rfl d_M_point_138 ?_
            refine lv_iload_n hx hb d_M_point_141 rfl (lv_at hl 1 rfl) ?_
            refine lv_dup2_11 hx hb d_M_point_142 rfl rfl ?_
            refine gk_iald X w 0 g.1.2.2.2.1 (mS_4 g) rfl (vin (by omega) (by omega) (by decide)) d_M_point_143 ?_
            rw [vclN 8 (by omega) (by omega) (by decide)]
            refine lv_iconst (v := iN (1)) hx hb d_M_point_144 (by decide) ?_
            refine ri_add (a := (F2 4 z.toNat)) (b := 1) hx hb d_M_point_145 rfl rfl ?_
            refine gk_iast X w 0 g.1.2.2.2.1 (mS_4 g) rfl (vin (by omega) (by omega) (by decide)) d_M_point_146 (fun H locs w => ?_)
            rw [vclN 8 (by omega) (by omega) (by decide), upd_iN] at w
            obtain ⟨F3, hF3⟩ : ∃ q : Nat → Nat → Int, q = (va_up F2 4 (va_up (F2 4) z.toNat ((F2 4 z.toNat) + 1))) := ⟨_, rfl⟩
            have w : gw D (gA L sz) s.heap H locs L (mSt cI mo A f v F3) := by rw [hF3, ← mU_4 (F := F2) g]; exact w
            refine lv_iconst (v := iN (1)) hx hb d_M_point_147 (by decide) ?_
            have hA : ptA K S z x y = 1 := by unfold ptA; rw [if_pos hzr, if_pos ⟨bI_n c18, bI_n c29⟩, if_neg (by rw [← hkl]; exact h2), if_neg (by omega)]
            have e4 : F3 4 = va_up (F 4) z.toNat (F 4 z.toNat + 1) := by rw [hF3, va_up_self, hF2, va_up_ne _ _ (by decide), hF1, va_up_ne _ _ (by decide)]
            have eix : ((24 * z) + (F 4 z.toNat)).toNat = 24 * z.toNat + (S z.toNat).length := by rw [hz4]; omega
            have e2 : F3 2 = va_up (F 2) (24 * z.toNat + (S z.toNat).length) x := by rw [hF3, va_up_ne _ _ (by decide), hF2, va_up_ne _ _ (by decide), hF1, va_up_self, eix]
            have e3 : F3 3 = va_up (F 3) (24 * z.toNat + (S z.toNat).length) y := by rw [hF3, va_up_ne _ _ (by decide), hF2, va_up_self, hF1, va_up_ne _ _ (by decide), va_up_ne _ _ (by decide), eix]
            refine g_iret X w hrt hlk d_M_point_148 ⟨by rw [hA], v, F3, rfl, ?_, h11, h12⟩
            rw [ptS_1 hA]
            exact mInv_pt hI0 hok hzr e4 e2 e3 hz4 (by omega)
          · skip
            refine lv_bipush (v := iN (-5)) hx hb d_M_point_100 (by decide) ?_
            have hA : ptA K S z x y = -5 := by unfold ptA; rw [if_pos hzr, if_pos ⟨bI_n c18, bI_n c29⟩, if_neg (by rw [← hkl]; exact h2), if_pos (by rw [hz4] at c97; omega)]
            exact g_iret X w hrt hlk d_M_point_102 ⟨by rw [hA], v, F, rfl, by rw [ptS_n hA (by decide)]; exact hI0, h11, h12⟩
        · skip
          rw [hz4] at c46
          obtain ⟨kk, qk, ekk, hqk, exk, eyk⟩ := px_get (P := (S z.toNat)) (i := k) h0 (by omega)
          have hkq := hzq kk qk hqk
          have eix : ((24 * z) + k).toNat = 24 * z.toNat + kk := by omega
          refine lv_aload_n hx hb d_M_point_49 rfl (lv_at hl 0 rfl) ?_
          refine gk_get X w g.1.1 (show (mSt cI mo A f v F) mo = .inr (4, _) from mS_m) rfl in_M 2 (by decide) lk_M_7 rfl d_M_point_50 ?_
          refine lv_bipush (v := iN (24)) hx hb d_M_point_53 (by decide) ?_
          refine lv_iload_n hx hb d_M_point_55 rfl (lv_at hl 1 rfl) ?_
          refine ri_mul (a := 24) (b := z) hx hb d_M_point_56 rfl rfl ?_
          refine lv_iload hx hb d_M_point_57 (lv_at hl 4 rfl) ?_
          refine ri_add (a := (24 * z)) (b := k) hx hb d_M_point_59 rfl rfl ?_
          refine gk_iald X w 0 g.1.2.1 (mS_2 g) rfl (vin (by omega) (by omega) (by decide)) d_M_point_60 ?_
          rw [vclN 192 (by omega) (by omega) (by decide)]
          refine lv_iload_n hx hb d_M_point_61 rfl (lv_at hl 2 rfl) ?_
          refine ri_cne (a := (F 2 ((24 * z) + k).toNat)) (b := x) (tgt := 83) hx hb d_M_point_62 (by decide) rfl rfl (by rw [eix, hkq.1]; have := hbz qk (List.mem_of_getElem? hqk); unfold bq at this; unfold i3; omega) hx3 (fun c62 => ?_) (fun c62 => ?_)
          · skip
            refine lv_iinc (v := iN ((k + 1))) (lv' := [(4, .int (iN ((k + 1)))), (0, .ref mo), (1, .int (iN (z))), (2, .int (iN (x))), (3, .int (iN (y)))]) hx hb d_M_point_83 hl (k := 4) rfl (by rw [show (k + 1) = k + (1 : Int) by omega, ← iN_add]; rfl) (by decide) rfl (fun ls hl => ?_)
            refine lv_goto (tgt := 38) hx hb d_M_point_86 (by decide) ?_
            exact ih (k + 1) _ _ _ (by omega) ⟨by omega, by omega, fun ⟨j, q0, q1, q2, q3⟩ => by by_cases e9 : j = k; (subst e9; rw [exk] at q2; rw [eyk] at q3; rw [eix, hkq.1] at c62; exact c62 q2); exact h2 ⟨j, q0, by omega, q2, q3⟩⟩ w (lv_sub hl [1, 2, 3, 4, 0] rfl)
          · skip
            refine lv_aload_n hx hb d_M_point_65 rfl (lv_at hl 0 rfl) ?_
            refine gk_get X w g.1.1 (show (mSt cI mo A f v F) mo = .inr (4, _) from mS_m) rfl in_M 3 (by decide) lk_M_13 rfl d_M_point_66 ?_
            refine lv_bipush (v := iN (24)) hx hb d_M_point_69 (by decide) ?_
            refine lv_iload_n hx hb d_M_point_71 rfl (lv_at hl 1 rfl) ?_
            refine ri_mul (a := 24) (b := z) hx hb d_M_point_72 rfl rfl ?_
            refine lv_iload hx hb d_M_point_73 (lv_at hl 4 rfl) ?_
            refine ri_add (a := (24 * z)) (b := k) hx hb d_M_point_75 rfl rfl ?_
            refine gk_iald X w 0 g.1.2.2.1 (mS_3 g) rfl (vin (by omega) (by omega) (by decide)) d_M_point_76 ?_
            rw [vclN 192 (by omega) (by omega) (by decide)]
            refine lv_iload_n hx hb d_M_point_77 rfl (lv_at hl 3 rfl) ?_
            refine ri_cne (a := (F 3 ((24 * z) + k).toNat)) (b := y) (tgt := 83) hx hb d_M_point_78 (by decide) rfl rfl (by rw [eix, hkq.2]; have := hbz qk (List.mem_of_getElem? hqk); unfold bq at this; unfold i3; omega) hy3 (fun c78 => ?_) (fun c78 => ?_)
            · skip
              refine lv_iinc (v := iN ((k + 1))) (lv' := [(4, .int (iN ((k + 1)))), (0, .ref mo), (1, .int (iN (z))), (2, .int (iN (x))), (3, .int (iN (y)))]) hx hb d_M_point_83 hl (k := 4) rfl (by rw [show (k + 1) = k + (1 : Int) by omega, ← iN_add]; rfl) (by decide) rfl (fun ls hl => ?_)
              refine lv_goto (tgt := 38) hx hb d_M_point_86 (by decide) ?_
              exact ih (k + 1) _ _ _ (by omega) ⟨by omega, by omega, fun ⟨j, q0, q1, q2, q3⟩ => by by_cases e9 : j = k; (subst e9; rw [exk] at q2; rw [eyk] at q3; rw [eix, hkq.1] at c62; rw [eix, hkq.2] at c78; exact c78 q3); exact h2 ⟨j, q0, by omega, q2, q3⟩⟩ w (lv_sub hl [1, 2, 3, 4, 0] rfl)
            · skip
              refine lv_iconst (v := iN (0)) hx hb d_M_point_81 (by decide) ?_
              have hA : ptA K S z x y = 0 := by unfold ptA; rw [if_pos hzr, if_pos ⟨bI_n c18, bI_n c29⟩, if_pos ⟨k, h0, by omega, by rw [exk]; rw [eix, hkq.1] at c62; omega, by rw [eyk]; rw [eix, hkq.2] at c78; omega⟩]
              exact g_iret X w hrt hlk d_M_point_82 ⟨by rw [hA], v, F, rfl, by rw [ptS_n hA (by decide)]; exact hI0, h11, h12⟩
      · skip
        refine lv_bipush (v := iN (-2)) hx hb d_M_point_32 (by decide) ?_
        have hA : ptA K S z x y = -2 := by unfold ptA; rw [if_pos (bI_n c5), if_neg (fun q => by first | exact bI_0 c18 q.1 | exact bI_0 (by omega) q.2)]
        exact g_iret X w hrt hlk d_M_point_34 ⟨by rw [hA], v, F, rfl, by rw [ptS_n hA (by decide)]; exact hI0, h11, h12⟩
  · skip
    refine lv_iconst (v := iN (-1)) hx hb d_M_point_8 (by decide) ?_
    have hA : ptA K S z x y = -1 := by unfold ptA; rw [if_neg (bI_0 (by omega))]
    exact g_iret X w hrt hlk d_M_point_9 ⟨by rw [hA], v, F, rfl, by rw [ptS_n hA (by decide)]; exact hI0, h11, h12⟩
