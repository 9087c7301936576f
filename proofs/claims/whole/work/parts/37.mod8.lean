/-! THE REFERENCE: its public methods, first part -/
def mpost (L : List Nat) (cI : ClassId) (mo : Nat) (A : Nat → Nat) (f : Nat → va_E) (K t1 t2 : Int) (S : Nat → List Pt) (u : List Nat × (Nat → va_E)) : Prop :=
  ∃ (v' : Nat → Int) (F' : Nat → Nat → Int), u = (L, mSt cI mo A f v' F') ∧ mInv v' F' K S ∧ v' 11 = t1 ∧ v' 12 = t2
/-- what the mathematics gives of the sets' hulls -/
def hulS (K : Int) (S : Nat → List Pt) : Prop := ∀ i : Nat, (i : Int) < K → isHL (S i) (hullF (S i))

set_option maxHeartbeats 4000000 in
set_option maxRecDepth 100000 in
theorem c_M_points (l : Launch) {D : va_G} {cI cR : ClassId} {L : List Nat} {f : Nat → va_E} {mo : Nat} {A : Nat → Nat} {v : Nat → Int} {F : Nat → Nat → Int} (g : mg L mo A) {K t1 t2 : Int} {S : Nat → List Pt} (hI0 : mInv v F K S) (h11 : v 11 = t1) (h12 : v 12 = t2) (hok : okS K S) (hhu : hulS K S) {z : Int} (hz : i3 z) : gMi D cI cR l y_M_points (Cond.code y_M_points b_M_points 2 (some .int) :: lw_g) { frames := 1, cells := 0, slots := 0, locals := 21 } [.ref mo, .int (iN (z))] L (mSt cI mo A f v F) (fun r u => r = iN (if (0 ≤ z ∧ z < K) then ((S z.toNat).length : Int) else -1) ∧ mpost L cI mo A f K t1 t2 S u) := by
  intro sz
  refine g_enter (by decide) rfl (Nat.le_of_ble_eq_true rfl) ?_
  intro p e s m below meth cd ls X hrt hlk hnm hl hsz w
  have X : gx p m cd b_M_points 2 s _ "HullSumsModel" D cI cR := X
  have hx := X.1.1
  have hb := X.1.2.1
  have hl : lv_has ls 2 [(0, .ref mo), (1, .int (iN (z)))] := hl
  have hI1 := hI0
  obtain ⟨hi0, hi1, hi2, hi3, hi4⟩ := hI1
  refine lv_aload_n hx hb d_M_points_0 rfl (lv_at hl 0 rfl) ?_
  refine lv_iload_n hx hb d_M_points_1 rfl (lv_at hl 1 rfl) ?_
  refine g_ci w (g_runV (As := [.int (iN (z))]) (rest := []) X w (c_M_is l g (v := v) (F := F) hi0 (by rw [hi1]; unfold i3; omega) (z := z) hz) k_M_is v_M_is lk_M_79 g.1.1 (show mSt cI mo A f v F mo = .inr (4, _) from mS_m) rfl ⟨(Nat.le_of_ble_eq_true rfl), (Nat.le_of_ble_eq_true rfl)⟩ rfl hl.1 rfl (Nat.le_of_ble_eq_true rfl) d_M_points_2 ⟨(Nat.le_of_ble_eq_true rfl), (Nat.le_of_ble_eq_true rfl)⟩) (fun r u H locs hp w => ?_)
  obtain ⟨hr9, rfl⟩ := hp
  rw [hi1] at hr9
  subst hr9
  have w : gw D (gA L sz) s.heap H locs L (mSt cI mo A f v F) := w
  refine ri_zeq (a := (bI (0 ≤ z ∧ z < K))) (tgt := 17) hx hb d_M_points_5 (by decide) rfl (bI_3 _) (fun c5 => ?_) (fun c5 => ?_)
  · skip
    refine lv_iconst (v := iN (-1)) hx hb d_M_points_17 (by decide) ?_
    exact g_iret X w hrt hlk d_M_points_18 ⟨by rw [if_neg (bI_0 (by omega))], ⟨v, F, rfl, hI0, h11, h12⟩⟩
  · skip
    have hzr : 0 ≤ z ∧ z < K := bI_n (by omega)
    obtain ⟨hz4, hzq⟩ := hi4 z.toNat (by omega)
    refine lv_aload_n hx hb d_M_points_8 rfl (lv_at hl 0 rfl) ?_
    refine gk_get X w g.1.1 (show (mSt cI mo A f v F) mo = .inr (4, _) from mS_m) rfl in_M 4 (by decide) lk_M_16 rfl d_M_points_9 ?_
    refine lv_iload_n hx hb d_M_points_12 rfl (lv_at hl 1 rfl) ?_
    refine gk_iald X w 0 g.1.2.2.2.1 (mS_4 g) rfl (vin (by omega) (by omega) (by decide)) d_M_points_13 ?_
    rw [vclN 8 (by omega) (by omega) (by decide)]
    refine lv_goto (tgt := 18) hx hb d_M_points_14 (by decide) ?_
    exact g_iret X w hrt hlk d_M_points_18 ⟨by rw [if_pos hzr, hz4], ⟨v, F, rfl, hI0, h11, h12⟩⟩
set_option maxHeartbeats 4000000 in
set_option maxRecDepth 100000 in
theorem c_M_kind (l : Launch) {D : va_G} {cI cR : ClassId} {L : List Nat} {f : Nat → va_E} {mo : Nat} {A : Nat → Nat} {v : Nat → Int} {F : Nat → Nat → Int} (g : mg L mo A) {K t1 t2 : Int} {S : Nat → List Pt} (hI0 : mInv v F K S) (h11 : v 11 = t1) (h12 : v 12 = t2) (hok : okS K S) (hhu : hulS K S) {z : Int} (hz : i3 z) : gMi D cI cR l y_M_kind (Cond.code y_M_kind b_M_kind 2 (some .int) :: lw_g) { frames := 4, cells := 0, slots := 0, locals := 102 } [.ref mo, .int (iN (z))] L (mSt cI mo A f v F) (fun r u => r = iN (if (0 ≤ z ∧ z < K) then min ((hullF (S z.toNat)).length : Int) 3 else -1) ∧ mpost L cI mo A f K t1 t2 S u) := by
  intro sz
  refine g_enter (by decide) rfl (Nat.le_of_ble_eq_true rfl) ?_
  intro p e s m below meth cd ls X hrt hlk hnm hl hsz w
  have X : gx p m cd b_M_kind 2 s _ "HullSumsModel" D cI cR := X
  have hx := X.1.1
  have hb := X.1.2.1
  have hl : lv_has ls 2 [(0, .ref mo), (1, .int (iN (z)))] := hl
  have hI1 := hI0
  obtain ⟨hi0, hi1, hi2, hi3, hi4⟩ := hI1
  refine lv_aload_n hx hb d_M_kind_0 rfl (lv_at hl 0 rfl) ?_
  refine lv_iload_n hx hb d_M_kind_1 rfl (lv_at hl 1 rfl) ?_
  refine g_ci w (g_runV (As := [.int (iN (z))]) (rest := []) X w (c_M_is l g (v := v) (F := F) hi0 (by rw [hi1]; unfold i3; omega) (z := z) hz) k_M_is v_M_is lk_M_79 g.1.1 (show mSt cI mo A f v F mo = .inr (4, _) from mS_m) rfl ⟨(Nat.le_of_ble_eq_true rfl), (Nat.le_of_ble_eq_true rfl)⟩ rfl hl.1 rfl (Nat.le_of_ble_eq_true rfl) d_M_kind_2 ⟨(Nat.le_of_ble_eq_true rfl), (Nat.le_of_ble_eq_true rfl)⟩) (fun r u H locs hp w => ?_)
  obtain ⟨hr9, rfl⟩ := hp
  rw [hi1] at hr9
  subst hr9
  have w : gw D (gA L sz) s.heap H locs L (mSt cI mo A f v F) := w
  refine ri_zne (a := (bI (0 ≤ z ∧ z < K))) (tgt := 10) hx hb d_M_kind_5 (by decide) rfl (bI_3 _) (fun c5 => ?_) (fun c5 => ?_)
  · skip
    refine lv_aload_n hx hb d_M_kind_10 rfl (lv_at hl 0 rfl) ?_
    refine lv_iload_n hx hb d_M_kind_11 rfl (lv_at hl 1 rfl) ?_
    have hzr : 0 ≤ z ∧ z < K := bI_n (by omega)
    obtain ⟨Wl, eWl⟩ : ∃ q, q = S z.toNat := ⟨_, rfl⟩
    obtain ⟨Hu, eHu⟩ : ∃ q, q = hullF (S z.toNat) := ⟨_, rfl⟩
    have hoz := hok z.toNat (by omega)
    have hhz : isHL Wl Hu := by rw [eWl, eHu]; exact hhu z.toNat (by omega)
    have hH576 := hhz.2.2.1
    have hHb : pb 600 Hu := by rw [eHu]; exact pb_of (by decide) (pbl_le (by decide) (pbl_hull hoz.2))
    have hHb3 : pb 300 Hu := by rw [eHu]; exact pb_of (by decide) (pbl_hull hoz.2)
    have hWb : pb 300 Wl := by rw [eWl]; exact pb_of (by decide) hoz.2
    have hW24 : Wl.length ≤ 24 := by rw [eWl]; exact hoz.1
    refine g_cv w (g_runV (As := [.int (iN (z))]) (rest := []) X w ((by have h9 := c_M_load (D := D) (cR := cR) (cI := cI) (f := f) l g hI0 (z := z) hzr hoz.1 (pbl_le (by decide) hoz.2) (Hu := Hu) (by rw [← eWl]; exact hhz); rw [← eWl] at h9; exact h9)) k_M_load v_M_load lk_M_87 g.1.1 (show mSt cI mo A f v F mo = .inr (4, _) from mS_m) rfl ⟨(Nat.le_of_ble_eq_true rfl), (Nat.le_of_ble_eq_true rfl)⟩ rfl hl.1 rfl (Nat.le_of_ble_eq_true rfl) d_M_kind_12 ⟨(Nat.le_of_ble_eq_true rfl), (Nat.le_of_ble_eq_true rfl)⟩) (fun u H locs hp w => ?_)
    obtain ⟨v8, F8, rfl, hL8, hn8, hf8⟩ := hp
    have w : gw D (gA L sz) s.heap H locs L (mSt cI mo A f v8 F8) := w
    obtain ⟨h7, h10, hwF, hhF⟩ := id hL8
    have hI8 := mInv_k hI0 (hn8 0 (by decide) (by decide)) (hn8 1 (by decide) (by decide)) hf8
    have h118 := (hn8 11 (by decide) (by decide)).trans h11
    have h128 := (hn8 12 (by decide) (by decide)).trans h12
    refine lv_aload_n hx hb d_M_kind_15 rfl (lv_at hl 0 rfl) ?_
    refine gk_get X w g.1.1 (show (mSt cI mo A f v8 F8) mo = .inr (4, _) from mS_m) rfl in_M 10 (by decide) lk_M_51 rfl d_M_kind_16 ?_
    rw [show v8 10 = (Hu.length : Int) from h10]
    refine lv_iconst (v := iN (3)) hx hb d_M_kind_19 (by decide) ?_
    refine ri_cge (a := (Hu.length : Int)) (b := 3) (tgt := 30) hx hb d_M_kind_20 (by decide) rfl rfl (by unfold i3; omega) (by unfold i3; omega) (fun c20 => ?_) (fun c20 => ?_)
    · skip
      refine lv_iconst (v := iN (3)) hx hb d_M_kind_30 (by decide) ?_
      exact g_iret X w hrt hlk d_M_kind_31 ⟨by rw [if_pos hzr, ← eHu]; congr 1; omega, ⟨v8, F8, rfl, hI8, h118, h128⟩⟩
    · skip
      refine lv_aload_n hx hb d_M_kind_23 rfl (lv_at hl 0 rfl) ?_
      refine gk_get X w g.1.1 (show (mSt cI mo A f v8 F8) mo = .inr (4, _) from mS_m) rfl in_M 10 (by decide) lk_M_51 rfl d_M_kind_24 ?_
      rw [show v8 10 = (Hu.length : Int) from h10]
      refine lv_goto (tgt := 31) hx hb d_M_kind_27 (by decide) ?_
      exact g_iret X w hrt hlk d_M_kind_31 ⟨by rw [if_pos hzr, ← eHu]; congr 1; omega, ⟨v8, F8, rfl, hI8, h118, h128⟩⟩
  · skip
    refine lv_iconst (v := iN (-1)) hx hb d_M_kind_8 (by decide) ?_
    exact g_iret X w hrt hlk d_M_kind_9 ⟨by rw [if_neg (bI_0 (by omega))], ⟨v, F, rfl, hI0, h11, h12⟩⟩
set_option maxHeartbeats 4000000 in
set_option maxRecDepth 100000 in
theorem c_M_corners (l : Launch) {D : va_G} {cI cR : ClassId} {L : List Nat} {f : Nat → va_E} {mo : Nat} {A : Nat → Nat} {v : Nat → Int} {F : Nat → Nat → Int} (g : mg L mo A) {K t1 t2 : Int} {S : Nat → List Pt} (hI0 : mInv v F K S) (h11 : v 11 = t1) (h12 : v 12 = t2) (hok : okS K S) (hhu : hulS K S) {z : Int} (hz : i3 z) : gMi D cI cR l y_M_corners (Cond.code y_M_corners b_M_corners 2 (some .int) :: lw_g) { frames := 4, cells := 0, slots := 0, locals := 102 } [.ref mo, .int (iN (z))] L (mSt cI mo A f v F) (fun r u => r = iN (if (0 ≤ z ∧ z < K) then ((hullF (S z.toNat)).length : Int) else -1) ∧ mpost L cI mo A f K t1 t2 S u) := by
  intro sz
  refine g_enter (by decide) rfl (Nat.le_of_ble_eq_true rfl) ?_
  intro p e s m below meth cd ls X hrt hlk hnm hl hsz w
  have X : gx p m cd b_M_corners 2 s _ "HullSumsModel" D cI cR := X
  have hx := X.1.1
  have hb := X.1.2.1
  have hl : lv_has ls 2 [(0, .ref mo), (1, .int (iN (z)))] := hl
  have hI1 := hI0
  obtain ⟨hi0, hi1, hi2, hi3, hi4⟩ := hI1
  refine lv_aload_n hx hb d_M_corners_0 rfl (lv_at hl 0 rfl) ?_
  refine lv_iload_n hx hb d_M_corners_1 rfl (lv_at hl 1 rfl) ?_
  refine g_ci w (g_runV (As := [.int (iN (z))]) (rest := []) X w (c_M_is l g (v := v) (F := F) hi0 (by rw [hi1]; unfold i3; omega) (z := z) hz) k_M_is v_M_is lk_M_79 g.1.1 (show mSt cI mo A f v F mo = .inr (4, _) from mS_m) rfl ⟨(Nat.le_of_ble_eq_true rfl), (Nat.le_of_ble_eq_true rfl)⟩ rfl hl.1 rfl (Nat.le_of_ble_eq_true rfl) d_M_corners_2 ⟨(Nat.le_of_ble_eq_true rfl), (Nat.le_of_ble_eq_true rfl)⟩) (fun r u H locs hp w => ?_)
  obtain ⟨hr9, rfl⟩ := hp
  rw [hi1] at hr9
  subst hr9
  have w : gw D (gA L sz) s.heap H locs L (mSt cI mo A f v F) := w
  refine ri_zne (a := (bI (0 ≤ z ∧ z < K))) (tgt := 10) hx hb d_M_corners_5 (by decide) rfl (bI_3 _) (fun c5 => ?_) (fun c5 => ?_)
  · skip
    refine lv_aload_n hx hb d_M_corners_10 rfl (lv_at hl 0 rfl) ?_
    refine lv_iload_n hx hb d_M_corners_11 rfl (lv_at hl 1 rfl) ?_
    have hzr : 0 ≤ z ∧ z < K := bI_n (by omega)
    obtain ⟨Wl, eWl⟩ : ∃ q, q = S z.toNat := ⟨_, rfl⟩
    obtain ⟨Hu, eHu⟩ : ∃ q, q = hullF (S z.toNat) := ⟨_, rfl⟩
    have hoz := hok z.toNat (by omega)
    have hhz : isHL Wl Hu := by rw [eWl, eHu]; exact hhu z.toNat (by omega)
    have hH576 := hhz.2.2.1
    have hHb : pb 600 Hu := by rw [eHu]; exact pb_of (by decide) (pbl_le (by decide) (pbl_hull hoz.2))
    have hHb3 : pb 300 Hu := by rw [eHu]; exact pb_of (by decide) (pbl_hull hoz.2)
    have hWb : pb 300 Wl := by rw [eWl]; exact pb_of (by decide) hoz.2
    have hW24 : Wl.length ≤ 24 := by rw [eWl]; exact hoz.1
    refine g_cv w (g_runV (As := [.int (iN (z))]) (rest := []) X w ((by have h9 := c_M_load (D := D) (cR := cR) (cI := cI) (f := f) l g hI0 (z := z) hzr hoz.1 (pbl_le (by decide) hoz.2) (Hu := Hu) (by rw [← eWl]; exact hhz); rw [← eWl] at h9; exact h9)) k_M_load v_M_load lk_M_87 g.1.1 (show mSt cI mo A f v F mo = .inr (4, _) from mS_m) rfl ⟨(Nat.le_of_ble_eq_true rfl), (Nat.le_of_ble_eq_true rfl)⟩ rfl hl.1 rfl (Nat.le_of_ble_eq_true rfl) d_M_corners_12 ⟨(Nat.le_of_ble_eq_true rfl), (Nat.le_of_ble_eq_true rfl)⟩) (fun u H locs hp w => ?_)
    obtain ⟨v8, F8, rfl, hL8, hn8, hf8⟩ := hp
    have w : gw D (gA L sz) s.heap H locs L (mSt cI mo A f v8 F8) := w
    obtain ⟨h7, h10, hwF, hhF⟩ := id hL8
    have hI8 := mInv_k hI0 (hn8 0 (by decide) (by decide)) (hn8 1 (by decide) (by decide)) hf8
    have h118 := (hn8 11 (by decide) (by decide)).trans h11
    have h128 := (hn8 12 (by decide) (by decide)).trans h12
    refine lv_aload_n hx hb d_M_corners_15 rfl (lv_at hl 0 rfl) ?_
    refine gk_get X w g.1.1 (show (mSt cI mo A f v8 F8) mo = .inr (4, _) from mS_m) rfl in_M 10 (by decide) lk_M_51 rfl d_M_corners_16 ?_
    rw [show v8 10 = (Hu.length : Int) from h10]
    exact g_iret X w hrt hlk d_M_corners_19 ⟨by rw [if_pos (bI_n (by omega)), ← eHu], ⟨v8, F8, rfl, hI8, h118, h128⟩⟩
  · skip
    refine lv_iconst (v := iN (-1)) hx hb d_M_corners_8 (by decide) ?_
    exact g_iret X w hrt hlk d_M_corners_9 ⟨by rw [if_neg (bI_0 (by omega))], ⟨v, F, rfl, hI0, h11, h12⟩⟩
theorem ar2_b {H : List Pt} (h : pb 600 H) (n : Nat) : -(2880000 * (n : Int)) ≤ ar2 H n ∧ ar2 H n ≤ 2880000 * n := by
  induction n with
  | zero => unfold ar2; omega
  | succ n ih =>
    have a := h n; have b := h (nx H n); have c := h 0
    have q1 := mbc (a := pX H n - pX H 0) (b := pY H (nx H n) - pY H 0) 1200 1200 1440000 (by omega) (by omega) (by omega) (by omega) (by decide)
    have q2 := mbc (a := pY H n - pY H 0) (b := pX H (nx H n) - pX H 0) 1200 1200 1440000 (by omega) (by omega) (by omega) (by omega) (by decide)
    unfold ar2; omega
theorem ar2_6 {H : List Pt} (h : pb 600 H) (hl : H.length ≤ 576) : i6 (ar2 H H.length) := by
  have := ar2_b h H.length; unfold i6; omega
set_option maxHeartbeats 4000000 in
set_option maxRecDepth 100000 in
theorem c_M_area (l : Launch) {D : va_G} {cI cR : ClassId} {L : List Nat} {f : Nat → va_E} {mo : Nat} {A : Nat → Nat} {v : Nat → Int} {F : Nat → Nat → Int} (g : mg L mo A) {K t1 t2 : Int} {S : Nat → List Pt} (hI0 : mInv v F K S) (h11 : v 11 = t1) (h12 : v 12 = t2) (hok : okS K S) (hhu : hulS K S) {z : Int} (hz : i3 z) : gMi D cI cR l y_M_area (Cond.code y_M_area b_M_area 2 (some .int) :: lw_g) { frames := 4, cells := 0, slots := 0, locals := 102 } [.ref mo, .int (iN (z))] L (mSt cI mo A f v F) (fun r u => r = iN (if (0 ≤ z ∧ z < K) then ar2 (hullF (S z.toNat)) (hullF (S z.toNat)).length else -1) ∧ mpost L cI mo A f K t1 t2 S u) := by
  intro sz
  refine g_enter (by decide) rfl (Nat.le_of_ble_eq_true rfl) ?_
  intro p e s m below meth cd ls X hrt hlk hnm hl hsz w
  have X : gx p m cd b_M_area 2 s _ "HullSumsModel" D cI cR := X
  have hx := X.1.1
  have hb := X.1.2.1
  have hl : lv_has ls 2 [(0, .ref mo), (1, .int (iN (z)))] := hl
  have hI1 := hI0
  obtain ⟨hi0, hi1, hi2, hi3, hi4⟩ := hI1
  refine lv_aload_n hx hb d_M_area_0 rfl (lv_at hl 0 rfl) ?_
  refine lv_iload_n hx hb d_M_area_1 rfl (lv_at hl 1 rfl) ?_
  refine g_ci w (g_runV (As := [.int (iN (z))]) (rest := []) X w (c_M_is l g (v := v) (F := F) hi0 (by rw [hi1]; unfold i3; omega) (z := z) hz) k_M_is v_M_is lk_M_79 g.1.1 (show mSt cI mo A f v F mo = .inr (4, _) from mS_m) rfl ⟨(Nat.le_of_ble_eq_true rfl), (Nat.le_of_ble_eq_true rfl)⟩ rfl hl.1 rfl (Nat.le_of_ble_eq_true rfl) d_M_area_2 ⟨(Nat.le_of_ble_eq_true rfl), (Nat.le_of_ble_eq_true rfl)⟩) (fun r u H locs hp w => ?_)
  obtain ⟨hr9, rfl⟩ := hp
  rw [hi1] at hr9
  subst hr9
  have w : gw D (gA L sz) s.heap H locs L (mSt cI mo A f v F) := w
  refine ri_zne (a := (bI (0 ≤ z ∧ z < K))) (tgt := 10) hx hb d_M_area_5 (by decide) rfl (bI_3 _) (fun c5 => ?_) (fun c5 => ?_)
  · skip
    refine lv_aload_n hx hb d_M_area_10 rfl (lv_at hl 0 rfl) ?_
    refine lv_iload_n hx hb d_M_area_11 rfl (lv_at hl 1 rfl) ?_
    have hzr : 0 ≤ z ∧ z < K := bI_n (by omega)
    obtain ⟨Wl, eWl⟩ : ∃ q, q = S z.toNat := ⟨_, rfl⟩
    obtain ⟨Hu, eHu⟩ : ∃ q, q = hullF (S z.toNat) := ⟨_, rfl⟩
    have hoz := hok z.toNat (by omega)
    have hhz : isHL Wl Hu := by rw [eWl, eHu]; exact hhu z.toNat (by omega)
    have hH576 := hhz.2.2.1
    have hHb : pb 600 Hu := by rw [eHu]; exact pb_of (by decide) (pbl_le (by decide) (pbl_hull hoz.2))
    have hHb3 : pb 300 Hu := by rw [eHu]; exact pb_of (by decide) (pbl_hull hoz.2)
    have hWb : pb 300 Wl := by rw [eWl]; exact pb_of (by decide) hoz.2
    have hW24 : Wl.length ≤ 24 := by rw [eWl]; exact hoz.1
    refine g_cv w (g_runV (As := [.int (iN (z))]) (rest := []) X w ((by have h9 := c_M_load (D := D) (cR := cR) (cI := cI) (f := f) l g hI0 (z := z) hzr hoz.1 (pbl_le (by decide) hoz.2) (Hu := Hu) (by rw [← eWl]; exact hhz); rw [← eWl] at h9; exact h9)) k_M_load v_M_load lk_M_87 g.1.1 (show mSt cI mo A f v F mo = .inr (4, _) from mS_m) rfl ⟨(Nat.le_of_ble_eq_true rfl), (Nat.le_of_ble_eq_true rfl)⟩ rfl hl.1 rfl (Nat.le_of_ble_eq_true rfl) d_M_area_12 ⟨(Nat.le_of_ble_eq_true rfl), (Nat.le_of_ble_eq_true rfl)⟩) (fun u H locs hp w => ?_)
    obtain ⟨v8, F8, rfl, hL8, hn8, hf8⟩ := hp
    have w : gw D (gA L sz) s.heap H locs L (mSt cI mo A f v8 F8) := w
    obtain ⟨h7, h10, hwF, hhF⟩ := id hL8
    have hI8 := mInv_k hI0 (hn8 0 (by decide) (by decide)) (hn8 1 (by decide) (by decide)) hf8
    have h118 := (hn8 11 (by decide) (by decide)).trans h11
    have h128 := (hn8 12 (by decide) (by decide)).trans h12
    refine lv_aload_n hx hb d_M_area_15 rfl (lv_at hl 0 rfl) ?_
    refine g_cl w (g_runV (As := []) (rest := []) X w (c_M_areaOf l g (v := v8) (F := F8) hL8 hH576 hHb) k_M_areaOf v_M_areaOf lk_M_95 g.1.1 (show (mSt cI mo A f v8 F8) mo = .inr (4, _) from mS_m) rfl ⟨(Nat.le_of_ble_eq_true rfl), (Nat.le_of_ble_eq_true rfl)⟩ rfl hl.1 rfl (Nat.le_of_ble_eq_true rfl) d_M_area_16 ⟨Nat.zero_le _, Nat.zero_le _⟩) (fun r u H locs hp w => ?_)
    obtain ⟨rfl, rfl⟩ := hp
    have w : gw D (gA L sz) s.heap H locs L (mSt cI mo A f v8 F8) := w
    refine ri_l2i (a := (ar2 Hu Hu.length)) hx hb d_M_area_19 rfl (ar2_6 hHb (by omega)) ?_
    exact g_iret X w hrt hlk d_M_area_20 ⟨by rw [if_pos (bI_n (by omega)), ← eHu], ⟨v8, F8, rfl, hI8, h118, h128⟩⟩
  · skip
    refine lv_iconst (v := iN (-1)) hx hb d_M_area_8 (by decide) ?_
    exact g_iret X w hrt hlk d_M_area_9 ⟨by rw [if_neg (bI_0 (by omega))], ⟨v, F, rfl, hI0, h11, h12⟩⟩
set_option maxHeartbeats 4000000 in
set_option maxRecDepth 100000 in
theorem c_M_border (l : Launch) {D : va_G} {cI cR : ClassId} {L : List Nat} {f : Nat → va_E} {mo : Nat} {A : Nat → Nat} {v : Nat → Int} {F : Nat → Nat → Int} (g : mg L mo A) {K t1 t2 : Int} {S : Nat → List Pt} (hI0 : mInv v F K S) (h11 : v 11 = t1) (h12 : v 12 = t2) (hok : okS K S) (hhu : hulS K S) {z : Int} (hz : i3 z) : gMi D cI cR l y_M_border (Cond.code y_M_border b_M_border 2 (some .int) :: lw_g) { frames := 4, cells := 0, slots := 0, locals := 102 } [.ref mo, .int (iN (z))] L (mSt cI mo A f v F) (fun r u => r = iN (if (0 ≤ z ∧ z < K) then boM (hullF (S z.toNat)) else -1) ∧ mpost L cI mo A f K t1 t2 S u) := by
  intro sz
  refine g_enter (by decide) rfl (Nat.le_of_ble_eq_true rfl) ?_
  intro p e s m below meth cd ls X hrt hlk hnm hl hsz w
  have X : gx p m cd b_M_border 2 s _ "HullSumsModel" D cI cR := X
  have hx := X.1.1
  have hb := X.1.2.1
  have hl : lv_has ls 2 [(0, .ref mo), (1, .int (iN (z)))] := hl
  have hI1 := hI0
  obtain ⟨hi0, hi1, hi2, hi3, hi4⟩ := hI1
  refine lv_aload_n hx hb d_M_border_0 rfl (lv_at hl 0 rfl) ?_
  refine lv_iload_n hx hb d_M_border_1 rfl (lv_at hl 1 rfl) ?_
  refine g_ci w (g_runV (As := [.int (iN (z))]) (rest := []) X w (c_M_is l g (v := v) (F := F) hi0 (by rw [hi1]; unfold i3; omega) (z := z) hz) k_M_is v_M_is lk_M_79 g.1.1 (show mSt cI mo A f v F mo = .inr (4, _) from mS_m) rfl ⟨(Nat.le_of_ble_eq_true rfl), (Nat.le_of_ble_eq_true rfl)⟩ rfl hl.1 rfl (Nat.le_of_ble_eq_true rfl) d_M_border_2 ⟨(Nat.le_of_ble_eq_true rfl), (Nat.le_of_ble_eq_true rfl)⟩) (fun r u H locs hp w => ?_)
  obtain ⟨hr9, rfl⟩ := hp
  rw [hi1] at hr9
  subst hr9
  have w : gw D (gA L sz) s.heap H locs L (mSt cI mo A f v F) := w
  refine ri_zne (a := (bI (0 ≤ z ∧ z < K))) (tgt := 10) hx hb d_M_border_5 (by decide) rfl (bI_3 _) (fun c5 => ?_) (fun c5 => ?_)
  · skip
    refine lv_aload_n hx hb d_M_border_10 rfl (lv_at hl 0 rfl) ?_
    refine lv_iload_n hx hb d_M_border_11 rfl (lv_at hl 1 rfl) ?_
    have hzr : 0 ≤ z ∧ z < K := bI_n (by omega)
    obtain ⟨Wl, eWl⟩ : ∃ q, q = S z.toNat := ⟨_, rfl⟩
    obtain ⟨Hu, eHu⟩ : ∃ q, q = hullF (S z.toNat) := ⟨_, rfl⟩
    have hoz := hok z.toNat (by omega)
    have hhz : isHL Wl Hu := by rw [eWl, eHu]; exact hhu z.toNat (by omega)
    have hH576 := hhz.2.2.1
    have hHb : pb 600 Hu := by rw [eHu]; exact pb_of (by decide) (pbl_le (by decide) (pbl_hull hoz.2))
    have hHb3 : pb 300 Hu := by rw [eHu]; exact pb_of (by decide) (pbl_hull hoz.2)
    have hWb : pb 300 Wl := by rw [eWl]; exact pb_of (by decide) hoz.2
    have hW24 : Wl.length ≤ 24 := by rw [eWl]; exact hoz.1
    refine g_cv w (g_runV (As := [.int (iN (z))]) (rest := []) X w ((by have h9 := c_M_load (D := D) (cR := cR) (cI := cI) (f := f) l g hI0 (z := z) hzr hoz.1 (pbl_le (by decide) hoz.2) (Hu := Hu) (by rw [← eWl]; exact hhz); rw [← eWl] at h9; exact h9)) k_M_load v_M_load lk_M_87 g.1.1 (show mSt cI mo A f v F mo = .inr (4, _) from mS_m) rfl ⟨(Nat.le_of_ble_eq_true rfl), (Nat.le_of_ble_eq_true rfl)⟩ rfl hl.1 rfl (Nat.le_of_ble_eq_true rfl) d_M_border_12 ⟨(Nat.le_of_ble_eq_true rfl), (Nat.le_of_ble_eq_true rfl)⟩) (fun u H locs hp w => ?_)
    obtain ⟨v8, F8, rfl, hL8, hn8, hf8⟩ := hp
    have w : gw D (gA L sz) s.heap H locs L (mSt cI mo A f v8 F8) := w
    obtain ⟨h7, h10, hwF, hhF⟩ := id hL8
    have hI8 := mInv_k hI0 (hn8 0 (by decide) (by decide)) (hn8 1 (by decide) (by decide)) hf8
    have h118 := (hn8 11 (by decide) (by decide)).trans h11
    have h128 := (hn8 12 (by decide) (by decide)).trans h12
    refine lv_aload_n hx hb d_M_border_15 rfl (lv_at hl 0 rfl) ?_
    refine g_ci w (g_runV (As := []) (rest := []) X w (c_M_borderOf l g (v := v8) (F := F8) hL8 hH576 hHb) k_M_borderOf v_M_borderOf lk_M_123 g.1.1 (show (mSt cI mo A f v8 F8) mo = .inr (4, _) from mS_m) rfl ⟨(Nat.le_of_ble_eq_true rfl), (Nat.le_of_ble_eq_true rfl)⟩ rfl hl.1 rfl (Nat.le_of_ble_eq_true rfl) d_M_border_16 ⟨Nat.zero_le _, Nat.zero_le _⟩) (fun r u H locs hp w => ?_)
    obtain ⟨rfl, rfl⟩ := hp
    have w : gw D (gA L sz) s.heap H locs L (mSt cI mo A f v8 F8) := w
    exact g_iret X w hrt hlk d_M_border_19 ⟨by rw [if_pos (bI_n (by omega)), ← eHu], ⟨v8, F8, rfl, hI8, h118, h128⟩⟩
  · skip
    refine lv_iconst (v := iN (-1)) hx hb d_M_border_8 (by decide) ?_
    exact g_iret X w hrt hlk d_M_border_9 ⟨by rw [if_neg (bI_0 (by omega))], ⟨v, F, rfl, hI0, h11, h12⟩⟩
set_option maxHeartbeats 4000000 in
set_option maxRecDepth 100000 in
theorem c_M_inside (l : Launch) {D : va_G} {cI cR : ClassId} {L : List Nat} {f : Nat → va_E} {mo : Nat} {A : Nat → Nat} {v : Nat → Int} {F : Nat → Nat → Int} (g : mg L mo A) {K t1 t2 : Int} {S : Nat → List Pt} (hI0 : mInv v F K S) (h11 : v 11 = t1) (h12 : v 12 = t2) (hok : okS K S) (hhu : hulS K S) {z : Int} (hz : i3 z) : gMi D cI cR l y_M_inside (Cond.code y_M_inside b_M_inside 2 (some .int) :: lw_g) { frames := 4, cells := 0, slots := 0, locals := 102 } [.ref mo, .int (iN (z))] L (mSt cI mo A f v F) (fun r u => r = iN (if (0 ≤ z ∧ z < K) then apM (hullF (S z.toNat)) 1 - boM (hullF (S z.toNat)) else -1) ∧ mpost L cI mo A f K t1 t2 S u) := by
  intro sz
  refine g_enter (by decide) rfl (Nat.le_of_ble_eq_true rfl) ?_
  intro p e s m below meth cd ls X hrt hlk hnm hl hsz w
  have X : gx p m cd b_M_inside 2 s _ "HullSumsModel" D cI cR := X
  have hx := X.1.1
  have hb := X.1.2.1
  have hl : lv_has ls 2 [(0, .ref mo), (1, .int (iN (z)))] := hl
  have hI1 := hI0
  obtain ⟨hi0, hi1, hi2, hi3, hi4⟩ := hI1
  refine lv_aload_n hx hb d_M_inside_0 rfl (lv_at hl 0 rfl) ?_
  refine lv_iload_n hx hb d_M_inside_1 rfl (lv_at hl 1 rfl) ?_
  refine g_ci w (g_runV (As := [.int (iN (z))]) (rest := []) X w (c_M_is l g (v := v) (F := F) hi0 (by rw [hi1]; unfold i3; omega) (z := z) hz) k_M_is v_M_is lk_M_79 g.1.1 (show mSt cI mo A f v F mo = .inr (4, _) from mS_m) rfl ⟨(Nat.le_of_ble_eq_true rfl), (Nat.le_of_ble_eq_true rfl)⟩ rfl hl.1 rfl (Nat.le_of_ble_eq_true rfl) d_M_inside_2 ⟨(Nat.le_of_ble_eq_true rfl), (Nat.le_of_ble_eq_true rfl)⟩) (fun r u H locs hp w => ?_)
  obtain ⟨hr9, rfl⟩ := hp
  rw [hi1] at hr9
  subst hr9
  have w : gw D (gA L sz) s.heap H locs L (mSt cI mo A f v F) := w
  refine ri_zne (a := (bI (0 ≤ z ∧ z < K))) (tgt := 10) hx hb d_M_inside_5 (by decide) rfl (bI_3 _) (fun c5 => ?_) (fun c5 => ?_)
  · skip
    refine lv_aload_n hx hb d_M_inside_10 rfl (lv_at hl 0 rfl) ?_
    refine lv_iload_n hx hb d_M_inside_11 rfl (lv_at hl 1 rfl) ?_
    have hzr : 0 ≤ z ∧ z < K := bI_n (by omega)
    obtain ⟨Wl, eWl⟩ : ∃ q, q = S z.toNat := ⟨_, rfl⟩
    obtain ⟨Hu, eHu⟩ : ∃ q, q = hullF (S z.toNat) := ⟨_, rfl⟩
    have hoz := hok z.toNat (by omega)
    have hhz : isHL Wl Hu := by rw [eWl, eHu]; exact hhu z.toNat (by omega)
    have hH576 := hhz.2.2.1
    have hHb : pb 600 Hu := by rw [eHu]; exact pb_of (by decide) (pbl_le (by decide) (pbl_hull hoz.2))
    have hHb3 : pb 300 Hu := by rw [eHu]; exact pb_of (by decide) (pbl_hull hoz.2)
    have hWb : pb 300 Wl := by rw [eWl]; exact pb_of (by decide) hoz.2
    have hW24 : Wl.length ≤ 24 := by rw [eWl]; exact hoz.1
    refine g_cv w (g_runV (As := [.int (iN (z))]) (rest := []) X w ((by have h9 := c_M_load (D := D) (cR := cR) (cI := cI) (f := f) l g hI0 (z := z) hzr hoz.1 (pbl_le (by decide) hoz.2) (Hu := Hu) (by rw [← eWl]; exact hhz); rw [← eWl] at h9; exact h9)) k_M_load v_M_load lk_M_87 g.1.1 (show mSt cI mo A f v F mo = .inr (4, _) from mS_m) rfl ⟨(Nat.le_of_ble_eq_true rfl), (Nat.le_of_ble_eq_true rfl)⟩ rfl hl.1 rfl (Nat.le_of_ble_eq_true rfl) d_M_inside_12 ⟨(Nat.le_of_ble_eq_true rfl), (Nat.le_of_ble_eq_true rfl)⟩) (fun u H locs hp w => ?_)
    obtain ⟨v8, F8, rfl, hL8, hn8, hf8⟩ := hp
    have w : gw D (gA L sz) s.heap H locs L (mSt cI mo A f v8 F8) := w
    obtain ⟨h7, h10, hwF, hhF⟩ := id hL8
    have hI8 := mInv_k hI0 (hn8 0 (by decide) (by decide)) (hn8 1 (by decide) (by decide)) hf8
    have h118 := (hn8 11 (by decide) (by decide)).trans h11
    have h128 := (hn8 12 (by decide) (by decide)).trans h12
    refine lv_aload_n hx hb d_M_inside_15 rfl (lv_at hl 0 rfl) ?_
    refine lv_iconst (v := iN (1)) hx hb d_M_inside_16 (by decide) ?_
    refine g_ci w (g_runV (As := [.int (iN (1))]) (rest := []) X w (c_M_allPoints l g (v := v8) (F := F8) hL8 hH576 hHb (k := 1) (by omega)) k_M_allPoints v_M_allPoints lk_M_127 g.1.1 (show (mSt cI mo A f v8 F8) mo = .inr (4, _) from mS_m) rfl ⟨(Nat.le_of_ble_eq_true rfl), (Nat.le_of_ble_eq_true rfl)⟩ rfl hl.1 rfl (Nat.le_of_ble_eq_true rfl) d_M_inside_17 ⟨(Nat.le_of_ble_eq_true rfl), (Nat.le_of_ble_eq_true rfl)⟩) (fun r u H locs hp w => ?_)
    obtain ⟨rfl, v6, rfl, hn6⟩ := hp
    have w : gw D (gA L sz) s.heap H locs L (mSt cI mo A f v6 F8) := w
    have hL8 : mLd v6 F8 Wl Hu := ⟨(hn6 7 (by decide) (by decide)).trans h7, (hn6 10 (by decide) (by decide)).trans h10, hwF, hhF⟩
    have hI8 := mInv_k hI8 (hn6 0 (by decide) (by decide)) (hn6 1 (by decide) (by decide)) (fun _ _ => rfl)
    have h118 := (hn6 11 (by decide) (by decide)).trans h118
    have h128 := (hn6 12 (by decide) (by decide)).trans h128
    refine lv_aload_n hx hb d_M_inside_20 rfl (lv_at hl 0 rfl) ?_
    refine g_ci w (g_runV (As := []) (rest := [.int (iN ((apM Hu 1)))]) X w (c_M_borderOf l g (v := v6) (F := F8) hL8 hH576 hHb) k_M_borderOf v_M_borderOf lk_M_123 g.1.1 (show (mSt cI mo A f v6 F8) mo = .inr (4, _) from mS_m) rfl ⟨(Nat.le_of_ble_eq_true rfl), (Nat.le_of_ble_eq_true rfl)⟩ rfl hl.1 rfl (Nat.le_of_ble_eq_true rfl) d_M_inside_21 ⟨Nat.zero_le _, Nat.zero_le _⟩) (fun r u H locs hp w => ?_)
    obtain ⟨rfl, rfl⟩ := hp
    have w : gw D (gA L sz) s.heap H locs L (mSt cI mo A f v6 F8) := w
    refine ri_sub (a := (apM Hu 1)) (b := (boM Hu)) hx hb d_M_inside_24 rfl rfl ?_
    exact g_iret X w hrt hlk d_M_inside_25 ⟨by rw [if_pos (bI_n (by omega)), ← eHu], ⟨v6, F8, rfl, hI8, h118, h128⟩⟩
  · skip
    refine lv_iconst (v := iN (-1)) hx hb d_M_inside_8 (by decide) ?_
    exact g_iret X w hrt hlk d_M_inside_9 ⟨by rw [if_neg (bI_0 (by omega))], ⟨v, F, rfl, hI0, h11, h12⟩⟩
set_option maxHeartbeats 4000000 in
set_option maxRecDepth 100000 in
theorem c_M_grown (l : Launch) {D : va_G} {cI cR : ClassId} {L : List Nat} {f : Nat → va_E} {mo : Nat} {A : Nat → Nat} {v : Nat → Int} {F : Nat → Nat → Int} (g : mg L mo A) {K t1 t2 : Int} {S : Nat → List Pt} (hI0 : mInv v F K S) (h11 : v 11 = t1) (h12 : v 12 = t2) (hok : okS K S) (hhu : hulS K S) {z : Int} (hz : i3 z) {k : Int} (hk3 : i3 k) : gMi D cI cR l y_M_grown (Cond.code y_M_grown b_M_grown 3 (some .int) :: lw_g) { frames := 4, cells := 0, slots := 0, locals := 102 } [.ref mo, .int (iN (z)), .int (iN (k))] L (mSt cI mo A f v F) (fun r u => r = iN (if (0 ≤ z ∧ z < K) then (if 0 ≤ k ∧ k ≤ 6 then apM (hullF (S z.toNat)) k else -2) else -1) ∧ mpost L cI mo A f K t1 t2 S u) := by
  intro sz
  refine g_enter (by decide) rfl (Nat.le_of_ble_eq_true rfl) ?_
  intro p e s m below meth cd ls X hrt hlk hnm hl hsz w
  have X : gx p m cd b_M_grown 3 s _ "HullSumsModel" D cI cR := X
  have hx := X.1.1
  have hb := X.1.2.1
  have hl : lv_has ls 3 [(0, .ref mo), (1, .int (iN (z))), (2, .int (iN (k)))] := hl
  have hI1 := hI0
  obtain ⟨hi0, hi1, hi2, hi3, hi4⟩ := hI1
  refine lv_aload_n hx hb d_M_grown_0 rfl (lv_at hl 0 rfl) ?_
  refine lv_iload_n hx hb d_M_grown_1 rfl (lv_at hl 1 rfl) ?_
  refine g_ci w (g_runV (As := [.int (iN (z))]) (rest := []) X w (c_M_is l g (v := v) (F := F) hi0 (by rw [hi1]; unfold i3; omega) (z := z) hz) k_M_is v_M_is lk_M_79 g.1.1 (show mSt cI mo A f v F mo = .inr (4, _) from mS_m) rfl ⟨(Nat.le_of_ble_eq_true rfl), (Nat.le_of_ble_eq_true rfl)⟩ rfl hl.1 rfl (Nat.le_of_ble_eq_true rfl) d_M_grown_2 ⟨(Nat.le_of_ble_eq_true rfl), (Nat.le_of_ble_eq_true rfl)⟩) (fun r u H locs hp w => ?_)
  obtain ⟨hr9, rfl⟩ := hp
  rw [hi1] at hr9
  subst hr9
  have w : gw D (gA L sz) s.heap H locs L (mSt cI mo A f v F) := w
  refine ri_zne (a := (bI (0 ≤ z ∧ z < K))) (tgt := 10) hx hb d_M_grown_5 (by decide) rfl (bI_3 _) (fun c5 => ?_) (fun c5 => ?_)
  · skip
    refine lv_iload_n hx hb d_M_grown_10 rfl (lv_at hl 2 rfl) ?_
    refine lv_iconst (v := iN (0)) hx hb d_M_grown_11 (by decide) ?_
    refine lv_bipush (v := iN (6)) hx hb d_M_grown_12 (by decide) ?_
    refine g_ci w (g_runS (As := [.int (iN (k)), .int (iN (0)), .int (iN (6))]) (rest := []) X w (c_M_in l (z := k) (x := 0) (y := 6) hk3 (by unfold i3; omega) (by unfold i3; omega)) k_M_in lk_M_83 st_M_in ⟨(Nat.le_of_ble_eq_true rfl), (Nat.le_of_ble_eq_true rfl)⟩ rfl hl.1 rfl (Nat.le_of_ble_eq_true rfl) d_M_grown_14 ⟨Nat.zero_le _, Nat.zero_le _⟩) (fun r u H locs hp w => ?_)
    obtain ⟨rfl, rfl⟩ := hp
    have w : gw D (gA L sz) s.heap H locs L (mSt cI mo A f v F) := w
    refine ri_zne (a := (bI (0 ≤ k ∧ k ≤ 6))) (tgt := 23) hx hb d_M_grown_17 (by decide) rfl (bI_3 _) (fun c17 => ?_) (fun c17 => ?_)
    · skip
      refine lv_aload_n hx hb d_M_grown_23 rfl (lv_at hl 0 rfl) ?_
      refine lv_iload_n hx hb d_M_grown_24 rfl (lv_at hl 1 rfl) ?_
      have hkr : 0 ≤ k ∧ k ≤ 6 := bI_n c17
      have hzr : 0 ≤ z ∧ z < K := bI_n (by omega)
      obtain ⟨Wl, eWl⟩ : ∃ q, q = S z.toNat := ⟨_, rfl⟩
      obtain ⟨Hu, eHu⟩ : ∃ q, q = hullF (S z.toNat) := ⟨_, rfl⟩
      have hoz := hok z.toNat (by omega)
      have hhz : isHL Wl Hu := by rw [eWl, eHu]; exact hhu z.toNat (by omega)
      have hH576 := hhz.2.2.1
      have hHb : pb 600 Hu := by rw [eHu]; exact pb_of (by decide) (pbl_le (by decide) (pbl_hull hoz.2))
      have hHb3 : pb 300 Hu := by rw [eHu]; exact pb_of (by decide) (pbl_hull hoz.2)
      have hWb : pb 300 Wl := by rw [eWl]; exact pb_of (by decide) hoz.2
      have hW24 : Wl.length ≤ 24 := by rw [eWl]; exact hoz.1
      refine g_cv w (g_runV (As := [.int (iN (z))]) (rest := []) X w ((by have h9 := c_M_load (D := D) (cR := cR) (cI := cI) (f := f) l g hI0 (z := z) hzr hoz.1 (pbl_le (by decide) hoz.2) (Hu := Hu) (by rw [← eWl]; exact hhz); rw [← eWl] at h9; exact h9)) k_M_load v_M_load lk_M_87 g.1.1 (show mSt cI mo A f v F mo = .inr (4, _) from mS_m) rfl ⟨(Nat.le_of_ble_eq_true rfl), (Nat.le_of_ble_eq_true rfl)⟩ rfl hl.1 rfl (Nat.le_of_ble_eq_true rfl) d_M_grown_25 ⟨(Nat.le_of_ble_eq_true rfl), (Nat.le_of_ble_eq_true rfl)⟩) (fun u H locs hp w => ?_)
      obtain ⟨v8, F8, rfl, hL8, hn8, hf8⟩ := hp
      have w : gw D (gA L sz) s.heap H locs L (mSt cI mo A f v8 F8) := w
      obtain ⟨h7, h10, hwF, hhF⟩ := id hL8
      have hI8 := mInv_k hI0 (hn8 0 (by decide) (by decide)) (hn8 1 (by decide) (by decide)) hf8
      have h118 := (hn8 11 (by decide) (by decide)).trans h11
      have h128 := (hn8 12 (by decide) (by decide)).trans h12
      refine lv_aload_n hx hb d_M_grown_28 rfl (lv_at hl 0 rfl) ?_
      refine lv_iload_n hx hb d_M_grown_29 rfl (lv_at hl 2 rfl) ?_
      refine g_ci w (g_runV (As := [.int (iN (k))]) (rest := []) X w (c_M_allPoints l g (v := v8) (F := F8) hL8 hH576 hHb (k := k) (by omega)) k_M_allPoints v_M_allPoints lk_M_127 g.1.1 (show (mSt cI mo A f v8 F8) mo = .inr (4, _) from mS_m) rfl ⟨(Nat.le_of_ble_eq_true rfl), (Nat.le_of_ble_eq_true rfl)⟩ rfl hl.1 rfl (Nat.le_of_ble_eq_true rfl) d_M_grown_30 ⟨(Nat.le_of_ble_eq_true rfl), (Nat.le_of_ble_eq_true rfl)⟩) (fun r u H locs hp w => ?_)
      obtain ⟨rfl, v6, rfl, hn6⟩ := hp
      have w : gw D (gA L sz) s.heap H locs L (mSt cI mo A f v6 F8) := w
      have hL8 : mLd v6 F8 Wl Hu := ⟨(hn6 7 (by decide) (by decide)).trans h7, (hn6 10 (by decide) (by decide)).trans h10, hwF, hhF⟩
      have hI8 := mInv_k hI8 (hn6 0 (by decide) (by decide)) (hn6 1 (by decide) (by decide)) (fun _ _ => rfl)
      have h118 := (hn6 11 (by decide) (by decide)).trans h118
      have h128 := (hn6 12 (by decide) (by decide)).trans h128
      exact g_iret X w hrt hlk d_M_grown_33 ⟨by rw [if_pos hzr, if_pos hkr, ← eHu], ⟨v6, F8, rfl, hI8, h118, h128⟩⟩
    · skip
      refine lv_bipush (v := iN (-2)) hx hb d_M_grown_20 (by decide) ?_
      exact g_iret X w hrt hlk d_M_grown_22 ⟨by rw [if_pos (bI_n c5), if_neg (bI_0 (by omega))], ⟨v, F, rfl, hI0, h11, h12⟩⟩
  · skip
    refine lv_iconst (v := iN (-1)) hx hb d_M_grown_8 (by decide) ?_
    exact g_iret X w hrt hlk d_M_grown_9 ⟨by rw [if_neg (bI_0 (by omega))], ⟨v, F, rfl, hI0, h11, h12⟩⟩
set_option maxHeartbeats 4000000 in
set_option maxRecDepth 100000 in
theorem c_M_first (l : Launch) {D : va_G} {cI cR : ClassId} {L : List Nat} {f : Nat → va_E} {mo : Nat} {A : Nat → Nat} {v : Nat → Int} {F : Nat → Nat → Int} (g : mg L mo A) {K t1 t2 : Int} {S : Nat → List Pt} (hI0 : mInv v F K S) (h11 : v 11 = t1) (h12 : v 12 = t2) : gMl D cI cR l y_M_first (Cond.code y_M_first b_M_first 1 (some .long) :: lw_g) { frames := 0, cells := 0, slots := 0, locals := 0 } [.ref mo] L (mSt cI mo A f v F) (fun r u => r = jN t1 ∧ u = (L, mSt cI mo A f v F)) := by
  intro sz
  refine g_enter (by decide) rfl (Nat.le_of_ble_eq_true rfl) ?_
  intro p e s m below meth cd ls X hrt hlk hnm hl hsz w
  have X : gx p m cd b_M_first 1 s _ "HullSumsModel" D cI cR := X
  have hx := X.1.1
  have hb := X.1.2.1
  have hl : lv_has ls 1 [(0, .ref mo)] := hl
  have hI1 := hI0
  obtain ⟨hi0, hi1, hi2, hi3, hi4⟩ := hI1
  have hv0 := hi0
  refine lv_aload_n hx hb d_M_first_0 rfl (lv_at hl 0 rfl) ?_
  refine lv_iconst (v := iN (0)) hx hb d_M_first_1 (by decide) ?_
  refine gk_put X w g.1.1 (show (mSt cI mo A f v F) mo = .inr (4, _) from mS_m) rfl in_M ty_M tyok_M nm_M 0 (by decide) lk_M_35 rfl (ty := .int) (by decide +kernel) rfl rfl (Nat.le_of_ble_eq_true rfl) d_M_first_2 (fun H locs w => ?_)
  obtain ⟨v1, hv1⟩ : ∃ q : Nat → Int, q = va_up v 0 (0) := ⟨_, rfl⟩
  have v1s : v1 0 = 0 := by rw [hv1, va_up_self]
  have v1n : ∀ j, j ≠ 0 → v1 j = v j := fun j hj => by rw [hv1, va_up_ne _ _ hj]
  have w : gw D (gA L sz) s.heap H locs L (mSt cI mo A f v1 F) := by rw [hv1, ← mU_m (v := v)]; exact w
  have v1e : v1 = v := by funext k; by_cases e9 : k = 0; (subst e9; rw [v1s, hv0]); exact v1n k e9
  rw [v1e] at w
  refine lv_aload_n hx hb d_M_first_5 rfl (lv_at hl 0 rfl) ?_
  refine gk_get X w g.1.1 (show (mSt cI mo A f v F) mo = .inr (4, _) from mS_m) rfl in_M 11 (by decide) lk_M_42 rfl d_M_first_6 ?_
  exact g_lret X w hrt hlk d_M_first_9 ⟨by rw [h11], rfl⟩
set_option maxHeartbeats 4000000 in
set_option maxRecDepth 100000 in
theorem c_M_second (l : Launch) {D : va_G} {cI cR : ClassId} {L : List Nat} {f : Nat → va_E} {mo : Nat} {A : Nat → Nat} {v : Nat → Int} {F : Nat → Nat → Int} (g : mg L mo A) {K t1 t2 : Int} {S : Nat → List Pt} (hI0 : mInv v F K S) (h11 : v 11 = t1) (h12 : v 12 = t2) : gMl D cI cR l y_M_second (Cond.code y_M_second b_M_second 1 (some .long) :: lw_g) { frames := 0, cells := 0, slots := 0, locals := 0 } [.ref mo] L (mSt cI mo A f v F) (fun r u => r = jN t2 ∧ u = (L, mSt cI mo A f v F)) := by
  intro sz
  refine g_enter (by decide) rfl (Nat.le_of_ble_eq_true rfl) ?_
  intro p e s m below meth cd ls X hrt hlk hnm hl hsz w
  have X : gx p m cd b_M_second 1 s _ "HullSumsModel" D cI cR := X
  have hx := X.1.1
  have hb := X.1.2.1
  have hl : lv_has ls 1 [(0, .ref mo)] := hl
  have hI1 := hI0
  obtain ⟨hi0, hi1, hi2, hi3, hi4⟩ := hI1
  have hv0 := hi0
  refine lv_aload_n hx hb d_M_second_0 rfl (lv_at hl 0 rfl) ?_
  refine lv_iconst (v := iN (0)) hx hb d_M_second_1 (by decide) ?_
  refine gk_put X w g.1.1 (show (mSt cI mo A f v F) mo = .inr (4, _) from mS_m) rfl in_M ty_M tyok_M nm_M 0 (by decide) lk_M_35 rfl (ty := .int) (by decide +kernel) rfl rfl (Nat.le_of_ble_eq_true rfl) d_M_second_2 (fun H locs w => ?_)
  obtain ⟨v1, hv1⟩ : ∃ q : Nat → Int, q = va_up v 0 (0) := ⟨_, rfl⟩
  have v1s : v1 0 = 0 := by rw [hv1, va_up_self]
  have v1n : ∀ j, j ≠ 0 → v1 j = v j := fun j hj => by rw [hv1, va_up_ne _ _ hj]
  have w : gw D (gA L sz) s.heap H locs L (mSt cI mo A f v1 F) := by rw [hv1, ← mU_m (v := v)]; exact w
  have v1e : v1 = v := by funext k; by_cases e9 : k = 0; (subst e9; rw [v1s, hv0]); exact v1n k e9
  rw [v1e] at w
  refine lv_aload_n hx hb d_M_second_5 rfl (lv_at hl 0 rfl) ?_
  refine gk_get X w g.1.1 (show (mSt cI mo A f v F) mo = .inr (4, _) from mS_m) rfl in_M 12 (by decide) lk_M_31 rfl d_M_second_6 ?_
  exact g_lret X w hrt hlk d_M_second_9 ⟨by rw [h12], rfl⟩
