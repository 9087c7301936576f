/-! THE REFERENCE: what it asks of the hull Hu that goRound laid -/
theorem g_joinw {p : Program} {l : Launch} {e : Env} {R : Room} {s : State} {m : MethodId} {args : Array Value} {below : List Frame} {meth : Method} {c : Code} {H : Heap} {locs : List Loc} {cells slots : Nat} {Q : State → Prop} {g g1 : JFrame} {D : va_G} {A : Nat → Prop} {H0 : Heap} {L : List Nat} {f : Nat → va_E} (k : ∀ (H' : Heap) (locs' : List Loc), gw D A H0 H' locs' L f → W p l e R s m args below meth c H' locs' cells slots Q g1) (h : (∀ (H' : Heap) (locs' : List Loc), gw D A H0 H' locs' L f → W p l e R s m args below meth c H' locs' cells slots Q g1) → W p l e R s m args below meth c H locs cells slots Q g) : W p l e R s m args below meth c H locs cells slots Q g := h k
theorem hld_x {F : Nat → Nat → Int} {H : List Pt} (h : hld F H H.length) {i : Int} (h0 : 0 ≤ i) (h1 : i < H.length) : F 8 i.toNat = pX H i := by
  obtain ⟨k, q, e, hq, ex, ey⟩ := px_get h0 h1
  rw [ex, show i.toNat = k by omega, (h k q (by omega) hq).1]
theorem hld_y {F : Nat → Nat → Int} {H : List Pt} (h : hld F H H.length) {i : Int} (h0 : 0 ≤ i) (h1 : i < H.length) : F 9 i.toNat = pY H i := by
  obtain ⟨k, q, e, hq, ex, ey⟩ := px_get h0 h1
  rw [ey, show i.toNat = k by omega, (h k q (by omega) hq).2]
theorem wld_x {F : Nat → Nat → Int} {W : List Pt} (h : wld F W) {i : Int} (h0 : 0 ≤ i) (h1 : i < W.length) : F 5 i.toNat = pX W i := by
  obtain ⟨k, q, e, hq, ex, ey⟩ := px_get h0 h1
  rw [ex, show i.toNat = k by omega, (h k q hq).1]
theorem wld_y {F : Nat → Nat → Int} {W : List Pt} (h : wld F W) {i : Int} (h0 : 0 ≤ i) (h1 : i < W.length) : F 6 i.toNat = pY W i := by
  obtain ⟨k, q, e, hq, ex, ey⟩ := px_get h0 h1
  rw [ey, show i.toNat = k by omega, (h k q hq).2]
theorem aft_nx {n : Int} {H : List Pt} (h : n = H.length) (i : Int) : aft n i = nx H i := by unfold aft nx; rw [h]
theorem nx_lt {H : List Pt} {i : Int} (h0 : 0 ≤ i) (h1 : i < H.length) : 0 ≤ nx H i ∧ nx H i < H.length := by unfold nx; split <;> omega
def ar2 (H : List Pt) : Nat → Int
  | 0 => 0
  | n + 1 => ar2 H n + ((pX H n - pX H 0) * (pY H (nx H n) - pY H 0) - (pY H n - pY H 0) * (pX H (nx H n) - pX H 0))
def btw (H : List Pt) (i x y : Int) : Prop := min (pX H i) (pX H (nx H i)) ≤ x ∧ x ≤ max (pX H i) (pX H (nx H i)) ∧ min (pY H i) (pY H (nx H i)) ≤ y ∧ y ≤ max (pY H i) (pY H (nx H i))
def on_ (H : List Pt) (i x y : Int) : Prop := btw H i x y ∧ off H i x y = 0

set_option maxHeartbeats 4000000 in
set_option maxRecDepth 100000 in
theorem c_M_areaOf (l : Launch) {D : va_G} {cI cR : ClassId} {L : List Nat} {f : Nat → va_E} {mo : Nat} {A : Nat → Nat} {v : Nat → Int} {F : Nat → Nat → Int} (g : mg L mo A) {Wl Hu : List Pt} (hL : mLd v F Wl Hu) (hH576 : Hu.length ≤ 576) (hHb : pb 600 Hu) : gMl D cI cR l y_M_areaOf (Cond.code y_M_areaOf b_M_areaOf 4 (some .long) :: lw_g) { frames := 1, cells := 0, slots := 0, locals := 37 } [.ref mo] L (mSt cI mo A f v F) (fun r u => r = jN (ar2 Hu Hu.length) ∧ u = (L, mSt cI mo A f v F)) := by
  intro sz
  refine g_enter (by decide) rfl (Nat.le_of_ble_eq_true rfl) ?_
  intro p e s m below meth cd ls X hrt hlk hnm hl hsz w
  have X : gx p m cd b_M_areaOf 4 s _ "HullSumsModel" D cI cR := X
  have hx := X.1.1
  have hb := X.1.2.1
  have hl : lv_has ls 4 [(0, .ref mo)] := hl
  obtain ⟨h7, h10, hwF, hhF⟩ := hL
  refine lv_lconst (v := jN (0)) hx hb d_M_areaOf_0 (by decide) ?_
  refine lv_lstore_n (lv' := [(1, .long (jN (0))), (0, .ref mo)]) hx hb d_M_areaOf_1 rfl hl (by decide) rfl (fun ls hl => ?_)
  refine lv_iconst (v := iN (0)) hx hb d_M_areaOf_2 (by decide) ?_
  refine lv_istore_n (lv' := [(3, .int (iN (0))), (1, .long (jN (0))), (0, .ref mo)]) hx hb d_M_areaOf_3 rfl hl (by decide) rfl (fun ls hl => ?_)
  refine g_loop (σ := Int × Int) (fun z9 => (Hu.length - z9.1).toNat) (fun z9 => [(0, .ref mo), (1, .long (jN (z9.2))), (3, .int (iN (z9.1)))]) L (fun z9 => (mSt cI mo A f v F)) (fun z9 => 0 ≤ z9.1 ∧ z9.1 ≤ Hu.length ∧ z9.2 = ar2 Hu z9.1.toNat) ?_ (0, 0) _ _ _ ⟨by omega, by omega, rfl⟩ w (lv_sub hl [2, 1, 0] rfl)
  intro z9 H locs ls hI w hl ih
  obtain ⟨i, k⟩ := z9
  have hl : lv_has ls 4 [(0, .ref mo), (1, .long (jN (k))), (3, .int (iN (i)))] := hl
  have w : gw D (gA L sz) s.heap H locs L ((mSt cI mo A f v F)) := w
  have hI : 0 ≤ i ∧ i ≤ Hu.length ∧ k = ar2 Hu i.toNat := hI
  obtain ⟨h0, h1, h2⟩ := hI
  refine lv_iload_n hx hb d_M_areaOf_4 rfl (lv_at hl 2 rfl) ?_
  refine lv_aload_n hx hb d_M_areaOf_5 rfl (lv_at hl 0 rfl) ?_
  refine gk_get X w g.1.1 (show (mSt cI mo A f v F) mo = .inr (4, _) from mS_m) rfl in_M 10 (by decide) lk_M_51 rfl d_M_areaOf_6 ?_
  rw [show v 10 = (Hu.length : Int) from h10]
  refine ri_cge (a := i) (b := (Hu.length : Int)) (tgt := 74) hx hb d_M_areaOf_9 (by decide) rfl rfl (by unfold i3; omega) (by unfold i3; omega) (fun c9 => ?_) (fun c9 => ?_)
  · skip
    refine lv_lload_n hx hb d_M_areaOf_74 rfl (lv_at hl 1 rfl) ?_
    exact g_lret X w hrt hlk d_M_areaOf_75 ⟨by rw [h2, show i.toNat = Hu.length by omega], rfl⟩
  · skip
    refine lv_lload_n hx hb d_M_areaOf_12 rfl (lv_at hl 1 rfl) ?_
    refine lv_aload_n hx hb d_M_areaOf_13 rfl (lv_at hl 0 rfl) ?_
    refine gk_get X w g.1.1 (show (mSt cI mo A f v F) mo = .inr (4, _) from mS_m) rfl in_M 8 (by decide) lk_M_25 rfl d_M_areaOf_14 ?_
    refine lv_iconst (v := iN (0)) hx hb d_M_areaOf_17 (by decide) ?_
    refine gk_iald X w 0 g.1.2.2.2.2.2.2.1 (mS_8 g) rfl (vin (by omega) (show (0 : Int) < 576 by have h9 : (0 : Int) < Hu.length := (by omega); omega) (by decide)) d_M_areaOf_18 ?_
    rw [vcl (z := 0) (by omega) (by have h9 : (0 : Int) < Hu.length := (by omega); omega), hld_x hhF (i := 0) (by omega) (by omega)]
    refine ri_i2l (a := (pX Hu 0)) hx hb d_M_areaOf_19 rfl (by have := hHb 0; have := hHb i; have := hHb (nx Hu i); unfold i3; omega) ?_
    refine lv_aload_n hx hb d_M_areaOf_20 rfl (lv_at hl 0 rfl) ?_
    refine gk_get X w g.1.1 (show (mSt cI mo A f v F) mo = .inr (4, _) from mS_m) rfl in_M 9 (by decide) lk_M_28 rfl d_M_areaOf_21 ?_
    refine lv_iconst (v := iN (0)) hx hb d_M_areaOf_24 (by decide) ?_
    refine gk_iald X w 0 g.1.2.2.2.2.2.2.2 (mS_9 g) rfl (vin (by omega) (show (0 : Int) < 576 by have h9 : (0 : Int) < Hu.length := (by omega); omega) (by decide)) d_M_areaOf_25 ?_
    rw [vcl (z := 0) (by omega) (by have h9 : (0 : Int) < Hu.length := (by omega); omega), hld_y hhF (i := 0) (by omega) (by omega)]
    refine ri_i2l (a := (pY Hu 0)) hx hb d_M_areaOf_26 rfl (by have := hHb 0; have := hHb i; have := hHb (nx Hu i); unfold i3; omega) ?_
    refine lv_aload_n hx hb d_M_areaOf_27 rfl (lv_at hl 0 rfl) ?_
    refine gk_get X w g.1.1 (show (mSt cI mo A f v F) mo = .inr (4, _) from mS_m) rfl in_M 8 (by decide) lk_M_25 rfl d_M_areaOf_28 ?_
    refine lv_iload_n hx hb d_M_areaOf_31 rfl (lv_at hl 2 rfl) ?_
    refine gk_iald X w 0 g.1.2.2.2.2.2.2.1 (mS_8 g) rfl (vin (by omega) (show (i : Int) < 576 by have h9 : (i : Int) < Hu.length := (by omega); omega) (by decide)) d_M_areaOf_32 ?_
    rw [vcl (z := i) (by omega) (by have h9 : (i : Int) < Hu.length := (by omega); omega), hld_x hhF (i := i) (by omega) (by omega)]
    refine ri_i2l (a := (pX Hu i)) hx hb d_M_areaOf_33 rfl (by have := hHb 0; have := hHb i; have := hHb (nx Hu i); unfold i3; omega) ?_
    refine lv_aload_n hx hb d_M_areaOf_34 rfl (lv_at hl 0 rfl) ?_
    refine gk_get X w g.1.1 (show (mSt cI mo A f v F) mo = .inr (4, _) from mS_m) rfl in_M 9 (by decide) lk_M_28 rfl d_M_areaOf_35 ?_
    refine lv_iload_n hx hb d_M_areaOf_38 rfl (lv_at hl 2 rfl) ?_
    refine gk_iald X w 0 g.1.2.2.2.2.2.2.2 (mS_9 g) rfl (vin (by omega) (show (i : Int) < 576 by have h9 : (i : Int) < Hu.length := (by omega); omega) (by decide)) d_M_areaOf_39 ?_
    rw [vcl (z := i) (by omega) (by have h9 : (i : Int) < Hu.length := (by omega); omega), hld_y hhF (i := i) (by omega) (by omega)]
    refine ri_i2l (a := (pY Hu i)) hx hb d_M_areaOf_40 rfl (by have := hHb 0; have := hHb i; have := hHb (nx Hu i); unfold i3; omega) ?_
    refine lv_aload_n hx hb d_M_areaOf_41 rfl (lv_at hl 0 rfl) ?_
    refine gk_get X w g.1.1 (show (mSt cI mo A f v F) mo = .inr (4, _) from mS_m) rfl in_M 8 (by decide) lk_M_25 rfl d_M_areaOf_42 ?_
    refine lv_aload_n hx hb d_M_areaOf_45 rfl (lv_at hl 0 rfl) ?_
    refine lv_iload_n hx hb d_M_areaOf_46 rfl (lv_at hl 2 rfl) ?_
    refine g_ci w (g_runVw 14 (As := [.int (iN (i))]) (rest := [.ref (A 8), .long (jN ((pY Hu i))), .long (jN ((pX Hu i))), .long (jN ((pY Hu 0))), .long (jN ((pX Hu 0))), .long (jN (k))]) X w (c_M_after l g (v := v) (F := F) (by rw [h10]; unfold i3; omega) (z := i) (by omega)) k_M_after v_M_after lk_M_66 g.1.1 (show (mSt cI mo A f v F) mo = .inr (4, _) from mS_m) rfl ⟨(Nat.le_of_ble_eq_true rfl), (Nat.le_of_ble_eq_true rfl)⟩ rfl hl.1 rfl (Nat.le_of_ble_eq_true rfl) d_M_areaOf_47 ⟨(Nat.le_of_ble_eq_true rfl), (Nat.le_of_ble_eq_true rfl)⟩) (fun r u H locs hp w => ?_)
    obtain ⟨hr9, rfl⟩ := hp
    rw [aft_nx h10] at hr9
    subst hr9
    have w : gw D (gA L sz) s.heap H locs L (mSt cI mo A f v F) := w
    refine gk_iald X w 0 g.1.2.2.2.2.2.2.1 (mS_8 g) rfl (vin (nx_lt (by omega) (by omega)).1 (show ((nx Hu i) : Int) < 576 by have h9 : ((nx Hu i) : Int) < Hu.length := (nx_lt (by omega) (by omega)).2; omega) (by decide)) d_M_areaOf_50 ?_
    rw [vcl (z := (nx Hu i)) (nx_lt (by omega) (by omega)).1 (by have h9 : ((nx Hu i) : Int) < Hu.length := (nx_lt (by omega) (by omega)).2; omega), hld_x hhF (i := (nx Hu i)) (nx_lt (by omega) (by omega)).1 (nx_lt (by omega) (by omega)).2]
    refine ri_i2l (a := (pX Hu (nx Hu i))) hx hb d_M_areaOf_51 rfl (by have := hHb 0; have := hHb i; have := hHb (nx Hu i); unfold i3; omega) ?_
    refine lv_aload_n hx hb d_M_areaOf_52 rfl (lv_at hl 0 rfl) ?_
    refine gk_get X w g.1.1 (show (mSt cI mo A f v F) mo = .inr (4, _) from mS_m) rfl in_M 9 (by decide) lk_M_28 rfl d_M_areaOf_53 ?_
    refine lv_aload_n hx hb d_M_areaOf_56 rfl (lv_at hl 0 rfl) ?_
    refine lv_iload_n hx hb d_M_areaOf_57 rfl (lv_at hl 2 rfl) ?_
    refine g_ci w (g_runVw 14 (As := [.int (iN (i))]) (rest := [.ref (A 9), .long (jN ((pX Hu (nx Hu i)))), .long (jN ((pY Hu i))), .long (jN ((pX Hu i))), .long (jN ((pY Hu 0))), .long (jN ((pX Hu 0))), .long (jN (k))]) X w (c_M_after l g (v := v) (F := F) (by rw [h10]; unfold i3; omega) (z := i) (by omega)) k_M_after v_M_after lk_M_66 g.1.1 (show (mSt cI mo A f v F) mo = .inr (4, _) from mS_m) rfl ⟨(Nat.le_of_ble_eq_true rfl), (Nat.le_of_ble_eq_true rfl)⟩ rfl hl.1 rfl (Nat.le_of_ble_eq_true rfl) d_M_areaOf_58 ⟨(Nat.le_of_ble_eq_true rfl), (Nat.le_of_ble_eq_true rfl)⟩) (fun r u H locs hp w => ?_)
    obtain ⟨hr9, rfl⟩ := hp
    rw [aft_nx h10] at hr9
    subst hr9
    have w : gw D (gA L sz) s.heap H locs L (mSt cI mo A f v F) := w
    refine gk_iald X w 0 g.1.2.2.2.2.2.2.2 (mS_9 g) rfl (vin (nx_lt (by omega) (by omega)).1 (show ((nx Hu i) : Int) < 576 by have h9 : ((nx Hu i) : Int) < Hu.length := (nx_lt (by omega) (by omega)).2; omega) (by decide)) d_M_areaOf_61 ?_
    rw [vcl (z := (nx Hu i)) (nx_lt (by omega) (by omega)).1 (by have h9 : ((nx Hu i) : Int) < Hu.length := (nx_lt (by omega) (by omega)).2; omega), hld_y hhF (i := (nx Hu i)) (nx_lt (by omega) (by omega)).1 (nx_lt (by omega) (by omega)).2]
    refine ri_i2l (a := (pY Hu (nx Hu i))) hx hb d_M_areaOf_62 rfl (by have := hHb 0; have := hHb i; have := hHb (nx Hu i); unfold i3; omega) ?_
    refine g_cl w (g_runS (As := [.long (jN ((pX Hu 0))), .long (jN ((pY Hu 0))), .long (jN ((pX Hu i))), .long (jN ((pY Hu i))), .long (jN ((pX Hu (nx Hu i)))), .long (jN ((pY Hu (nx Hu i))))]) (rest := [.long (jN (k))]) X w (c_M_turn l (px := (pX Hu 0)) (py := (pY Hu 0)) (ax := (pX Hu i)) (ay := (pY Hu i)) (bx := (pX Hu (nx Hu i))) (by_ := (pY Hu (nx Hu i)))) k_M_turn lk_M_58 st_M_turn ⟨(Nat.le_of_ble_eq_true rfl), (Nat.le_of_ble_eq_true rfl)⟩ rfl hl.1 rfl (Nat.le_of_ble_eq_true rfl) d_M_areaOf_63 ⟨Nat.zero_le _, Nat.zero_le _⟩) (fun r u H locs hp w => ?_)
    obtain ⟨rfl, rfl⟩ := hp
    have w : gw D (gA L sz) s.heap H locs L (mSt cI mo A f v F) := w
    refine rj_add (a := k) (b := (((pX Hu i) - (pX Hu 0)) * ((pY Hu (nx Hu i)) - (pY Hu 0)) - ((pY Hu i) - (pY Hu 0)) * ((pX Hu (nx Hu i)) - (pX Hu 0)))) hx hb d_M_areaOf_66 rfl rfl ?_
    refine lv_lstore_n (lv' := [(1, .long (jN ((k + (((pX Hu i) - (pX Hu 0)) * ((pY Hu (nx Hu i)) - (pY Hu 0)) - ((pY Hu i) - (pY Hu 0)) * ((pX Hu (nx Hu i)) - (pX Hu 0))))))), (0, .ref mo), (3, .int (iN (i)))]) hx hb d_M_areaOf_67 rfl hl (by decide) rfl (fun ls hl => ?_)
    refine lv_iinc (v := iN ((i + 1))) (lv' := [(3, .int (iN ((i + 1)))), (1, .long (jN ((k + (((pX Hu i) - (pX Hu 0)) * ((pY Hu (nx Hu i)) - (pY Hu 0)) - ((pY Hu i) - (pY Hu 0)) * ((pX Hu (nx Hu i)) - (pX Hu 0))))))), (0, .ref mo)]) hx hb d_M_areaOf_68 hl (k := 2) rfl (by rw [show (i + 1) = i + (1 : Int) by omega, ← iN_add]; rfl) (by decide) rfl (fun ls hl => ?_)
    refine lv_goto (tgt := 4) hx hb d_M_areaOf_71 (by decide) ?_
    exact ih ((i + 1), (k + (((pX Hu i) - (pX Hu 0)) * ((pY Hu (nx Hu i)) - (pY Hu 0)) - ((pY Hu i) - (pY Hu 0)) * ((pX Hu (nx Hu i)) - (pX Hu 0))))) _ _ _ (by omega) ⟨by omega, by omega, by rw [tn_s h0]; unfold ar2; rw [← h2, tn_c h0]⟩ w (lv_sub hl [2, 1, 0] rfl)
set_option maxHeartbeats 4000000 in
set_option maxRecDepth 100000 in
theorem c_M_isOn (l : Launch) {D : va_G} {cI cR : ClassId} {L : List Nat} {f : Nat → va_E} {mo : Nat} {A : Nat → Nat} {v : Nat → Int} {F : Nat → Nat → Int} (g : mg L mo A) {Wl Hu : List Pt} (hL : mLd v F Wl Hu) (hH576 : Hu.length ≤ 576) (hHb : pb 600 Hu) {i x y : Int} (hi : 0 ≤ i ∧ i < Hu.length) (hx0 : -1000 ≤ x ∧ x ≤ 1000) (hy0 : -1000 ≤ y ∧ y ≤ 1000) : gMi D cI cR l y_M_isOn (Cond.code y_M_isOn b_M_isOn 8 (some .boolean) :: lw_g) { frames := 1, cells := 0, slots := 0, locals := 31 } [.ref mo, .int (iN (i)), .long (jN (x)), .long (jN (y))] L (mSt cI mo A f v F) (fun r u => r = iN (bI (on_ Hu i x y)) ∧ u = (L, mSt cI mo A f v F)) := by
  intro sz
  refine g_enter (by decide) rfl (Nat.le_of_ble_eq_true rfl) ?_
  intro p e s m below meth cd ls X hrt hlk hnm hl hsz w
  have X : gx p m cd b_M_isOn 8 s _ "HullSumsModel" D cI cR := X
  have hx := X.1.1
  have hb := X.1.2.1
  have hl : lv_has ls 8 [(0, .ref mo), (1, .int (iN (i))), (2, .long (jN (x))), (4, .long (jN (y)))] := hl
  obtain ⟨h7, h10, hwF, hhF⟩ := hL
  have hb1 := hHb i
  have hb2 := hHb (nx Hu i)
  have hnl := nx_lt hi.1 hi.2
  have hto := pT_b hHb i (nx Hu i) hx0 hy0
  refine lv_aload_n hx hb d_M_isOn_0 rfl (lv_at hl 0 rfl) ?_
  refine lv_iload_n hx hb d_M_isOn_1 rfl (lv_at hl 1 rfl) ?_
  refine g_ci w (g_runV (As := [.int (iN (i))]) (rest := []) X w (c_M_after l g (v := v) (F := F) (by rw [h10]; unfold i3; omega) (z := i) (by omega)) k_M_after v_M_after lk_M_66 g.1.1 (show mSt cI mo A f v F mo = .inr (4, _) from mS_m) rfl ⟨(Nat.le_of_ble_eq_true rfl), (Nat.le_of_ble_eq_true rfl)⟩ rfl hl.1 rfl (Nat.le_of_ble_eq_true rfl) d_M_isOn_2 ⟨(Nat.le_of_ble_eq_true rfl), (Nat.le_of_ble_eq_true rfl)⟩) (fun r u H locs hp w => ?_)
  obtain ⟨hr9, rfl⟩ := hp
  rw [aft_nx h10] at hr9
  subst hr9
  have w : gw D (gA L sz) s.heap H locs L (mSt cI mo A f v F) := w
  refine lv_istore (lv' := [(6, .int (iN ((nx Hu i)))), (0, .ref mo), (1, .int (iN (i))), (2, .long (jN (x))), (4, .long (jN (y)))]) hx hb d_M_isOn_5 hl (by decide) rfl (fun ls hl => ?_)
  refine g_joinw (D := D) (A := gA L sz) (H0 := s.heap) (L := L) (f := (mSt cI mo A f v F)) (g1 := F0 m 166 ls [.int (iN ((bI (btw Hu i x y))))]) (fun H locs w => ?_) (fun K1 => ?_)
  · skip
    refine lv_istore (lv' := [(7, .int (iN ((bI (btw Hu i x y))))), (6, .int (iN ((nx Hu i)))), (0, .ref mo), (1, .int (iN (i))), (2, .long (jN (x))), (4, .long (jN (y)))]) hx hb d_M_isOn_166 hl (by decide) rfl (fun ls hl => ?_)
    refine lv_iload hx hb d_M_isOn_168 (lv_at hl 0 rfl) ?_
    refine ri_zeq (a := (bI (btw Hu i x y))) (tgt := 218) hx hb d_M_isOn_170 (by decide) rfl (bI_3 _) (fun c170 => ?_) (fun c170 => ?_)
    · skip
      refine lv_iconst (v := iN (0)) hx hb d_M_isOn_218 (by decide) ?_
      exact g_zret X w hrt hlk d_M_isOn_219 rfl ⟨by rw [bI_f (fun q => by first | exact bI_0 c170 q.1 | (have := q.2; unfold off pT at this; omega))], rfl⟩
    · skip
      refine lv_aload_n hx hb d_M_isOn_173 rfl (lv_at hl 2 rfl) ?_
      refine gk_get X w g.1.1 (show (mSt cI mo A f v F) mo = .inr (4, _) from mS_m) rfl in_M 8 (by decide) lk_M_25 rfl d_M_isOn_174 ?_
      refine lv_iload_n hx hb d_M_isOn_177 rfl (lv_at hl 3 rfl) ?_
      refine gk_iald X w 0 g.1.2.2.2.2.2.2.1 (mS_8 g) rfl (vin (by omega) (show (i : Int) < 576 by have h9 : (i : Int) < Hu.length := (by omega); omega) (by decide)) d_M_isOn_178 ?_
      rw [vcl (z := i) (by omega) (by have h9 : (i : Int) < Hu.length := (by omega); omega), hld_x hhF (i := i) (by omega) (by omega)]
      refine ri_i2l (a := (pX Hu i)) hx hb d_M_isOn_179 rfl (by unfold i3; omega) ?_
      refine lv_aload_n hx hb d_M_isOn_180 rfl (lv_at hl 2 rfl) ?_
      refine gk_get X w g.1.1 (show (mSt cI mo A f v F) mo = .inr (4, _) from mS_m) rfl in_M 9 (by decide) lk_M_28 rfl d_M_isOn_181 ?_
      refine lv_iload_n hx hb d_M_isOn_184 rfl (lv_at hl 3 rfl) ?_
      refine gk_iald X w 0 g.1.2.2.2.2.2.2.2 (mS_9 g) rfl (vin (by omega) (show (i : Int) < 576 by have h9 : (i : Int) < Hu.length := (by omega); omega) (by decide)) d_M_isOn_185 ?_
      rw [vcl (z := i) (by omega) (by have h9 : (i : Int) < Hu.length := (by omega); omega), hld_y hhF (i := i) (by omega) (by omega)]
      refine ri_i2l (a := (pY Hu i)) hx hb d_M_isOn_186 rfl (by unfold i3; omega) ?_
      refine lv_aload_n hx hb d_M_isOn_187 rfl (lv_at hl 2 rfl) ?_
      refine gk_get X w g.1.1 (show (mSt cI mo A f v F) mo = .inr (4, _) from mS_m) rfl in_M 8 (by decide) lk_M_25 rfl d_M_isOn_188 ?_
      refine lv_iload hx hb d_M_isOn_191 (lv_at hl 1 rfl) ?_
      refine gk_iald X w 0 g.1.2.2.2.2.2.2.1 (mS_8 g) rfl (vin (nx_lt (by omega) (by omega)).1 (show ((nx Hu i) : Int) < 576 by have h9 : ((nx Hu i) : Int) < Hu.length := (nx_lt (by omega) (by omega)).2; omega) (by decide)) d_M_isOn_193 ?_
      rw [vcl (z := (nx Hu i)) (nx_lt (by omega) (by omega)).1 (by have h9 : ((nx Hu i) : Int) < Hu.length := (nx_lt (by omega) (by omega)).2; omega), hld_x hhF (i := (nx Hu i)) (nx_lt (by omega) (by omega)).1 (nx_lt (by omega) (by omega)).2]
      refine ri_i2l (a := (pX Hu (nx Hu i))) hx hb d_M_isOn_194 rfl (by unfold i3; omega) ?_
      refine lv_aload_n hx hb d_M_isOn_195 rfl (lv_at hl 2 rfl) ?_
      refine gk_get X w g.1.1 (show (mSt cI mo A f v F) mo = .inr (4, _) from mS_m) rfl in_M 9 (by decide) lk_M_28 rfl d_M_isOn_196 ?_
      refine lv_iload hx hb d_M_isOn_199 (lv_at hl 1 rfl) ?_
      refine gk_iald X w 0 g.1.2.2.2.2.2.2.2 (mS_9 g) rfl (vin (nx_lt (by omega) (by omega)).1 (show ((nx Hu i) : Int) < 576 by have h9 : ((nx Hu i) : Int) < Hu.length := (nx_lt (by omega) (by omega)).2; omega) (by decide)) d_M_isOn_201 ?_
      rw [vcl (z := (nx Hu i)) (nx_lt (by omega) (by omega)).1 (by have h9 : ((nx Hu i) : Int) < Hu.length := (nx_lt (by omega) (by omega)).2; omega), hld_y hhF (i := (nx Hu i)) (nx_lt (by omega) (by omega)).1 (nx_lt (by omega) (by omega)).2]
      refine ri_i2l (a := (pY Hu (nx Hu i))) hx hb d_M_isOn_202 rfl (by unfold i3; omega) ?_
      refine lv_lload_n hx hb d_M_isOn_203 rfl (lv_at hl 4 rfl) ?_
      refine lv_lload hx hb d_M_isOn_204 (lv_at hl 5 rfl) ?_
      refine g_cl w (g_runS (As := [.long (jN ((pX Hu i))), .long (jN ((pY Hu i))), .long (jN ((pX Hu (nx Hu i)))), .long (jN ((pY Hu (nx Hu i)))), .long (jN (x)), .long (jN (y))]) (rest := []) X w (c_M_turn l (px := (pX Hu i)) (py := (pY Hu i)) (ax := (pX Hu (nx Hu i))) (ay := (pY Hu (nx Hu i))) (bx := x) (by_ := y)) k_M_turn lk_M_58 st_M_turn ⟨(Nat.le_of_ble_eq_true rfl), (Nat.le_of_ble_eq_true rfl)⟩ rfl hl.1 rfl (Nat.le_of_ble_eq_true rfl) d_M_isOn_206 ⟨Nat.zero_le _, Nat.zero_le _⟩) (fun r u H locs hp w => ?_)
      obtain ⟨rfl, rfl⟩ := hp
      have w : gw D (gA L sz) s.heap H locs L (mSt cI mo A f v F) := w
      refine lv_lconst (v := jN (0)) hx hb d_M_isOn_209 (by decide) ?_
      refine rj_cne (a := (((pX Hu (nx Hu i)) - (pX Hu i)) * (y - (pY Hu i)) - ((pY Hu (nx Hu i)) - (pY Hu i)) * (x - (pX Hu i)))) (b := 0) (tgt := 218) hx hb d_M_isOn_210 d_M_isOn_211 (by decide) rfl rfl (by unfold pT at hto; unfold i6; omega) (by unfold i6; omega) (fun c210 => ?_) (fun c210 => ?_)
      · skip
        refine lv_iconst (v := iN (0)) hx hb d_M_isOn_218 (by decide) ?_
        exact g_zret X w hrt hlk d_M_isOn_219 rfl ⟨by rw [bI_f (fun q => by first | exact bI_0 c170 q.1 | (have := q.2; unfold off pT at this; omega))], rfl⟩
      · skip
        refine lv_iconst (v := iN (1)) hx hb d_M_isOn_214 (by decide) ?_
        refine lv_goto (tgt := 219) hx hb d_M_isOn_215 (by decide) ?_
        exact g_zret X w hrt hlk d_M_isOn_219 rfl ⟨by rw [bI_t ⟨bI_n c170, by unfold off pT; omega⟩], rfl⟩
  · skip
    refine lv_lload_n hx hb d_M_isOn_7 rfl (lv_at hl 3 rfl) ?_
    refine lv_aload_n hx hb d_M_isOn_8 rfl (lv_at hl 1 rfl) ?_
    refine gk_get X w g.1.1 (show (mSt cI mo A f v F) mo = .inr (4, _) from mS_m) rfl in_M 8 (by decide) lk_M_25 rfl d_M_isOn_9 ?_
    refine lv_iload_n hx hb d_M_isOn_12 rfl (lv_at hl 2 rfl) ?_
    refine gk_iald X w 0 g.1.2.2.2.2.2.2.1 (mS_8 g) rfl (vin (by omega) (show (i : Int) < 576 by have h9 : (i : Int) < Hu.length := (by omega); omega) (by decide)) d_M_isOn_13 ?_
    rw [vcl (z := i) (by omega) (by have h9 : (i : Int) < Hu.length := (by omega); omega), hld_x hhF (i := i) (by omega) (by omega)]
    refine lv_aload_n hx hb d_M_isOn_14 rfl (lv_at hl 1 rfl) ?_
    refine gk_get X w g.1.1 (show (mSt cI mo A f v F) mo = .inr (4, _) from mS_m) rfl in_M 8 (by decide) lk_M_25 rfl d_M_isOn_15 ?_
    refine lv_iload hx hb d_M_isOn_18 (lv_at hl 0 rfl) ?_
    refine gk_iald X w 0 g.1.2.2.2.2.2.2.1 (mS_8 g) rfl (vin (nx_lt (by omega) (by omega)).1 (show ((nx Hu i) : Int) < 576 by have h9 : ((nx Hu i) : Int) < Hu.length := (nx_lt (by omega) (by omega)).2; omega) (by decide)) d_M_isOn_20 ?_
    rw [vcl (z := (nx Hu i)) (nx_lt (by omega) (by omega)).1 (by have h9 : ((nx Hu i) : Int) < Hu.length := (nx_lt (by omega) (by omega)).2; omega), hld_x hhF (i := (nx Hu i)) (nx_lt (by omega) (by omega)).1 (nx_lt (by omega) (by omega)).2]
    refine g_joinw (D := D) (A := gA L sz) (H0 := s.heap) (L := L) (f := (mSt cI mo A f v F)) (g1 := F0 m 40 ls [.int (iN ((min (pX Hu i) (pX Hu (nx Hu i))))), .long (jN (x))]) (fun H locs w => ?_) (fun K2 => ?_)
    · skip
      refine ri_i2l (a := (min (pX Hu i) (pX Hu (nx Hu i)))) hx hb d_M_isOn_40 rfl (by unfold i3; omega) ?_
      refine rj_clt (a := x) (b := (min (pX Hu i) (pX Hu (nx Hu i)))) (tgt := 165) hx hb d_M_isOn_41 d_M_isOn_42 (by decide) rfl rfl (by unfold i6; omega) (by unfold i6; omega) (fun c41 => ?_) (fun c41 => ?_)
      · skip
        refine lv_iconst (v := iN (0)) hx hb d_M_isOn_165 (by decide) ?_
        exact W.eq (congrArg (fun z : Int => F0 m 166 ls [.int (iN z)]) (show 0 = (bI (btw Hu i x y)) from (bI_f (show ¬ btw Hu i x y by unfold btw; omega)).symm)) (K1 _ _ w)
      · skip
        refine lv_lload_n hx hb d_M_isOn_45 rfl (lv_at hl 3 rfl) ?_
        refine lv_aload_n hx hb d_M_isOn_46 rfl (lv_at hl 1 rfl) ?_
        refine gk_get X w g.1.1 (show (mSt cI mo A f v F) mo = .inr (4, _) from mS_m) rfl in_M 8 (by decide) lk_M_25 rfl d_M_isOn_47 ?_
        refine lv_iload_n hx hb d_M_isOn_50 rfl (lv_at hl 2 rfl) ?_
        refine gk_iald X w 0 g.1.2.2.2.2.2.2.1 (mS_8 g) rfl (vin (by omega) (show (i : Int) < 576 by have h9 : (i : Int) < Hu.length := (by omega); omega) (by decide)) d_M_isOn_51 ?_
        rw [vcl (z := i) (by omega) (by have h9 : (i : Int) < Hu.length := (by omega); omega), hld_x hhF (i := i) (by omega) (by omega)]
        refine lv_aload_n hx hb d_M_isOn_52 rfl (lv_at hl 1 rfl) ?_
        refine gk_get X w g.1.1 (show (mSt cI mo A f v F) mo = .inr (4, _) from mS_m) rfl in_M 8 (by decide) lk_M_25 rfl d_M_isOn_53 ?_
        refine lv_iload hx hb d_M_isOn_56 (lv_at hl 0 rfl) ?_
        refine gk_iald X w 0 g.1.2.2.2.2.2.2.1 (mS_8 g) rfl (vin (nx_lt (by omega) (by omega)).1 (show ((nx Hu i) : Int) < 576 by have h9 : ((nx Hu i) : Int) < Hu.length := (nx_lt (by omega) (by omega)).2; omega) (by decide)) d_M_isOn_58 ?_
        rw [vcl (z := (nx Hu i)) (nx_lt (by omega) (by omega)).1 (by have h9 : ((nx Hu i) : Int) < Hu.length := (nx_lt (by omega) (by omega)).2; omega), hld_x hhF (i := (nx Hu i)) (nx_lt (by omega) (by omega)).1 (nx_lt (by omega) (by omega)).2]
        refine g_joinw (D := D) (A := gA L sz) (H0 := s.heap) (L := L) (f := (mSt cI mo A f v F)) (g1 := F0 m 78 ls [.int (iN ((max (pX Hu i) (pX Hu (nx Hu i))))), .long (jN (x))]) (fun H locs w => ?_) (fun K3 => ?_)
        · skip
          refine ri_i2l (a := (max (pX Hu i) (pX Hu (nx Hu i)))) hx hb d_M_isOn_78 rfl (by unfold i3; omega) ?_
          refine rj_cgt (a := x) (b := (max (pX Hu i) (pX Hu (nx Hu i)))) (tgt := 165) hx hb d_M_isOn_79 d_M_isOn_80 (by decide) rfl rfl (by unfold i6; omega) (by unfold i6; omega) (fun c79 => ?_) (fun c79 => ?_)
          · skip
            refine lv_iconst (v := iN (0)) hx hb d_M_isOn_165 (by decide) ?_
            exact W.eq (congrArg (fun z : Int => F0 m 166 ls [.int (iN z)]) (show 0 = (bI (btw Hu i x y)) from (bI_f (show ¬ btw Hu i x y by unfold btw; omega)).symm)) (K1 _ _ w)
          · skip
            refine lv_lload hx hb d_M_isOn_83 (lv_at hl 4 rfl) ?_
            refine lv_aload_n hx hb d_M_isOn_85 rfl (lv_at hl 1 rfl) ?_
            refine gk_get X w g.1.1 (show (mSt cI mo A f v F) mo = .inr (4, _) from mS_m) rfl in_M 9 (by decide) lk_M_28 rfl d_M_isOn_86 ?_
            refine lv_iload_n hx hb d_M_isOn_89 rfl (lv_at hl 2 rfl) ?_
            refine gk_iald X w 0 g.1.2.2.2.2.2.2.2 (mS_9 g) rfl (vin (by omega) (show (i : Int) < 576 by have h9 : (i : Int) < Hu.length := (by omega); omega) (by decide)) d_M_isOn_90 ?_
            rw [vcl (z := i) (by omega) (by have h9 : (i : Int) < Hu.length := (by omega); omega), hld_y hhF (i := i) (by omega) (by omega)]
            refine lv_aload_n hx hb d_M_isOn_91 rfl (lv_at hl 1 rfl) ?_
            refine gk_get X w g.1.1 (show (mSt cI mo A f v F) mo = .inr (4, _) from mS_m) rfl in_M 9 (by decide) lk_M_28 rfl d_M_isOn_92 ?_
            refine lv_iload hx hb d_M_isOn_95 (lv_at hl 0 rfl) ?_
            refine gk_iald X w 0 g.1.2.2.2.2.2.2.2 (mS_9 g) rfl (vin (nx_lt (by omega) (by omega)).1 (show ((nx Hu i) : Int) < 576 by have h9 : ((nx Hu i) : Int) < Hu.length := (nx_lt (by omega) (by omega)).2; omega) (by decide)) d_M_isOn_97 ?_
            rw [vcl (z := (nx Hu i)) (nx_lt (by omega) (by omega)).1 (by have h9 : ((nx Hu i) : Int) < Hu.length := (nx_lt (by omega) (by omega)).2; omega), hld_y hhF (i := (nx Hu i)) (nx_lt (by omega) (by omega)).1 (nx_lt (by omega) (by omega)).2]
            refine g_joinw (D := D) (A := gA L sz) (H0 := s.heap) (L := L) (f := (mSt cI mo A f v F)) (g1 := F0 m 117 ls [.int (iN ((min (pY Hu i) (pY Hu (nx Hu i))))), .long (jN (y))]) (fun H locs w => ?_) (fun K4 => ?_)
            · skip
              refine ri_i2l (a := (min (pY Hu i) (pY Hu (nx Hu i)))) hx hb d_M_isOn_117 rfl (by unfold i3; omega) ?_
              refine rj_clt (a := y) (b := (min (pY Hu i) (pY Hu (nx Hu i)))) (tgt := 165) hx hb d_M_isOn_118 d_M_isOn_119 (by decide) rfl rfl (by unfold i6; omega) (by unfold i6; omega) (fun c118 => ?_) (fun c118 => ?_)
              · skip
                refine lv_iconst (v := iN (0)) hx hb d_M_isOn_165 (by decide) ?_
                exact W.eq (congrArg (fun z : Int => F0 m 166 ls [.int (iN z)]) (show 0 = (bI (btw Hu i x y)) from (bI_f (show ¬ btw Hu i x y by unfold btw; omega)).symm)) (K1 _ _ w)
              · skip
                refine lv_lload hx hb d_M_isOn_122 (lv_at hl 4 rfl) ?_
                refine lv_aload_n hx hb d_M_isOn_124 rfl (lv_at hl 1 rfl) ?_
                refine gk_get X w g.1.1 (show (mSt cI mo A f v F) mo = .inr (4, _) from mS_m) rfl in_M 9 (by decide) lk_M_28 rfl d_M_isOn_125 ?_
                refine lv_iload_n hx hb d_M_isOn_128 rfl (lv_at hl 2 rfl) ?_
                refine gk_iald X w 0 g.1.2.2.2.2.2.2.2 (mS_9 g) rfl (vin (by omega) (show (i : Int) < 576 by have h9 : (i : Int) < Hu.length := (by omega); omega) (by decide)) d_M_isOn_129 ?_
                rw [vcl (z := i) (by omega) (by have h9 : (i : Int) < Hu.length := (by omega); omega), hld_y hhF (i := i) (by omega) (by omega)]
                refine lv_aload_n hx hb d_M_isOn_130 rfl (lv_at hl 1 rfl) ?_
                refine gk_get X w g.1.1 (show (mSt cI mo A f v F) mo = .inr (4, _) from mS_m) rfl in_M 9 (by decide) lk_M_28 rfl d_M_isOn_131 ?_
                refine lv_iload hx hb d_M_isOn_134 (lv_at hl 0 rfl) ?_
                refine gk_iald X w 0 g.1.2.2.2.2.2.2.2 (mS_9 g) rfl (vin (nx_lt (by omega) (by omega)).1 (show ((nx Hu i) : Int) < 576 by have h9 : ((nx Hu i) : Int) < Hu.length := (nx_lt (by omega) (by omega)).2; omega) (by decide)) d_M_isOn_136 ?_
                rw [vcl (z := (nx Hu i)) (nx_lt (by omega) (by omega)).1 (by have h9 : ((nx Hu i) : Int) < Hu.length := (nx_lt (by omega) (by omega)).2; omega), hld_y hhF (i := (nx Hu i)) (nx_lt (by omega) (by omega)).1 (nx_lt (by omega) (by omega)).2]
                refine g_joinw (D := D) (A := gA L sz) (H0 := s.heap) (L := L) (f := (mSt cI mo A f v F)) (g1 := F0 m 156 ls [.int (iN ((max (pY Hu i) (pY Hu (nx Hu i))))), .long (jN (y))]) (fun H locs w => ?_) (fun K5 => ?_)
                · skip
                  refine ri_i2l (a := (max (pY Hu i) (pY Hu (nx Hu i)))) hx hb d_M_isOn_156 rfl (by unfold i3; omega) ?_
                  refine rj_cgt (a := y) (b := (max (pY Hu i) (pY Hu (nx Hu i)))) (tgt := 165) hx hb d_M_isOn_157 d_M_isOn_158 (by decide) rfl rfl (by unfold i6; omega) (by unfold i6; omega) (fun c157 => ?_) (fun c157 => ?_)
                  · skip
                    refine lv_iconst (v := iN (0)) hx hb d_M_isOn_165 (by decide) ?_
                    exact W.eq (congrArg (fun z : Int => F0 m 166 ls [.int (iN z)]) (show 0 = (bI (btw Hu i x y)) from (bI_f (show ¬ btw Hu i x y by unfold btw; omega)).symm)) (K1 _ _ w)
                  · skip
                    refine lv_iconst (v := iN (1)) hx hb d_M_isOn_161 (by decide) ?_
                    refine lv_goto (tgt := 166) hx hb d_M_isOn_162 (by decide) ?_
                    exact W.eq (congrArg (fun z : Int => F0 m 166 ls [.int (iN z)]) (show 1 = (bI (btw Hu i x y)) from (bI_t (show btw Hu i x y by unfold btw; omega)).symm)) (K1 _ _ w)
                · skip
                  refine ri_cle (a := (pY Hu i)) (b := (pY Hu (nx Hu i))) (tgt := 149) hx hb d_M_isOn_137 (by decide) rfl rfl (by unfold i3; omega) (by unfold i3; omega) (fun c137 => ?_) (fun c137 => ?_)
                  · skip
                    refine lv_aload_n hx hb d_M_isOn_149 rfl (lv_at hl 1 rfl) ?_
                    refine gk_get X w g.1.1 (show (mSt cI mo A f v F) mo = .inr (4, _) from mS_m) rfl in_M 9 (by decide) lk_M_28 rfl d_M_isOn_150 ?_
                    refine lv_iload hx hb d_M_isOn_153 (lv_at hl 0 rfl) ?_
                    refine gk_iald X w 0 g.1.2.2.2.2.2.2.2 (mS_9 g) rfl (vin (nx_lt (by omega) (by omega)).1 (show ((nx Hu i) : Int) < 576 by have h9 : ((nx Hu i) : Int) < Hu.length := (nx_lt (by omega) (by omega)).2; omega) (by decide)) d_M_isOn_155 ?_
                    rw [vcl (z := (nx Hu i)) (nx_lt (by omega) (by omega)).1 (by have h9 : ((nx Hu i) : Int) < Hu.length := (nx_lt (by omega) (by omega)).2; omega), hld_y hhF (i := (nx Hu i)) (nx_lt (by omega) (by omega)).1 (nx_lt (by omega) (by omega)).2]
                    exact W.eq (congrArg (fun z : Int => F0 m 156 ls [.int (iN z), .long (jN (y))]) (show (pY Hu (nx Hu i)) = (max (pY Hu i) (pY Hu (nx Hu i))) from (by omega))) (K5 _ _ w)
                  · skip
                    refine lv_aload_n hx hb d_M_isOn_140 rfl (lv_at hl 1 rfl) ?_
                    refine gk_get X w g.1.1 (show (mSt cI mo A f v F) mo = .inr (4, _) from mS_m) rfl in_M 9 (by decide) lk_M_28 rfl d_M_isOn_141 ?_
                    refine lv_iload_n hx hb d_M_isOn_144 rfl (lv_at hl 2 rfl) ?_
                    refine gk_iald X w 0 g.1.2.2.2.2.2.2.2 (mS_9 g) rfl (vin (by omega) (show (i : Int) < 576 by have h9 : (i : Int) < Hu.length := (by omega); omega) (by decide)) d_M_isOn_145 ?_
                    rw [vcl (z := i) (by omega) (by have h9 : (i : Int) < Hu.length := (by omega); omega), hld_y hhF (i := i) (by omega) (by omega)]
                    refine lv_goto (tgt := 156) hx hb d_M_isOn_146 (by decide) ?_
                    exact W.eq (congrArg (fun z : Int => F0 m 156 ls [.int (iN z), .long (jN (y))]) (show (pY Hu i) = (max (pY Hu i) (pY Hu (nx Hu i))) from (by omega))) (K5 _ _ w)
            · skip
              refine ri_cge (a := (pY Hu i)) (b := (pY Hu (nx Hu i))) (tgt := 110) hx hb d_M_isOn_98 (by decide) rfl rfl (by unfold i3; omega) (by unfold i3; omega) (fun c98 => ?_) (fun c98 => ?_)
              · skip
                refine lv_aload_n hx hb d_M_isOn_110 rfl (lv_at hl 1 rfl) ?_
                refine gk_get X w g.1.1 (show (mSt cI mo A f v F) mo = .inr (4, _) from mS_m) rfl in_M 9 (by decide) lk_M_28 rfl d_M_isOn_111 ?_
                refine lv_iload hx hb d_M_isOn_114 (lv_at hl 0 rfl) ?_
                refine gk_iald X w 0 g.1.2.2.2.2.2.2.2 (mS_9 g) rfl (vin (nx_lt (by omega) (by omega)).1 (show ((nx Hu i) : Int) < 576 by have h9 : ((nx Hu i) : Int) < Hu.length := (nx_lt (by omega) (by omega)).2; omega) (by decide)) d_M_isOn_116 ?_
                rw [vcl (z := (nx Hu i)) (nx_lt (by omega) (by omega)).1 (by have h9 : ((nx Hu i) : Int) < Hu.length := (nx_lt (by omega) (by omega)).2; omega), hld_y hhF (i := (nx Hu i)) (nx_lt (by omega) (by omega)).1 (nx_lt (by omega) (by omega)).2]
                exact W.eq (congrArg (fun z : Int => F0 m 117 ls [.int (iN z), .long (jN (y))]) (show (pY Hu (nx Hu i)) = (min (pY Hu i) (pY Hu (nx Hu i))) from (by omega))) (K4 _ _ w)
              · skip
                refine lv_aload_n hx hb d_M_isOn_101 rfl (lv_at hl 1 rfl) ?_
                refine gk_get X w g.1.1 (show (mSt cI mo A f v F) mo = .inr (4, _) from mS_m) rfl in_M 9 (by decide) lk_M_28 rfl d_M_isOn_102 ?_
                refine lv_iload_n hx hb d_M_isOn_105 rfl (lv_at hl 2 rfl) ?_
                refine gk_iald X w 0 g.1.2.2.2.2.2.2.2 (mS_9 g) rfl (vin (by omega) (show (i : Int) < 576 by have h9 : (i : Int) < Hu.length := (by omega); omega) (by decide)) d_M_isOn_106 ?_
                rw [vcl (z := i) (by omega) (by have h9 : (i : Int) < Hu.length := (by omega); omega), hld_y hhF (i := i) (by omega) (by omega)]
                refine lv_goto (tgt := 117) hx hb d_M_isOn_107 (by decide) ?_
                exact W.eq (congrArg (fun z : Int => F0 m 117 ls [.int (iN z), .long (jN (y))]) (show (pY Hu i) = (min (pY Hu i) (pY Hu (nx Hu i))) from (by omega))) (K4 _ _ w)
        · skip
          refine ri_cle (a := (pX Hu i)) (b := (pX Hu (nx Hu i))) (tgt := 71) hx hb d_M_isOn_59 (by decide) rfl rfl (by unfold i3; omega) (by unfold i3; omega) (fun c59 => ?_) (fun c59 => ?_)
          · skip
            refine lv_aload_n hx hb d_M_isOn_71 rfl (lv_at hl 1 rfl) ?_
            refine gk_get X w g.1.1 (show (mSt cI mo A f v F) mo = .inr (4, _) from mS_m) rfl in_M 8 (by decide) lk_M_25 rfl d_M_isOn_72 ?_
            refine lv_iload hx hb d_M_isOn_75 (lv_at hl 0 rfl) ?_
            refine gk_iald X w 0 g.1.2.2.2.2.2.2.1 (mS_8 g) rfl (vin (nx_lt (by omega) (by omega)).1 (show ((nx Hu i) : Int) < 576 by have h9 : ((nx Hu i) : Int) < Hu.length := (nx_lt (by omega) (by omega)).2; omega) (by decide)) d_M_isOn_77 ?_
            rw [vcl (z := (nx Hu i)) (nx_lt (by omega) (by omega)).1 (by have h9 : ((nx Hu i) : Int) < Hu.length := (nx_lt (by omega) (by omega)).2; omega), hld_x hhF (i := (nx Hu i)) (nx_lt (by omega) (by omega)).1 (nx_lt (by omega) (by omega)).2]
            exact W.eq (congrArg (fun z : Int => F0 m 78 ls [.int (iN z), .long (jN (x))]) (show (pX Hu (nx Hu i)) = (max (pX Hu i) (pX Hu (nx Hu i))) from (by omega))) (K3 _ _ w)
          · skip
            refine lv_aload_n hx hb d_M_isOn_62 rfl (lv_at hl 1 rfl) ?_
            refine gk_get X w g.1.1 (show (mSt cI mo A f v F) mo = .inr (4, _) from mS_m) rfl in_M 8 (by decide) lk_M_25 rfl d_M_isOn_63 ?_
            refine lv_iload_n hx hb d_M_isOn_66 rfl (lv_at hl 2 rfl) ?_
            refine gk_iald X w 0 g.1.2.2.2.2.2.2.1 (mS_8 g) rfl (vin (by omega) (show (i : Int) < 576 by have h9 : (i : Int) < Hu.length := (by omega); omega) (by decide)) d_M_isOn_67 ?_
            rw [vcl (z := i) (by omega) (by have h9 : (i : Int) < Hu.length := (by omega); omega), hld_x hhF (i := i) (by omega) (by omega)]
            refine lv_goto (tgt := 78) hx hb d_M_isOn_68 (by decide) ?_
            exact W.eq (congrArg (fun z : Int => F0 m 78 ls [.int (iN z), .long (jN (x))]) (show (pX Hu i) = (max (pX Hu i) (pX Hu (nx Hu i))) from (by omega))) (K3 _ _ w)
    · skip
      refine ri_cge (a := (pX Hu i)) (b := (pX Hu (nx Hu i))) (tgt := 33) hx hb d_M_isOn_21 (by decide) rfl rfl (by unfold i3; omega) (by unfold i3; omega) (fun c21 => ?_) (fun c21 => ?_)
      · skip
        refine lv_aload_n hx hb d_M_isOn_33 rfl (lv_at hl 1 rfl) ?_
        refine gk_get X w g.1.1 (show (mSt cI mo A f v F) mo = .inr (4, _) from mS_m) rfl in_M 8 (by decide) lk_M_25 rfl d_M_isOn_34 ?_
        refine lv_iload hx hb d_M_isOn_37 (lv_at hl 0 rfl) ?_
        refine gk_iald X w 0 g.1.2.2.2.2.2.2.1 (mS_8 g) rfl (vin (nx_lt (by omega) (by omega)).1 (show ((nx Hu i) : Int) < 576 by have h9 : ((nx Hu i) : Int) < Hu.length := (nx_lt (by omega) (by omega)).2; omega) (by decide)) d_M_isOn_39 ?_
        rw [vcl (z := (nx Hu i)) (nx_lt (by omega) (by omega)).1 (by have h9 : ((nx Hu i) : Int) < Hu.length := (nx_lt (by omega) (by omega)).2; omega), hld_x hhF (i := (nx Hu i)) (nx_lt (by omega) (by omega)).1 (nx_lt (by omega) (by omega)).2]
        exact W.eq (congrArg (fun z : Int => F0 m 40 ls [.int (iN z), .long (jN (x))]) (show (pX Hu (nx Hu i)) = (min (pX Hu i) (pX Hu (nx Hu i))) from (by omega))) (K2 _ _ w)
      · skip
        refine lv_aload_n hx hb d_M_isOn_24 rfl (lv_at hl 1 rfl) ?_
        refine gk_get X w g.1.1 (show (mSt cI mo A f v F) mo = .inr (4, _) from mS_m) rfl in_M 8 (by decide) lk_M_25 rfl d_M_isOn_25 ?_
        refine lv_iload_n hx hb d_M_isOn_28 rfl (lv_at hl 2 rfl) ?_
        refine gk_iald X w 0 g.1.2.2.2.2.2.2.1 (mS_8 g) rfl (vin (by omega) (show (i : Int) < 576 by have h9 : (i : Int) < Hu.length := (by omega); omega) (by decide)) d_M_isOn_29 ?_
        rw [vcl (z := i) (by omega) (by have h9 : (i : Int) < Hu.length := (by omega); omega), hld_x hhF (i := i) (by omega) (by omega)]
        refine lv_goto (tgt := 40) hx hb d_M_isOn_30 (by decide) ?_
        exact W.eq (congrArg (fun z : Int => F0 m 40 ls [.int (iN z), .long (jN (x))]) (show (pX Hu i) = (min (pX Hu i) (pX Hu (nx Hu i))) from (by omega))) (K2 _ _ w)
def onA (H : List Pt) (n x y : Int) : Prop := ∃ i : Int, 0 ≤ i ∧ i < n ∧ on_ H i x y
def lfA (H : List Pt) (n x y : Int) : Prop := 2 < H.length ∧ ∀ i : Int, 0 ≤ i → i < n → 0 < off H i x y
noncomputable def plM (H : List Pt) (x y : Int) : Int := by
  classical
  exact if onA H H.length x y then 1 else if lfA H H.length x y then 2 else 0
set_option maxHeartbeats 4000000 in
set_option maxRecDepth 100000 in
theorem c_M_placeOf (l : Launch) {D : va_G} {cI cR : ClassId} {L : List Nat} {f : Nat → va_E} {mo : Nat} {A : Nat → Nat} {v : Nat → Int} {F : Nat → Nat → Int} (g : mg L mo A) {Wl Hu : List Pt} (hL : mLd v F Wl Hu) (hH576 : Hu.length ≤ 576) (hHb : pb 600 Hu) {x y : Int} (hx0 : -1000 ≤ x ∧ x ≤ 1000) (hy0 : -1000 ≤ y ∧ y ≤ 1000) : gMi D cI cR l y_M_placeOf (Cond.code y_M_placeOf b_M_placeOf 7 (some .int) :: lw_g) { frames := 2, cells := 0, slots := 0, locals := 62 } [.ref mo, .long (jN (x)), .long (jN (y))] L (mSt cI mo A f v F) (fun r u => r = iN (plM Hu x y) ∧ u = (L, mSt cI mo A f v F)) := by
  intro sz
  refine g_enter (by decide) rfl (Nat.le_of_ble_eq_true rfl) ?_
  intro p e s m below meth cd ls X hrt hlk hnm hl hsz w
  have X : gx p m cd b_M_placeOf 7 s _ "HullSumsModel" D cI cR := X
  have hx := X.1.1
  have hb := X.1.2.1
  have hl : lv_has ls 7 [(0, .ref mo), (1, .long (jN (x))), (3, .long (jN (y)))] := hl
  have hL0 := hL
  obtain ⟨h7, h10, hwF, hhF⟩ := hL
  refine lv_aload_n hx hb d_M_placeOf_0 rfl (lv_at hl 0 rfl) ?_
  refine gk_get X w g.1.1 (show (mSt cI mo A f v F) mo = .inr (4, _) from mS_m) rfl in_M 10 (by decide) lk_M_51 rfl d_M_placeOf_1 ?_
  rw [show v 10 = (Hu.length : Int) from h10]
  refine g_joinw (D := D) (A := gA L sz) (H0 := s.heap) (L := L) (f := (mSt cI mo A f v F)) (g1 := F0 m 13 ls [.int (iN ((bI (lfA Hu 0 x y))))]) (fun H locs w => ?_) (fun K1 => ?_)
  · skip
    refine lv_istore (lv' := [(5, .int (iN ((bI (lfA Hu 0 x y))))), (0, .ref mo), (1, .long (jN (x))), (3, .long (jN (y)))]) hx hb d_M_placeOf_13 hl (by decide) rfl (fun ls hl => ?_)
    refine lv_iconst (v := iN (0)) hx hb d_M_placeOf_15 (by decide) ?_
    refine lv_istore (lv' := [(6, .int (iN (0))), (5, .int (iN ((bI (lfA Hu 0 x y))))), (0, .ref mo), (1, .long (jN (x))), (3, .long (jN (y)))]) hx hb d_M_placeOf_16 hl (by decide) rfl (fun ls hl => ?_)
    refine g_loop (σ := Int) (fun z9 => (Hu.length - z9).toNat) (fun z9 => [(0, .ref mo), (1, .long (jN (x))), (3, .long (jN (y))), (5, .int (iN (bI (lfA Hu z9 x y)))), (6, .int (iN (z9)))]) L (fun z9 => (mSt cI mo A f v F)) (fun z9 => 0 ≤ z9 ∧ z9 ≤ Hu.length ∧ ¬ onA Hu z9 x y) ?_ 0 _ _ _ ⟨by omega, by omega, fun ⟨_, q0, q1, _⟩ => by omega⟩ w (lv_sub hl [2, 3, 4, 1, 0] rfl)
    intro i H locs ls hI w hl ih
    have hl : lv_has ls 7 [(0, .ref mo), (1, .long (jN (x))), (3, .long (jN (y))), (5, .int (iN (bI (lfA Hu i x y)))), (6, .int (iN (i)))] := hl
    have w : gw D (gA L sz) s.heap H locs L ((mSt cI mo A f v F)) := w
    have hI : 0 ≤ i ∧ i ≤ Hu.length ∧ ¬ onA Hu i x y := hI
    obtain ⟨h0, h1, h2⟩ := hI
    refine lv_iload hx hb d_M_placeOf_18 (lv_at hl 4 rfl) ?_
    refine lv_aload_n hx hb d_M_placeOf_20 rfl (lv_at hl 0 rfl) ?_
    refine gk_get X w g.1.1 (show (mSt cI mo A f v F) mo = .inr (4, _) from mS_m) rfl in_M 10 (by decide) lk_M_51 rfl d_M_placeOf_21 ?_
    rw [show v 10 = (Hu.length : Int) from h10]
    refine ri_cge (a := i) (b := (Hu.length : Int)) (tgt := 108) hx hb d_M_placeOf_24 (by decide) rfl rfl (by unfold i3; omega) (by unfold i3; omega) (fun c24 => ?_) (fun c24 => ?_)
    · skip
      refine lv_iload hx hb d_M_placeOf_108 (lv_at hl 3 rfl) ?_
      refine ri_zeq (a := bI (lfA Hu i x y)) (tgt := 117) hx hb d_M_placeOf_110 (by decide) rfl (bI_3 _) (fun c110 => ?_) (fun c110 => ?_)
      · skip
        refine lv_iconst (v := iN (0)) hx hb d_M_placeOf_117 (by decide) ?_
        exact g_iret X w hrt hlk d_M_placeOf_118 ⟨by unfold plM; rw [show (Hu.length : Int) = i by omega, if_neg h2, if_neg (bI_0 c110)], rfl⟩
      · skip
        refine lv_iconst (v := iN (2)) hx hb d_M_placeOf_113 (by decide) ?_
        refine lv_goto (tgt := 118) hx hb d_M_placeOf_114 (by decide) ?_
        exact g_iret X w hrt hlk d_M_placeOf_118 ⟨by unfold plM; rw [show (Hu.length : Int) = i by omega, if_neg h2, if_pos (bI_n c110)], rfl⟩
    · skip
      have hto : -4000000 ≤ off Hu i x y ∧ off Hu i x y ≤ 4000000 := pT_b hHb i (nx Hu i) hx0 hy0
      refine lv_aload_n hx hb d_M_placeOf_27 rfl (lv_at hl 0 rfl) ?_
      refine lv_iload hx hb d_M_placeOf_28 (lv_at hl 4 rfl) ?_
      refine lv_lload_n hx hb d_M_placeOf_30 rfl (lv_at hl 1 rfl) ?_
      refine lv_lload_n hx hb d_M_placeOf_31 rfl (lv_at hl 2 rfl) ?_
      refine g_ci w (g_runV (As := [.int (iN (i)), .long (jN (x)), .long (jN (y))]) (rest := []) X w (c_M_isOn l g (v := v) (F := F) hL0 hH576 hHb (i := i) (x := x) (y := y) (by omega) hx0 hy0) k_M_isOn v_M_isOn lk_M_69 g.1.1 (show (mSt cI mo A f v F) mo = .inr (4, _) from mS_m) rfl ⟨(Nat.le_of_ble_eq_true rfl), (Nat.le_of_ble_eq_true rfl)⟩ rfl hl.1 rfl (Nat.le_of_ble_eq_true rfl) d_M_placeOf_32 ⟨Nat.zero_le _, Nat.zero_le _⟩) (fun r u H locs hp w => ?_)
      obtain ⟨rfl, rfl⟩ := hp
      have w : gw D (gA L sz) s.heap H locs L (mSt cI mo A f v F) := w
      refine ri_zeq (a := (bI (on_ Hu i x y))) (tgt := 40) hx hb d_M_placeOf_35 (by decide) rfl (bI_3 _) (fun c35 => ?_) (fun c35 => ?_)
      · skip
        refine g_joinw (D := D) (A := gA L sz) (H0 := s.heap) (L := L) (f := (mSt cI mo A f v F)) (g1 := F0 m 100 ls [.int (iN ((bI (lfA Hu (i + 1) x y))))]) (fun H locs w => ?_) (fun K2 => ?_)
        · skip
          refine lv_istore (lv' := [(5, .int (iN ((bI (lfA Hu (i + 1) x y))))), (0, .ref mo), (1, .long (jN (x))), (3, .long (jN (y))), (6, .int (iN (i)))]) hx hb d_M_placeOf_100 hl (by decide) rfl (fun ls hl => ?_)
          refine lv_iinc (v := iN ((i + 1))) (lv' := [(6, .int (iN ((i + 1)))), (5, .int (iN ((bI (lfA Hu (i + 1) x y))))), (0, .ref mo), (1, .long (jN (x))), (3, .long (jN (y)))]) hx hb d_M_placeOf_102 hl (k := 4) rfl (by rw [show (i + 1) = i + (1 : Int) by omega, ← iN_add]; rfl) (by decide) rfl (fun ls hl => ?_)
          refine lv_goto (tgt := 18) hx hb d_M_placeOf_105 (by decide) ?_
          exact ih (i + 1) _ _ _ (by omega) ⟨by omega, by omega, fun ⟨j, q0, q1, q2⟩ => by by_cases e9 : j = i; (subst e9; exact bI_0 c35 q2); exact h2 ⟨j, q0, by omega, q2⟩⟩ w (lv_sub hl [2, 3, 4, 1, 0] rfl)
        · skip
          refine lv_iload hx hb d_M_placeOf_40 (lv_at hl 3 rfl) ?_
          refine ri_zeq (a := bI (lfA Hu i x y)) (tgt := 99) hx hb d_M_placeOf_42 (by decide) rfl (bI_3 _) (fun c42 => ?_) (fun c42 => ?_)
          · skip
            refine lv_iconst (v := iN (0)) hx hb d_M_placeOf_99 (by decide) ?_
            exact W.eq (congrArg (fun z : Int => F0 m 100 ls [.int (iN z)]) (show 0 = (bI (lfA Hu (i + 1) x y)) from (bI_f (fun z9 : lfA Hu (i + 1) x y => by first | exact bI_0 c42 ⟨z9.1, fun j q0 q1 => z9.2 j q0 (by omega)⟩ | (have := z9.2 i h0 (by omega); unfold off pT at this; omega))).symm)) (K2 _ _ w)
          · skip
            refine lv_aload_n hx hb d_M_placeOf_45 rfl (lv_at hl 0 rfl) ?_
            refine gk_get X w g.1.1 (show (mSt cI mo A f v F) mo = .inr (4, _) from mS_m) rfl in_M 8 (by decide) lk_M_25 rfl d_M_placeOf_46 ?_
            refine lv_iload hx hb d_M_placeOf_49 (lv_at hl 4 rfl) ?_
            refine gk_iald X w 0 g.1.2.2.2.2.2.2.1 (mS_8 g) rfl (vin (by omega) (show (i : Int) < 576 by have h9 : (i : Int) < Hu.length := (by omega); omega) (by decide)) d_M_placeOf_51 ?_
            rw [vcl (z := i) (by omega) (by have h9 : (i : Int) < Hu.length := (by omega); omega), hld_x hhF (i := i) (by omega) (by omega)]
            refine ri_i2l (a := (pX Hu i)) hx hb d_M_placeOf_52 rfl (by have := hHb i; have := hHb (nx Hu i); unfold i3; omega) ?_
            refine lv_aload_n hx hb d_M_placeOf_53 rfl (lv_at hl 0 rfl) ?_
            refine gk_get X w g.1.1 (show (mSt cI mo A f v F) mo = .inr (4, _) from mS_m) rfl in_M 9 (by decide) lk_M_28 rfl d_M_placeOf_54 ?_
            refine lv_iload hx hb d_M_placeOf_57 (lv_at hl 4 rfl) ?_
            refine gk_iald X w 0 g.1.2.2.2.2.2.2.2 (mS_9 g) rfl (vin (by omega) (show (i : Int) < 576 by have h9 : (i : Int) < Hu.length := (by omega); omega) (by decide)) d_M_placeOf_59 ?_
            rw [vcl (z := i) (by omega) (by have h9 : (i : Int) < Hu.length := (by omega); omega), hld_y hhF (i := i) (by omega) (by omega)]
            refine ri_i2l (a := (pY Hu i)) hx hb d_M_placeOf_60 rfl (by have := hHb i; have := hHb (nx Hu i); unfold i3; omega) ?_
            refine lv_aload_n hx hb d_M_placeOf_61 rfl (lv_at hl 0 rfl) ?_
            refine gk_get X w g.1.1 (show (mSt cI mo A f v F) mo = .inr (4, _) from mS_m) rfl in_M 8 (by decide) lk_M_25 rfl d_M_placeOf_62 ?_
            refine lv_aload_n hx hb d_M_placeOf_65 rfl (lv_at hl 0 rfl) ?_
            refine lv_iload hx hb d_M_placeOf_66 (lv_at hl 4 rfl) ?_
            refine g_ci w (g_runV (As := [.int (iN (i))]) (rest := [.ref (A 8), .long (jN ((pY Hu i))), .long (jN ((pX Hu i)))]) X w (c_M_after l g (v := v) (F := F) (by rw [h10]; unfold i3; omega) (z := i) (by omega)) k_M_after v_M_after lk_M_66 g.1.1 (show (mSt cI mo A f v F) mo = .inr (4, _) from mS_m) rfl ⟨(Nat.le_of_ble_eq_true rfl), (Nat.le_of_ble_eq_true rfl)⟩ rfl hl.1 rfl (Nat.le_of_ble_eq_true rfl) d_M_placeOf_68 ⟨(Nat.le_of_ble_eq_true rfl), (Nat.le_of_ble_eq_true rfl)⟩) (fun r u H locs hp w => ?_)
            obtain ⟨hr9, rfl⟩ := hp
            rw [aft_nx h10] at hr9
            subst hr9
            have w : gw D (gA L sz) s.heap H locs L (mSt cI mo A f v F) := w
            refine gk_iald X w 0 g.1.2.2.2.2.2.2.1 (mS_8 g) rfl (vin (nx_lt (by omega) (by omega)).1 (show ((nx Hu i) : Int) < 576 by have h9 : ((nx Hu i) : Int) < Hu.length := (nx_lt (by omega) (by omega)).2; omega) (by decide)) d_M_placeOf_71 ?_
            rw [vcl (z := (nx Hu i)) (nx_lt (by omega) (by omega)).1 (by have h9 : ((nx Hu i) : Int) < Hu.length := (nx_lt (by omega) (by omega)).2; omega), hld_x hhF (i := (nx Hu i)) (nx_lt (by omega) (by omega)).1 (nx_lt (by omega) (by omega)).2]
            refine ri_i2l (a := (pX Hu (nx Hu i))) hx hb d_M_placeOf_72 rfl (by have := hHb i; have := hHb (nx Hu i); unfold i3; omega) ?_
            refine lv_aload_n hx hb d_M_placeOf_73 rfl (lv_at hl 0 rfl) ?_
            refine gk_get X w g.1.1 (show (mSt cI mo A f v F) mo = .inr (4, _) from mS_m) rfl in_M 9 (by decide) lk_M_28 rfl d_M_placeOf_74 ?_
            refine lv_aload_n hx hb d_M_placeOf_77 rfl (lv_at hl 0 rfl) ?_
            refine lv_iload hx hb d_M_placeOf_78 (lv_at hl 4 rfl) ?_
            refine g_ci w (g_runV (As := [.int (iN (i))]) (rest := [.ref (A 9), .long (jN ((pX Hu (nx Hu i)))), .long (jN ((pY Hu i))), .long (jN ((pX Hu i)))]) X w (c_M_after l g (v := v) (F := F) (by rw [h10]; unfold i3; omega) (z := i) (by omega)) k_M_after v_M_after lk_M_66 g.1.1 (show (mSt cI mo A f v F) mo = .inr (4, _) from mS_m) rfl ⟨(Nat.le_of_ble_eq_true rfl), (Nat.le_of_ble_eq_true rfl)⟩ rfl hl.1 rfl (Nat.le_of_ble_eq_true rfl) d_M_placeOf_80 ⟨(Nat.le_of_ble_eq_true rfl), (Nat.le_of_ble_eq_true rfl)⟩) (fun r u H locs hp w => ?_)
            obtain ⟨hr9, rfl⟩ := hp
            rw [aft_nx h10] at hr9
            subst hr9
            have w : gw D (gA L sz) s.heap H locs L (mSt cI mo A f v F) := w
            refine gk_iald X w 0 g.1.2.2.2.2.2.2.2 (mS_9 g) rfl (vin (nx_lt (by omega) (by omega)).1 (show ((nx Hu i) : Int) < 576 by have h9 : ((nx Hu i) : Int) < Hu.length := (nx_lt (by omega) (by omega)).2; omega) (by decide)) d_M_placeOf_83 ?_
            rw [vcl (z := (nx Hu i)) (nx_lt (by omega) (by omega)).1 (by have h9 : ((nx Hu i) : Int) < Hu.length := (nx_lt (by omega) (by omega)).2; omega), hld_y hhF (i := (nx Hu i)) (nx_lt (by omega) (by omega)).1 (nx_lt (by omega) (by omega)).2]
            refine ri_i2l (a := (pY Hu (nx Hu i))) hx hb d_M_placeOf_84 rfl (by have := hHb i; have := hHb (nx Hu i); unfold i3; omega) ?_
            refine lv_lload_n hx hb d_M_placeOf_85 rfl (lv_at hl 1 rfl) ?_
            refine lv_lload_n hx hb d_M_placeOf_86 rfl (lv_at hl 2 rfl) ?_
            refine g_cl w (g_runS (As := [.long (jN ((pX Hu i))), .long (jN ((pY Hu i))), .long (jN ((pX Hu (nx Hu i)))), .long (jN ((pY Hu (nx Hu i)))), .long (jN (x)), .long (jN (y))]) (rest := []) X w (c_M_turn l (px := (pX Hu i)) (py := (pY Hu i)) (ax := (pX Hu (nx Hu i))) (ay := (pY Hu (nx Hu i))) (bx := x) (by_ := y)) k_M_turn lk_M_58 st_M_turn ⟨(Nat.le_of_ble_eq_true rfl), (Nat.le_of_ble_eq_true rfl)⟩ rfl hl.1 rfl (Nat.le_of_ble_eq_true rfl) d_M_placeOf_87 ⟨Nat.zero_le _, Nat.zero_le _⟩) (fun r u H locs hp w => ?_)
            obtain ⟨rfl, rfl⟩ := hp
            have w : gw D (gA L sz) s.heap H locs L (mSt cI mo A f v F) := w
            refine lv_lconst (v := jN (0)) hx hb d_M_placeOf_90 (by decide) ?_
            refine rj_cle (a := (((pX Hu (nx Hu i)) - (pX Hu i)) * (y - (pY Hu i)) - ((pY Hu (nx Hu i)) - (pY Hu i)) * (x - (pX Hu i)))) (b := 0) (tgt := 99) hx hb d_M_placeOf_91 d_M_placeOf_92 (by decide) rfl rfl (by unfold off pT at hto; unfold i6; omega) (by unfold i6; omega) (fun c91 => ?_) (fun c91 => ?_)
            · skip
              refine lv_iconst (v := iN (0)) hx hb d_M_placeOf_99 (by decide) ?_
              exact W.eq (congrArg (fun z : Int => F0 m 100 ls [.int (iN z)]) (show 0 = (bI (lfA Hu (i + 1) x y)) from (bI_f (fun z9 : lfA Hu (i + 1) x y => by first | exact bI_0 c42 ⟨z9.1, fun j q0 q1 => z9.2 j q0 (by omega)⟩ | (have := z9.2 i h0 (by omega); unfold off pT at this; omega))).symm)) (K2 _ _ w)
            · skip
              refine lv_iconst (v := iN (1)) hx hb d_M_placeOf_95 (by decide) ?_
              refine lv_goto (tgt := 100) hx hb d_M_placeOf_96 (by decide) ?_
              exact W.eq (congrArg (fun z : Int => F0 m 100 ls [.int (iN z)]) (show 1 = (bI (lfA Hu (i + 1) x y)) from (bI_t (show lfA Hu (i + 1) x y from ⟨(bI_n c42).1, fun j q0 q1 => by by_cases e9 : j = i; (subst e9; unfold off pT; omega); exact (bI_n c42).2 j q0 (by omega)⟩)).symm)) (K2 _ _ w)
      · skip
        refine lv_iconst (v := iN (1)) hx hb d_M_placeOf_38 (by decide) ?_
        exact g_iret X w hrt hlk d_M_placeOf_39 ⟨by unfold plM; rw [if_pos ⟨i, h0, by omega, bI_n c35⟩], rfl⟩
  · skip
    refine lv_iconst (v := iN (2)) hx hb d_M_placeOf_4 (by decide) ?_
    refine ri_cle (a := (Hu.length : Int)) (b := 2) (tgt := 12) hx hb d_M_placeOf_5 (by decide) rfl rfl (by unfold i3; omega) (by unfold i3; omega) (fun c5 => ?_) (fun c5 => ?_)
    · skip
      refine lv_iconst (v := iN (0)) hx hb d_M_placeOf_12 (by decide) ?_
      exact W.eq (congrArg (fun z : Int => F0 m 13 ls [.int (iN z)]) (show 0 = (bI (lfA Hu 0 x y)) from (bI_f (fun z9 : lfA Hu 0 x y => by have := z9.1; omega)).symm)) (K1 _ _ w)
    · skip
      refine lv_iconst (v := iN (1)) hx hb d_M_placeOf_8 (by decide) ?_
      refine lv_goto (tgt := 13) hx hb d_M_placeOf_9 (by decide) ?_
      exact W.eq (congrArg (fun z : Int => F0 m 13 ls [.int (iN z)]) (show 1 = (bI (lfA Hu 0 x y)) from (bI_t (show lfA Hu 0 x y from ⟨by omega, fun _ _ _ => by omega⟩)).symm)) (K1 _ _ w)
