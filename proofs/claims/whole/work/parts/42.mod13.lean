/-! THE REFERENCE: tell, spread, turned, beside -/
theorem gcd_pos {x y : Int} (hy : 0 < y) : ((Int.gcd x y : Nat) : Int) ≠ 0 := by
  have := Int.gcd_pos_of_ne_zero_right x (show y ≠ 0 by omega)
  omega
set_option maxHeartbeats 4000000 in
set_option maxRecDepth 100000 in
theorem c_M_tell (l : Launch) {D : va_G} {cI cR : ClassId} {L : List Nat} {f : Nat → va_E} {mo : Nat} {A : Nat → Nat} {v : Nat → Int} {F : Nat → Nat → Int} (g : mg L mo A) {x y : Int} (hx6 : i6 x ∧ -9223372036854775807 ≤ x) (hy48 : 0 < y ∧ y < 281474976710656) : gMv D cI cR l y_M_tell (Cond.code y_M_tell b_M_tell 9 none :: lw_g) { frames := 1, cells := 0, slots := 0, locals := 29 } [.ref mo, .long (jN (x)), .long (jN (y))] L (mSt cI mo A f v F) (fun u => ∃ v' : Nat → Int, u = (L, mSt cI mo A f v' F) ∧ v' 11 = frac1 x y ∧ v' 12 = frac2 x y ∧ ∀ q, q ≠ 11 → q ≠ 12 → v' q = v q) := by
  intro sz
  refine g_enter (by decide) rfl (Nat.le_of_ble_eq_true rfl) ?_
  intro p e s m below meth cd ls X hrt hlk hnm hl hsz w
  have X : gx p m cd b_M_tell 9 s _ "HullSumsModel" D cI cR := X
  have hx := X.1.1
  have hb := X.1.2.1
  have hl : lv_has ls 9 [(0, .ref mo), (1, .long (jN (x))), (3, .long (jN (y)))] := hl
  refine lv_lload_n hx hb d_M_tell_0 rfl (lv_at hl 1 rfl) ?_
  refine lv_lload_n hx hb d_M_tell_1 rfl (lv_at hl 2 rfl) ?_
  refine g_cl w (g_runS (As := [.long (jN (x)), .long (jN (y))]) (rest := []) X w (c_M_common l (a := x) (b := y) hx6.1 (by unfold i6; omega) (by omega) (by omega)) k_M_common lk_M_73 st_M_common ⟨(Nat.le_of_ble_eq_true rfl), (Nat.le_of_ble_eq_true rfl)⟩ rfl hl.1 rfl (Nat.le_of_ble_eq_true rfl) d_M_tell_2 ⟨Nat.zero_le _, Nat.zero_le _⟩) (fun r u H locs hp w => ?_)
  obtain ⟨rfl, rfl⟩ := hp
  have w : gw D (gA L sz) s.heap H locs L (mSt cI mo A f v F) := w
  refine lv_lstore (lv' := [(5, .long (jN (((Int.gcd x y : Nat) : Int)))), (0, .ref mo), (1, .long (jN (x))), (3, .long (jN (y)))]) hx hb d_M_tell_5 hl (by decide) rfl (fun ls hl => ?_)
  refine lv_lload_n hx hb d_M_tell_7 rfl (lv_at hl 3 rfl) ?_
  refine lv_lconst (v := jN (0)) hx hb d_M_tell_8 (by decide) ?_
  refine rj_cge (a := y) (b := 0) (tgt := 19) hx hb d_M_tell_9 d_M_tell_10 (by decide) rfl rfl (by unfold i6; omega) (by unfold i6; omega) (fun c9 => ?_) (fun c9 => ?_)
  · skip
    refine lv_lconst (v := jN (1)) hx hb d_M_tell_19 (by decide) ?_
    refine lv_lstore (lv' := [(7, .long (jN (1))), (5, .long (jN (((Int.gcd x y : Nat) : Int)))), (0, .ref mo), (1, .long (jN (x))), (3, .long (jN (y)))]) hx hb d_M_tell_20 hl (by decide) rfl (fun ls hl => ?_)
    refine lv_aload_n hx hb d_M_tell_22 rfl (lv_at hl 2 rfl) ?_
    refine lv_lload hx hb d_M_tell_23 (lv_at hl 0 rfl) ?_
    refine lv_lload_n hx hb d_M_tell_25 rfl (lv_at hl 3 rfl) ?_
    refine rj_mul (a := 1) (b := x) hx hb d_M_tell_26 rfl rfl ?_
    refine lv_lload hx hb d_M_tell_27 (lv_at hl 1 rfl) ?_
    rw [show ((1 * x) : Int) = x from Int.one_mul _]
    refine rj_div (a := x) (b := ((Int.gcd x y : Nat) : Int)) hx hb d_M_tell_29 rfl rfl hx6.1 (gcd_6 (by omega) hx6) (gcd_pos (by omega)) ?_
    refine gk_put X w g.1.1 (show (mSt cI mo A f v F) mo = .inr (4, _) from mS_m) rfl in_M ty_M tyok_M nm_M 11 (by decide) lk_M_42 rfl (ty := .long) (by decide +kernel) rfl rfl (Nat.le_of_ble_eq_true rfl) d_M_tell_30 (fun H locs w => ?_)
    obtain ⟨v1, hv1⟩ : ∃ q : Nat → Int, q = va_up v 11 ((x.tdiv ((Int.gcd x y : Nat) : Int))) := ⟨_, rfl⟩
    have v1s : v1 11 = (x.tdiv ((Int.gcd x y : Nat) : Int)) := by rw [hv1, va_up_self]
    have v1n : ∀ j, j ≠ 11 → v1 j = v j := fun j hj => by rw [hv1, va_up_ne _ _ hj]
    have w : gw D (gA L sz) s.heap H locs L (mSt cI mo A f v1 F) := by rw [hv1, ← mU_m (v := v)]; exact w
    refine lv_aload_n hx hb d_M_tell_33 rfl (lv_at hl 2 rfl) ?_
    refine lv_lload hx hb d_M_tell_34 (lv_at hl 0 rfl) ?_
    refine lv_lload_n hx hb d_M_tell_36 rfl (lv_at hl 4 rfl) ?_
    refine rj_mul (a := 1) (b := y) hx hb d_M_tell_37 rfl rfl ?_
    refine lv_lload hx hb d_M_tell_38 (lv_at hl 1 rfl) ?_
    rw [show ((1 * y) : Int) = y from Int.one_mul _]
    refine rj_div (a := y) (b := ((Int.gcd x y : Nat) : Int)) hx hb d_M_tell_40 rfl rfl (by unfold i6; omega) (gcd_6 (by omega) hx6) (gcd_pos (by omega)) ?_
    refine gk_put X w g.1.1 (show (mSt cI mo A f v1 F) mo = .inr (4, _) from mS_m) rfl in_M ty_M tyok_M nm_M 12 (by decide) lk_M_31 rfl (ty := .long) (by decide +kernel) rfl rfl (Nat.le_of_ble_eq_true rfl) d_M_tell_41 (fun H locs w => ?_)
    obtain ⟨v2, hv2⟩ : ∃ q : Nat → Int, q = va_up v1 12 ((y.tdiv ((Int.gcd x y : Nat) : Int))) := ⟨_, rfl⟩
    have v2s : v2 12 = (y.tdiv ((Int.gcd x y : Nat) : Int)) := by rw [hv2, va_up_self]
    have v2n : ∀ j, j ≠ 12 → v2 j = v1 j := fun j hj => by rw [hv2, va_up_ne _ _ hj]
    have w : gw D (gA L sz) s.heap H locs L (mSt cI mo A f v2 F) := by rw [hv2, ← mU_m (v := v1)]; exact w
    have hg0 : Int.gcd x y ≠ 0 := by have := gcd_pos (x := x) (y := y) (by omega); omega
    exact g_vret X w hrt hlk d_M_tell_44 ⟨v2, rfl, by rw [v2n 11 (by decide), v1s]; unfold frac1; rw [if_neg hg0], by rw [v2s]; unfold frac2; rw [if_neg hg0], fun q h1 h2 => (v2n q h2).trans (v1n q h1)⟩
  · skip
    exfalso; omega
def spL (W : List Pt) (i j : Int) : Nat → Int × Int
  | 0 => (0, 0)
  | n + 1 => (min (pT W i j (pX W n) (pY W n)) (spL W i j n).1, max (pT W i j (pX W n) (pY W n)) (spL W i j n).2)
def spR (W : List Pt) (i j : Int) : Int := (spL W i j W.length).2 - (spL W i j W.length).1
theorem spL_b {W : List Pt} (h : pb 300 W) (i j : Int) (n : Nat) : -720000 ≤ (spL W i j n).1 ∧ (spL W i j n).1 ≤ 0 ∧ 0 ≤ (spL W i j n).2 ∧ (spL W i j n).2 ≤ 720000 := by
  induction n with
  | zero => unfold spL; dsimp only; omega
  | succ n ih => have a := h n; have := pT_b3 h i j (x := pX W n) (y := pY W n) (by omega) (by omega); unfold spL; dsimp only; omega
theorem spR_b {W : List Pt} (h : pb 300 W) (i j : Int) : 0 ≤ spR W i j ∧ spR W i j ≤ 1440000 := by
  have := spL_b h i j W.length; unfold spR; omega
set_option maxHeartbeats 4000000 in
set_option maxRecDepth 100000 in
theorem c_M_spread (l : Launch) {D : va_G} {cI cR : ClassId} {L : List Nat} {f : Nat → va_E} {mo : Nat} {A : Nat → Nat} {v : Nat → Int} {F : Nat → Nat → Int} (g : mg L mo A) {Wl Hu : List Pt} (hL : mLd v F Wl Hu) (hH576 : Hu.length ≤ 576) (hHb : pb 600 Hu) (hWb : pb 300 Wl) (hW24 : Wl.length ≤ 24) {i j : Int} (hi : 0 ≤ i ∧ i < Wl.length) (hj : 0 ≤ j ∧ j < Wl.length) : gMv D cI cR l y_M_spread (Cond.code y_M_spread b_M_spread 10 none :: lw_g) { frames := 1, cells := 0, slots := 0, locals := 31 } [.ref mo, .int (iN (i)), .int (iN (j))] L (mSt cI mo A f v F) (fun u => ∃ v' : Nat → Int, u = (L, mSt cI mo A f v' F) ∧ v' 17 = spR Wl i j ∧ ∀ q, q ≠ 17 → v' q = v q) := by
  intro sz
  refine g_enter (by decide) rfl (Nat.le_of_ble_eq_true rfl) ?_
  intro p e s m below meth cd ls X hrt hlk hnm hl hsz w
  have X : gx p m cd b_M_spread 10 s _ "HullSumsModel" D cI cR := X
  have hx := X.1.1
  have hb := X.1.2.1
  have hl : lv_has ls 10 [(0, .ref mo), (1, .int (iN (i))), (2, .int (iN (j)))] := hl
  obtain ⟨h7, h10, hwF, hhF⟩ := hL
  refine lv_lconst (v := jN (0)) hx hb d_M_spread_0 (by decide) ?_
  refine lv_lstore_n (lv' := [(3, .long (jN (0))), (0, .ref mo), (1, .int (iN (i))), (2, .int (iN (j)))]) hx hb d_M_spread_1 rfl hl (by decide) rfl (fun ls hl => ?_)
  refine lv_lconst (v := jN (0)) hx hb d_M_spread_2 (by decide) ?_
  refine lv_lstore (lv' := [(5, .long (jN (0))), (3, .long (jN (0))), (0, .ref mo), (1, .int (iN (i))), (2, .int (iN (j)))]) hx hb d_M_spread_3 hl (by decide) rfl (fun ls hl => ?_)
  refine lv_iconst (v := iN (0)) hx hb d_M_spread_5 (by decide) ?_
  refine lv_istore (lv' := [(7, .int (iN (0))), (5, .long (jN (0))), (3, .long (jN (0))), (0, .ref mo), (1, .int (iN (i))), (2, .int (iN (j)))]) hx hb d_M_spread_6 hl (by decide) rfl (fun ls hl => ?_)
  refine g_loop (σ := Int × Int × Int) (fun z9 => ((Wl.length : Int) - z9.1).toNat) (fun z9 => [(0, .ref mo), (1, .int (iN (i))), (2, .int (iN (j))), (3, .long (jN (z9.2.1))), (5, .long (jN (z9.2.2))), (7, .int (iN (z9.1)))]) L (fun z9 => (mSt cI mo A f v F)) (fun z9 => 0 ≤ z9.1 ∧ z9.1 ≤ Wl.length ∧ (z9.2.1, z9.2.2) = spL Wl i j z9.1.toNat) ?_ (0, 0, 0) _ _ _ ⟨by omega, by omega, rfl⟩ w (lv_sub hl [3, 4, 5, 2, 1, 0] rfl)
  intro z9 H locs ls hI w hl ih
  obtain ⟨k, a1, a2⟩ := z9
  have hl : lv_has ls 10 [(0, .ref mo), (1, .int (iN (i))), (2, .int (iN (j))), (3, .long (jN (a1))), (5, .long (jN (a2))), (7, .int (iN (k)))] := hl
  have w : gw D (gA L sz) s.heap H locs L ((mSt cI mo A f v F)) := w
  have hI : 0 ≤ k ∧ k ≤ Wl.length ∧ (a1, a2) = spL Wl i j k.toNat := hI
  obtain ⟨h0, h1, h2⟩ := hI
  have hsb := spL_b hWb i j k.toNat
  rw [← h2] at hsb
  dsimp only at hsb
  have hkb := hWb k
  have hpt := pT_b3 hWb i j (x := pX Wl k) (y := pY Wl k) (by omega) (by omega)
  refine lv_iload hx hb d_M_spread_8 (lv_at hl 5 rfl) ?_
  refine lv_aload_n hx hb d_M_spread_10 rfl (lv_at hl 0 rfl) ?_
  refine gk_get X w g.1.1 (show (mSt cI mo A f v F) mo = .inr (4, _) from mS_m) rfl in_M 7 (by decide) lk_M_45 rfl d_M_spread_11 ?_
  rw [show v 7 = (Wl.length : Int) from h7]
  refine ri_cge (a := k) (b := (Wl.length : Int)) (tgt := 103) hx hb d_M_spread_14 (by decide) rfl rfl (by unfold i3; omega) (by unfold i3; omega) (fun c14 => ?_) (fun c14 => ?_)
  · skip
    refine lv_aload_n hx hb d_M_spread_103 rfl (lv_at hl 0 rfl) ?_
    refine lv_lload hx hb d_M_spread_104 (lv_at hl 4 rfl) ?_
    refine lv_lload_n hx hb d_M_spread_106 rfl (lv_at hl 3 rfl) ?_
    refine rj_sub (a := a2) (b := a1) hx hb d_M_spread_107 rfl rfl ?_
    refine gk_put X w g.1.1 (show (mSt cI mo A f v F) mo = .inr (4, _) from mS_m) rfl in_M ty_M tyok_M nm_M 17 (by decide) lk_M_140 rfl (ty := .long) (by decide +kernel) rfl rfl (Nat.le_of_ble_eq_true rfl) d_M_spread_108 (fun H locs w => ?_)
    obtain ⟨v1, hv1⟩ : ∃ q : Nat → Int, q = va_up v 17 ((a2 - a1)) := ⟨_, rfl⟩
    have v1s : v1 17 = (a2 - a1) := by rw [hv1, va_up_self]
    have v1n : ∀ j, j ≠ 17 → v1 j = v j := fun j hj => by rw [hv1, va_up_ne _ _ hj]
    have w : gw D (gA L sz) s.heap H locs L (mSt cI mo A f v1 F) := by rw [hv1, ← mU_m (v := v)]; exact w
    exact g_vret X w hrt hlk d_M_spread_111 ⟨v1, rfl, by rw [v1s]; unfold spR; rw [← show k.toNat = Wl.length by omega, ← h2], fun q hq => v1n q hq⟩
  · skip
    refine lv_aload_n hx hb d_M_spread_17 rfl (lv_at hl 0 rfl) ?_
    refine gk_get X w g.1.1 (show (mSt cI mo A f v F) mo = .inr (4, _) from mS_m) rfl in_M 5 (by decide) lk_M_19 rfl d_M_spread_18 ?_
    refine lv_iload_n hx hb d_M_spread_21 rfl (lv_at hl 1 rfl) ?_
    refine gk_iald X w 0 g.1.2.2.2.2.1 (mS_5 g) rfl (vin (by omega) (show (i : Int) < 576 by have h9 : (i : Int) < Wl.length := (by omega); omega) (by decide)) d_M_spread_22 ?_
    rw [vcl (z := i) (by omega) (by have h9 : (i : Int) < Wl.length := (by omega); omega), wld_x hwF (i := i) (by omega) (by omega)]
    refine ri_i2l (a := (pX Wl i)) hx hb d_M_spread_23 rfl (by have := hWb i; have := hWb j; have := hWb k; unfold i3; omega) ?_
    refine lv_aload_n hx hb d_M_spread_24 rfl (lv_at hl 0 rfl) ?_
    refine gk_get X w g.1.1 (show (mSt cI mo A f v F) mo = .inr (4, _) from mS_m) rfl in_M 6 (by decide) lk_M_22 rfl d_M_spread_25 ?_
    refine lv_iload_n hx hb d_M_spread_28 rfl (lv_at hl 1 rfl) ?_
    refine gk_iald X w 0 g.1.2.2.2.2.2.1 (mS_6 g) rfl (vin (by omega) (show (i : Int) < 576 by have h9 : (i : Int) < Wl.length := (by omega); omega) (by decide)) d_M_spread_29 ?_
    rw [vcl (z := i) (by omega) (by have h9 : (i : Int) < Wl.length := (by omega); omega), wld_y hwF (i := i) (by omega) (by omega)]
    refine ri_i2l (a := (pY Wl i)) hx hb d_M_spread_30 rfl (by have := hWb i; have := hWb j; have := hWb k; unfold i3; omega) ?_
    refine lv_aload_n hx hb d_M_spread_31 rfl (lv_at hl 0 rfl) ?_
    refine gk_get X w g.1.1 (show (mSt cI mo A f v F) mo = .inr (4, _) from mS_m) rfl in_M 5 (by decide) lk_M_19 rfl d_M_spread_32 ?_
    refine lv_iload_n hx hb d_M_spread_35 rfl (lv_at hl 2 rfl) ?_
    refine gk_iald X w 0 g.1.2.2.2.2.1 (mS_5 g) rfl (vin (by omega) (show (j : Int) < 576 by have h9 : (j : Int) < Wl.length := (by omega); omega) (by decide)) d_M_spread_36 ?_
    rw [vcl (z := j) (by omega) (by have h9 : (j : Int) < Wl.length := (by omega); omega), wld_x hwF (i := j) (by omega) (by omega)]
    refine ri_i2l (a := (pX Wl j)) hx hb d_M_spread_37 rfl (by have := hWb i; have := hWb j; have := hWb k; unfold i3; omega) ?_
    refine lv_aload_n hx hb d_M_spread_38 rfl (lv_at hl 0 rfl) ?_
    refine gk_get X w g.1.1 (show (mSt cI mo A f v F) mo = .inr (4, _) from mS_m) rfl in_M 6 (by decide) lk_M_22 rfl d_M_spread_39 ?_
    refine lv_iload_n hx hb d_M_spread_42 rfl (lv_at hl 2 rfl) ?_
    refine gk_iald X w 0 g.1.2.2.2.2.2.1 (mS_6 g) rfl (vin (by omega) (show (j : Int) < 576 by have h9 : (j : Int) < Wl.length := (by omega); omega) (by decide)) d_M_spread_43 ?_
    rw [vcl (z := j) (by omega) (by have h9 : (j : Int) < Wl.length := (by omega); omega), wld_y hwF (i := j) (by omega) (by omega)]
    refine ri_i2l (a := (pY Wl j)) hx hb d_M_spread_44 rfl (by have := hWb i; have := hWb j; have := hWb k; unfold i3; omega) ?_
    refine lv_aload_n hx hb d_M_spread_45 rfl (lv_at hl 0 rfl) ?_
    refine gk_get X w g.1.1 (show (mSt cI mo A f v F) mo = .inr (4, _) from mS_m) rfl in_M 5 (by decide) lk_M_19 rfl d_M_spread_46 ?_
    refine lv_iload hx hb d_M_spread_49 (lv_at hl 5 rfl) ?_
    refine gk_iald X w 0 g.1.2.2.2.2.1 (mS_5 g) rfl (vin (by omega) (show (k : Int) < 576 by have h9 : (k : Int) < Wl.length := (by omega); omega) (by decide)) d_M_spread_51 ?_
    rw [vcl (z := k) (by omega) (by have h9 : (k : Int) < Wl.length := (by omega); omega), wld_x hwF (i := k) (by omega) (by omega)]
    refine ri_i2l (a := (pX Wl k)) hx hb d_M_spread_52 rfl (by have := hWb i; have := hWb j; have := hWb k; unfold i3; omega) ?_
    refine lv_aload_n hx hb d_M_spread_53 rfl (lv_at hl 0 rfl) ?_
    refine gk_get X w g.1.1 (show (mSt cI mo A f v F) mo = .inr (4, _) from mS_m) rfl in_M 6 (by decide) lk_M_22 rfl d_M_spread_54 ?_
    refine lv_iload hx hb d_M_spread_57 (lv_at hl 5 rfl) ?_
    refine gk_iald X w 0 g.1.2.2.2.2.2.1 (mS_6 g) rfl (vin (by omega) (show (k : Int) < 576 by have h9 : (k : Int) < Wl.length := (by omega); omega) (by decide)) d_M_spread_59 ?_
    rw [vcl (z := k) (by omega) (by have h9 : (k : Int) < Wl.length := (by omega); omega), wld_y hwF (i := k) (by omega) (by omega)]
    refine ri_i2l (a := (pY Wl k)) hx hb d_M_spread_60 rfl (by have := hWb i; have := hWb j; have := hWb k; unfold i3; omega) ?_
    refine g_cl w (g_runS (As := [.long (jN ((pX Wl i))), .long (jN ((pY Wl i))), .long (jN ((pX Wl j))), .long (jN ((pY Wl j))), .long (jN ((pX Wl k))), .long (jN ((pY Wl k)))]) (rest := []) X w (c_M_turn l (px := (pX Wl i)) (py := (pY Wl i)) (ax := (pX Wl j)) (ay := (pY Wl j)) (bx := (pX Wl k)) (by_ := (pY Wl k))) k_M_turn lk_M_58 st_M_turn ⟨(Nat.le_of_ble_eq_true rfl), (Nat.le_of_ble_eq_true rfl)⟩ rfl hl.1 rfl (Nat.le_of_ble_eq_true rfl) d_M_spread_61 ⟨Nat.zero_le _, Nat.zero_le _⟩) (fun r u H locs hp w => ?_)
    obtain ⟨rfl, rfl⟩ := hp
    have w : gw D (gA L sz) s.heap H locs L (mSt cI mo A f v F) := w
    refine lv_lstore (lv' := [(8, .long (jN ((((pX Wl j) - (pX Wl i)) * ((pY Wl k) - (pY Wl i)) - ((pY Wl j) - (pY Wl i)) * ((pX Wl k) - (pX Wl i)))))), (0, .ref mo), (1, .int (iN (i))), (2, .int (iN (j))), (3, .long (jN (a1))), (5, .long (jN (a2))), (7, .int (iN (k)))]) hx hb d_M_spread_64 hl (by decide) rfl (fun ls hl => ?_)
    refine g_joinw (D := D) (A := gA L sz) (H0 := s.heap) (L := L) (f := (mSt cI mo A f v F)) (g1 := F0 m 79 ls [.long (jN ((min (pT Wl i j (pX Wl k) (pY Wl k)) a1)))]) (fun H locs w => ?_) (fun K2 => ?_)
    · skip
      refine lv_lstore_n (lv' := [(3, .long (jN ((min (pT Wl i j (pX Wl k) (pY Wl k)) a1)))), (8, .long (jN ((((pX Wl j) - (pX Wl i)) * ((pY Wl k) - (pY Wl i)) - ((pY Wl j) - (pY Wl i)) * ((pX Wl k) - (pX Wl i)))))), (0, .ref mo), (1, .int (iN (i))), (2, .int (iN (j))), (5, .long (jN (a2))), (7, .int (iN (k)))]) hx hb d_M_spread_79 rfl hl (by decide) rfl (fun ls hl => ?_)
      refine g_joinw (D := D) (A := gA L sz) (H0 := s.heap) (L := L) (f := (mSt cI mo A f v F)) (g1 := F0 m 95 ls [.long (jN ((max (pT Wl i j (pX Wl k) (pY Wl k)) a2)))]) (fun H locs w => ?_) (fun K3 => ?_)
      · skip
        refine lv_lstore (lv' := [(5, .long (jN ((max (pT Wl i j (pX Wl k) (pY Wl k)) a2)))), (3, .long (jN ((min (pT Wl i j (pX Wl k) (pY Wl k)) a1)))), (8, .long (jN ((((pX Wl j) - (pX Wl i)) * ((pY Wl k) - (pY Wl i)) - ((pY Wl j) - (pY Wl i)) * ((pX Wl k) - (pX Wl i)))))), (0, .ref mo), (1, .int (iN (i))), (2, .int (iN (j))), (7, .int (iN (k)))]) hx hb d_M_spread_95 hl (by decide) rfl (fun ls hl => ?_)
        refine lv_iinc (v := iN ((k + 1))) (lv' := [(7, .int (iN ((k + 1)))), (5, .long (jN ((max (pT Wl i j (pX Wl k) (pY Wl k)) a2)))), (3, .long (jN ((min (pT Wl i j (pX Wl k) (pY Wl k)) a1)))), (8, .long (jN ((((pX Wl j) - (pX Wl i)) * ((pY Wl k) - (pY Wl i)) - ((pY Wl j) - (pY Wl i)) * ((pX Wl k) - (pX Wl i)))))), (0, .ref mo), (1, .int (iN (i))), (2, .int (iN (j)))]) hx hb d_M_spread_97 hl (k := 6) rfl (by rw [show (k + 1) = k + (1 : Int) by omega, ← iN_add]; rfl) (by decide) rfl (fun ls hl => ?_)
        refine lv_goto (tgt := 8) hx hb d_M_spread_100 (by decide) ?_
        exact ih ((k + 1), (min (pT Wl i j (pX Wl k) (pY Wl k)) a1), (max (pT Wl i j (pX Wl k) (pY Wl k)) a2)) _ _ _ (by omega) ⟨by omega, by omega, by rw [tn_s h0]; unfold spL; rw [← h2, tn_c h0]⟩ w (lv_sub hl [4, 5, 6, 2, 1, 0] rfl)
      · skip
        refine lv_lload hx hb d_M_spread_80 (lv_at hl 1 rfl) ?_
        refine lv_lload hx hb d_M_spread_82 (lv_at hl 5 rfl) ?_
        refine rj_cle (a := (((pX Wl j) - (pX Wl i)) * ((pY Wl k) - (pY Wl i)) - ((pY Wl j) - (pY Wl i)) * ((pX Wl k) - (pX Wl i)))) (b := a2) (tgt := 93) hx hb d_M_spread_84 d_M_spread_85 (by decide) rfl rfl (by unfold pT at hpt; unfold i6; omega) (by unfold i6; omega) (fun c84 => ?_) (fun c84 => ?_)
        · skip
          refine lv_lload hx hb d_M_spread_93 (lv_at hl 5 rfl) ?_
          exact W.eq (congrArg (fun z : Int => F0 m 95 ls [.long (jN z)]) (show a2 = (max (pT Wl i j (pX Wl k) (pY Wl k)) a2) from (by show _ = max ((pX Wl j - pX Wl i) * (pY Wl k - pY Wl i) - (pY Wl j - pY Wl i) * (pX Wl k - pX Wl i)) a2; omega))) (K3 _ _ w)
        · skip
          refine lv_lload hx hb d_M_spread_88 (lv_at hl 1 rfl) ?_
          refine lv_goto (tgt := 95) hx hb d_M_spread_90 (by decide) ?_
          exact W.eq (congrArg (fun z : Int => F0 m 95 ls [.long (jN z)]) (show (((pX Wl j) - (pX Wl i)) * ((pY Wl k) - (pY Wl i)) - ((pY Wl j) - (pY Wl i)) * ((pX Wl k) - (pX Wl i))) = (max (pT Wl i j (pX Wl k) (pY Wl k)) a2) from (by show _ = max ((pX Wl j - pX Wl i) * (pY Wl k - pY Wl i) - (pY Wl j - pY Wl i) * (pX Wl k - pX Wl i)) a2; omega))) (K3 _ _ w)
    · skip
      refine lv_lload hx hb d_M_spread_66 (lv_at hl 0 rfl) ?_
      refine lv_lload_n hx hb d_M_spread_68 rfl (lv_at hl 4 rfl) ?_
      refine rj_cge (a := (((pX Wl j) - (pX Wl i)) * ((pY Wl k) - (pY Wl i)) - ((pY Wl j) - (pY Wl i)) * ((pX Wl k) - (pX Wl i)))) (b := a1) (tgt := 78) hx hb d_M_spread_69 d_M_spread_70 (by decide) rfl rfl (by unfold pT at hpt; unfold i6; omega) (by unfold i6; omega) (fun c69 => ?_) (fun c69 => ?_)
      · skip
        refine lv_lload_n hx hb d_M_spread_78 rfl (lv_at hl 4 rfl) ?_
        exact W.eq (congrArg (fun z : Int => F0 m 79 ls [.long (jN z)]) (show a1 = (min (pT Wl i j (pX Wl k) (pY Wl k)) a1) from (by show _ = min ((pX Wl j - pX Wl i) * (pY Wl k - pY Wl i) - (pY Wl j - pY Wl i) * (pX Wl k - pX Wl i)) a1; omega))) (K2 _ _ w)
      · skip
        refine lv_lload hx hb d_M_spread_73 (lv_at hl 0 rfl) ?_
        refine lv_goto (tgt := 79) hx hb d_M_spread_75 (by decide) ?_
        exact W.eq (congrArg (fun z : Int => F0 m 79 ls [.long (jN z)]) (show (((pX Wl j) - (pX Wl i)) * ((pY Wl k) - (pY Wl i)) - ((pY Wl j) - (pY Wl i)) * ((pX Wl k) - (pX Wl i))) = (min (pT Wl i j (pX Wl k) (pY Wl k)) a1) from (by show _ = min ((pX Wl j - pX Wl i) * (pY Wl k - pY Wl i) - (pY Wl j - pY Wl i) * (pX Wl k - pX Wl i)) a1; omega))) (K2 _ _ w)
def hulT (K : Int) (S : Nat → List Pt) : Prop := ∀ i : Nat, (i : Int) < K → isHL ((S i).map (sgm (-1))) (hullF ((S i).map (sgm (-1))))
def tuA (K : Int) (S : Nat → List Pt) (z : Int) : Int := if 0 ≤ z ∧ z < K then (if (S z.toNat).length = 0 then -3 else 0) else -1
set_option maxHeartbeats 4000000 in
set_option maxRecDepth 100000 in
theorem c_M_turned (l : Launch) {D : va_G} {cI cR : ClassId} {L : List Nat} {f : Nat → va_E} {mo : Nat} {A : Nat → Nat} {v : Nat → Int} {F : Nat → Nat → Int} (g : mg L mo A) {K t1 t2 : Int} {S : Nat → List Pt} (hI0 : mInv v F K S) (h11 : v 11 = t1) (h12 : v 12 = t2) (hok : okS K S) (hhu : hulS K S) {z : Int} (hz : i3 z) (htu : hulT K S) : gMi D cI cR l y_M_turned (Cond.code y_M_turned b_M_turned 3 (some .int) :: lw_g) { frames := 3, cells := 0, slots := 0, locals := 80 } [.ref mo, .int (iN (z))] L (mSt cI mo A f v F) (fun r u => (tuA K S z ≠ 0 ∧ r = iN (tuA K S z) ∧ mpost L cI mo A f K t1 t2 S u) ∨ (tuA K S z = 0 ∧ kpost L cI mo A f K t1 t2 S (hullF ((S z.toNat).map (sgm (-1)))) r u)) := by
  intro sz
  refine g_enter (by decide) rfl (Nat.le_of_ble_eq_true rfl) ?_
  intro p e s m below meth cd ls X hrt hlk hnm hl hsz w
  have X : gx p m cd b_M_turned 3 s _ "HullSumsModel" D cI cR := X
  have hx := X.1.1
  have hb := X.1.2.1
  have hl : lv_has ls 3 [(0, .ref mo), (1, .int (iN (z)))] := hl
  have hI1 := hI0
  obtain ⟨hi0, hi1, hi2, hi3, hi4⟩ := hI1
  refine lv_aload_n hx hb d_M_turned_0 rfl (lv_at hl 0 rfl) ?_
  refine lv_iload_n hx hb d_M_turned_1 rfl (lv_at hl 1 rfl) ?_
  refine g_ci w (g_runV (As := [.int (iN (z))]) (rest := []) X w (c_M_is l g (v := v) (F := F) hi0 (by rw [hi1]; unfold i3; omega) (z := z) hz) k_M_is v_M_is lk_M_79 g.1.1 (show mSt cI mo A f v F mo = .inr (4, _) from mS_m) rfl ⟨(Nat.le_of_ble_eq_true rfl), (Nat.le_of_ble_eq_true rfl)⟩ rfl hl.1 rfl (Nat.le_of_ble_eq_true rfl) d_M_turned_2 ⟨(Nat.le_of_ble_eq_true rfl), (Nat.le_of_ble_eq_true rfl)⟩) (fun r u H locs hp w => ?_)
  obtain ⟨hr9, rfl⟩ := hp
  rw [hi1] at hr9
  subst hr9
  have w : gw D (gA L sz) s.heap H locs L (mSt cI mo A f v F) := w
  refine ri_zne (a := (bI (0 ≤ z ∧ z < K))) (tgt := 10) hx hb d_M_turned_5 (by decide) rfl (bI_3 _) (fun c5 => ?_) (fun c5 => ?_)
  · skip
    have hzr : 0 ≤ z ∧ z < K := bI_n c5
    obtain ⟨hz4, hzq⟩ := hi4 z.toNat (by omega)
    obtain ⟨hl24, hbz⟩ := hok z.toNat (by omega)
    refine lv_aload_n hx hb d_M_turned_10 rfl (lv_at hl 0 rfl) ?_
    refine gk_get X w g.1.1 (show (mSt cI mo A f v F) mo = .inr (4, _) from mS_m) rfl in_M 4 (by decide) lk_M_16 rfl d_M_turned_11 ?_
    refine lv_iload_n hx hb d_M_turned_14 rfl (lv_at hl 1 rfl) ?_
    refine gk_iald X w 0 g.1.2.2.2.1 (mS_4 g) rfl (vin (by omega) (by omega) (by decide)) d_M_turned_15 ?_
    rw [vclN 8 (by omega) (by omega) (by decide)]
    refine ri_zne (a := (F 4 z.toNat)) (tgt := 22) hx hb d_M_turned_16 (by decide) rfl (by rw [hz4]; unfold i3; omega) (fun c16 => ?_) (fun c16 => ?_)
    · skip
      refine lv_aload_n hx hb d_M_turned_22 rfl (lv_at hl 0 rfl) ?_
      refine lv_aload_n hx hb d_M_turned_23 rfl (lv_at hl 0 rfl) ?_
      refine gk_get X w g.1.1 (show (mSt cI mo A f v F) mo = .inr (4, _) from mS_m) rfl in_M 4 (by decide) lk_M_16 rfl d_M_turned_24 ?_
      refine lv_iload_n hx hb d_M_turned_27 rfl (lv_at hl 1 rfl) ?_
      refine gk_iald X w 0 g.1.2.2.2.1 (mS_4 g) rfl (vin (by omega) (by omega) (by decide)) d_M_turned_28 ?_
      rw [vclN 8 (by omega) (by omega) (by decide)]
      refine gk_put X w g.1.1 (show (mSt cI mo A f v F) mo = .inr (4, _) from mS_m) rfl in_M ty_M tyok_M nm_M 7 (by decide) lk_M_45 rfl (ty := .int) (by decide +kernel) rfl rfl (Nat.le_of_ble_eq_true rfl) d_M_turned_29 (fun H locs w => ?_)
      obtain ⟨v1, hv1⟩ : ∃ q : Nat → Int, q = va_up v 7 ((F 4 z.toNat)) := ⟨_, rfl⟩
      have v1s : v1 7 = (F 4 z.toNat) := by rw [hv1, va_up_self]
      have v1n : ∀ j, j ≠ 7 → v1 j = v j := fun j hj => by rw [hv1, va_up_ne _ _ hj]
      have w : gw D (gA L sz) s.heap H locs L (mSt cI mo A f v1 F) := by rw [hv1, ← mU_m (v := v)]; exact w
      have e7 : v1 7 = (S z.toNat).length := by rw [v1s, hz4]
      refine lv_iconst (v := iN (0)) hx hb d_M_turned_32 (by decide) ?_
      refine lv_istore_n (lv' := [(2, .int (iN (0))), (0, .ref mo), (1, .int (iN (z)))]) hx hb d_M_turned_33 rfl hl (by decide) rfl (fun ls hl => ?_)
      refine g_loop (σ := Int × (Nat → Nat → Int)) (fun z9 => ((S z.toNat).length - z9.1).toNat) (fun z9 => [(0, .ref mo), (1, .int (iN (z))), (2, .int (iN (z9.1)))]) L (fun z9 => (mSt cI mo A f v1 z9.2)) (fun z9 => 0 ≤ z9.1 ∧ z9.1 ≤ (S z.toNat).length ∧ (∀ j, j ≠ 5 → j ≠ 6 → z9.2 j = F j) ∧ wld z9.2 (((S z.toNat).take z9.1.toNat).map (sgm (-1)))) ?_ (0, F) _ _ _ ⟨by (try dsimp only); omega, by (try dsimp only); omega, fun _ _ _ => rfl, fun i q h => by simp at h⟩ w (lv_sub hl [1, 2, 0] rfl)
      intro z9 H locs ls hI w hl ih
      obtain ⟨k, F9⟩ := z9
      have hl : lv_has ls 3 [(0, .ref mo), (1, .int (iN (z))), (2, .int (iN (k)))] := hl
      have w : gw D (gA L sz) s.heap H locs L ((mSt cI mo A f v1 F9)) := w
      have hI : 0 ≤ k ∧ k ≤ (S z.toNat).length ∧ (∀ j, j ≠ 5 → j ≠ 6 → F9 j = F j) ∧ wld F9 (((S z.toNat).take k.toNat).map (sgm (-1))) := hI
      obtain ⟨h0, h1, hF9, hw9⟩ := hI
      refine lv_iload_n hx hb d_M_turned_34 rfl (lv_at hl 2 rfl) ?_
      refine lv_aload_n hx hb d_M_turned_35 rfl (lv_at hl 0 rfl) ?_
      refine gk_get X w g.1.1 (show (mSt cI mo A f v1 F9) mo = .inr (4, _) from mS_m) rfl in_M 7 (by decide) lk_M_45 rfl d_M_turned_36 ?_
      rw [show v1 7 = ((S z.toNat).length : Int) from e7]
      refine ri_cge (a := k) (b := ((S z.toNat).length : Int)) (tgt := 84) hx hb d_M_turned_39 (by decide) rfl rfl (by unfold i3; omega) (by unfold i3; omega) (fun c39 => ?_) (fun c39 => ?_)
      · skip
        obtain ⟨Wl, eWl⟩ : ∃ q, q = (S z.toNat).map (sgm (-1)) := ⟨_, rfl⟩
        obtain ⟨Hu, eHu⟩ : ∃ q, q = hullF ((S z.toNat).map (sgm (-1))) := ⟨_, rfl⟩
        have hhz : isHL Wl Hu := by rw [eWl, eHu]; exact htu z.toNat (by omega)
        have hH576 := hhz.2.2.1
        have hWpl : pbl 300 Wl := by rw [eWl]; exact pbl_sgm (Or.inr rfl) hbz
        have hHb : pb 600 Hu := by rw [eHu, ← eWl]; exact pb_of (by decide) (pbl_le (by decide) (pbl_hull hWpl))
        have hwF : wld F9 Wl := by rw [show k.toNat = (S z.toNat).length by omega, List.take_length] at hw9; rw [eWl]; exact hw9
        have hWl : Wl.length = (S z.toNat).length := by rw [eWl, List.length_map]
        refine lv_aload_n hx hb d_M_turned_84 rfl (lv_at hl 0 rfl) ?_
        refine g_cv w (g_runV (As := []) (rest := []) X w (c_M_goRound l g (v := v1) (F := F9) (by rw [e7]; omega) (by rw [e7, ← hWl]; exact wld_b hwF (pbl_le (by decide) hWpl)) (Hu := Hu) (by rw [e7, Int.toNat_natCast, ← hWl]; exact isHW_congr (wld_G hwF) hhz)) k_M_goRound v_M_goRound lk_M_48 g.1.1 (show (mSt cI mo A f v1 F9) mo = .inr (4, _) from mS_m) rfl ⟨(Nat.le_of_ble_eq_true rfl), (Nat.le_of_ble_eq_true rfl)⟩ rfl hl.1 rfl (Nat.le_of_ble_eq_true rfl) d_M_turned_85 ⟨(Nat.le_of_ble_eq_true rfl), (Nat.le_of_ble_eq_true rfl)⟩) (fun u H locs hp w => ?_)
        obtain ⟨v8, F8, rfl, hg1, hg2, hg3, hg4⟩ := hp
        have w : gw D (gA L sz) s.heap H locs L (mSt cI mo A f v8 F8) := w
        have hL8 : mLd v8 F8 Wl Hu := ⟨by rw [hg2 7 (by decide), e7, hWl], hg1, fun i q hq => by rw [hg3 5 (by decide) (by decide), hg3 6 (by decide) (by decide)]; exact hwF i q hq, hg4⟩
        have hI8 := mInv_k hI0 (v' := v8) (F' := F8) ((hg2 0 (by decide)).trans (v1n 0 (by decide))) ((hg2 1 (by decide)).trans (v1n 1 (by decide))) (fun j hj => (hg3 j (by omega) (by omega)).trans (hF9 j (by omega) (by omega)))
        have h118 := ((hg2 11 (by decide)).trans (v1n 11 (by decide))).trans h11
        have h128 := ((hg2 12 (by decide)).trans (v1n 12 (by decide))).trans h12
        refine lv_aload_n hx hb d_M_turned_88 rfl (lv_at hl 0 rfl) ?_
        refine g_ci w (g_runV (As := []) (rest := []) X w (c_M_keep l g hI8 h118 h128 hok hL8 hH576 hHb) k_M_keep v_M_keep lk_M_185 g.1.1 (show (mSt cI mo A f v8 F8) mo = .inr (4, _) from mS_m) rfl ⟨(Nat.le_of_ble_eq_true rfl), (Nat.le_of_ble_eq_true rfl)⟩ rfl hl.1 rfl (Nat.le_of_ble_eq_true rfl) d_M_turned_89 ⟨(Nat.le_of_ble_eq_true rfl), (Nat.le_of_ble_eq_true rfl)⟩) (fun r u H locs hp w => ?_)
        rw [hz4] at c16
        obtain ⟨U9, G9⟩ := u
        have hUL : U9 = L := by rcases hp with ⟨_, _, v7, F7, e, _⟩ | ⟨_, _, _, v7, F7, e, _⟩ <;> exact congrArg Prod.fst e
        subst hUL
        exact g_iret X w hrt hlk d_M_turned_92 (Or.inr ⟨by unfold tuA; rw [if_pos hzr, if_neg (by omega)], by rw [← eHu]; exact hp⟩)
      · skip
        refine lv_aload_n hx hb d_M_turned_42 rfl (lv_at hl 0 rfl) ?_
        refine gk_get X w g.1.1 (show (mSt cI mo A f v1 F9) mo = .inr (4, _) from mS_m) rfl in_M 5 (by decide) lk_M_19 rfl d_M_turned_43 ?_
        refine lv_iload_n hx hb d_M_turned_46 rfl (lv_at hl 2 rfl) ?_
        refine lv_aload_n hx hb d_M_turned_47 rfl (lv_at hl 0 rfl) ?_
        refine gk_get X w g.1.1 (show (mSt cI mo A f v1 F9) mo = .inr (4, _) from mS_m) rfl in_M 2 (by decide) lk_M_7 rfl d_M_turned_48 ?_
        refine lv_bipush (v := iN (24)) hx hb d_M_turned_51 (by decide) ?_
        refine lv_iload_n hx hb d_M_turned_53 rfl (lv_at hl 1 rfl) ?_
        refine ri_mul (a := 24) (b := z) hx hb d_M_turned_54 rfl rfl ?_
        refine lv_iload_n hx hb d_M_turned_55 rfl (lv_at hl 2 rfl) ?_
        refine ri_add (a := (24 * z)) (b := k) hx hb d_M_turned_56 rfl rfl ?_
        refine gk_iald X w 0 g.1.2.1 (mS_2 g) rfl (vin (by omega) (by omega) (by decide)) d_M_turned_57 ?_
        rw [vclN 192 (by omega) (by omega) (by decide)]
        refine ri_neg (a := (F9 2 ((24 * z) + k).toNat)) hx hb d_M_turned_58 rfl ?_
        refine gk_iast X w 0 g.1.2.2.2.2.1 (mS_5 g) rfl (vin (by omega) (by omega) (by decide)) d_M_turned_59 (fun H locs w => ?_)
        rw [vclN 576 (by omega) (by omega) (by decide), upd_iN] at w
        obtain ⟨F2, hF2⟩ : ∃ q : Nat → Nat → Int, q = (va_up F9 5 (va_up (F9 5) k.toNat (-(F9 2 ((24 * z) + k).toNat)))) := ⟨_, rfl⟩
        have w : gw D (gA L sz) s.heap H locs L (mSt cI mo A f v1 F2) := by rw [hF2, ← mU_5 (F := F9) g]; exact w
        refine lv_aload_n hx hb d_M_turned_60 rfl (lv_at hl 0 rfl) ?_
        refine gk_get X w g.1.1 (show (mSt cI mo A f v1 F2) mo = .inr (4, _) from mS_m) rfl in_M 6 (by decide) lk_M_22 rfl d_M_turned_61 ?_
        refine lv_iload_n hx hb d_M_turned_64 rfl (lv_at hl 2 rfl) ?_
        refine lv_aload_n hx hb d_M_turned_65 rfl (lv_at hl 0 rfl) ?_
        refine gk_get X w g.1.1 (show (mSt cI mo A f v1 F2) mo = .inr (4, _) from mS_m) rfl in_M 3 (by decide) lk_M_13 rfl d_M_turned_66 ?_
        refine lv_bipush (v := iN (24)) hx hb d_M_turned_69 (by decide) ?_
        refine lv_iload_n hx hb d_M_turned_71 rfl (lv_at hl 1 rfl) ?_
        refine ri_mul (a := 24) (b := z) hx hb d_M_turned_72 rfl rfl ?_
        refine lv_iload_n hx hb d_M_turned_73 rfl (lv_at hl 2 rfl) ?_
        refine ri_add (a := (24 * z)) (b := k) hx hb d_M_turned_74 rfl rfl ?_
        refine gk_iald X w 0 g.1.2.2.1 (mS_3 g) rfl (vin (by omega) (by omega) (by decide)) d_M_turned_75 ?_
        rw [vclN 192 (by omega) (by omega) (by decide)]
        refine ri_neg (a := (F2 3 ((24 * z) + k).toNat)) hx hb d_M_turned_76 rfl ?_
        refine gk_iast X w 0 g.1.2.2.2.2.2.1 (mS_6 g) rfl (vin (by omega) (by omega) (by decide)) d_M_turned_77 (fun H locs w => ?_)
        rw [vclN 576 (by omega) (by omega) (by decide), upd_iN] at w
        obtain ⟨F3, hF3⟩ : ∃ q : Nat → Nat → Int, q = (va_up F2 6 (va_up (F2 6) k.toNat (-(F2 3 ((24 * z) + k).toNat)))) := ⟨_, rfl⟩
        have w : gw D (gA L sz) s.heap H locs L (mSt cI mo A f v1 F3) := by rw [hF3, ← mU_6 (F := F2) g]; exact w
        refine lv_iinc (v := iN ((k + 1))) (lv' := [(2, .int (iN ((k + 1)))), (0, .ref mo), (1, .int (iN (z)))]) hx hb d_M_turned_78 hl (k := 2) rfl (by rw [show (k + 1) = k + (1 : Int) by omega, ← iN_add]; rfl) (by decide) rfl (fun ls hl => ?_)
        refine lv_goto (tgt := 34) hx hb d_M_turned_81 (by decide) ?_
        have hNN : ∀ j, j ≠ 5 → j ≠ 6 → F3 j = F j := fun j q1 q2 => by rw [hF3, va_up_ne _ _ q2, hF2, va_up_ne _ _ q1]; exact hF9 j q1 q2
        obtain ⟨kk, qk, ekk, hqk, exk, eyk⟩ := px_get (P := (S z.toNat)) (i := k) h0 (by omega)
        have hzk := hzq kk qk hqk
        have eix : ((24 * z) + k).toNat = 24 * z.toNat + kk := by omega
        have hlt : (((S z.toNat).take k.toNat).map (sgm (-1))).length = k.toNat := by rw [List.length_map, List.length_take]; omega
        have hw' : wld F3 (((S z.toNat).take (k + 1).toNat).map (sgm (-1))) := by
          rw [tn_s h0, List.take_add_one, show k.toNat = kk by omega, hqk, List.map_append]
          refine wld_snoc (x := -1 * qk.1) (y := -1 * qk.2) (F := F9) (by rw [← show k.toNat = kk by omega]; exact hw9) ?_ ?_
          · rw [hF3, va_up_ne _ _ (by decide), hF2, va_up_self, eix, hF9 2 (by decide) (by decide), hzk.1, ← show k.toNat = kk by omega, hlt, Int.neg_one_mul]
          · rw [hF3, va_up_self, hF2, va_up_ne _ _ (by decide), va_up_ne _ _ (by decide), eix, hF9 3 (by decide) (by decide), hzk.2, ← show k.toNat = kk by omega, hlt, Int.neg_one_mul]
        have hI' : 0 ≤ (k + 1) ∧ (k + 1) ≤ (S z.toNat).length ∧ (∀ j, j ≠ 5 → j ≠ 6 → F3 j = F j) ∧ wld F3 (((S z.toNat).take (k + 1).toNat).map (sgm (-1))) := ⟨by omega, by omega, hNN, hw'⟩
        exact ih ((k + 1), F3) _ _ _ (by omega) hI' w (lv_sub hl [1, 2, 0] rfl)
    · skip
      refine lv_bipush (v := iN (-3)) hx hb d_M_turned_19 (by decide) ?_
      rw [hz4] at c16
      exact g_iret X w hrt hlk d_M_turned_21 (Or.inl ⟨by unfold tuA; rw [if_pos hzr, if_pos (by omega)]; decide, by unfold tuA; rw [if_pos hzr, if_pos (by omega)], ⟨v, F, rfl, hI0, h11, h12⟩⟩)
  · skip
    refine lv_iconst (v := iN (-1)) hx hb d_M_turned_8 (by decide) ?_
    exact g_iret X w hrt hlk d_M_turned_9 (Or.inl ⟨by unfold tuA; rw [if_neg (bI_0 (by omega))]; decide, by unfold tuA; rw [if_neg (bI_0 (by omega))], ⟨v, F, rfl, hI0, h11, h12⟩⟩)
noncomputable def bsM (W H : List Pt) : Nat → Int
  | 0 => 0
  | n + 1 => bsM W H n + bI (¬ pin H H.length (pX W n) (pY W n) ∧ plM H (pX W n) (pY W n) = 1)
set_option maxHeartbeats 4000000 in
set_option maxRecDepth 100000 in
theorem c_M_beside (l : Launch) {D : va_G} {cI cR : ClassId} {L : List Nat} {f : Nat → va_E} {mo : Nat} {A : Nat → Nat} {v : Nat → Int} {F : Nat → Nat → Int} (g : mg L mo A) {K t1 t2 : Int} {S : Nat → List Pt} (hI0 : mInv v F K S) (h11 : v 11 = t1) (h12 : v 12 = t2) (hok : okS K S) (hhu : hulS K S) {z : Int} (hz : i3 z) : gMi D cI cR l y_M_beside (Cond.code y_M_beside b_M_beside 6 (some .int) :: lw_g) { frames := 4, cells := 0, slots := 0, locals := 102 } [.ref mo, .int (iN (z))] L (mSt cI mo A f v F) (fun r u => r = iN (if (0 ≤ z ∧ z < K) then bsM (S z.toNat) (hullF (S z.toNat)) (S z.toNat).length else -1) ∧ mpost L cI mo A f K t1 t2 S u) := by
  intro sz
  refine g_enter (by decide) rfl (Nat.le_of_ble_eq_true rfl) ?_
  intro p e s m below meth cd ls X hrt hlk hnm hl hsz w
  have X : gx p m cd b_M_beside 6 s _ "HullSumsModel" D cI cR := X
  have hx := X.1.1
  have hb := X.1.2.1
  have hl : lv_has ls 6 [(0, .ref mo), (1, .int (iN (z)))] := hl
  have hI1 := hI0
  obtain ⟨hi0, hi1, hi2, hi3, hi4⟩ := hI1
  refine lv_aload_n hx hb d_M_beside_0 rfl (lv_at hl 0 rfl) ?_
  refine lv_iload_n hx hb d_M_beside_1 rfl (lv_at hl 1 rfl) ?_
  refine g_ci w (g_runV (As := [.int (iN (z))]) (rest := []) X w (c_M_is l g (v := v) (F := F) hi0 (by rw [hi1]; unfold i3; omega) (z := z) hz) k_M_is v_M_is lk_M_79 g.1.1 (show mSt cI mo A f v F mo = .inr (4, _) from mS_m) rfl ⟨(Nat.le_of_ble_eq_true rfl), (Nat.le_of_ble_eq_true rfl)⟩ rfl hl.1 rfl (Nat.le_of_ble_eq_true rfl) d_M_beside_2 ⟨(Nat.le_of_ble_eq_true rfl), (Nat.le_of_ble_eq_true rfl)⟩) (fun r u H locs hp w => ?_)
  obtain ⟨hr9, rfl⟩ := hp
  rw [hi1] at hr9
  subst hr9
  have w : gw D (gA L sz) s.heap H locs L (mSt cI mo A f v F) := w
  refine ri_zne (a := (bI (0 ≤ z ∧ z < K))) (tgt := 10) hx hb d_M_beside_5 (by decide) rfl (bI_3 _) (fun c5 => ?_) (fun c5 => ?_)
  · skip
    refine lv_aload_n hx hb d_M_beside_10 rfl (lv_at hl 0 rfl) ?_
    refine lv_iload_n hx hb d_M_beside_11 rfl (lv_at hl 1 rfl) ?_
    have hzr : 0 ≤ z ∧ z < K := bI_n (by omega)
    obtain ⟨Wl, eWl⟩ : ∃ q, q = S z.toNat := ⟨_, rfl⟩
    obtain ⟨Hu, eHu⟩ : ∃ q, q = hullF (S z.toNat) := ⟨_, rfl⟩
    have hoz := hok z.toNat (by omega)
    have hhz : isHL Wl Hu := by rw [eWl, eHu]; exact hhu z.toNat (by omega)
    have hH576 := hhz.2.2.1
    have hHb : pb 600 Hu := by rw [eHu]; exact pb_of (by decide) (pbl_le (by decide) (pbl_hull hoz.2))
    have hHb3 : pb 300 Hu := by rw [eHu]; exact pb_of (by decide) (pbl_hull hoz.2)
    have hWb : pb 300 Wl := by rw [eWl]; exact pb_of (by decide) hoz.2
    have hW24 : Wl.length ≤ 24 := by rw [eWl]; exact hoz.1
    refine g_cv w (g_runV (As := [.int (iN (z))]) (rest := []) X w ((by have h9 := c_M_load (D := D) (cR := cR) (cI := cI) (f := f) l g hI0 (z := z) hzr hoz.1 (pbl_le (by decide) hoz.2) (Hu := Hu) (by rw [← eWl]; exact hhz); rw [← eWl] at h9; exact h9)) k_M_load v_M_load lk_M_87 g.1.1 (show mSt cI mo A f v F mo = .inr (4, _) from mS_m) rfl ⟨(Nat.le_of_ble_eq_true rfl), (Nat.le_of_ble_eq_true rfl)⟩ rfl hl.1 rfl (Nat.le_of_ble_eq_true rfl) d_M_beside_12 ⟨(Nat.le_of_ble_eq_true rfl), (Nat.le_of_ble_eq_true rfl)⟩) (fun u H locs hp w => ?_)
    obtain ⟨v8, F8, rfl, hL8, hn8, hf8⟩ := hp
    have w : gw D (gA L sz) s.heap H locs L (mSt cI mo A f v8 F8) := w
    obtain ⟨h7, h10, hwF, hhF⟩ := id hL8
    have hI8 := mInv_k hI0 (hn8 0 (by decide) (by decide)) (hn8 1 (by decide) (by decide)) hf8
    have h118 := (hn8 11 (by decide) (by decide)).trans h11
    have h128 := (hn8 12 (by decide) (by decide)).trans h12
    refine lv_iconst (v := iN (0)) hx hb d_M_beside_15 (by decide) ?_
    refine lv_istore_n (lv' := [(2, .int (iN (0))), (0, .ref mo), (1, .int (iN (z)))]) hx hb d_M_beside_16 rfl hl (by decide) rfl (fun ls hl => ?_)
    refine lv_iconst (v := iN (0)) hx hb d_M_beside_17 (by decide) ?_
    refine lv_istore_n (lv' := [(3, .int (iN (0))), (2, .int (iN (0))), (0, .ref mo), (1, .int (iN (z)))]) hx hb d_M_beside_18 rfl hl (by decide) rfl (fun ls hl => ?_)
    refine g_loop (σ := Int × Int) (fun z9 => ((Wl.length : Int) - z9.1).toNat) (fun z9 => [(0, .ref mo), (1, .int (iN (z))), (2, .int (iN (z9.2))), (3, .int (iN (z9.1)))]) L (fun z9 => (mSt cI mo A f v8 F8)) (fun z9 => 0 ≤ z9.1 ∧ z9.1 ≤ Wl.length ∧ z9.2 = bsM Wl Hu z9.1.toNat) ?_ (0, 0) _ _ _ ⟨by omega, by omega, rfl⟩ w (lv_sub hl [2, 3, 1, 0] rfl)
    intro z9 H locs ls hI w hl ih
    obtain ⟨k, cn⟩ := z9
    have hl : lv_has ls 6 [(0, .ref mo), (1, .int (iN (z))), (2, .int (iN (cn))), (3, .int (iN (k)))] := hl
    have w : gw D (gA L sz) s.heap H locs L ((mSt cI mo A f v8 F8)) := w
    have hI : 0 ≤ k ∧ k ≤ Wl.length ∧ cn = bsM Wl Hu k.toNat := hI
    obtain ⟨h0, h1, h2⟩ := hI
    refine lv_iload_n hx hb d_M_beside_19 rfl (lv_at hl 3 rfl) ?_
    refine lv_aload_n hx hb d_M_beside_20 rfl (lv_at hl 0 rfl) ?_
    refine gk_get X w g.1.1 (show (mSt cI mo A f v8 F8) mo = .inr (4, _) from mS_m) rfl in_M 7 (by decide) lk_M_45 rfl d_M_beside_21 ?_
    rw [show v8 7 = (Wl.length : Int) from h7]
    refine ri_cge (a := k) (b := (Wl.length : Int)) (tgt := 133) hx hb d_M_beside_24 (by decide) rfl rfl (by unfold i3; omega) (by unfold i3; omega) (fun c24 => ?_) (fun c24 => ?_)
    · skip
      refine lv_iload_n hx hb d_M_beside_133 rfl (lv_at hl 2 rfl) ?_
      exact g_iret X w hrt hlk d_M_beside_134 ⟨by rw [if_pos hzr, ← eHu, ← eWl, ← show k.toNat = Wl.length by omega, h2], ⟨v8, F8, rfl, hI8, h118, h128⟩⟩
    · skip
      refine lv_iconst (v := iN (0)) hx hb d_M_beside_27 (by decide) ?_
      refine lv_istore (lv' := [(4, .int (iN (0))), (0, .ref mo), (1, .int (iN (z))), (2, .int (iN (cn))), (3, .int (iN (k)))]) hx hb d_M_beside_28 hl (by decide) rfl (fun ls hl => ?_)
      have hal : (0 : Int) = bI (pin Hu 0 (pX Wl k) (pY Wl k)) := (bI_f (fun ⟨_, q0, q1, _⟩ => by omega)).symm
      rw [hal] at hl
      refine lv_iconst (v := iN (0)) hx hb d_M_beside_30 (by decide) ?_
      refine lv_istore (lv' := [(5, .int (iN (0))), (4, .int (iN (bI (pin Hu 0 (pX Wl k) (pY Wl k))))), (0, .ref mo), (1, .int (iN (z))), (2, .int (iN (cn))), (3, .int (iN (k)))]) hx hb d_M_beside_31 hl (by decide) rfl (fun ls hl => ?_)
      refine g_loop (σ := Int) (fun z9 => ((Hu.length : Int) - z9).toNat) (fun z9 => [(0, .ref mo), (1, .int (iN (z))), (2, .int (iN (cn))), (3, .int (iN (k))), (4, .int (iN (bI (pin Hu z9 (pX Wl k) (pY Wl k))))), (5, .int (iN (z9)))]) L (fun z9 => (mSt cI mo A f v8 F8)) (fun z9 => 0 ≤ z9 ∧ z9 ≤ Hu.length) ?_ 0 _ _ _ ⟨by omega, by omega⟩ w (lv_sub hl [2, 3, 4, 5, 1, 0] rfl)
      intro i H locs ls hI w hl ih2
      have hl : lv_has ls 6 [(0, .ref mo), (1, .int (iN (z))), (2, .int (iN (cn))), (3, .int (iN (k))), (4, .int (iN (bI (pin Hu i (pX Wl k) (pY Wl k))))), (5, .int (iN (i)))] := hl
      have w : gw D (gA L sz) s.heap H locs L ((mSt cI mo A f v8 F8)) := w
      have hI : 0 ≤ i ∧ i ≤ Hu.length := hI
      obtain ⟨k0, k1⟩ := hI
      refine lv_iload hx hb d_M_beside_33 (lv_at hl 5 rfl) ?_
      refine lv_aload_n hx hb d_M_beside_35 rfl (lv_at hl 0 rfl) ?_
      refine gk_get X w g.1.1 (show (mSt cI mo A f v8 F8) mo = .inr (4, _) from mS_m) rfl in_M 10 (by decide) lk_M_51 rfl d_M_beside_36 ?_
      rw [show v8 10 = (Hu.length : Int) from h10]
      refine ri_cge (a := i) (b := (Hu.length : Int)) (tgt := 92) hx hb d_M_beside_39 (by decide) rfl rfl (by unfold i3; omega) (by unfold i3; omega) (fun c39 => ?_) (fun c39 => ?_)
      · skip
        refine lv_iload_n hx hb d_M_beside_92 rfl (lv_at hl 2 rfl) ?_
        have hil : (Hu.length : Int) = i := by omega
        refine g_joinw (D := D) (A := gA L sz) (H0 := s.heap) (L := L) (f := (mSt cI mo A f v8 F8)) (g1 := F0 m 125 ls [.int (iN ((bI (¬ (pin Hu Hu.length (pX Wl k) (pY Wl k)) ∧ plM Hu (pX Wl k) (pY Wl k) = 1)))), .int (iN (cn))]) (fun H locs w => ?_) (fun K1 => ?_)
        · skip
          refine ri_add (a := cn) (b := (bI (¬ (pin Hu Hu.length (pX Wl k) (pY Wl k)) ∧ plM Hu (pX Wl k) (pY Wl k) = 1))) hx hb d_M_beside_125 rfl rfl ?_
          refine lv_istore_n (lv' := [(2, .int (iN ((cn + (bI (¬ (pin Hu Hu.length (pX Wl k) (pY Wl k)) ∧ plM Hu (pX Wl k) (pY Wl k) = 1)))))), (0, .ref mo), (1, .int (iN (z))), (3, .int (iN (k))), (4, .int (iN (bI (pin Hu i (pX Wl k) (pY Wl k))))), (5, .int (iN (i)))]) hx hb d_M_beside_126 rfl hl (by decide) rfl (fun ls hl => ?_)
          refine lv_iinc (v := iN ((k + 1))) (lv' := [(3, .int (iN ((k + 1)))), (2, .int (iN ((cn + (bI (¬ (pin Hu Hu.length (pX Wl k) (pY Wl k)) ∧ plM Hu (pX Wl k) (pY Wl k) = 1)))))), (0, .ref mo), (1, .int (iN (z))), (4, .int (iN (bI (pin Hu i (pX Wl k) (pY Wl k))))), (5, .int (iN (i)))]) hx hb d_M_beside_127 hl (k := 3) rfl (by rw [show (k + 1) = k + (1 : Int) by omega, ← iN_add]; rfl) (by decide) rfl (fun ls hl => ?_)
          refine lv_goto (tgt := 19) hx hb d_M_beside_130 (by decide) ?_
          exact ih ((k + 1), (cn + (bI (¬ (pin Hu Hu.length (pX Wl k) (pY Wl k)) ∧ plM Hu (pX Wl k) (pY Wl k) = 1)))) _ _ _ (by omega) ⟨by omega, by omega, by rw [tn_s h0]; unfold bsM; rw [← h2, tn_c h0]⟩ w (lv_sub hl [2, 3, 1, 0] rfl)
        · skip
          refine lv_iload hx hb d_M_beside_93 (lv_at hl 4 rfl) ?_
          refine ri_zne (a := bI (pin Hu i (pX Wl k) (pY Wl k))) (tgt := 124) hx hb d_M_beside_95 (by decide) rfl (bI_3 _) (fun c95 => ?_) (fun c95 => ?_)
          · skip
            refine lv_iconst (v := iN (0)) hx hb d_M_beside_124 (by decide) ?_
            exact W.eq (congrArg (fun z : Int => F0 m 125 ls [.int (iN z), .int (iN (cn))]) (show 0 = (bI (¬ (pin Hu Hu.length (pX Wl k) (pY Wl k)) ∧ plM Hu (pX Wl k) (pY Wl k) = 1)) from (bI_f (fun ⟨q1, q2⟩ => by first | exact q1 (by rw [hil]; exact bI_n c95) | omega)).symm)) (K1 _ _ w)
          · skip
            refine lv_aload_n hx hb d_M_beside_98 rfl (lv_at hl 0 rfl) ?_
            refine lv_aload_n hx hb d_M_beside_99 rfl (lv_at hl 0 rfl) ?_
            refine gk_get X w g.1.1 (show (mSt cI mo A f v8 F8) mo = .inr (4, _) from mS_m) rfl in_M 5 (by decide) lk_M_19 rfl d_M_beside_100 ?_
            refine lv_iload_n hx hb d_M_beside_103 rfl (lv_at hl 3 rfl) ?_
            refine gk_iald X w 0 g.1.2.2.2.2.1 (mS_5 g) rfl (vin (by omega) (show (k : Int) < 576 by have h9 : (k : Int) < Wl.length := (by omega); omega) (by decide)) d_M_beside_104 ?_
            rw [vcl (z := k) (by omega) (by have h9 : (k : Int) < Wl.length := (by omega); omega), wld_x hwF (i := k) (by omega) (by omega)]
            refine ri_i2l (a := (pX Wl k)) hx hb d_M_beside_105 rfl (by have := hWb k; unfold i3; omega) ?_
            refine lv_aload_n hx hb d_M_beside_106 rfl (lv_at hl 0 rfl) ?_
            refine gk_get X w g.1.1 (show (mSt cI mo A f v8 F8) mo = .inr (4, _) from mS_m) rfl in_M 6 (by decide) lk_M_22 rfl d_M_beside_107 ?_
            refine lv_iload_n hx hb d_M_beside_110 rfl (lv_at hl 3 rfl) ?_
            refine gk_iald X w 0 g.1.2.2.2.2.2.1 (mS_6 g) rfl (vin (by omega) (show (k : Int) < 576 by have h9 : (k : Int) < Wl.length := (by omega); omega) (by decide)) d_M_beside_111 ?_
            rw [vcl (z := k) (by omega) (by have h9 : (k : Int) < Wl.length := (by omega); omega), wld_y hwF (i := k) (by omega) (by omega)]
            refine ri_i2l (a := (pY Wl k)) hx hb d_M_beside_112 rfl (by have := hWb k; unfold i3; omega) ?_
            refine g_ci w (g_runV (As := [.long (jN ((pX Wl k))), .long (jN ((pY Wl k)))]) (rest := [.int (iN (cn))]) X w (c_M_placeOf l g (v := v8) (F := F8) hL8 hH576 hHb (x := (pX Wl k)) (y := (pY Wl k)) (by have := hWb k; omega) (by have := hWb k; omega)) k_M_placeOf v_M_placeOf lk_M_91 g.1.1 (show (mSt cI mo A f v8 F8) mo = .inr (4, _) from mS_m) rfl ⟨(Nat.le_of_ble_eq_true rfl), (Nat.le_of_ble_eq_true rfl)⟩ rfl hl.1 rfl (Nat.le_of_ble_eq_true rfl) d_M_beside_113 ⟨Nat.zero_le _, Nat.zero_le _⟩) (fun r u H locs hp w => ?_)
            obtain ⟨rfl, rfl⟩ := hp
            have w : gw D (gA L sz) s.heap H locs L (mSt cI mo A f v8 F8) := w
            refine lv_iconst (v := iN (1)) hx hb d_M_beside_116 (by decide) ?_
            refine ri_cne (a := (plM Hu (pX Wl k) (pY Wl k))) (b := 1) (tgt := 124) hx hb d_M_beside_117 (by decide) rfl rfl (by have := plM_b Hu (pX Wl k) (pY Wl k); unfold i3; omega) (by unfold i3; omega) (fun c117 => ?_) (fun c117 => ?_)
            · skip
              refine lv_iconst (v := iN (0)) hx hb d_M_beside_124 (by decide) ?_
              exact W.eq (congrArg (fun z : Int => F0 m 125 ls [.int (iN z), .int (iN (cn))]) (show 0 = (bI (¬ (pin Hu Hu.length (pX Wl k) (pY Wl k)) ∧ plM Hu (pX Wl k) (pY Wl k) = 1)) from (bI_f (fun ⟨q1, q2⟩ => by first | exact q1 (by rw [hil]; exact bI_n c95) | omega)).symm)) (K1 _ _ w)
            · skip
              refine lv_iconst (v := iN (1)) hx hb d_M_beside_120 (by decide) ?_
              refine lv_goto (tgt := 125) hx hb d_M_beside_121 (by decide) ?_
              exact W.eq (congrArg (fun z : Int => F0 m 125 ls [.int (iN z), .int (iN (cn))]) (show 1 = (bI (¬ (pin Hu Hu.length (pX Wl k) (pY Wl k)) ∧ plM Hu (pX Wl k) (pY Wl k) = 1)) from (bI_t ⟨by rw [hil]; exact bI_0 (by omega), by omega⟩).symm)) (K1 _ _ w)
      · skip
        refine g_joinw (D := D) (A := gA L sz) (H0 := s.heap) (L := L) (f := (mSt cI mo A f v8 F8)) (g1 := F0 m 84 ls [.int (iN ((bI (pin Hu (i + 1) (pX Wl k) (pY Wl k)))))]) (fun H locs w => ?_) (fun K2 => ?_)
        · skip
          refine lv_istore (lv' := [(4, .int (iN ((bI (pin Hu (i + 1) (pX Wl k) (pY Wl k)))))), (0, .ref mo), (1, .int (iN (z))), (2, .int (iN (cn))), (3, .int (iN (k))), (5, .int (iN (i)))]) hx hb d_M_beside_84 hl (by decide) rfl (fun ls hl => ?_)
          refine lv_iinc (v := iN ((i + 1))) (lv' := [(5, .int (iN ((i + 1)))), (4, .int (iN ((bI (pin Hu (i + 1) (pX Wl k) (pY Wl k)))))), (0, .ref mo), (1, .int (iN (z))), (2, .int (iN (cn))), (3, .int (iN (k)))]) hx hb d_M_beside_86 hl (k := 5) rfl (by rw [show (i + 1) = i + (1 : Int) by omega, ← iN_add]; rfl) (by decide) rfl (fun ls hl => ?_)
          refine lv_goto (tgt := 33) hx hb d_M_beside_89 (by decide) ?_
          exact ih2 (i + 1) _ _ _ (by omega) ⟨by omega, by omega⟩ w (lv_sub hl [2, 3, 4, 5, 1, 0] rfl)
        · skip
          refine lv_iload hx hb d_M_beside_42 (lv_at hl 4 rfl) ?_
          refine ri_zne (a := bI (pin Hu i (pX Wl k) (pY Wl k))) (tgt := 79) hx hb d_M_beside_44 (by decide) rfl (bI_3 _) (fun c44 => ?_) (fun c44 => ?_)
          · skip
            refine lv_iconst (v := iN (1)) hx hb d_M_beside_79 (by decide) ?_
            refine lv_goto (tgt := 84) hx hb d_M_beside_80 (by decide) ?_
            exact W.eq (congrArg (fun z : Int => F0 m 84 ls [.int (iN z)]) (show 1 = (bI (pin Hu (i + 1) (pX Wl k) (pY Wl k))) from (bI_t (by first | (obtain ⟨j9, q0, q1, q2⟩ := bI_n c44; exact ⟨j9, q0, by omega, q2⟩) | exact ⟨i, k0, by omega, by omega, by omega⟩)).symm)) (K2 _ _ w)
          · skip
            refine lv_aload_n hx hb d_M_beside_47 rfl (lv_at hl 0 rfl) ?_
            refine gk_get X w g.1.1 (show (mSt cI mo A f v8 F8) mo = .inr (4, _) from mS_m) rfl in_M 8 (by decide) lk_M_25 rfl d_M_beside_48 ?_
            refine lv_iload hx hb d_M_beside_51 (lv_at hl 5 rfl) ?_
            refine gk_iald X w 0 g.1.2.2.2.2.2.2.1 (mS_8 g) rfl (vin (by omega) (show (i : Int) < 576 by have h9 : (i : Int) < Hu.length := (by omega); omega) (by decide)) d_M_beside_53 ?_
            rw [vcl (z := i) (by omega) (by have h9 : (i : Int) < Hu.length := (by omega); omega), hld_x hhF (i := i) (by omega) (by omega)]
            refine lv_aload_n hx hb d_M_beside_54 rfl (lv_at hl 0 rfl) ?_
            refine gk_get X w g.1.1 (show (mSt cI mo A f v8 F8) mo = .inr (4, _) from mS_m) rfl in_M 5 (by decide) lk_M_19 rfl d_M_beside_55 ?_
            refine lv_iload_n hx hb d_M_beside_58 rfl (lv_at hl 3 rfl) ?_
            refine gk_iald X w 0 g.1.2.2.2.2.1 (mS_5 g) rfl (vin (by omega) (show (k : Int) < 576 by have h9 : (k : Int) < Wl.length := (by omega); omega) (by decide)) d_M_beside_59 ?_
            rw [vcl (z := k) (by omega) (by have h9 : (k : Int) < Wl.length := (by omega); omega), wld_x hwF (i := k) (by omega) (by omega)]
            refine ri_cne (a := (pX Hu i)) (b := (pX Wl k)) (tgt := 83) hx hb d_M_beside_60 (by decide) rfl rfl (by have := hWb k; have := hHb3 i; unfold i3; omega) (by have := hWb k; have := hHb3 i; unfold i3; omega) (fun c60 => ?_) (fun c60 => ?_)
            · skip
              refine lv_iconst (v := iN (0)) hx hb d_M_beside_83 (by decide) ?_
              exact W.eq (congrArg (fun z : Int => F0 m 84 ls [.int (iN z)]) (show 0 = (bI (pin Hu (i + 1) (pX Wl k) (pY Wl k))) from (bI_f (fun ⟨j9, q0, q1, q2, q3⟩ => by by_cases e9 : j9 = i; (subst e9; omega); exact bI_0 (p := pin Hu i (pX Wl k) (pY Wl k)) (by omega) ⟨j9, q0, by omega, q2, q3⟩)).symm)) (K2 _ _ w)
            · skip
              refine lv_aload_n hx hb d_M_beside_63 rfl (lv_at hl 0 rfl) ?_
              refine gk_get X w g.1.1 (show (mSt cI mo A f v8 F8) mo = .inr (4, _) from mS_m) rfl in_M 9 (by decide) lk_M_28 rfl d_M_beside_64 ?_
              refine lv_iload hx hb d_M_beside_67 (lv_at hl 5 rfl) ?_
              refine gk_iald X w 0 g.1.2.2.2.2.2.2.2 (mS_9 g) rfl (vin (by omega) (show (i : Int) < 576 by have h9 : (i : Int) < Hu.length := (by omega); omega) (by decide)) d_M_beside_69 ?_
              rw [vcl (z := i) (by omega) (by have h9 : (i : Int) < Hu.length := (by omega); omega), hld_y hhF (i := i) (by omega) (by omega)]
              refine lv_aload_n hx hb d_M_beside_70 rfl (lv_at hl 0 rfl) ?_
              refine gk_get X w g.1.1 (show (mSt cI mo A f v8 F8) mo = .inr (4, _) from mS_m) rfl in_M 6 (by decide) lk_M_22 rfl d_M_beside_71 ?_
              refine lv_iload_n hx hb d_M_beside_74 rfl (lv_at hl 3 rfl) ?_
              refine gk_iald X w 0 g.1.2.2.2.2.2.1 (mS_6 g) rfl (vin (by omega) (show (k : Int) < 576 by have h9 : (k : Int) < Wl.length := (by omega); omega) (by decide)) d_M_beside_75 ?_
              rw [vcl (z := k) (by omega) (by have h9 : (k : Int) < Wl.length := (by omega); omega), wld_y hwF (i := k) (by omega) (by omega)]
              refine ri_cne (a := (pY Hu i)) (b := (pY Wl k)) (tgt := 83) hx hb d_M_beside_76 (by decide) rfl rfl (by have := hWb k; have := hHb3 i; unfold i3; omega) (by have := hWb k; have := hHb3 i; unfold i3; omega) (fun c76 => ?_) (fun c76 => ?_)
              · skip
                refine lv_iconst (v := iN (0)) hx hb d_M_beside_83 (by decide) ?_
                exact W.eq (congrArg (fun z : Int => F0 m 84 ls [.int (iN z)]) (show 0 = (bI (pin Hu (i + 1) (pX Wl k) (pY Wl k))) from (bI_f (fun ⟨j9, q0, q1, q2, q3⟩ => by by_cases e9 : j9 = i; (subst e9; omega); exact bI_0 (p := pin Hu i (pX Wl k) (pY Wl k)) (by omega) ⟨j9, q0, by omega, q2, q3⟩)).symm)) (K2 _ _ w)
              · skip
                refine lv_iconst (v := iN (1)) hx hb d_M_beside_79 (by decide) ?_
                refine lv_goto (tgt := 84) hx hb d_M_beside_80 (by decide) ?_
                exact W.eq (congrArg (fun z : Int => F0 m 84 ls [.int (iN z)]) (show 1 = (bI (pin Hu (i + 1) (pX Wl k) (pY Wl k))) from (bI_t (by first | (obtain ⟨j9, q0, q1, q2⟩ := bI_n c44; exact ⟨j9, q0, by omega, q2⟩) | exact ⟨i, k0, by omega, by omega, by omega⟩)).symm)) (K2 _ _ w)
  · skip
    refine lv_iconst (v := iN (-1)) hx hb d_M_beside_8 (by decide) ?_
    exact g_iret X w hrt hlk d_M_beside_9 ⟨by rw [if_neg (bI_0 (by omega))], ⟨v, F, rfl, hI0, h11, h12⟩⟩
