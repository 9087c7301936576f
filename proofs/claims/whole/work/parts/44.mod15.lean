/-! THE REFERENCE: the tests of the circle -/
def acD (W : List Pt) (a b k : Int) : Int := (pX W k - pX W a) * (pX W k - pX W b) + (pY W k - pY W a) * (pY W k - pY W b)
def acr (W : List Pt) (a b n : Int) : Prop := ∀ k : Int, 0 ≤ k → k < n → acD W a b k ≤ 0
def shD (W : List Pt) (a b d : Int) : Int := (pX W b - pX W a) * (pX W d - pX W a) + (pY W b - pY W a) * (pY W d - pY W a)
def rBy (W : List Pt) (a b d : Int) : Int := 2 * pT W a b (pX W d) (pY W d)
def rUx (W : List Pt) (a b d : Int) : Int := sq W a b * (pY W d - pY W a) - sq W a d * (pY W b - pY W a)
def rUy (W : List Pt) (a b d : Int) : Int := sq W a d * (pX W b - pX W a) - sq W a b * (pX W d - pX W a)
def rL (W : List Pt) (a b d k : Int) : Int := ((pX W k - pX W a) * (pX W k - pX W a) + (pY W k - pY W a) * (pY W k - pY W a)) * rBy W a b d
def rR (W : List Pt) (a b d k : Int) : Int := 2 * ((pX W k - pX W a) * rUx W a b d + (pY W k - pY W a) * rUy W a b d)
def rAl (W : List Pt) (a b d n : Int) : Prop := ∀ k : Int, 0 ≤ k → k < n → rL W a b d k ≤ rR W a b d k
def rnd (W : List Pt) (a b d : Int) : Prop := 0 < rBy W a b d ∧ 0 < shD W a b d ∧ 0 < shD W b a d ∧ 0 < shD W d a b ∧ rAl W a b d W.length
theorem d3_b {W : List Pt} (h : pb 300 W) (i j k q : Int) : -360000 ≤ (pX W i - pX W j) * (pX W k - pX W q) ∧ (pX W i - pX W j) * (pX W k - pX W q) ≤ 360000 ∧ -360000 ≤ (pY W i - pY W j) * (pY W k - pY W q) ∧ (pY W i - pY W j) * (pY W k - pY W q) ≤ 360000 := by
  have a := h i; have b := h j; have c := h k; have d := h q
  have q1 := mbc (a := pX W i - pX W j) (b := pX W k - pX W q) 600 600 360000 (by omega) (by omega) (by omega) (by omega) (by decide)
  have q2 := mbc (a := pY W i - pY W j) (b := pY W k - pY W q) 600 600 360000 (by omega) (by omega) (by omega) (by omega) (by decide)
  omega
theorem rBy_b {W : List Pt} (h : pb 300 W) (a b d : Int) : -1440000 ≤ rBy W a b d ∧ rBy W a b d ≤ 1440000 := by
  have q := h d
  have := pT_b3 h a b (x := pX W d) (y := pY W d) (by omega) (by omega)
  unfold rBy; omega
theorem rU_b {W : List Pt} (h : pb 300 W) (a b d : Int) : -864000000 ≤ rUx W a b d ∧ rUx W a b d ≤ 864000000 ∧ -864000000 ≤ rUy W a b d ∧ rUy W a b d ≤ 864000000 := by
  have x := h a; have y := h b; have z := h d
  have s1 := sq_b3 h a b; have s2 := sq_b3 h a d
  have q1 := mbc (a := sq W a b) (b := pY W d - pY W a) 720000 600 432000000 (by omega) (by omega) (by omega) (by omega) (by decide)
  have q2 := mbc (a := sq W a d) (b := pY W b - pY W a) 720000 600 432000000 (by omega) (by omega) (by omega) (by omega) (by decide)
  have q3 := mbc (a := sq W a d) (b := pX W b - pX W a) 720000 600 432000000 (by omega) (by omega) (by omega) (by omega) (by decide)
  have q4 := mbc (a := sq W a b) (b := pX W d - pX W a) 720000 600 432000000 (by omega) (by omega) (by omega) (by omega) (by decide)
  unfold rUx rUy; omega
theorem rLR_6 {W : List Pt} (h : pb 300 W) (a b d k : Int) : i6 (rL W a b d k) ∧ i6 (rR W a b d k) := by
  have x := h a; have z := h k
  have s1 := d3_b h k a k a
  have u := rU_b h a b d; have v := rBy_b h a b d
  have q1 := mbc (a := (pX W k - pX W a) * (pX W k - pX W a) + (pY W k - pY W a) * (pY W k - pY W a)) (b := rBy W a b d) 720000 1440000 1036800000000 (by omega) (by omega) (by omega) (by omega) (by decide)
  have q2 := mbc (a := pX W k - pX W a) (b := rUx W a b d) 600 864000000 518400000000 (by omega) (by omega) (by omega) (by omega) (by decide)
  have q3 := mbc (a := pY W k - pY W a) (b := rUy W a b d) 600 864000000 518400000000 (by omega) (by omega) (by omega) (by omega) (by decide)
  unfold rL rR i6; omega

set_option maxHeartbeats 4000000 in
set_option maxRecDepth 100000 in
theorem c_M_isAcross (l : Launch) {D : va_G} {cI cR : ClassId} {L : List Nat} {f : Nat → va_E} {mo : Nat} {A : Nat → Nat} {v : Nat → Int} {F : Nat → Nat → Int} (g : mg L mo A) {Wl Hu : List Pt} (hL : mLd v F Wl Hu) (hH576 : Hu.length ≤ 576) (hHb : pb 600 Hu) (hWb : pb 300 Wl) (hW24 : Wl.length ≤ 24) {a b : Int} (ha : 0 ≤ a ∧ a < Wl.length) (hb2 : 0 ≤ b ∧ b < Wl.length) : gMi D cI cR l y_M_isAcross (Cond.code y_M_isAcross b_M_isAcross 7 (some .boolean) :: lw_g) { frames := 0, cells := 0, slots := 0, locals := 0 } [.ref mo, .int (iN (a)), .int (iN (b))] L (mSt cI mo A f v F) (fun r u => r = iN (bI (acr Wl a b Wl.length)) ∧ u = (L, mSt cI mo A f v F)) := by
  intro sz
  refine g_enter (by decide) rfl (Nat.le_of_ble_eq_true rfl) ?_
  intro p e s m below meth cd ls X hrt hlk hnm hl hsz w
  have X : gx p m cd b_M_isAcross 7 s _ "HullSumsModel" D cI cR := X
  have hx := X.1.1
  have hb := X.1.2.1
  have hl : lv_has ls 7 [(0, .ref mo), (1, .int (iN (a))), (2, .int (iN (b)))] := hl
  obtain ⟨h7, h10, hwF, hhF⟩ := hL
  refine lv_iconst (v := iN (1)) hx hb d_M_isAcross_0 (by decide) ?_
  refine lv_istore_n (lv' := [(3, .int (iN (1))), (0, .ref mo), (1, .int (iN (a))), (2, .int (iN (b)))]) hx hb d_M_isAcross_1 rfl hl (by decide) rfl (fun ls hl => ?_)
  have hal : (1 : Int) = bI (acr Wl a b 0) := (bI_t (fun _ q0 q1 => by omega)).symm
  rw [hal] at hl
  refine lv_iconst (v := iN (0)) hx hb d_M_isAcross_2 (by decide) ?_
  refine lv_istore (lv' := [(4, .int (iN (0))), (3, .int (iN (bI (acr Wl a b 0)))), (0, .ref mo), (1, .int (iN (a))), (2, .int (iN (b)))]) hx hb d_M_isAcross_3 hl (by decide) rfl (fun ls hl => ?_)
  refine g_loop (σ := Int) (fun z9 => ((Wl.length : Int) - z9).toNat) (fun z9 => [(0, .ref mo), (1, .int (iN (a))), (2, .int (iN (b))), (3, .int (iN (bI (acr Wl a b z9)))), (4, .int (iN (z9)))]) L (fun z9 => (mSt cI mo A f v F)) (fun z9 => 0 ≤ z9 ∧ z9 ≤ Wl.length) ?_ 0 _ _ _ ⟨by omega, by omega⟩ w (lv_sub hl [2, 3, 4, 1, 0] rfl)
  intro k H locs ls hI w hl ih
  have hl : lv_has ls 7 [(0, .ref mo), (1, .int (iN (a))), (2, .int (iN (b))), (3, .int (iN (bI (acr Wl a b k)))), (4, .int (iN (k)))] := hl
  have w : gw D (gA L sz) s.heap H locs L ((mSt cI mo A f v F)) := w
  have hI : 0 ≤ k ∧ k ≤ Wl.length := hI
  obtain ⟨h0, h1⟩ := hI
  have hdb := d3_b hWb k a k b
  refine lv_iload hx hb d_M_isAcross_5 (lv_at hl 4 rfl) ?_
  refine lv_aload_n hx hb d_M_isAcross_7 rfl (lv_at hl 0 rfl) ?_
  refine gk_get X w g.1.1 (show (mSt cI mo A f v F) mo = .inr (4, _) from mS_m) rfl in_M 7 (by decide) lk_M_45 rfl d_M_isAcross_8 ?_
  rw [show v 7 = (Wl.length : Int) from h7]
  refine ri_cge (a := k) (b := (Wl.length : Int)) (tgt := 102) hx hb d_M_isAcross_11 (by decide) rfl rfl (by unfold i3; omega) (by unfold i3; omega) (fun c11 => ?_) (fun c11 => ?_)
  · skip
    refine lv_iload_n hx hb d_M_isAcross_102 rfl (lv_at hl 3 rfl) ?_
    exact g_zret X w hrt hlk d_M_isAcross_103 (by rcases bI_01 (acr Wl a b k) with h9 | h9 <;> rw [h9] <;> rfl) ⟨by congr 1; first | (rw [show (Wl.length : Int) = k by omega]) | (rw [c15, bI_f (fun z9 => bI_0 c15 (fun j9 q0 q1 => z9 j9 q0 (by omega)))]), rfl⟩
  · skip
    refine lv_iload_n hx hb d_M_isAcross_14 rfl (lv_at hl 3 rfl) ?_
    refine ri_zeq (a := bI (acr Wl a b k)) (tgt := 102) hx hb d_M_isAcross_15 (by decide) rfl (bI_3 _) (fun c15 => ?_) (fun c15 => ?_)
    · skip
      refine lv_iload_n hx hb d_M_isAcross_102 rfl (lv_at hl 3 rfl) ?_
      exact g_zret X w hrt hlk d_M_isAcross_103 (by rcases bI_01 (acr Wl a b k) with h9 | h9 <;> rw [h9] <;> rfl) ⟨by congr 1; first | (rw [show (Wl.length : Int) = k by omega]) | (rw [c15, bI_f (fun z9 => bI_0 c15 (fun j9 q0 q1 => z9 j9 q0 (by omega)))]), rfl⟩
    · skip
      refine lv_aload_n hx hb d_M_isAcross_18 rfl (lv_at hl 0 rfl) ?_
      refine gk_get X w g.1.1 (show (mSt cI mo A f v F) mo = .inr (4, _) from mS_m) rfl in_M 5 (by decide) lk_M_19 rfl d_M_isAcross_19 ?_
      refine lv_iload hx hb d_M_isAcross_22 (lv_at hl 4 rfl) ?_
      refine gk_iald X w 0 g.1.2.2.2.2.1 (mS_5 g) rfl (vin (by omega) (show (k : Int) < 576 by have h9 : (k : Int) < Wl.length := (by omega); omega) (by decide)) d_M_isAcross_24 ?_
      rw [vcl (z := k) (by omega) (by have h9 : (k : Int) < Wl.length := (by omega); omega), wld_x hwF (i := k) (by omega) (by omega)]
      refine lv_aload_n hx hb d_M_isAcross_25 rfl (lv_at hl 0 rfl) ?_
      refine gk_get X w g.1.1 (show (mSt cI mo A f v F) mo = .inr (4, _) from mS_m) rfl in_M 5 (by decide) lk_M_19 rfl d_M_isAcross_26 ?_
      refine lv_iload_n hx hb d_M_isAcross_29 rfl (lv_at hl 1 rfl) ?_
      refine gk_iald X w 0 g.1.2.2.2.2.1 (mS_5 g) rfl (vin (by omega) (show (a : Int) < 576 by have h9 : (a : Int) < Wl.length := (by omega); omega) (by decide)) d_M_isAcross_30 ?_
      rw [vcl (z := a) (by omega) (by have h9 : (a : Int) < Wl.length := (by omega); omega), wld_x hwF (i := a) (by omega) (by omega)]
      refine ri_sub (a := (pX Wl k)) (b := (pX Wl a)) hx hb d_M_isAcross_31 rfl rfl ?_
      refine ri_i2l (a := ((pX Wl k) - (pX Wl a))) hx hb d_M_isAcross_32 rfl (by have := hWb a; have := hWb b; have := hWb k; unfold i3; omega) ?_
      refine lv_aload_n hx hb d_M_isAcross_33 rfl (lv_at hl 0 rfl) ?_
      refine gk_get X w g.1.1 (show (mSt cI mo A f v F) mo = .inr (4, _) from mS_m) rfl in_M 5 (by decide) lk_M_19 rfl d_M_isAcross_34 ?_
      refine lv_iload hx hb d_M_isAcross_37 (lv_at hl 4 rfl) ?_
      refine gk_iald X w 0 g.1.2.2.2.2.1 (mS_5 g) rfl (vin (by omega) (show (k : Int) < 576 by have h9 : (k : Int) < Wl.length := (by omega); omega) (by decide)) d_M_isAcross_39 ?_
      rw [vcl (z := k) (by omega) (by have h9 : (k : Int) < Wl.length := (by omega); omega), wld_x hwF (i := k) (by omega) (by omega)]
      refine lv_aload_n hx hb d_M_isAcross_40 rfl (lv_at hl 0 rfl) ?_
      refine gk_get X w g.1.1 (show (mSt cI mo A f v F) mo = .inr (4, _) from mS_m) rfl in_M 5 (by decide) lk_M_19 rfl d_M_isAcross_41 ?_
      refine lv_iload_n hx hb d_M_isAcross_44 rfl (lv_at hl 2 rfl) ?_
      refine gk_iald X w 0 g.1.2.2.2.2.1 (mS_5 g) rfl (vin (by omega) (show (b : Int) < 576 by have h9 : (b : Int) < Wl.length := (by omega); omega) (by decide)) d_M_isAcross_45 ?_
      rw [vcl (z := b) (by omega) (by have h9 : (b : Int) < Wl.length := (by omega); omega), wld_x hwF (i := b) (by omega) (by omega)]
      refine ri_sub (a := (pX Wl k)) (b := (pX Wl b)) hx hb d_M_isAcross_46 rfl rfl ?_
      refine ri_i2l (a := ((pX Wl k) - (pX Wl b))) hx hb d_M_isAcross_47 rfl (by have := hWb a; have := hWb b; have := hWb k; unfold i3; omega) ?_
      refine rj_mul (a := ((pX Wl k) - (pX Wl a))) (b := ((pX Wl k) - (pX Wl b))) hx hb d_M_isAcross_48 rfl rfl ?_
      refine lv_aload_n hx hb d_M_isAcross_49 rfl (lv_at hl 0 rfl) ?_
      refine gk_get X w g.1.1 (show (mSt cI mo A f v F) mo = .inr (4, _) from mS_m) rfl in_M 6 (by decide) lk_M_22 rfl d_M_isAcross_50 ?_
      refine lv_iload hx hb d_M_isAcross_53 (lv_at hl 4 rfl) ?_
      refine gk_iald X w 0 g.1.2.2.2.2.2.1 (mS_6 g) rfl (vin (by omega) (show (k : Int) < 576 by have h9 : (k : Int) < Wl.length := (by omega); omega) (by decide)) d_M_isAcross_55 ?_
      rw [vcl (z := k) (by omega) (by have h9 : (k : Int) < Wl.length := (by omega); omega), wld_y hwF (i := k) (by omega) (by omega)]
      refine lv_aload_n hx hb d_M_isAcross_56 rfl (lv_at hl 0 rfl) ?_
      refine gk_get X w g.1.1 (show (mSt cI mo A f v F) mo = .inr (4, _) from mS_m) rfl in_M 6 (by decide) lk_M_22 rfl d_M_isAcross_57 ?_
      refine lv_iload_n hx hb d_M_isAcross_60 rfl (lv_at hl 1 rfl) ?_
      refine gk_iald X w 0 g.1.2.2.2.2.2.1 (mS_6 g) rfl (vin (by omega) (show (a : Int) < 576 by have h9 : (a : Int) < Wl.length := (by omega); omega) (by decide)) d_M_isAcross_61 ?_
      rw [vcl (z := a) (by omega) (by have h9 : (a : Int) < Wl.length := (by omega); omega), wld_y hwF (i := a) (by omega) (by omega)]
      refine ri_sub (a := (pY Wl k)) (b := (pY Wl a)) hx hb d_M_isAcross_62 rfl rfl ?_
      refine ri_i2l (a := ((pY Wl k) - (pY Wl a))) hx hb d_M_isAcross_63 rfl (by have := hWb a; have := hWb b; have := hWb k; unfold i3; omega) ?_
      refine lv_aload_n hx hb d_M_isAcross_64 rfl (lv_at hl 0 rfl) ?_
      refine gk_get X w g.1.1 (show (mSt cI mo A f v F) mo = .inr (4, _) from mS_m) rfl in_M 6 (by decide) lk_M_22 rfl d_M_isAcross_65 ?_
      refine lv_iload hx hb d_M_isAcross_68 (lv_at hl 4 rfl) ?_
      refine gk_iald X w 0 g.1.2.2.2.2.2.1 (mS_6 g) rfl (vin (by omega) (show (k : Int) < 576 by have h9 : (k : Int) < Wl.length := (by omega); omega) (by decide)) d_M_isAcross_70 ?_
      rw [vcl (z := k) (by omega) (by have h9 : (k : Int) < Wl.length := (by omega); omega), wld_y hwF (i := k) (by omega) (by omega)]
      refine lv_aload_n hx hb d_M_isAcross_71 rfl (lv_at hl 0 rfl) ?_
      refine gk_get X w g.1.1 (show (mSt cI mo A f v F) mo = .inr (4, _) from mS_m) rfl in_M 6 (by decide) lk_M_22 rfl d_M_isAcross_72 ?_
      refine lv_iload_n hx hb d_M_isAcross_75 rfl (lv_at hl 2 rfl) ?_
      refine gk_iald X w 0 g.1.2.2.2.2.2.1 (mS_6 g) rfl (vin (by omega) (show (b : Int) < 576 by have h9 : (b : Int) < Wl.length := (by omega); omega) (by decide)) d_M_isAcross_76 ?_
      rw [vcl (z := b) (by omega) (by have h9 : (b : Int) < Wl.length := (by omega); omega), wld_y hwF (i := b) (by omega) (by omega)]
      refine ri_sub (a := (pY Wl k)) (b := (pY Wl b)) hx hb d_M_isAcross_77 rfl rfl ?_
      refine ri_i2l (a := ((pY Wl k) - (pY Wl b))) hx hb d_M_isAcross_78 rfl (by have := hWb a; have := hWb b; have := hWb k; unfold i3; omega) ?_
      refine rj_mul (a := ((pY Wl k) - (pY Wl a))) (b := ((pY Wl k) - (pY Wl b))) hx hb d_M_isAcross_79 rfl rfl ?_
      refine rj_add (a := (((pX Wl k) - (pX Wl a)) * ((pX Wl k) - (pX Wl b)))) (b := (((pY Wl k) - (pY Wl a)) * ((pY Wl k) - (pY Wl b)))) hx hb d_M_isAcross_80 rfl rfl ?_
      refine lv_lstore (lv' := [(5, .long (jN (((((pX Wl k) - (pX Wl a)) * ((pX Wl k) - (pX Wl b))) + (((pY Wl k) - (pY Wl a)) * ((pY Wl k) - (pY Wl b))))))), (0, .ref mo), (1, .int (iN (a))), (2, .int (iN (b))), (3, .int (iN (bI (acr Wl a b k)))), (4, .int (iN (k)))]) hx hb d_M_isAcross_81 hl (by decide) rfl (fun ls hl => ?_)
      have hl : lv_has ls 7 [(5, .long (jN (acD Wl a b k))), (0, .ref mo), (1, .int (iN (a))), (2, .int (iN (b))), (3, .int (iN (bI (acr Wl a b k)))), (4, .int (iN (k)))] := hl
      refine g_joinw (D := D) (A := gA L sz) (H0 := s.heap) (L := L) (f := (mSt cI mo A f v F)) (g1 := F0 m 95 ls [.int (iN ((bI (acr Wl a b (k + 1)))))]) (fun H locs w => ?_) (fun K1 => ?_)
      · skip
        refine lv_istore_n (lv' := [(3, .int (iN ((bI (acr Wl a b (k + 1)))))), (5, .long (jN (acD Wl a b k))), (0, .ref mo), (1, .int (iN (a))), (2, .int (iN (b))), (4, .int (iN (k)))]) hx hb d_M_isAcross_95 rfl hl (by decide) rfl (fun ls hl => ?_)
        refine lv_iinc (v := iN ((k + 1))) (lv' := [(4, .int (iN ((k + 1)))), (3, .int (iN ((bI (acr Wl a b (k + 1)))))), (5, .long (jN (acD Wl a b k))), (0, .ref mo), (1, .int (iN (a))), (2, .int (iN (b)))]) hx hb d_M_isAcross_96 hl (k := 5) rfl (by rw [show (k + 1) = k + (1 : Int) by omega, ← iN_add]; rfl) (by decide) rfl (fun ls hl => ?_)
        refine lv_goto (tgt := 5) hx hb d_M_isAcross_99 (by decide) ?_
        exact ih (k + 1) _ _ _ (by omega) ⟨by omega, by omega⟩ w (lv_sub hl [3, 4, 5, 1, 0] rfl)
      · skip
        refine lv_lload hx hb d_M_isAcross_83 (lv_at hl 0 rfl) ?_
        refine lv_lconst (v := jN (0)) hx hb d_M_isAcross_85 (by decide) ?_
        refine rj_cgt (a := acD Wl a b k) (b := 0) (tgt := 94) hx hb d_M_isAcross_86 d_M_isAcross_87 (by decide) rfl rfl (by unfold acD; unfold i6; omega) (by unfold i6; omega) (fun c86 => ?_) (fun c86 => ?_)
        · skip
          refine lv_iconst (v := iN (0)) hx hb d_M_isAcross_94 (by decide) ?_
          exact W.eq (congrArg (fun z : Int => F0 m 95 ls [.int (iN z)]) (show 0 = (bI (acr Wl a b (k + 1))) from (bI_f (fun z9 => by have := z9 k h0 (by omega); omega)).symm)) (K1 _ _ w)
        · skip
          refine lv_iconst (v := iN (1)) hx hb d_M_isAcross_90 (by decide) ?_
          refine lv_goto (tgt := 95) hx hb d_M_isAcross_91 (by decide) ?_
          exact W.eq (congrArg (fun z : Int => F0 m 95 ls [.int (iN z)]) (show 1 = (bI (acr Wl a b (k + 1))) from (bI_t (fun j9 q0 q1 => by by_cases e9 : j9 = k; (subst e9; omega); exact bI_n c15 j9 q0 (by omega))).symm)) (K1 _ _ w)
set_option maxHeartbeats 4000000 in
set_option maxRecDepth 100000 in
theorem c_M_isSharp (l : Launch) {D : va_G} {cI cR : ClassId} {L : List Nat} {f : Nat → va_E} {mo : Nat} {A : Nat → Nat} {v : Nat → Int} {F : Nat → Nat → Int} (g : mg L mo A) {Wl Hu : List Pt} (hL : mLd v F Wl Hu) (hH576 : Hu.length ≤ 576) (hHb : pb 600 Hu) (hWb : pb 300 Wl) (hW24 : Wl.length ≤ 24) {a b d : Int} (ha : 0 ≤ a ∧ a < Wl.length) (hb2 : 0 ≤ b ∧ b < Wl.length) (hd2 : 0 ≤ d ∧ d < Wl.length) : gMi D cI cR l y_M_isSharp (Cond.code y_M_isSharp b_M_isSharp 4 (some .boolean) :: lw_g) { frames := 0, cells := 0, slots := 0, locals := 0 } [.ref mo, .int (iN (a)), .int (iN (b)), .int (iN (d))] L (mSt cI mo A f v F) (fun r u => r = iN (bI (0 < shD Wl a b d)) ∧ u = (L, mSt cI mo A f v F)) := by
  intro sz
  refine g_enter (by decide) rfl (Nat.le_of_ble_eq_true rfl) ?_
  intro p e s m below meth cd ls X hrt hlk hnm hl hsz w
  have X : gx p m cd b_M_isSharp 4 s _ "HullSumsModel" D cI cR := X
  have hx := X.1.1
  have hb := X.1.2.1
  have hl : lv_has ls 4 [(0, .ref mo), (1, .int (iN (a))), (2, .int (iN (b))), (3, .int (iN (d)))] := hl
  obtain ⟨h7, h10, hwF, hhF⟩ := hL
  have hdb := d3_b hWb b a d a
  refine lv_aload_n hx hb d_M_isSharp_0 rfl (lv_at hl 0 rfl) ?_
  refine gk_get X w g.1.1 (show (mSt cI mo A f v F) mo = .inr (4, _) from mS_m) rfl in_M 5 (by decide) lk_M_19 rfl d_M_isSharp_1 ?_
  refine lv_iload_n hx hb d_M_isSharp_4 rfl (lv_at hl 2 rfl) ?_
  refine gk_iald X w 0 g.1.2.2.2.2.1 (mS_5 g) rfl (vin (by omega) (show (b : Int) < 576 by have h9 : (b : Int) < Wl.length := (by omega); omega) (by decide)) d_M_isSharp_5 ?_
  rw [vcl (z := b) (by omega) (by have h9 : (b : Int) < Wl.length := (by omega); omega), wld_x hwF (i := b) (by omega) (by omega)]
  refine lv_aload_n hx hb d_M_isSharp_6 rfl (lv_at hl 0 rfl) ?_
  refine gk_get X w g.1.1 (show (mSt cI mo A f v F) mo = .inr (4, _) from mS_m) rfl in_M 5 (by decide) lk_M_19 rfl d_M_isSharp_7 ?_
  refine lv_iload_n hx hb d_M_isSharp_10 rfl (lv_at hl 1 rfl) ?_
  refine gk_iald X w 0 g.1.2.2.2.2.1 (mS_5 g) rfl (vin (by omega) (show (a : Int) < 576 by have h9 : (a : Int) < Wl.length := (by omega); omega) (by decide)) d_M_isSharp_11 ?_
  rw [vcl (z := a) (by omega) (by have h9 : (a : Int) < Wl.length := (by omega); omega), wld_x hwF (i := a) (by omega) (by omega)]
  refine ri_sub (a := (pX Wl b)) (b := (pX Wl a)) hx hb d_M_isSharp_12 rfl rfl ?_
  refine ri_i2l (a := ((pX Wl b) - (pX Wl a))) hx hb d_M_isSharp_13 rfl (by have := hWb a; have := hWb b; have := hWb d; unfold i3; omega) ?_
  refine lv_aload_n hx hb d_M_isSharp_14 rfl (lv_at hl 0 rfl) ?_
  refine gk_get X w g.1.1 (show (mSt cI mo A f v F) mo = .inr (4, _) from mS_m) rfl in_M 5 (by decide) lk_M_19 rfl d_M_isSharp_15 ?_
  refine lv_iload_n hx hb d_M_isSharp_18 rfl (lv_at hl 3 rfl) ?_
  refine gk_iald X w 0 g.1.2.2.2.2.1 (mS_5 g) rfl (vin (by omega) (show (d : Int) < 576 by have h9 : (d : Int) < Wl.length := (by omega); omega) (by decide)) d_M_isSharp_19 ?_
  rw [vcl (z := d) (by omega) (by have h9 : (d : Int) < Wl.length := (by omega); omega), wld_x hwF (i := d) (by omega) (by omega)]
  refine lv_aload_n hx hb d_M_isSharp_20 rfl (lv_at hl 0 rfl) ?_
  refine gk_get X w g.1.1 (show (mSt cI mo A f v F) mo = .inr (4, _) from mS_m) rfl in_M 5 (by decide) lk_M_19 rfl d_M_isSharp_21 ?_
  refine lv_iload_n hx hb d_M_isSharp_24 rfl (lv_at hl 1 rfl) ?_
  refine gk_iald X w 0 g.1.2.2.2.2.1 (mS_5 g) rfl (vin (by omega) (show (a : Int) < 576 by have h9 : (a : Int) < Wl.length := (by omega); omega) (by decide)) d_M_isSharp_25 ?_
  rw [vcl (z := a) (by omega) (by have h9 : (a : Int) < Wl.length := (by omega); omega), wld_x hwF (i := a) (by omega) (by omega)]
  refine ri_sub (a := (pX Wl d)) (b := (pX Wl a)) hx hb d_M_isSharp_26 rfl rfl ?_
  refine ri_i2l (a := ((pX Wl d) - (pX Wl a))) hx hb d_M_isSharp_27 rfl (by have := hWb a; have := hWb b; have := hWb d; unfold i3; omega) ?_
  refine rj_mul (a := ((pX Wl b) - (pX Wl a))) (b := ((pX Wl d) - (pX Wl a))) hx hb d_M_isSharp_28 rfl rfl ?_
  refine lv_aload_n hx hb d_M_isSharp_29 rfl (lv_at hl 0 rfl) ?_
  refine gk_get X w g.1.1 (show (mSt cI mo A f v F) mo = .inr (4, _) from mS_m) rfl in_M 6 (by decide) lk_M_22 rfl d_M_isSharp_30 ?_
  refine lv_iload_n hx hb d_M_isSharp_33 rfl (lv_at hl 2 rfl) ?_
  refine gk_iald X w 0 g.1.2.2.2.2.2.1 (mS_6 g) rfl (vin (by omega) (show (b : Int) < 576 by have h9 : (b : Int) < Wl.length := (by omega); omega) (by decide)) d_M_isSharp_34 ?_
  rw [vcl (z := b) (by omega) (by have h9 : (b : Int) < Wl.length := (by omega); omega), wld_y hwF (i := b) (by omega) (by omega)]
  refine lv_aload_n hx hb d_M_isSharp_35 rfl (lv_at hl 0 rfl) ?_
  refine gk_get X w g.1.1 (show (mSt cI mo A f v F) mo = .inr (4, _) from mS_m) rfl in_M 6 (by decide) lk_M_22 rfl d_M_isSharp_36 ?_
  refine lv_iload_n hx hb d_M_isSharp_39 rfl (lv_at hl 1 rfl) ?_
  refine gk_iald X w 0 g.1.2.2.2.2.2.1 (mS_6 g) rfl (vin (by omega) (show (a : Int) < 576 by have h9 : (a : Int) < Wl.length := (by omega); omega) (by decide)) d_M_isSharp_40 ?_
  rw [vcl (z := a) (by omega) (by have h9 : (a : Int) < Wl.length := (by omega); omega), wld_y hwF (i := a) (by omega) (by omega)]
  refine ri_sub (a := (pY Wl b)) (b := (pY Wl a)) hx hb d_M_isSharp_41 rfl rfl ?_
  refine ri_i2l (a := ((pY Wl b) - (pY Wl a))) hx hb d_M_isSharp_42 rfl (by have := hWb a; have := hWb b; have := hWb d; unfold i3; omega) ?_
  refine lv_aload_n hx hb d_M_isSharp_43 rfl (lv_at hl 0 rfl) ?_
  refine gk_get X w g.1.1 (show (mSt cI mo A f v F) mo = .inr (4, _) from mS_m) rfl in_M 6 (by decide) lk_M_22 rfl d_M_isSharp_44 ?_
  refine lv_iload_n hx hb d_M_isSharp_47 rfl (lv_at hl 3 rfl) ?_
  refine gk_iald X w 0 g.1.2.2.2.2.2.1 (mS_6 g) rfl (vin (by omega) (show (d : Int) < 576 by have h9 : (d : Int) < Wl.length := (by omega); omega) (by decide)) d_M_isSharp_48 ?_
  rw [vcl (z := d) (by omega) (by have h9 : (d : Int) < Wl.length := (by omega); omega), wld_y hwF (i := d) (by omega) (by omega)]
  refine lv_aload_n hx hb d_M_isSharp_49 rfl (lv_at hl 0 rfl) ?_
  refine gk_get X w g.1.1 (show (mSt cI mo A f v F) mo = .inr (4, _) from mS_m) rfl in_M 6 (by decide) lk_M_22 rfl d_M_isSharp_50 ?_
  refine lv_iload_n hx hb d_M_isSharp_53 rfl (lv_at hl 1 rfl) ?_
  refine gk_iald X w 0 g.1.2.2.2.2.2.1 (mS_6 g) rfl (vin (by omega) (show (a : Int) < 576 by have h9 : (a : Int) < Wl.length := (by omega); omega) (by decide)) d_M_isSharp_54 ?_
  rw [vcl (z := a) (by omega) (by have h9 : (a : Int) < Wl.length := (by omega); omega), wld_y hwF (i := a) (by omega) (by omega)]
  refine ri_sub (a := (pY Wl d)) (b := (pY Wl a)) hx hb d_M_isSharp_55 rfl rfl ?_
  refine ri_i2l (a := ((pY Wl d) - (pY Wl a))) hx hb d_M_isSharp_56 rfl (by have := hWb a; have := hWb b; have := hWb d; unfold i3; omega) ?_
  refine rj_mul (a := ((pY Wl b) - (pY Wl a))) (b := ((pY Wl d) - (pY Wl a))) hx hb d_M_isSharp_57 rfl rfl ?_
  refine rj_add (a := (((pX Wl b) - (pX Wl a)) * ((pX Wl d) - (pX Wl a)))) (b := (((pY Wl b) - (pY Wl a)) * ((pY Wl d) - (pY Wl a)))) hx hb d_M_isSharp_58 rfl rfl ?_
  refine lv_lconst (v := jN (0)) hx hb d_M_isSharp_59 (by decide) ?_
  refine rj_cle (a := ((((pX Wl b) - (pX Wl a)) * ((pX Wl d) - (pX Wl a))) + (((pY Wl b) - (pY Wl a)) * ((pY Wl d) - (pY Wl a))))) (b := 0) (tgt := 68) hx hb d_M_isSharp_60 d_M_isSharp_61 (by decide) rfl rfl (by unfold i6; omega) (by unfold i6; omega) (fun c60 => ?_) (fun c60 => ?_)
  · skip
    refine lv_iconst (v := iN (0)) hx hb d_M_isSharp_68 (by decide) ?_
    exact g_zret X w hrt hlk d_M_isSharp_69 rfl ⟨by rw [bI_f (by unfold shD; omega)], rfl⟩
  · skip
    refine lv_iconst (v := iN (1)) hx hb d_M_isSharp_64 (by decide) ?_
    refine lv_goto (tgt := 69) hx hb d_M_isSharp_65 (by decide) ?_
    exact g_zret X w hrt hlk d_M_isSharp_69 rfl ⟨by rw [bI_t (by unfold shD; omega)], rfl⟩
set_option maxHeartbeats 4000000 in
set_option maxRecDepth 100000 in
theorem c_M_isRound (l : Launch) {D : va_G} {cI cR : ClassId} {L : List Nat} {f : Nat → va_E} {mo : Nat} {A : Nat → Nat} {v : Nat → Int} {F : Nat → Nat → Int} (g : mg L mo A) {Wl Hu : List Pt} (hL : mLd v F Wl Hu) (hH576 : Hu.length ≤ 576) (hHb : pb 600 Hu) (hWb : pb 300 Wl) (hW24 : Wl.length ≤ 24) {a b d : Int} (ha : 0 ≤ a ∧ a < Wl.length) (hb2 : 0 ≤ b ∧ b < Wl.length) (hd2 : 0 ≤ d ∧ d < Wl.length) : gMi D cI cR l y_M_isRound (Cond.code y_M_isRound b_M_isRound 20 (some .boolean) :: lw_g) { frames := 1, cells := 0, slots := 0, locals := 31 } [.ref mo, .int (iN (a)), .int (iN (b)), .int (iN (d))] L (mSt cI mo A f v F) (fun r u => r = iN (bI (rnd Wl a b d)) ∧ ∃ v' : Nat → Int, u = (L, mSt cI mo A f v' F) ∧ (∀ q, q < 18 → v' q = v q) ∧ (rnd Wl a b d → v' 18 = pX Wl a * rBy Wl a b d + rUx Wl a b d ∧ v' 19 = pY Wl a * rBy Wl a b d + rUy Wl a b d ∧ v' 20 = rBy Wl a b d ∧ v' 21 = rUx Wl a b d * rUx Wl a b d + rUy Wl a b d * rUy Wl a b d ∧ v' 22 = rBy Wl a b d * rBy Wl a b d)) := by
  intro sz
  refine g_enter (by decide) rfl (Nat.le_of_ble_eq_true rfl) ?_
  intro p e s m below meth cd ls X hrt hlk hnm hl hsz w
  have X : gx p m cd b_M_isRound 20 s _ "HullSumsModel" D cI cR := X
  have hx := X.1.1
  have hb := X.1.2.1
  have hl : lv_has ls 20 [(0, .ref mo), (1, .int (iN (a))), (2, .int (iN (b))), (3, .int (iN (d)))] := hl
  have hL0 := hL
  obtain ⟨h7, h10, hwF, hhF⟩ := hL
  have hB := rBy_b hWb a b d
  refine lv_ldc2 hx hb X.1.2.2.2.1 (X.1.2.2.2.2 _ lk_M_99) d_M_isRound_0 ?_
  refine lv_aload_n hx hb d_M_isRound_3 rfl (lv_at hl 0 rfl) ?_
  refine gk_get X w g.1.1 (show (mSt cI mo A f v F) mo = .inr (4, _) from mS_m) rfl in_M 5 (by decide) lk_M_19 rfl d_M_isRound_4 ?_
  refine lv_iload_n hx hb d_M_isRound_7 rfl (lv_at hl 1 rfl) ?_
  refine gk_iald X w 0 g.1.2.2.2.2.1 (mS_5 g) rfl (vin (by omega) (show (a : Int) < 576 by have h9 : (a : Int) < Wl.length := (by omega); omega) (by decide)) d_M_isRound_8 ?_
  rw [vcl (z := a) (by omega) (by have h9 : (a : Int) < Wl.length := (by omega); omega), wld_x hwF (i := a) (by omega) (by omega)]
  refine ri_i2l (a := (pX Wl a)) hx hb d_M_isRound_9 rfl (by have := hWb a; have := hWb b; have := hWb d; unfold i3; omega) ?_
  refine lv_aload_n hx hb d_M_isRound_10 rfl (lv_at hl 0 rfl) ?_
  refine gk_get X w g.1.1 (show (mSt cI mo A f v F) mo = .inr (4, _) from mS_m) rfl in_M 6 (by decide) lk_M_22 rfl d_M_isRound_11 ?_
  refine lv_iload_n hx hb d_M_isRound_14 rfl (lv_at hl 1 rfl) ?_
  refine gk_iald X w 0 g.1.2.2.2.2.2.1 (mS_6 g) rfl (vin (by omega) (show (a : Int) < 576 by have h9 : (a : Int) < Wl.length := (by omega); omega) (by decide)) d_M_isRound_15 ?_
  rw [vcl (z := a) (by omega) (by have h9 : (a : Int) < Wl.length := (by omega); omega), wld_y hwF (i := a) (by omega) (by omega)]
  refine ri_i2l (a := (pY Wl a)) hx hb d_M_isRound_16 rfl (by have := hWb a; have := hWb b; have := hWb d; unfold i3; omega) ?_
  refine lv_aload_n hx hb d_M_isRound_17 rfl (lv_at hl 0 rfl) ?_
  refine gk_get X w g.1.1 (show (mSt cI mo A f v F) mo = .inr (4, _) from mS_m) rfl in_M 5 (by decide) lk_M_19 rfl d_M_isRound_18 ?_
  refine lv_iload_n hx hb d_M_isRound_21 rfl (lv_at hl 2 rfl) ?_
  refine gk_iald X w 0 g.1.2.2.2.2.1 (mS_5 g) rfl (vin (by omega) (show (b : Int) < 576 by have h9 : (b : Int) < Wl.length := (by omega); omega) (by decide)) d_M_isRound_22 ?_
  rw [vcl (z := b) (by omega) (by have h9 : (b : Int) < Wl.length := (by omega); omega), wld_x hwF (i := b) (by omega) (by omega)]
  refine ri_i2l (a := (pX Wl b)) hx hb d_M_isRound_23 rfl (by have := hWb a; have := hWb b; have := hWb d; unfold i3; omega) ?_
  refine lv_aload_n hx hb d_M_isRound_24 rfl (lv_at hl 0 rfl) ?_
  refine gk_get X w g.1.1 (show (mSt cI mo A f v F) mo = .inr (4, _) from mS_m) rfl in_M 6 (by decide) lk_M_22 rfl d_M_isRound_25 ?_
  refine lv_iload_n hx hb d_M_isRound_28 rfl (lv_at hl 2 rfl) ?_
  refine gk_iald X w 0 g.1.2.2.2.2.2.1 (mS_6 g) rfl (vin (by omega) (show (b : Int) < 576 by have h9 : (b : Int) < Wl.length := (by omega); omega) (by decide)) d_M_isRound_29 ?_
  rw [vcl (z := b) (by omega) (by have h9 : (b : Int) < Wl.length := (by omega); omega), wld_y hwF (i := b) (by omega) (by omega)]
  refine ri_i2l (a := (pY Wl b)) hx hb d_M_isRound_30 rfl (by have := hWb a; have := hWb b; have := hWb d; unfold i3; omega) ?_
  refine lv_aload_n hx hb d_M_isRound_31 rfl (lv_at hl 0 rfl) ?_
  refine gk_get X w g.1.1 (show (mSt cI mo A f v F) mo = .inr (4, _) from mS_m) rfl in_M 5 (by decide) lk_M_19 rfl d_M_isRound_32 ?_
  refine lv_iload_n hx hb d_M_isRound_35 rfl (lv_at hl 3 rfl) ?_
  refine gk_iald X w 0 g.1.2.2.2.2.1 (mS_5 g) rfl (vin (by omega) (show (d : Int) < 576 by have h9 : (d : Int) < Wl.length := (by omega); omega) (by decide)) d_M_isRound_36 ?_
  rw [vcl (z := d) (by omega) (by have h9 : (d : Int) < Wl.length := (by omega); omega), wld_x hwF (i := d) (by omega) (by omega)]
  refine ri_i2l (a := (pX Wl d)) hx hb d_M_isRound_37 rfl (by have := hWb a; have := hWb b; have := hWb d; unfold i3; omega) ?_
  refine lv_aload_n hx hb d_M_isRound_38 rfl (lv_at hl 0 rfl) ?_
  refine gk_get X w g.1.1 (show (mSt cI mo A f v F) mo = .inr (4, _) from mS_m) rfl in_M 6 (by decide) lk_M_22 rfl d_M_isRound_39 ?_
  refine lv_iload_n hx hb d_M_isRound_42 rfl (lv_at hl 3 rfl) ?_
  refine gk_iald X w 0 g.1.2.2.2.2.2.1 (mS_6 g) rfl (vin (by omega) (show (d : Int) < 576 by have h9 : (d : Int) < Wl.length := (by omega); omega) (by decide)) d_M_isRound_43 ?_
  rw [vcl (z := d) (by omega) (by have h9 : (d : Int) < Wl.length := (by omega); omega), wld_y hwF (i := d) (by omega) (by omega)]
  refine ri_i2l (a := (pY Wl d)) hx hb d_M_isRound_44 rfl (by have := hWb a; have := hWb b; have := hWb d; unfold i3; omega) ?_
  refine g_cl w (g_runS (As := [.long (jN ((pX Wl a))), .long (jN ((pY Wl a))), .long (jN ((pX Wl b))), .long (jN ((pY Wl b))), .long (jN ((pX Wl d))), .long (jN ((pY Wl d)))]) (rest := [.long (jN (2))]) X w (c_M_turn l (px := (pX Wl a)) (py := (pY Wl a)) (ax := (pX Wl b)) (ay := (pY Wl b)) (bx := (pX Wl d)) (by_ := (pY Wl d))) k_M_turn lk_M_58 st_M_turn ⟨(Nat.le_of_ble_eq_true rfl), (Nat.le_of_ble_eq_true rfl)⟩ rfl hl.1 rfl (Nat.le_of_ble_eq_true rfl) d_M_isRound_45 ⟨Nat.zero_le _, Nat.zero_le _⟩) (fun r u H locs hp w => ?_)
  obtain ⟨rfl, rfl⟩ := hp
  have w : gw D (gA L sz) s.heap H locs L (mSt cI mo A f v F) := w
  refine rj_mul (a := 2) (b := (((pX Wl b) - (pX Wl a)) * ((pY Wl d) - (pY Wl a)) - ((pY Wl b) - (pY Wl a)) * ((pX Wl d) - (pX Wl a)))) hx hb d_M_isRound_48 rfl rfl ?_
  refine lv_lstore (lv' := [(4, .long (jN ((2 * (((pX Wl b) - (pX Wl a)) * ((pY Wl d) - (pY Wl a)) - ((pY Wl b) - (pY Wl a)) * ((pX Wl d) - (pX Wl a))))))), (0, .ref mo), (1, .int (iN (a))), (2, .int (iN (b))), (3, .int (iN (d)))]) hx hb d_M_isRound_49 hl (by decide) rfl (fun ls hl => ?_)
  have hl : lv_has ls 20 [(4, .long (jN (rBy Wl a b d))), (0, .ref mo), (1, .int (iN (a))), (2, .int (iN (b))), (3, .int (iN (d)))] := hl
  refine lv_lload hx hb d_M_isRound_51 (lv_at hl 0 rfl) ?_
  refine lv_lconst (v := jN (0)) hx hb d_M_isRound_53 (by decide) ?_
  refine rj_cle (a := rBy Wl a b d) (b := 0) (tgt := 88) hx hb d_M_isRound_54 d_M_isRound_55 (by decide) rfl rfl (by unfold i6; omega) (by unfold i6; omega) (fun c54 => ?_) (fun c54 => ?_)
  · skip
    refine lv_iconst (v := iN (0)) hx hb d_M_isRound_88 (by decide) ?_
    exact g_zret X w hrt hlk d_M_isRound_89 rfl ⟨by rw [bI_f (fun z9 => by first | (have := z9.1; omega) | exact bI_0 c65 z9.2.1 | exact bI_0 c75 z9.2.2.1 | exact bI_0 (by omega) z9.2.2.2.1)], v, rfl, fun _ _ => rfl, fun z9 => by exfalso; first | (have := z9.1; omega) | exact bI_0 c65 z9.2.1 | exact bI_0 c75 z9.2.2.1 | exact bI_0 (by omega) z9.2.2.2.1⟩
  · skip
    refine lv_aload_n hx hb d_M_isRound_58 rfl (lv_at hl 1 rfl) ?_
    refine lv_iload_n hx hb d_M_isRound_59 rfl (lv_at hl 2 rfl) ?_
    refine lv_iload_n hx hb d_M_isRound_60 rfl (lv_at hl 3 rfl) ?_
    refine lv_iload_n hx hb d_M_isRound_61 rfl (lv_at hl 4 rfl) ?_
    refine g_ci w (g_runV (As := [.int (iN (a)), .int (iN (b)), .int (iN (d))]) (rest := []) X w (c_M_isSharp l g (v := v) (F := F) hL0 hH576 hHb hWb hW24 (a := a) (b := b) (d := d) (by omega) (by omega) (by omega)) k_M_isSharp v_M_isSharp lk_M_146 g.1.1 (show mSt cI mo A f v F mo = .inr (4, _) from mS_m) rfl ⟨(Nat.le_of_ble_eq_true rfl), (Nat.le_of_ble_eq_true rfl)⟩ rfl hl.1 rfl (Nat.le_of_ble_eq_true rfl) d_M_isRound_62 ⟨Nat.zero_le _, Nat.zero_le _⟩) (fun r u H locs hp w => ?_)
    obtain ⟨rfl, rfl⟩ := hp
    have w : gw D (gA L sz) s.heap H locs L (mSt cI mo A f v F) := w
    refine ri_zeq (a := (bI (0 < shD Wl a b d))) (tgt := 88) hx hb d_M_isRound_65 (by decide) rfl (bI_3 _) (fun c65 => ?_) (fun c65 => ?_)
    · skip
      refine lv_iconst (v := iN (0)) hx hb d_M_isRound_88 (by decide) ?_
      exact g_zret X w hrt hlk d_M_isRound_89 rfl ⟨by rw [bI_f (fun z9 => by first | (have := z9.1; omega) | exact bI_0 c65 z9.2.1 | exact bI_0 c75 z9.2.2.1 | exact bI_0 (by omega) z9.2.2.2.1)], v, rfl, fun _ _ => rfl, fun z9 => by exfalso; first | (have := z9.1; omega) | exact bI_0 c65 z9.2.1 | exact bI_0 c75 z9.2.2.1 | exact bI_0 (by omega) z9.2.2.2.1⟩
    · skip
      refine lv_aload_n hx hb d_M_isRound_68 rfl (lv_at hl 1 rfl) ?_
      refine lv_iload_n hx hb d_M_isRound_69 rfl (lv_at hl 3 rfl) ?_
      refine lv_iload_n hx hb d_M_isRound_70 rfl (lv_at hl 2 rfl) ?_
      refine lv_iload_n hx hb d_M_isRound_71 rfl (lv_at hl 4 rfl) ?_
      refine g_ci w (g_runV (As := [.int (iN (b)), .int (iN (a)), .int (iN (d))]) (rest := []) X w (c_M_isSharp l g (v := v) (F := F) hL0 hH576 hHb hWb hW24 (a := b) (b := a) (d := d) (by omega) (by omega) (by omega)) k_M_isSharp v_M_isSharp lk_M_146 g.1.1 (show mSt cI mo A f v F mo = .inr (4, _) from mS_m) rfl ⟨(Nat.le_of_ble_eq_true rfl), (Nat.le_of_ble_eq_true rfl)⟩ rfl hl.1 rfl (Nat.le_of_ble_eq_true rfl) d_M_isRound_72 ⟨Nat.zero_le _, Nat.zero_le _⟩) (fun r u H locs hp w => ?_)
      obtain ⟨rfl, rfl⟩ := hp
      have w : gw D (gA L sz) s.heap H locs L (mSt cI mo A f v F) := w
      refine ri_zeq (a := (bI (0 < shD Wl b a d))) (tgt := 88) hx hb d_M_isRound_75 (by decide) rfl (bI_3 _) (fun c75 => ?_) (fun c75 => ?_)
      · skip
        refine lv_iconst (v := iN (0)) hx hb d_M_isRound_88 (by decide) ?_
        exact g_zret X w hrt hlk d_M_isRound_89 rfl ⟨by rw [bI_f (fun z9 => by first | (have := z9.1; omega) | exact bI_0 c65 z9.2.1 | exact bI_0 c75 z9.2.2.1 | exact bI_0 (by omega) z9.2.2.2.1)], v, rfl, fun _ _ => rfl, fun z9 => by exfalso; first | (have := z9.1; omega) | exact bI_0 c65 z9.2.1 | exact bI_0 c75 z9.2.2.1 | exact bI_0 (by omega) z9.2.2.2.1⟩
      · skip
        refine lv_aload_n hx hb d_M_isRound_78 rfl (lv_at hl 1 rfl) ?_
        refine lv_iload_n hx hb d_M_isRound_79 rfl (lv_at hl 4 rfl) ?_
        refine lv_iload_n hx hb d_M_isRound_80 rfl (lv_at hl 2 rfl) ?_
        refine lv_iload_n hx hb d_M_isRound_81 rfl (lv_at hl 3 rfl) ?_
        refine g_ci w (g_runV (As := [.int (iN (d)), .int (iN (a)), .int (iN (b))]) (rest := []) X w (c_M_isSharp l g (v := v) (F := F) hL0 hH576 hHb hWb hW24 (a := d) (b := a) (d := b) (by omega) (by omega) (by omega)) k_M_isSharp v_M_isSharp lk_M_146 g.1.1 (show mSt cI mo A f v F mo = .inr (4, _) from mS_m) rfl ⟨(Nat.le_of_ble_eq_true rfl), (Nat.le_of_ble_eq_true rfl)⟩ rfl hl.1 rfl (Nat.le_of_ble_eq_true rfl) d_M_isRound_82 ⟨Nat.zero_le _, Nat.zero_le _⟩) (fun r u H locs hp w => ?_)
        obtain ⟨rfl, rfl⟩ := hp
        have w : gw D (gA L sz) s.heap H locs L (mSt cI mo A f v F) := w
        refine ri_zne (a := (bI (0 < shD Wl d a b))) (tgt := 90) hx hb d_M_isRound_85 (by decide) rfl (bI_3 _) (fun c85 => ?_) (fun c85 => ?_)
        · skip
          refine lv_aload_n hx hb d_M_isRound_90 rfl (lv_at hl 1 rfl) ?_
          refine gk_get X w g.1.1 (show (mSt cI mo A f v F) mo = .inr (4, _) from mS_m) rfl in_M 5 (by decide) lk_M_19 rfl d_M_isRound_91 ?_
          refine lv_iload_n hx hb d_M_isRound_94 rfl (lv_at hl 2 rfl) ?_
          refine gk_iald X w 0 g.1.2.2.2.2.1 (mS_5 g) rfl (vin (by omega) (show (a : Int) < 576 by have h9 : (a : Int) < Wl.length := (by omega); omega) (by decide)) d_M_isRound_95 ?_
          rw [vcl (z := a) (by omega) (by have h9 : (a : Int) < Wl.length := (by omega); omega), wld_x hwF (i := a) (by omega) (by omega)]
          refine ri_i2l (a := (pX Wl a)) hx hb d_M_isRound_96 rfl (by have := hWb a; have := hWb b; have := hWb d; unfold i3; omega) ?_
          refine lv_aload_n hx hb d_M_isRound_97 rfl (lv_at hl 1 rfl) ?_
          refine gk_get X w g.1.1 (show (mSt cI mo A f v F) mo = .inr (4, _) from mS_m) rfl in_M 6 (by decide) lk_M_22 rfl d_M_isRound_98 ?_
          refine lv_iload_n hx hb d_M_isRound_101 rfl (lv_at hl 2 rfl) ?_
          refine gk_iald X w 0 g.1.2.2.2.2.2.1 (mS_6 g) rfl (vin (by omega) (show (a : Int) < 576 by have h9 : (a : Int) < Wl.length := (by omega); omega) (by decide)) d_M_isRound_102 ?_
          rw [vcl (z := a) (by omega) (by have h9 : (a : Int) < Wl.length := (by omega); omega), wld_y hwF (i := a) (by omega) (by omega)]
          refine ri_i2l (a := (pY Wl a)) hx hb d_M_isRound_103 rfl (by have := hWb a; have := hWb b; have := hWb d; unfold i3; omega) ?_
          refine lv_aload_n hx hb d_M_isRound_104 rfl (lv_at hl 1 rfl) ?_
          refine gk_get X w g.1.1 (show (mSt cI mo A f v F) mo = .inr (4, _) from mS_m) rfl in_M 5 (by decide) lk_M_19 rfl d_M_isRound_105 ?_
          refine lv_iload_n hx hb d_M_isRound_108 rfl (lv_at hl 3 rfl) ?_
          refine gk_iald X w 0 g.1.2.2.2.2.1 (mS_5 g) rfl (vin (by omega) (show (b : Int) < 576 by have h9 : (b : Int) < Wl.length := (by omega); omega) (by decide)) d_M_isRound_109 ?_
          rw [vcl (z := b) (by omega) (by have h9 : (b : Int) < Wl.length := (by omega); omega), wld_x hwF (i := b) (by omega) (by omega)]
          refine ri_i2l (a := (pX Wl b)) hx hb d_M_isRound_110 rfl (by have := hWb a; have := hWb b; have := hWb d; unfold i3; omega) ?_
          refine lv_aload_n hx hb d_M_isRound_111 rfl (lv_at hl 1 rfl) ?_
          refine gk_get X w g.1.1 (show (mSt cI mo A f v F) mo = .inr (4, _) from mS_m) rfl in_M 6 (by decide) lk_M_22 rfl d_M_isRound_112 ?_
          refine lv_iload_n hx hb d_M_isRound_115 rfl (lv_at hl 3 rfl) ?_
          refine gk_iald X w 0 g.1.2.2.2.2.2.1 (mS_6 g) rfl (vin (by omega) (show (b : Int) < 576 by have h9 : (b : Int) < Wl.length := (by omega); omega) (by decide)) d_M_isRound_116 ?_
          rw [vcl (z := b) (by omega) (by have h9 : (b : Int) < Wl.length := (by omega); omega), wld_y hwF (i := b) (by omega) (by omega)]
          refine ri_i2l (a := (pY Wl b)) hx hb d_M_isRound_117 rfl (by have := hWb a; have := hWb b; have := hWb d; unfold i3; omega) ?_
          refine g_cl w (g_runS (As := [.long (jN ((pX Wl a))), .long (jN ((pY Wl a))), .long (jN ((pX Wl b))), .long (jN ((pY Wl b)))]) (rest := []) X w (c_M_square l (px := (pX Wl a)) (py := (pY Wl a)) (ax := (pX Wl b)) (ay := (pY Wl b))) k_M_square lk_M_62 st_M_square ⟨(Nat.le_of_ble_eq_true rfl), (Nat.le_of_ble_eq_true rfl)⟩ rfl hl.1 rfl (Nat.le_of_ble_eq_true rfl) d_M_isRound_118 ⟨Nat.zero_le _, Nat.zero_le _⟩) (fun r u H locs hp w => ?_)
          obtain ⟨rfl, rfl⟩ := hp
          have w : gw D (gA L sz) s.heap H locs L (mSt cI mo A f v F) := w
          refine lv_lstore (lv' := [(6, .long (jN ((((pX Wl a) - (pX Wl b)) * ((pX Wl a) - (pX Wl b)) + ((pY Wl a) - (pY Wl b)) * ((pY Wl a) - (pY Wl b)))))), (4, .long (jN (rBy Wl a b d))), (0, .ref mo), (1, .int (iN (a))), (2, .int (iN (b))), (3, .int (iN (d)))]) hx hb d_M_isRound_121 hl (by decide) rfl (fun ls hl => ?_)
          have hl : lv_has ls 20 [(6, .long (jN (sq Wl a b))), (4, .long (jN (rBy Wl a b d))), (0, .ref mo), (1, .int (iN (a))), (2, .int (iN (b))), (3, .int (iN (d)))] := hl
          refine lv_aload_n hx hb d_M_isRound_123 rfl (lv_at hl 2 rfl) ?_
          refine gk_get X w g.1.1 (show (mSt cI mo A f v F) mo = .inr (4, _) from mS_m) rfl in_M 5 (by decide) lk_M_19 rfl d_M_isRound_124 ?_
          refine lv_iload_n hx hb d_M_isRound_127 rfl (lv_at hl 3 rfl) ?_
          refine gk_iald X w 0 g.1.2.2.2.2.1 (mS_5 g) rfl (vin (by omega) (show (a : Int) < 576 by have h9 : (a : Int) < Wl.length := (by omega); omega) (by decide)) d_M_isRound_128 ?_
          rw [vcl (z := a) (by omega) (by have h9 : (a : Int) < Wl.length := (by omega); omega), wld_x hwF (i := a) (by omega) (by omega)]
          refine ri_i2l (a := (pX Wl a)) hx hb d_M_isRound_129 rfl (by have := hWb a; have := hWb b; have := hWb d; unfold i3; omega) ?_
          refine lv_aload_n hx hb d_M_isRound_130 rfl (lv_at hl 2 rfl) ?_
          refine gk_get X w g.1.1 (show (mSt cI mo A f v F) mo = .inr (4, _) from mS_m) rfl in_M 6 (by decide) lk_M_22 rfl d_M_isRound_131 ?_
          refine lv_iload_n hx hb d_M_isRound_134 rfl (lv_at hl 3 rfl) ?_
          refine gk_iald X w 0 g.1.2.2.2.2.2.1 (mS_6 g) rfl (vin (by omega) (show (a : Int) < 576 by have h9 : (a : Int) < Wl.length := (by omega); omega) (by decide)) d_M_isRound_135 ?_
          rw [vcl (z := a) (by omega) (by have h9 : (a : Int) < Wl.length := (by omega); omega), wld_y hwF (i := a) (by omega) (by omega)]
          refine ri_i2l (a := (pY Wl a)) hx hb d_M_isRound_136 rfl (by have := hWb a; have := hWb b; have := hWb d; unfold i3; omega) ?_
          refine lv_aload_n hx hb d_M_isRound_137 rfl (lv_at hl 2 rfl) ?_
          refine gk_get X w g.1.1 (show (mSt cI mo A f v F) mo = .inr (4, _) from mS_m) rfl in_M 5 (by decide) lk_M_19 rfl d_M_isRound_138 ?_
          refine lv_iload_n hx hb d_M_isRound_141 rfl (lv_at hl 5 rfl) ?_
          refine gk_iald X w 0 g.1.2.2.2.2.1 (mS_5 g) rfl (vin (by omega) (show (d : Int) < 576 by have h9 : (d : Int) < Wl.length := (by omega); omega) (by decide)) d_M_isRound_142 ?_
          rw [vcl (z := d) (by omega) (by have h9 : (d : Int) < Wl.length := (by omega); omega), wld_x hwF (i := d) (by omega) (by omega)]
          refine ri_i2l (a := (pX Wl d)) hx hb d_M_isRound_143 rfl (by have := hWb a; have := hWb b; have := hWb d; unfold i3; omega) ?_
          refine lv_aload_n hx hb d_M_isRound_144 rfl (lv_at hl 2 rfl) ?_
          refine gk_get X w g.1.1 (show (mSt cI mo A f v F) mo = .inr (4, _) from mS_m) rfl in_M 6 (by decide) lk_M_22 rfl d_M_isRound_145 ?_
          refine lv_iload_n hx hb d_M_isRound_148 rfl (lv_at hl 5 rfl) ?_
          refine gk_iald X w 0 g.1.2.2.2.2.2.1 (mS_6 g) rfl (vin (by omega) (show (d : Int) < 576 by have h9 : (d : Int) < Wl.length := (by omega); omega) (by decide)) d_M_isRound_149 ?_
          rw [vcl (z := d) (by omega) (by have h9 : (d : Int) < Wl.length := (by omega); omega), wld_y hwF (i := d) (by omega) (by omega)]
          refine ri_i2l (a := (pY Wl d)) hx hb d_M_isRound_150 rfl (by have := hWb a; have := hWb b; have := hWb d; unfold i3; omega) ?_
          refine g_cl w (g_runS (As := [.long (jN ((pX Wl a))), .long (jN ((pY Wl a))), .long (jN ((pX Wl d))), .long (jN ((pY Wl d)))]) (rest := []) X w (c_M_square l (px := (pX Wl a)) (py := (pY Wl a)) (ax := (pX Wl d)) (ay := (pY Wl d))) k_M_square lk_M_62 st_M_square ⟨(Nat.le_of_ble_eq_true rfl), (Nat.le_of_ble_eq_true rfl)⟩ rfl hl.1 rfl (Nat.le_of_ble_eq_true rfl) d_M_isRound_151 ⟨Nat.zero_le _, Nat.zero_le _⟩) (fun r u H locs hp w => ?_)
          obtain ⟨rfl, rfl⟩ := hp
          have w : gw D (gA L sz) s.heap H locs L (mSt cI mo A f v F) := w
          refine lv_lstore (lv' := [(8, .long (jN ((((pX Wl a) - (pX Wl d)) * ((pX Wl a) - (pX Wl d)) + ((pY Wl a) - (pY Wl d)) * ((pY Wl a) - (pY Wl d)))))), (6, .long (jN (sq Wl a b))), (4, .long (jN (rBy Wl a b d))), (0, .ref mo), (1, .int (iN (a))), (2, .int (iN (b))), (3, .int (iN (d)))]) hx hb d_M_isRound_154 hl (by decide) rfl (fun ls hl => ?_)
          have hl : lv_has ls 20 [(8, .long (jN (sq Wl a d))), (6, .long (jN (sq Wl a b))), (4, .long (jN (rBy Wl a b d))), (0, .ref mo), (1, .int (iN (a))), (2, .int (iN (b))), (3, .int (iN (d)))] := hl
          refine lv_lload hx hb d_M_isRound_156 (lv_at hl 1 rfl) ?_
          refine lv_aload_n hx hb d_M_isRound_158 rfl (lv_at hl 3 rfl) ?_
          refine gk_get X w g.1.1 (show (mSt cI mo A f v F) mo = .inr (4, _) from mS_m) rfl in_M 6 (by decide) lk_M_22 rfl d_M_isRound_159 ?_
          refine lv_iload_n hx hb d_M_isRound_162 rfl (lv_at hl 6 rfl) ?_
          refine gk_iald X w 0 g.1.2.2.2.2.2.1 (mS_6 g) rfl (vin (by omega) (show (d : Int) < 576 by have h9 : (d : Int) < Wl.length := (by omega); omega) (by decide)) d_M_isRound_163 ?_
          rw [vcl (z := d) (by omega) (by have h9 : (d : Int) < Wl.length := (by omega); omega), wld_y hwF (i := d) (by omega) (by omega)]
          refine lv_aload_n hx hb d_M_isRound_164 rfl (lv_at hl 3 rfl) ?_
          refine gk_get X w g.1.1 (show (mSt cI mo A f v F) mo = .inr (4, _) from mS_m) rfl in_M 6 (by decide) lk_M_22 rfl d_M_isRound_165 ?_
          refine lv_iload_n hx hb d_M_isRound_168 rfl (lv_at hl 4 rfl) ?_
          refine gk_iald X w 0 g.1.2.2.2.2.2.1 (mS_6 g) rfl (vin (by omega) (show (a : Int) < 576 by have h9 : (a : Int) < Wl.length := (by omega); omega) (by decide)) d_M_isRound_169 ?_
          rw [vcl (z := a) (by omega) (by have h9 : (a : Int) < Wl.length := (by omega); omega), wld_y hwF (i := a) (by omega) (by omega)]
          refine ri_sub (a := (pY Wl d)) (b := (pY Wl a)) hx hb d_M_isRound_170 rfl rfl ?_
          refine ri_i2l (a := ((pY Wl d) - (pY Wl a))) hx hb d_M_isRound_171 rfl (by have := hWb a; have := hWb b; have := hWb d; unfold i3; omega) ?_
          refine rj_mul (a := sq Wl a b) (b := ((pY Wl d) - (pY Wl a))) hx hb d_M_isRound_172 rfl rfl ?_
          refine lv_lload hx hb d_M_isRound_173 (lv_at hl 0 rfl) ?_
          refine lv_aload_n hx hb d_M_isRound_175 rfl (lv_at hl 3 rfl) ?_
          refine gk_get X w g.1.1 (show (mSt cI mo A f v F) mo = .inr (4, _) from mS_m) rfl in_M 6 (by decide) lk_M_22 rfl d_M_isRound_176 ?_
          refine lv_iload_n hx hb d_M_isRound_179 rfl (lv_at hl 5 rfl) ?_
          refine gk_iald X w 0 g.1.2.2.2.2.2.1 (mS_6 g) rfl (vin (by omega) (show (b : Int) < 576 by have h9 : (b : Int) < Wl.length := (by omega); omega) (by decide)) d_M_isRound_180 ?_
          rw [vcl (z := b) (by omega) (by have h9 : (b : Int) < Wl.length := (by omega); omega), wld_y hwF (i := b) (by omega) (by omega)]
          refine lv_aload_n hx hb d_M_isRound_181 rfl (lv_at hl 3 rfl) ?_
          refine gk_get X w g.1.1 (show (mSt cI mo A f v F) mo = .inr (4, _) from mS_m) rfl in_M 6 (by decide) lk_M_22 rfl d_M_isRound_182 ?_
          refine lv_iload_n hx hb d_M_isRound_185 rfl (lv_at hl 4 rfl) ?_
          refine gk_iald X w 0 g.1.2.2.2.2.2.1 (mS_6 g) rfl (vin (by omega) (show (a : Int) < 576 by have h9 : (a : Int) < Wl.length := (by omega); omega) (by decide)) d_M_isRound_186 ?_
          rw [vcl (z := a) (by omega) (by have h9 : (a : Int) < Wl.length := (by omega); omega), wld_y hwF (i := a) (by omega) (by omega)]
          refine ri_sub (a := (pY Wl b)) (b := (pY Wl a)) hx hb d_M_isRound_187 rfl rfl ?_
          refine ri_i2l (a := ((pY Wl b) - (pY Wl a))) hx hb d_M_isRound_188 rfl (by have := hWb a; have := hWb b; have := hWb d; unfold i3; omega) ?_
          refine rj_mul (a := sq Wl a d) (b := ((pY Wl b) - (pY Wl a))) hx hb d_M_isRound_189 rfl rfl ?_
          refine rj_sub (a := (sq Wl a b * ((pY Wl d) - (pY Wl a)))) (b := (sq Wl a d * ((pY Wl b) - (pY Wl a)))) hx hb d_M_isRound_190 rfl rfl ?_
          refine lv_lstore (lv' := [(10, .long (jN (((sq Wl a b * ((pY Wl d) - (pY Wl a))) - (sq Wl a d * ((pY Wl b) - (pY Wl a))))))), (8, .long (jN (sq Wl a d))), (6, .long (jN (sq Wl a b))), (4, .long (jN (rBy Wl a b d))), (0, .ref mo), (1, .int (iN (a))), (2, .int (iN (b))), (3, .int (iN (d)))]) hx hb d_M_isRound_191 hl (by decide) rfl (fun ls hl => ?_)
          have hl : lv_has ls 20 [(10, .long (jN (rUx Wl a b d))), (8, .long (jN (sq Wl a d))), (6, .long (jN (sq Wl a b))), (4, .long (jN (rBy Wl a b d))), (0, .ref mo), (1, .int (iN (a))), (2, .int (iN (b))), (3, .int (iN (d)))] := hl
          refine lv_lload hx hb d_M_isRound_193 (lv_at hl 1 rfl) ?_
          refine lv_aload_n hx hb d_M_isRound_195 rfl (lv_at hl 4 rfl) ?_
          refine gk_get X w g.1.1 (show (mSt cI mo A f v F) mo = .inr (4, _) from mS_m) rfl in_M 5 (by decide) lk_M_19 rfl d_M_isRound_196 ?_
          refine lv_iload_n hx hb d_M_isRound_199 rfl (lv_at hl 6 rfl) ?_
          refine gk_iald X w 0 g.1.2.2.2.2.1 (mS_5 g) rfl (vin (by omega) (show (b : Int) < 576 by have h9 : (b : Int) < Wl.length := (by omega); omega) (by decide)) d_M_isRound_200 ?_
          rw [vcl (z := b) (by omega) (by have h9 : (b : Int) < Wl.length := (by omega); omega), wld_x hwF (i := b) (by omega) (by omega)]
          refine lv_aload_n hx hb d_M_isRound_201 rfl (lv_at hl 4 rfl) ?_
          refine gk_get X w g.1.1 (show (mSt cI mo A f v F) mo = .inr (4, _) from mS_m) rfl in_M 5 (by decide) lk_M_19 rfl d_M_isRound_202 ?_
          refine lv_iload_n hx hb d_M_isRound_205 rfl (lv_at hl 5 rfl) ?_
          refine gk_iald X w 0 g.1.2.2.2.2.1 (mS_5 g) rfl (vin (by omega) (show (a : Int) < 576 by have h9 : (a : Int) < Wl.length := (by omega); omega) (by decide)) d_M_isRound_206 ?_
          rw [vcl (z := a) (by omega) (by have h9 : (a : Int) < Wl.length := (by omega); omega), wld_x hwF (i := a) (by omega) (by omega)]
          refine ri_sub (a := (pX Wl b)) (b := (pX Wl a)) hx hb d_M_isRound_207 rfl rfl ?_
          refine ri_i2l (a := ((pX Wl b) - (pX Wl a))) hx hb d_M_isRound_208 rfl (by have := hWb a; have := hWb b; have := hWb d; unfold i3; omega) ?_
          refine rj_mul (a := sq Wl a d) (b := ((pX Wl b) - (pX Wl a))) hx hb d_M_isRound_209 rfl rfl ?_
          refine lv_lload hx hb d_M_isRound_210 (lv_at hl 2 rfl) ?_
          refine lv_aload_n hx hb d_M_isRound_212 rfl (lv_at hl 4 rfl) ?_
          refine gk_get X w g.1.1 (show (mSt cI mo A f v F) mo = .inr (4, _) from mS_m) rfl in_M 5 (by decide) lk_M_19 rfl d_M_isRound_213 ?_
          refine lv_iload_n hx hb d_M_isRound_216 rfl (lv_at hl 7 rfl) ?_
          refine gk_iald X w 0 g.1.2.2.2.2.1 (mS_5 g) rfl (vin (by omega) (show (d : Int) < 576 by have h9 : (d : Int) < Wl.length := (by omega); omega) (by decide)) d_M_isRound_217 ?_
          rw [vcl (z := d) (by omega) (by have h9 : (d : Int) < Wl.length := (by omega); omega), wld_x hwF (i := d) (by omega) (by omega)]
          refine lv_aload_n hx hb d_M_isRound_218 rfl (lv_at hl 4 rfl) ?_
          refine gk_get X w g.1.1 (show (mSt cI mo A f v F) mo = .inr (4, _) from mS_m) rfl in_M 5 (by decide) lk_M_19 rfl d_M_isRound_219 ?_
          refine lv_iload_n hx hb d_M_isRound_222 rfl (lv_at hl 5 rfl) ?_
          refine gk_iald X w 0 g.1.2.2.2.2.1 (mS_5 g) rfl (vin (by omega) (show (a : Int) < 576 by have h9 : (a : Int) < Wl.length := (by omega); omega) (by decide)) d_M_isRound_223 ?_
          rw [vcl (z := a) (by omega) (by have h9 : (a : Int) < Wl.length := (by omega); omega), wld_x hwF (i := a) (by omega) (by omega)]
          refine ri_sub (a := (pX Wl d)) (b := (pX Wl a)) hx hb d_M_isRound_224 rfl rfl ?_
          refine ri_i2l (a := ((pX Wl d) - (pX Wl a))) hx hb d_M_isRound_225 rfl (by have := hWb a; have := hWb b; have := hWb d; unfold i3; omega) ?_
          refine rj_mul (a := sq Wl a b) (b := ((pX Wl d) - (pX Wl a))) hx hb d_M_isRound_226 rfl rfl ?_
          refine rj_sub (a := (sq Wl a d * ((pX Wl b) - (pX Wl a)))) (b := (sq Wl a b * ((pX Wl d) - (pX Wl a)))) hx hb d_M_isRound_227 rfl rfl ?_
          refine lv_lstore (lv' := [(12, .long (jN (((sq Wl a d * ((pX Wl b) - (pX Wl a))) - (sq Wl a b * ((pX Wl d) - (pX Wl a))))))), (10, .long (jN (rUx Wl a b d))), (8, .long (jN (sq Wl a d))), (6, .long (jN (sq Wl a b))), (4, .long (jN (rBy Wl a b d))), (0, .ref mo), (1, .int (iN (a))), (2, .int (iN (b))), (3, .int (iN (d)))]) hx hb d_M_isRound_228 hl (by decide) rfl (fun ls hl => ?_)
          have hl : lv_has ls 20 [(12, .long (jN (rUy Wl a b d))), (10, .long (jN (rUx Wl a b d))), (8, .long (jN (sq Wl a d))), (6, .long (jN (sq Wl a b))), (4, .long (jN (rBy Wl a b d))), (0, .ref mo), (1, .int (iN (a))), (2, .int (iN (b))), (3, .int (iN (d)))] := hl
          refine lv_iconst (v := iN (1)) hx hb d_M_isRound_230 (by decide) ?_
          refine lv_istore (lv' := [(14, .int (iN (1))), (12, .long (jN (rUy Wl a b d))), (10, .long (jN (rUx Wl a b d))), (8, .long (jN (sq Wl a d))), (6, .long (jN (sq Wl a b))), (4, .long (jN (rBy Wl a b d))), (0, .ref mo), (1, .int (iN (a))), (2, .int (iN (b))), (3, .int (iN (d)))]) hx hb d_M_isRound_231 hl (by decide) rfl (fun ls hl => ?_)
          have hal : (1 : Int) = bI (rAl Wl a b d 0) := (bI_t (fun _ q0 q1 => by omega)).symm
          have hl : lv_has ls 20 [(14, .int (iN (bI (rAl Wl a b d 0)))), (12, .long (jN (rUy Wl a b d))), (10, .long (jN (rUx Wl a b d))), (8, .long (jN (sq Wl a d))), (6, .long (jN (sq Wl a b))), (4, .long (jN (rBy Wl a b d))), (0, .ref mo), (1, .int (iN (a))), (2, .int (iN (b))), (3, .int (iN (d)))] := by rw [← hal]; exact hl
          refine lv_iconst (v := iN (0)) hx hb d_M_isRound_233 (by decide) ?_
          refine lv_istore (lv' := [(15, .int (iN (0))), (14, .int (iN (bI (rAl Wl a b d 0)))), (12, .long (jN (rUy Wl a b d))), (10, .long (jN (rUx Wl a b d))), (8, .long (jN (sq Wl a d))), (6, .long (jN (sq Wl a b))), (4, .long (jN (rBy Wl a b d))), (0, .ref mo), (1, .int (iN (a))), (2, .int (iN (b))), (3, .int (iN (d)))]) hx hb d_M_isRound_234 hl (by decide) rfl (fun ls hl => ?_)
          refine g_loop (σ := Int) (fun z9 => ((Wl.length : Int) - z9).toNat) (fun z9 => [(0, .ref mo), (1, .int (iN (a))), (2, .int (iN (b))), (3, .int (iN (d))), (4, .long (jN (rBy Wl a b d))), (10, .long (jN (rUx Wl a b d))), (12, .long (jN (rUy Wl a b d))), (14, .int (iN (bI (rAl Wl a b d z9)))), (15, .int (iN (z9)))]) L (fun z9 => (mSt cI mo A f v F)) (fun z9 => 0 ≤ z9 ∧ z9 ≤ Wl.length) ?_ 0 _ _ _ ⟨by omega, by omega⟩ w (lv_sub hl [7, 8, 9, 10, 6, 3, 2, 1, 0] rfl)
          intro k H locs ls hI w hl ih
          have hl : lv_has ls 20 [(0, .ref mo), (1, .int (iN (a))), (2, .int (iN (b))), (3, .int (iN (d))), (4, .long (jN (rBy Wl a b d))), (10, .long (jN (rUx Wl a b d))), (12, .long (jN (rUy Wl a b d))), (14, .int (iN (bI (rAl Wl a b d k)))), (15, .int (iN (k)))] := hl
          have w : gw D (gA L sz) s.heap H locs L ((mSt cI mo A f v F)) := w
          have hI : 0 ≤ k ∧ k ≤ Wl.length := hI
          obtain ⟨h0, h1⟩ := hI
          have h6 := rLR_6 hWb a b d k
          refine lv_iload hx hb d_M_isRound_236 (lv_at hl 8 rfl) ?_
          refine lv_aload_n hx hb d_M_isRound_238 rfl (lv_at hl 0 rfl) ?_
          refine gk_get X w g.1.1 (show (mSt cI mo A f v F) mo = .inr (4, _) from mS_m) rfl in_M 7 (by decide) lk_M_45 rfl d_M_isRound_239 ?_
          rw [show v 7 = (Wl.length : Int) from h7]
          refine ri_cge (a := k) (b := (Wl.length : Int)) (tgt := 330) hx hb d_M_isRound_242 (by decide) rfl rfl (by unfold i3; omega) (by unfold i3; omega) (fun c242 => ?_) (fun c242 => ?_)
          · skip
            refine lv_aload_n hx hb d_M_isRound_330 rfl (lv_at hl 0 rfl) ?_
            refine lv_aload_n hx hb d_M_isRound_331 rfl (lv_at hl 0 rfl) ?_
            refine gk_get X w g.1.1 (show (mSt cI mo A f v F) mo = .inr (4, _) from mS_m) rfl in_M 5 (by decide) lk_M_19 rfl d_M_isRound_332 ?_
            refine lv_iload_n hx hb d_M_isRound_335 rfl (lv_at hl 1 rfl) ?_
            refine gk_iald X w 0 g.1.2.2.2.2.1 (mS_5 g) rfl (vin (by omega) (show (a : Int) < 576 by have h9 : (a : Int) < Wl.length := (by omega); omega) (by decide)) d_M_isRound_336 ?_
            rw [vcl (z := a) (by omega) (by have h9 : (a : Int) < Wl.length := (by omega); omega), wld_x hwF (i := a) (by omega) (by omega)]
            refine ri_i2l (a := (pX Wl a)) hx hb d_M_isRound_337 rfl (by have := hWb a; have := hWb b; have := hWb d; unfold i3; omega) ?_
            refine lv_lload hx hb d_M_isRound_338 (lv_at hl 4 rfl) ?_
            refine rj_mul (a := (pX Wl a)) (b := rBy Wl a b d) hx hb d_M_isRound_340 rfl rfl ?_
            refine lv_lload hx hb d_M_isRound_341 (lv_at hl 5 rfl) ?_
            refine rj_add (a := ((pX Wl a) * rBy Wl a b d)) (b := rUx Wl a b d) hx hb d_M_isRound_343 rfl rfl ?_
            refine gk_put X w g.1.1 (show (mSt cI mo A f v F) mo = .inr (4, _) from mS_m) rfl in_M ty_M tyok_M nm_M 18 (by decide) lk_M_149 rfl (ty := .long) (by decide +kernel) rfl rfl (Nat.le_of_ble_eq_true rfl) d_M_isRound_344 (fun H locs w => ?_)
            obtain ⟨v1, hv1⟩ : ∃ q : Nat → Int, q = va_up v 18 ((((pX Wl a) * rBy Wl a b d) + rUx Wl a b d)) := ⟨_, rfl⟩
            have v1s : v1 18 = (((pX Wl a) * rBy Wl a b d) + rUx Wl a b d) := by rw [hv1, va_up_self]
            have v1n : ∀ j, j ≠ 18 → v1 j = v j := fun j hj => by rw [hv1, va_up_ne _ _ hj]
            have w : gw D (gA L sz) s.heap H locs L (mSt cI mo A f v1 F) := by rw [hv1, ← mU_m (v := v)]; exact w
            refine lv_aload_n hx hb d_M_isRound_347 rfl (lv_at hl 0 rfl) ?_
            refine lv_aload_n hx hb d_M_isRound_348 rfl (lv_at hl 0 rfl) ?_
            refine gk_get X w g.1.1 (show (mSt cI mo A f v1 F) mo = .inr (4, _) from mS_m) rfl in_M 6 (by decide) lk_M_22 rfl d_M_isRound_349 ?_
            refine lv_iload_n hx hb d_M_isRound_352 rfl (lv_at hl 1 rfl) ?_
            refine gk_iald X w 0 g.1.2.2.2.2.2.1 (mS_6 g) rfl (vin (by omega) (show (a : Int) < 576 by have h9 : (a : Int) < Wl.length := (by omega); omega) (by decide)) d_M_isRound_353 ?_
            rw [vcl (z := a) (by omega) (by have h9 : (a : Int) < Wl.length := (by omega); omega), wld_y hwF (i := a) (by omega) (by omega)]
            refine ri_i2l (a := (pY Wl a)) hx hb d_M_isRound_354 rfl (by have := hWb a; have := hWb b; have := hWb d; unfold i3; omega) ?_
            refine lv_lload hx hb d_M_isRound_355 (lv_at hl 4 rfl) ?_
            refine rj_mul (a := (pY Wl a)) (b := rBy Wl a b d) hx hb d_M_isRound_357 rfl rfl ?_
            refine lv_lload hx hb d_M_isRound_358 (lv_at hl 6 rfl) ?_
            refine rj_add (a := ((pY Wl a) * rBy Wl a b d)) (b := rUy Wl a b d) hx hb d_M_isRound_360 rfl rfl ?_
            refine gk_put X w g.1.1 (show (mSt cI mo A f v1 F) mo = .inr (4, _) from mS_m) rfl in_M ty_M tyok_M nm_M 19 (by decide) lk_M_152 rfl (ty := .long) (by decide +kernel) rfl rfl (Nat.le_of_ble_eq_true rfl) d_M_isRound_361 (fun H locs w => ?_)
            obtain ⟨v2, hv2⟩ : ∃ q : Nat → Int, q = va_up v1 19 ((((pY Wl a) * rBy Wl a b d) + rUy Wl a b d)) := ⟨_, rfl⟩
            have v2s : v2 19 = (((pY Wl a) * rBy Wl a b d) + rUy Wl a b d) := by rw [hv2, va_up_self]
            have v2n : ∀ j, j ≠ 19 → v2 j = v1 j := fun j hj => by rw [hv2, va_up_ne _ _ hj]
            have w : gw D (gA L sz) s.heap H locs L (mSt cI mo A f v2 F) := by rw [hv2, ← mU_m (v := v1)]; exact w
            refine lv_aload_n hx hb d_M_isRound_364 rfl (lv_at hl 0 rfl) ?_
            refine lv_lload hx hb d_M_isRound_365 (lv_at hl 4 rfl) ?_
            refine gk_put X w g.1.1 (show (mSt cI mo A f v2 F) mo = .inr (4, _) from mS_m) rfl in_M ty_M tyok_M nm_M 20 (by decide) lk_M_155 rfl (ty := .long) (by decide +kernel) rfl rfl (Nat.le_of_ble_eq_true rfl) d_M_isRound_367 (fun H locs w => ?_)
            obtain ⟨v3, hv3⟩ : ∃ q : Nat → Int, q = va_up v2 20 (rBy Wl a b d) := ⟨_, rfl⟩
            have v3s : v3 20 = rBy Wl a b d := by rw [hv3, va_up_self]
            have v3n : ∀ j, j ≠ 20 → v3 j = v2 j := fun j hj => by rw [hv3, va_up_ne _ _ hj]
            have w : gw D (gA L sz) s.heap H locs L (mSt cI mo A f v3 F) := by rw [hv3, ← mU_m (v := v2)]; exact w
            refine lv_aload_n hx hb d_M_isRound_370 rfl (lv_at hl 0 rfl) ?_
            refine lv_lload hx hb d_M_isRound_371 (lv_at hl 5 rfl) ?_
            refine lv_lload hx hb d_M_isRound_373 (lv_at hl 5 rfl) ?_
            refine rj_mul (a := rUx Wl a b d) (b := rUx Wl a b d) hx hb d_M_isRound_375 rfl rfl ?_
            refine lv_lload hx hb d_M_isRound_376 (lv_at hl 6 rfl) ?_
            refine lv_lload hx hb d_M_isRound_378 (lv_at hl 6 rfl) ?_
            refine rj_mul (a := rUy Wl a b d) (b := rUy Wl a b d) hx hb d_M_isRound_380 rfl rfl ?_
            refine rj_add (a := (rUx Wl a b d * rUx Wl a b d)) (b := (rUy Wl a b d * rUy Wl a b d)) hx hb d_M_isRound_381 rfl rfl ?_
            refine gk_put X w g.1.1 (show (mSt cI mo A f v3 F) mo = .inr (4, _) from mS_m) rfl in_M ty_M tyok_M nm_M 21 (by decide) lk_M_158 rfl (ty := .long) (by decide +kernel) rfl rfl (Nat.le_of_ble_eq_true rfl) d_M_isRound_382 (fun H locs w => ?_)
            obtain ⟨v4, hv4⟩ : ∃ q : Nat → Int, q = va_up v3 21 (((rUx Wl a b d * rUx Wl a b d) + (rUy Wl a b d * rUy Wl a b d))) := ⟨_, rfl⟩
            have v4s : v4 21 = ((rUx Wl a b d * rUx Wl a b d) + (rUy Wl a b d * rUy Wl a b d)) := by rw [hv4, va_up_self]
            have v4n : ∀ j, j ≠ 21 → v4 j = v3 j := fun j hj => by rw [hv4, va_up_ne _ _ hj]
            have w : gw D (gA L sz) s.heap H locs L (mSt cI mo A f v4 F) := by rw [hv4, ← mU_m (v := v3)]; exact w
            refine lv_aload_n hx hb d_M_isRound_385 rfl (lv_at hl 0 rfl) ?_
            refine lv_lload hx hb d_M_isRound_386 (lv_at hl 4 rfl) ?_
            refine lv_lload hx hb d_M_isRound_388 (lv_at hl 4 rfl) ?_
            refine rj_mul (a := rBy Wl a b d) (b := rBy Wl a b d) hx hb d_M_isRound_390 rfl rfl ?_
            refine gk_put X w g.1.1 (show (mSt cI mo A f v4 F) mo = .inr (4, _) from mS_m) rfl in_M ty_M tyok_M nm_M 22 (by decide) lk_M_161 rfl (ty := .long) (by decide +kernel) rfl rfl (Nat.le_of_ble_eq_true rfl) d_M_isRound_391 (fun H locs w => ?_)
            obtain ⟨v5, hv5⟩ : ∃ q : Nat → Int, q = va_up v4 22 ((rBy Wl a b d * rBy Wl a b d)) := ⟨_, rfl⟩
            have v5s : v5 22 = (rBy Wl a b d * rBy Wl a b d) := by rw [hv5, va_up_self]
            have v5n : ∀ j, j ≠ 22 → v5 j = v4 j := fun j hj => by rw [hv5, va_up_ne _ _ hj]
            have w : gw D (gA L sz) s.heap H locs L (mSt cI mo A f v5 F) := by rw [hv5, ← mU_m (v := v4)]; exact w
            refine lv_iload hx hb d_M_isRound_394 (lv_at hl 7 rfl) ?_
            have eR : bI (rAl Wl a b d k) = bI (rnd Wl a b d) := by
              refine bI_iff ⟨fun h9 => ⟨by omega, bI_n c65, bI_n c75, bI_n c85, ?_⟩, fun h9 => ?_⟩
              · first | (rw [show (Wl.length : Int) = k by omega]; exact h9) | exact absurd h9 (bI_0 c247)
              · exact fun j9 q0 q1 => h9.2.2.2.2 j9 q0 (by omega)
            refine g_zret X w hrt hlk d_M_isRound_396 (by rcases bI_01 (rAl Wl a b d k) with h9 | h9 <;> rw [h9] <;> rfl) ⟨by rw [eR], v5, rfl, fun q hq => (((((v5n q (by omega)).trans (v4n q (by omega))).trans (v3n q (by omega))).trans (v2n q (by omega))).trans (v1n q (by omega))), fun _ => ⟨(((((v5n 18 (by decide)).trans (v4n 18 (by decide))).trans (v3n 18 (by decide))).trans (v2n 18 (by decide))).trans (v1s)), ((((v5n 19 (by decide)).trans (v4n 19 (by decide))).trans (v3n 19 (by decide))).trans (v2s)), (((v5n 20 (by decide)).trans (v4n 20 (by decide))).trans (v3s)), ((v5n 21 (by decide)).trans (v4s)), (v5s)⟩⟩
          · skip
            refine lv_iload hx hb d_M_isRound_245 (lv_at hl 7 rfl) ?_
            refine ri_zeq (a := bI (rAl Wl a b d k)) (tgt := 330) hx hb d_M_isRound_247 (by decide) rfl (bI_3 _) (fun c247 => ?_) (fun c247 => ?_)
            · skip
              refine lv_aload_n hx hb d_M_isRound_330 rfl (lv_at hl 0 rfl) ?_
              refine lv_aload_n hx hb d_M_isRound_331 rfl (lv_at hl 0 rfl) ?_
              refine gk_get X w g.1.1 (show (mSt cI mo A f v F) mo = .inr (4, _) from mS_m) rfl in_M 5 (by decide) lk_M_19 rfl d_M_isRound_332 ?_
              refine lv_iload_n hx hb d_M_isRound_335 rfl (lv_at hl 1 rfl) ?_
              refine gk_iald X w 0 g.1.2.2.2.2.1 (mS_5 g) rfl (vin (by omega) (show (a : Int) < 576 by have h9 : (a : Int) < Wl.length := (by omega); omega) (by decide)) d_M_isRound_336 ?_
              rw [vcl (z := a) (by omega) (by have h9 : (a : Int) < Wl.length := (by omega); omega), wld_x hwF (i := a) (by omega) (by omega)]
              refine ri_i2l (a := (pX Wl a)) hx hb d_M_isRound_337 rfl (by have := hWb a; have := hWb b; have := hWb d; unfold i3; omega) ?_
              refine lv_lload hx hb d_M_isRound_338 (lv_at hl 4 rfl) ?_
              refine rj_mul (a := (pX Wl a)) (b := rBy Wl a b d) hx hb d_M_isRound_340 rfl rfl ?_
              refine lv_lload hx hb d_M_isRound_341 (lv_at hl 5 rfl) ?_
              refine rj_add (a := ((pX Wl a) * rBy Wl a b d)) (b := rUx Wl a b d) hx hb d_M_isRound_343 rfl rfl ?_
              refine gk_put X w g.1.1 (show (mSt cI mo A f v F) mo = .inr (4, _) from mS_m) rfl in_M ty_M tyok_M nm_M 18 (by decide) lk_M_149 rfl (ty := .long) (by decide +kernel) rfl rfl (Nat.le_of_ble_eq_true rfl) d_M_isRound_344 (fun H locs w => ?_)
              obtain ⟨v6, hv6⟩ : ∃ q : Nat → Int, q = va_up v 18 ((((pX Wl a) * rBy Wl a b d) + rUx Wl a b d)) := ⟨_, rfl⟩
              have v6s : v6 18 = (((pX Wl a) * rBy Wl a b d) + rUx Wl a b d) := by rw [hv6, va_up_self]
              have v6n : ∀ j, j ≠ 18 → v6 j = v j := fun j hj => by rw [hv6, va_up_ne _ _ hj]
              have w : gw D (gA L sz) s.heap H locs L (mSt cI mo A f v6 F) := by rw [hv6, ← mU_m (v := v)]; exact w
              refine lv_aload_n hx hb d_M_isRound_347 rfl (lv_at hl 0 rfl) ?_
              refine lv_aload_n hx hb d_M_isRound_348 rfl (lv_at hl 0 rfl) ?_
              refine gk_get X w g.1.1 (show (mSt cI mo A f v6 F) mo = .inr (4, _) from mS_m) rfl in_M 6 (by decide) lk_M_22 rfl d_M_isRound_349 ?_
              refine lv_iload_n hx hb d_M_isRound_352 rfl (lv_at hl 1 rfl) ?_
              refine gk_iald X w 0 g.1.2.2.2.2.2.1 (mS_6 g) rfl (vin (by omega) (show (a : Int) < 576 by have h9 : (a : Int) < Wl.length := (by omega); omega) (by decide)) d_M_isRound_353 ?_
              rw [vcl (z := a) (by omega) (by have h9 : (a : Int) < Wl.length := (by omega); omega), wld_y hwF (i := a) (by omega) (by omega)]
              refine ri_i2l (a := (pY Wl a)) hx hb d_M_isRound_354 rfl (by have := hWb a; have := hWb b; have := hWb d; unfold i3; omega) ?_
              refine lv_lload hx hb d_M_isRound_355 (lv_at hl 4 rfl) ?_
              refine rj_mul (a := (pY Wl a)) (b := rBy Wl a b d) hx hb d_M_isRound_357 rfl rfl ?_
              refine lv_lload hx hb d_M_isRound_358 (lv_at hl 6 rfl) ?_
              refine rj_add (a := ((pY Wl a) * rBy Wl a b d)) (b := rUy Wl a b d) hx hb d_M_isRound_360 rfl rfl ?_
              refine gk_put X w g.1.1 (show (mSt cI mo A f v6 F) mo = .inr (4, _) from mS_m) rfl in_M ty_M tyok_M nm_M 19 (by decide) lk_M_152 rfl (ty := .long) (by decide +kernel) rfl rfl (Nat.le_of_ble_eq_true rfl) d_M_isRound_361 (fun H locs w => ?_)
              obtain ⟨v7, hv7⟩ : ∃ q : Nat → Int, q = va_up v6 19 ((((pY Wl a) * rBy Wl a b d) + rUy Wl a b d)) := ⟨_, rfl⟩
              have v7s : v7 19 = (((pY Wl a) * rBy Wl a b d) + rUy Wl a b d) := by rw [hv7, va_up_self]
              have v7n : ∀ j, j ≠ 19 → v7 j = v6 j := fun j hj => by rw [hv7, va_up_ne _ _ hj]
              have w : gw D (gA L sz) s.heap H locs L (mSt cI mo A f v7 F) := by rw [hv7, ← mU_m (v := v6)]; exact w
              refine lv_aload_n hx hb d_M_isRound_364 rfl (lv_at hl 0 rfl) ?_
              refine lv_lload hx hb d_M_isRound_365 (lv_at hl 4 rfl) ?_
              refine gk_put X w g.1.1 (show (mSt cI mo A f v7 F) mo = .inr (4, _) from mS_m) rfl in_M ty_M tyok_M nm_M 20 (by decide) lk_M_155 rfl (ty := .long) (by decide +kernel) rfl rfl (Nat.le_of_ble_eq_true rfl) d_M_isRound_367 (fun H locs w => ?_)
              obtain ⟨v8, hv8⟩ : ∃ q : Nat → Int, q = va_up v7 20 (rBy Wl a b d) := ⟨_, rfl⟩
              have v8s : v8 20 = rBy Wl a b d := by rw [hv8, va_up_self]
              have v8n : ∀ j, j ≠ 20 → v8 j = v7 j := fun j hj => by rw [hv8, va_up_ne _ _ hj]
              have w : gw D (gA L sz) s.heap H locs L (mSt cI mo A f v8 F) := by rw [hv8, ← mU_m (v := v7)]; exact w
              refine lv_aload_n hx hb d_M_isRound_370 rfl (lv_at hl 0 rfl) ?_
              refine lv_lload hx hb d_M_isRound_371 (lv_at hl 5 rfl) ?_
              refine lv_lload hx hb d_M_isRound_373 (lv_at hl 5 rfl) ?_
              refine rj_mul (a := rUx Wl a b d) (b := rUx Wl a b d) hx hb d_M_isRound_375 rfl rfl ?_
              refine lv_lload hx hb d_M_isRound_376 (lv_at hl 6 rfl) ?_
              refine lv_lload hx hb d_M_isRound_378 (lv_at hl 6 rfl) ?_
              refine rj_mul (a := rUy Wl a b d) (b := rUy Wl a b d) hx hb d_M_isRound_380 rfl rfl ?_
              refine rj_add (a := (rUx Wl a b d * rUx Wl a b d)) (b := (rUy Wl a b d * rUy Wl a b d)) hx hb d_M_isRound_381 rfl rfl ?_
              refine gk_put X w g.1.1 (show (mSt cI mo A f v8 F) mo = .inr (4, _) from mS_m) rfl in_M ty_M tyok_M nm_M 21 (by decide) lk_M_158 rfl (ty := .long) (by decide +kernel) rfl rfl (Nat.le_of_ble_eq_true rfl) d_M_isRound_382 (fun H locs w => ?_)
              obtain ⟨v9, hv9⟩ : ∃ q : Nat → Int, q = va_up v8 21 (((rUx Wl a b d * rUx Wl a b d) + (rUy Wl a b d * rUy Wl a b d))) := ⟨_, rfl⟩
              have v9s : v9 21 = ((rUx Wl a b d * rUx Wl a b d) + (rUy Wl a b d * rUy Wl a b d)) := by rw [hv9, va_up_self]
              have v9n : ∀ j, j ≠ 21 → v9 j = v8 j := fun j hj => by rw [hv9, va_up_ne _ _ hj]
              have w : gw D (gA L sz) s.heap H locs L (mSt cI mo A f v9 F) := by rw [hv9, ← mU_m (v := v8)]; exact w
              refine lv_aload_n hx hb d_M_isRound_385 rfl (lv_at hl 0 rfl) ?_
              refine lv_lload hx hb d_M_isRound_386 (lv_at hl 4 rfl) ?_
              refine lv_lload hx hb d_M_isRound_388 (lv_at hl 4 rfl) ?_
              refine rj_mul (a := rBy Wl a b d) (b := rBy Wl a b d) hx hb d_M_isRound_390 rfl rfl ?_
              refine gk_put X w g.1.1 (show (mSt cI mo A f v9 F) mo = .inr (4, _) from mS_m) rfl in_M ty_M tyok_M nm_M 22 (by decide) lk_M_161 rfl (ty := .long) (by decide +kernel) rfl rfl (Nat.le_of_ble_eq_true rfl) d_M_isRound_391 (fun H locs w => ?_)
              obtain ⟨v10, hv10⟩ : ∃ q : Nat → Int, q = va_up v9 22 ((rBy Wl a b d * rBy Wl a b d)) := ⟨_, rfl⟩
              have v10s : v10 22 = (rBy Wl a b d * rBy Wl a b d) := by rw [hv10, va_up_self]
              have v10n : ∀ j, j ≠ 22 → v10 j = v9 j := fun j hj => by rw [hv10, va_up_ne _ _ hj]
              have w : gw D (gA L sz) s.heap H locs L (mSt cI mo A f v10 F) := by rw [hv10, ← mU_m (v := v9)]; exact w
              refine lv_iload hx hb d_M_isRound_394 (lv_at hl 7 rfl) ?_
              have eR : bI (rAl Wl a b d k) = bI (rnd Wl a b d) := by
                refine bI_iff ⟨fun h9 => ⟨by omega, bI_n c65, bI_n c75, bI_n c85, ?_⟩, fun h9 => ?_⟩
                · first | (rw [show (Wl.length : Int) = k by omega]; exact h9) | exact absurd h9 (bI_0 c247)
                · exact fun j9 q0 q1 => h9.2.2.2.2 j9 q0 (by omega)
              refine g_zret X w hrt hlk d_M_isRound_396 (by rcases bI_01 (rAl Wl a b d k) with h9 | h9 <;> rw [h9] <;> rfl) ⟨by rw [eR], v10, rfl, fun q hq => (((((v10n q (by omega)).trans (v9n q (by omega))).trans (v8n q (by omega))).trans (v7n q (by omega))).trans (v6n q (by omega))), fun _ => ⟨(((((v10n 18 (by decide)).trans (v9n 18 (by decide))).trans (v8n 18 (by decide))).trans (v7n 18 (by decide))).trans (v6s)), ((((v10n 19 (by decide)).trans (v9n 19 (by decide))).trans (v8n 19 (by decide))).trans (v7s)), (((v10n 20 (by decide)).trans (v9n 20 (by decide))).trans (v8s)), ((v10n 21 (by decide)).trans (v9s)), (v10s)⟩⟩
            · skip
              refine lv_aload_n hx hb d_M_isRound_250 rfl (lv_at hl 0 rfl) ?_
              refine gk_get X w g.1.1 (show (mSt cI mo A f v F) mo = .inr (4, _) from mS_m) rfl in_M 5 (by decide) lk_M_19 rfl d_M_isRound_251 ?_
              refine lv_iload hx hb d_M_isRound_254 (lv_at hl 8 rfl) ?_
              refine gk_iald X w 0 g.1.2.2.2.2.1 (mS_5 g) rfl (vin (by omega) (show (k : Int) < 576 by have h9 : (k : Int) < Wl.length := (by omega); omega) (by decide)) d_M_isRound_256 ?_
              rw [vcl (z := k) (by omega) (by have h9 : (k : Int) < Wl.length := (by omega); omega), wld_x hwF (i := k) (by omega) (by omega)]
              refine lv_aload_n hx hb d_M_isRound_257 rfl (lv_at hl 0 rfl) ?_
              refine gk_get X w g.1.1 (show (mSt cI mo A f v F) mo = .inr (4, _) from mS_m) rfl in_M 5 (by decide) lk_M_19 rfl d_M_isRound_258 ?_
              refine lv_iload_n hx hb d_M_isRound_261 rfl (lv_at hl 1 rfl) ?_
              refine gk_iald X w 0 g.1.2.2.2.2.1 (mS_5 g) rfl (vin (by omega) (show (a : Int) < 576 by have h9 : (a : Int) < Wl.length := (by omega); omega) (by decide)) d_M_isRound_262 ?_
              rw [vcl (z := a) (by omega) (by have h9 : (a : Int) < Wl.length := (by omega); omega), wld_x hwF (i := a) (by omega) (by omega)]
              refine ri_sub (a := (pX Wl k)) (b := (pX Wl a)) hx hb d_M_isRound_263 rfl rfl ?_
              refine ri_i2l (a := ((pX Wl k) - (pX Wl a))) hx hb d_M_isRound_264 rfl (by have := hWb a; have := hWb k; unfold i3; omega) ?_
              refine lv_lstore (lv' := [(16, .long (jN (((pX Wl k) - (pX Wl a))))), (0, .ref mo), (1, .int (iN (a))), (2, .int (iN (b))), (3, .int (iN (d))), (4, .long (jN (rBy Wl a b d))), (10, .long (jN (rUx Wl a b d))), (12, .long (jN (rUy Wl a b d))), (14, .int (iN (bI (rAl Wl a b d k)))), (15, .int (iN (k)))]) hx hb d_M_isRound_265 hl (by decide) rfl (fun ls hl => ?_)
              refine lv_aload_n hx hb d_M_isRound_267 rfl (lv_at hl 1 rfl) ?_
              refine gk_get X w g.1.1 (show (mSt cI mo A f v F) mo = .inr (4, _) from mS_m) rfl in_M 6 (by decide) lk_M_22 rfl d_M_isRound_268 ?_
              refine lv_iload hx hb d_M_isRound_271 (lv_at hl 9 rfl) ?_
              refine gk_iald X w 0 g.1.2.2.2.2.2.1 (mS_6 g) rfl (vin (by omega) (show (k : Int) < 576 by have h9 : (k : Int) < Wl.length := (by omega); omega) (by decide)) d_M_isRound_273 ?_
              rw [vcl (z := k) (by omega) (by have h9 : (k : Int) < Wl.length := (by omega); omega), wld_y hwF (i := k) (by omega) (by omega)]
              refine lv_aload_n hx hb d_M_isRound_274 rfl (lv_at hl 1 rfl) ?_
              refine gk_get X w g.1.1 (show (mSt cI mo A f v F) mo = .inr (4, _) from mS_m) rfl in_M 6 (by decide) lk_M_22 rfl d_M_isRound_275 ?_
              refine lv_iload_n hx hb d_M_isRound_278 rfl (lv_at hl 2 rfl) ?_
              refine gk_iald X w 0 g.1.2.2.2.2.2.1 (mS_6 g) rfl (vin (by omega) (show (a : Int) < 576 by have h9 : (a : Int) < Wl.length := (by omega); omega) (by decide)) d_M_isRound_279 ?_
              rw [vcl (z := a) (by omega) (by have h9 : (a : Int) < Wl.length := (by omega); omega), wld_y hwF (i := a) (by omega) (by omega)]
              refine ri_sub (a := (pY Wl k)) (b := (pY Wl a)) hx hb d_M_isRound_280 rfl rfl ?_
              refine ri_i2l (a := ((pY Wl k) - (pY Wl a))) hx hb d_M_isRound_281 rfl (by have := hWb a; have := hWb k; unfold i3; omega) ?_
              refine lv_lstore (lv' := [(18, .long (jN (((pY Wl k) - (pY Wl a))))), (16, .long (jN (((pX Wl k) - (pX Wl a))))), (0, .ref mo), (1, .int (iN (a))), (2, .int (iN (b))), (3, .int (iN (d))), (4, .long (jN (rBy Wl a b d))), (10, .long (jN (rUx Wl a b d))), (12, .long (jN (rUy Wl a b d))), (14, .int (iN (bI (rAl Wl a b d k)))), (15, .int (iN (k)))]) hx hb d_M_isRound_282 hl (by decide) rfl (fun ls hl => ?_)
              refine g_joinw (D := D) (A := gA L sz) (H0 := s.heap) (L := L) (f := (mSt cI mo A f v F)) (g1 := F0 m 322 ls [.int (iN ((bI (rAl Wl a b d (k + 1)))))]) (fun H locs w => ?_) (fun K11 => ?_)
              · skip
                refine lv_istore (lv' := [(14, .int (iN ((bI (rAl Wl a b d (k + 1)))))), (18, .long (jN (((pY Wl k) - (pY Wl a))))), (16, .long (jN (((pX Wl k) - (pX Wl a))))), (0, .ref mo), (1, .int (iN (a))), (2, .int (iN (b))), (3, .int (iN (d))), (4, .long (jN (rBy Wl a b d))), (10, .long (jN (rUx Wl a b d))), (12, .long (jN (rUy Wl a b d))), (15, .int (iN (k)))]) hx hb d_M_isRound_322 hl (by decide) rfl (fun ls hl => ?_)
                refine lv_iinc (v := iN ((k + 1))) (lv' := [(15, .int (iN ((k + 1)))), (14, .int (iN ((bI (rAl Wl a b d (k + 1)))))), (18, .long (jN (((pY Wl k) - (pY Wl a))))), (16, .long (jN (((pX Wl k) - (pX Wl a))))), (0, .ref mo), (1, .int (iN (a))), (2, .int (iN (b))), (3, .int (iN (d))), (4, .long (jN (rBy Wl a b d))), (10, .long (jN (rUx Wl a b d))), (12, .long (jN (rUy Wl a b d)))]) hx hb d_M_isRound_324 hl (k := 10) rfl (by rw [show (k + 1) = k + (1 : Int) by omega, ← iN_add]; rfl) (by decide) rfl (fun ls hl => ?_)
                refine lv_goto (tgt := 236) hx hb d_M_isRound_327 (by decide) ?_
                exact ih (k + 1) _ _ _ (by omega) ⟨by omega, by omega⟩ w (lv_sub hl [4, 5, 6, 7, 8, 9, 10, 1, 0] rfl)
              · skip
                refine lv_lload hx hb d_M_isRound_284 (lv_at hl 1 rfl) ?_
                refine lv_lload hx hb d_M_isRound_286 (lv_at hl 1 rfl) ?_
                refine rj_mul (a := ((pX Wl k) - (pX Wl a))) (b := ((pX Wl k) - (pX Wl a))) hx hb d_M_isRound_288 rfl rfl ?_
                refine lv_lload hx hb d_M_isRound_289 (lv_at hl 0 rfl) ?_
                refine lv_lload hx hb d_M_isRound_291 (lv_at hl 0 rfl) ?_
                refine rj_mul (a := ((pY Wl k) - (pY Wl a))) (b := ((pY Wl k) - (pY Wl a))) hx hb d_M_isRound_293 rfl rfl ?_
                refine rj_add (a := (((pX Wl k) - (pX Wl a)) * ((pX Wl k) - (pX Wl a)))) (b := (((pY Wl k) - (pY Wl a)) * ((pY Wl k) - (pY Wl a)))) hx hb d_M_isRound_294 rfl rfl ?_
                refine lv_lload hx hb d_M_isRound_295 (lv_at hl 6 rfl) ?_
                refine rj_mul (a := ((((pX Wl k) - (pX Wl a)) * ((pX Wl k) - (pX Wl a))) + (((pY Wl k) - (pY Wl a)) * ((pY Wl k) - (pY Wl a))))) (b := rBy Wl a b d) hx hb d_M_isRound_297 rfl rfl ?_
                refine lv_ldc2 hx hb X.1.2.2.2.1 (X.1.2.2.2.2 _ lk_M_99) d_M_isRound_298 ?_
                refine lv_lload hx hb d_M_isRound_301 (lv_at hl 1 rfl) ?_
                refine lv_lload hx hb d_M_isRound_303 (lv_at hl 7 rfl) ?_
                refine rj_mul (a := ((pX Wl k) - (pX Wl a))) (b := rUx Wl a b d) hx hb d_M_isRound_305 rfl rfl ?_
                refine lv_lload hx hb d_M_isRound_306 (lv_at hl 0 rfl) ?_
                refine lv_lload hx hb d_M_isRound_308 (lv_at hl 8 rfl) ?_
                refine rj_mul (a := ((pY Wl k) - (pY Wl a))) (b := rUy Wl a b d) hx hb d_M_isRound_310 rfl rfl ?_
                refine rj_add (a := (((pX Wl k) - (pX Wl a)) * rUx Wl a b d)) (b := (((pY Wl k) - (pY Wl a)) * rUy Wl a b d)) hx hb d_M_isRound_311 rfl rfl ?_
                refine rj_mul (a := 2) (b := ((((pX Wl k) - (pX Wl a)) * rUx Wl a b d) + (((pY Wl k) - (pY Wl a)) * rUy Wl a b d))) hx hb d_M_isRound_312 rfl rfl ?_
                refine rj_cgt (a := (((((pX Wl k) - (pX Wl a)) * ((pX Wl k) - (pX Wl a))) + (((pY Wl k) - (pY Wl a)) * ((pY Wl k) - (pY Wl a)))) * rBy Wl a b d)) (b := (2 * ((((pX Wl k) - (pX Wl a)) * rUx Wl a b d) + (((pY Wl k) - (pY Wl a)) * rUy Wl a b d)))) (tgt := 321) hx hb d_M_isRound_313 d_M_isRound_314 (by decide) rfl rfl h6.1 h6.2 (fun c313 => ?_) (fun c313 => ?_)
                · skip
                  have c313' : ¬ rL Wl a b d k ≤ rR Wl a b d k := by have h9 := c313; first | exact h9 | exact Int.not_le.mpr h9
                  refine lv_iconst (v := iN (0)) hx hb d_M_isRound_321 (by decide) ?_
                  exact W.eq (congrArg (fun z : Int => F0 m 322 ls [.int (iN z)]) (show 0 = (bI (rAl Wl a b d (k + 1))) from (bI_f (fun z9 => by have := z9 k h0 (by omega); exact absurd this c313')).symm)) (K11 _ _ w)
                · skip
                  have c313' : rL Wl a b d k ≤ rR Wl a b d k := by have h9 := c313; first | exact h9 | exact Int.not_lt.mp h9
                  refine lv_iconst (v := iN (1)) hx hb d_M_isRound_317 (by decide) ?_
                  refine lv_goto (tgt := 322) hx hb d_M_isRound_318 (by decide) ?_
                  exact W.eq (congrArg (fun z : Int => F0 m 322 ls [.int (iN z)]) (show 1 = (bI (rAl Wl a b d (k + 1))) from (bI_t (fun j9 q0 q1 => by by_cases e9 : j9 = k; (subst e9; exact c313'); exact bI_n c247 j9 q0 (by omega))).symm)) (K11 _ _ w)
        · skip
          refine lv_iconst (v := iN (0)) hx hb d_M_isRound_88 (by decide) ?_
          exact g_zret X w hrt hlk d_M_isRound_89 rfl ⟨by rw [bI_f (fun z9 => by first | (have := z9.1; omega) | exact bI_0 c65 z9.2.1 | exact bI_0 c75 z9.2.2.1 | exact bI_0 (by omega) z9.2.2.2.1)], v, rfl, fun _ _ => rfl, fun z9 => by exfalso; first | (have := z9.1; omega) | exact bI_0 c65 z9.2.1 | exact bI_0 c75 z9.2.2.1 | exact bI_0 (by omega) z9.2.2.2.1⟩
