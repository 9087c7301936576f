/-! THE REFERENCE: grid points, a row after another -/
def bst (H : List Pt) : Nat → Int
  | 0 => 0
  | n + 1 => bst H n + Int.gcd (sX H n) (sY H n)
theorem bst_b {H : List Pt} (h : pb 600 H) (n : Nat) : 0 ≤ bst H n ∧ bst H n ≤ 1200 * n := by
  induction n with
  | zero => unfold bst; omega
  | succ n ih =>
    have a := h n; have b := h (nx H n)
    have := gcd_b (a := sX H n) (b := sY H n) (B := 1200) (by unfold sX; omega) (by unfold sY; omega)
    unfold bst; omega
def boM (H : List Pt) : Int := if H.length < 2 then H.length else if H.length = 2 then (bst H H.length).tdiv 2 + 1 else bst H H.length
def prt (a b : Int) (up : Bool) : Int := if up then (if 0 < a - a.tdiv b * b then a.tdiv b + 1 else a.tdiv b) else (if a - a.tdiv b * b < 0 then a.tdiv b - 1 else a.tdiv b)

set_option maxHeartbeats 4000000 in
set_option maxRecDepth 100000 in
theorem c_M_borderOf (l : Launch) {D : va_G} {cI cR : ClassId} {L : List Nat} {f : Nat → va_E} {mo : Nat} {A : Nat → Nat} {v : Nat → Int} {F : Nat → Nat → Int} (g : mg L mo A) {Wl Hu : List Pt} (hL : mLd v F Wl Hu) (hH576 : Hu.length ≤ 576) (hHb : pb 600 Hu) : gMi D cI cR l y_M_borderOf (Cond.code y_M_borderOf b_M_borderOf 4 (some .int) :: lw_g) { frames := 1, cells := 0, slots := 0, locals := 33 } [.ref mo] L (mSt cI mo A f v F) (fun r u => r = iN (boM Hu) ∧ u = (L, mSt cI mo A f v F)) := by
  intro sz
  refine g_enter (by decide) rfl (Nat.le_of_ble_eq_true rfl) ?_
  intro p e s m below meth cd ls X hrt hlk hnm hl hsz w
  have X : gx p m cd b_M_borderOf 4 s _ "HullSumsModel" D cI cR := X
  have hx := X.1.1
  have hb := X.1.2.1
  have hl : lv_has ls 4 [(0, .ref mo)] := hl
  obtain ⟨h7, h10, hwF, hhF⟩ := hL
  refine lv_aload_n hx hb d_M_borderOf_0 rfl (lv_at hl 0 rfl) ?_
  refine gk_get X w g.1.1 (show (mSt cI mo A f v F) mo = .inr (4, _) from mS_m) rfl in_M 10 (by decide) lk_M_51 rfl d_M_borderOf_1 ?_
  rw [show v 10 = (Hu.length : Int) from h10]
  refine lv_iconst (v := iN (2)) hx hb d_M_borderOf_4 (by decide) ?_
  refine ri_cge (a := (Hu.length : Int)) (b := 2) (tgt := 13) hx hb d_M_borderOf_5 (by decide) rfl rfl (by unfold i3; omega) (by unfold i3; omega) (fun c5 => ?_) (fun c5 => ?_)
  · skip
    refine lv_lconst (v := jN (0)) hx hb d_M_borderOf_13 (by decide) ?_
    refine lv_lstore_n (lv' := [(1, .long (jN (0))), (0, .ref mo)]) hx hb d_M_borderOf_14 rfl hl (by decide) rfl (fun ls hl => ?_)
    refine lv_iconst (v := iN (0)) hx hb d_M_borderOf_15 (by decide) ?_
    refine lv_istore_n (lv' := [(3, .int (iN (0))), (1, .long (jN (0))), (0, .ref mo)]) hx hb d_M_borderOf_16 rfl hl (by decide) rfl (fun ls hl => ?_)
    refine g_loop (σ := Int × Int) (fun z9 => (Hu.length - z9.1).toNat) (fun z9 => [(0, .ref mo), (1, .long (jN (z9.2))), (3, .int (iN (z9.1)))]) L (fun z9 => (mSt cI mo A f v F)) (fun z9 => 0 ≤ z9.1 ∧ z9.1 ≤ Hu.length ∧ z9.2 = bst Hu z9.1.toNat) ?_ (0, 0) _ _ _ ⟨by omega, by omega, rfl⟩ w (lv_sub hl [2, 1, 0] rfl)
    intro z9 H locs ls hI w hl ih
    obtain ⟨i, k⟩ := z9
    have hl : lv_has ls 4 [(0, .ref mo), (1, .long (jN (k))), (3, .int (iN (i)))] := hl
    have w : gw D (gA L sz) s.heap H locs L ((mSt cI mo A f v F)) := w
    have hI : 0 ≤ i ∧ i ≤ Hu.length ∧ k = bst Hu i.toNat := hI
    obtain ⟨h0, h1, h2⟩ := hI
    have hsb := bst_b hHb i.toNat
    rw [← h2] at hsb
    refine lv_iload_n hx hb d_M_borderOf_17 rfl (lv_at hl 2 rfl) ?_
    refine lv_aload_n hx hb d_M_borderOf_18 rfl (lv_at hl 0 rfl) ?_
    refine gk_get X w g.1.1 (show (mSt cI mo A f v F) mo = .inr (4, _) from mS_m) rfl in_M 10 (by decide) lk_M_51 rfl d_M_borderOf_19 ?_
    rw [show v 10 = (Hu.length : Int) from h10]
    refine ri_cge (a := i) (b := (Hu.length : Int)) (tgt := 73) hx hb d_M_borderOf_22 (by decide) rfl rfl (by unfold i3; omega) (by unfold i3; omega) (fun c22 => ?_) (fun c22 => ?_)
    · skip
      refine lv_aload_n hx hb d_M_borderOf_73 rfl (lv_at hl 0 rfl) ?_
      refine gk_get X w g.1.1 (show (mSt cI mo A f v F) mo = .inr (4, _) from mS_m) rfl in_M 10 (by decide) lk_M_51 rfl d_M_borderOf_74 ?_
      rw [show v 10 = (Hu.length : Int) from h10]
      refine lv_iconst (v := iN (2)) hx hb d_M_borderOf_77 (by decide) ?_
      refine ri_cne (a := (Hu.length : Int)) (b := 2) (tgt := 91) hx hb d_M_borderOf_78 (by decide) rfl rfl (by unfold i3; omega) (by unfold i3; omega) (fun c78 => ?_) (fun c78 => ?_)
      · skip
        refine lv_lload_n hx hb d_M_borderOf_91 rfl (lv_at hl 1 rfl) ?_
        refine ri_l2i (a := k) hx hb d_M_borderOf_92 rfl (by unfold i6; omega) ?_
        exact g_iret X w hrt hlk d_M_borderOf_93 ⟨by unfold boM; rw [if_neg (by omega), if_neg (by omega), h2, show i.toNat = Hu.length by omega], rfl⟩
      · skip
        refine lv_lload_n hx hb d_M_borderOf_81 rfl (lv_at hl 1 rfl) ?_
        refine lv_ldc2 hx hb X.1.2.2.2.1 (X.1.2.2.2.2 _ lk_M_99) d_M_borderOf_82 ?_
        refine rj_div (a := k) (b := 2) hx hb d_M_borderOf_85 rfl rfl (by unfold i6; omega) (by unfold i6; omega) (by decide) ?_
        refine lv_lconst (v := jN (1)) hx hb d_M_borderOf_86 (by decide) ?_
        refine rj_add (a := (k.tdiv 2)) (b := 1) hx hb d_M_borderOf_87 rfl rfl ?_
        refine lv_goto (tgt := 92) hx hb d_M_borderOf_88 (by decide) ?_
        refine ri_l2i (a := ((k.tdiv 2) + 1)) hx hb d_M_borderOf_92 rfl (by have := Int.tdiv_le_self 2 (show 0 ≤ k by omega); have := Int.tdiv_nonneg (show 0 ≤ k by omega) (show (0 : Int) ≤ 2 by decide); unfold i6; omega) ?_
        exact g_iret X w hrt hlk d_M_borderOf_93 ⟨by unfold boM; rw [if_neg (by omega), if_pos (by omega), h2, show i.toNat = Hu.length by omega], rfl⟩
    · skip
      refine lv_lload_n hx hb d_M_borderOf_25 rfl (lv_at hl 1 rfl) ?_
      refine lv_aload_n hx hb d_M_borderOf_26 rfl (lv_at hl 0 rfl) ?_
      refine gk_get X w g.1.1 (show (mSt cI mo A f v F) mo = .inr (4, _) from mS_m) rfl in_M 8 (by decide) lk_M_25 rfl d_M_borderOf_27 ?_
      refine lv_aload_n hx hb d_M_borderOf_30 rfl (lv_at hl 0 rfl) ?_
      refine lv_iload_n hx hb d_M_borderOf_31 rfl (lv_at hl 2 rfl) ?_
      refine g_ci w (g_runV (As := [.int (iN (i))]) (rest := [.ref (A 8), .long (jN (k))]) X w (c_M_after l g (v := v) (F := F) (by rw [h10]; unfold i3; omega) (z := i) (by omega)) k_M_after v_M_after lk_M_66 g.1.1 (show (mSt cI mo A f v F) mo = .inr (4, _) from mS_m) rfl ⟨(Nat.le_of_ble_eq_true rfl), (Nat.le_of_ble_eq_true rfl)⟩ rfl hl.1 rfl (Nat.le_of_ble_eq_true rfl) d_M_borderOf_32 ⟨(Nat.le_of_ble_eq_true rfl), (Nat.le_of_ble_eq_true rfl)⟩) (fun r u H locs hp w => ?_)
      obtain ⟨hr9, rfl⟩ := hp
      rw [aft_nx h10] at hr9
      subst hr9
      have w : gw D (gA L sz) s.heap H locs L (mSt cI mo A f v F) := w
      refine gk_iald X w 0 g.1.2.2.2.2.2.2.1 (mS_8 g) rfl (vin (nx_lt (by omega) (by omega)).1 (show ((nx Hu i) : Int) < 576 by have h9 : ((nx Hu i) : Int) < Hu.length := (nx_lt (by omega) (by omega)).2; omega) (by decide)) d_M_borderOf_35 ?_
      rw [vcl (z := (nx Hu i)) (nx_lt (by omega) (by omega)).1 (by have h9 : ((nx Hu i) : Int) < Hu.length := (nx_lt (by omega) (by omega)).2; omega), hld_x hhF (i := (nx Hu i)) (nx_lt (by omega) (by omega)).1 (nx_lt (by omega) (by omega)).2]
      refine lv_aload_n hx hb d_M_borderOf_36 rfl (lv_at hl 0 rfl) ?_
      refine gk_get X w g.1.1 (show (mSt cI mo A f v F) mo = .inr (4, _) from mS_m) rfl in_M 8 (by decide) lk_M_25 rfl d_M_borderOf_37 ?_
      refine lv_iload_n hx hb d_M_borderOf_40 rfl (lv_at hl 2 rfl) ?_
      refine gk_iald X w 0 g.1.2.2.2.2.2.2.1 (mS_8 g) rfl (vin (by omega) (show (i : Int) < 576 by have h9 : (i : Int) < Hu.length := (by omega); omega) (by decide)) d_M_borderOf_41 ?_
      rw [vcl (z := i) (by omega) (by have h9 : (i : Int) < Hu.length := (by omega); omega), hld_x hhF (i := i) (by omega) (by omega)]
      refine ri_sub (a := (pX Hu (nx Hu i))) (b := (pX Hu i)) hx hb d_M_borderOf_42 rfl rfl ?_
      refine ri_i2l (a := ((pX Hu (nx Hu i)) - (pX Hu i))) hx hb d_M_borderOf_43 rfl (by have := hHb i; have := hHb (nx Hu i); unfold i3; omega) ?_
      refine lv_aload_n hx hb d_M_borderOf_44 rfl (lv_at hl 0 rfl) ?_
      refine gk_get X w g.1.1 (show (mSt cI mo A f v F) mo = .inr (4, _) from mS_m) rfl in_M 9 (by decide) lk_M_28 rfl d_M_borderOf_45 ?_
      refine lv_aload_n hx hb d_M_borderOf_48 rfl (lv_at hl 0 rfl) ?_
      refine lv_iload_n hx hb d_M_borderOf_49 rfl (lv_at hl 2 rfl) ?_
      refine g_ci w (g_runV (As := [.int (iN (i))]) (rest := [.ref (A 9), .long (jN (((pX Hu (nx Hu i)) - (pX Hu i)))), .long (jN (k))]) X w (c_M_after l g (v := v) (F := F) (by rw [h10]; unfold i3; omega) (z := i) (by omega)) k_M_after v_M_after lk_M_66 g.1.1 (show (mSt cI mo A f v F) mo = .inr (4, _) from mS_m) rfl ⟨(Nat.le_of_ble_eq_true rfl), (Nat.le_of_ble_eq_true rfl)⟩ rfl hl.1 rfl (Nat.le_of_ble_eq_true rfl) d_M_borderOf_50 ⟨(Nat.le_of_ble_eq_true rfl), (Nat.le_of_ble_eq_true rfl)⟩) (fun r u H locs hp w => ?_)
      obtain ⟨hr9, rfl⟩ := hp
      rw [aft_nx h10] at hr9
      subst hr9
      have w : gw D (gA L sz) s.heap H locs L (mSt cI mo A f v F) := w
      refine gk_iald X w 0 g.1.2.2.2.2.2.2.2 (mS_9 g) rfl (vin (nx_lt (by omega) (by omega)).1 (show ((nx Hu i) : Int) < 576 by have h9 : ((nx Hu i) : Int) < Hu.length := (nx_lt (by omega) (by omega)).2; omega) (by decide)) d_M_borderOf_53 ?_
      rw [vcl (z := (nx Hu i)) (nx_lt (by omega) (by omega)).1 (by have h9 : ((nx Hu i) : Int) < Hu.length := (nx_lt (by omega) (by omega)).2; omega), hld_y hhF (i := (nx Hu i)) (nx_lt (by omega) (by omega)).1 (nx_lt (by omega) (by omega)).2]
      refine lv_aload_n hx hb d_M_borderOf_54 rfl (lv_at hl 0 rfl) ?_
      refine gk_get X w g.1.1 (show (mSt cI mo A f v F) mo = .inr (4, _) from mS_m) rfl in_M 9 (by decide) lk_M_28 rfl d_M_borderOf_55 ?_
      refine lv_iload_n hx hb d_M_borderOf_58 rfl (lv_at hl 2 rfl) ?_
      refine gk_iald X w 0 g.1.2.2.2.2.2.2.2 (mS_9 g) rfl (vin (by omega) (show (i : Int) < 576 by have h9 : (i : Int) < Hu.length := (by omega); omega) (by decide)) d_M_borderOf_59 ?_
      rw [vcl (z := i) (by omega) (by have h9 : (i : Int) < Hu.length := (by omega); omega), hld_y hhF (i := i) (by omega) (by omega)]
      refine ri_sub (a := (pY Hu (nx Hu i))) (b := (pY Hu i)) hx hb d_M_borderOf_60 rfl rfl ?_
      refine ri_i2l (a := ((pY Hu (nx Hu i)) - (pY Hu i))) hx hb d_M_borderOf_61 rfl (by have := hHb i; have := hHb (nx Hu i); unfold i3; omega) ?_
      refine g_cl w (g_runS (As := [.long (jN (((pX Hu (nx Hu i)) - (pX Hu i)))), .long (jN (((pY Hu (nx Hu i)) - (pY Hu i))))]) (rest := [.long (jN (k))]) X w (c_M_common l (a := ((pX Hu (nx Hu i)) - (pX Hu i))) (b := ((pY Hu (nx Hu i)) - (pY Hu i))) (by have := hHb i; have := hHb (nx Hu i); unfold i6; omega) (by have := hHb i; have := hHb (nx Hu i); unfold i6; omega) (by have := hHb i; have := hHb (nx Hu i); omega) (by have := hHb i; have := hHb (nx Hu i); omega)) k_M_common lk_M_73 st_M_common ⟨(Nat.le_of_ble_eq_true rfl), (Nat.le_of_ble_eq_true rfl)⟩ rfl hl.1 rfl (Nat.le_of_ble_eq_true rfl) d_M_borderOf_62 ⟨Nat.zero_le _, Nat.zero_le _⟩) (fun r u H locs hp w => ?_)
      obtain ⟨rfl, rfl⟩ := hp
      have w : gw D (gA L sz) s.heap H locs L (mSt cI mo A f v F) := w
      refine rj_add (a := k) (b := ((Int.gcd ((pX Hu (nx Hu i)) - (pX Hu i)) ((pY Hu (nx Hu i)) - (pY Hu i)) : Nat) : Int)) hx hb d_M_borderOf_65 rfl rfl ?_
      refine lv_lstore_n (lv' := [(1, .long (jN ((k + ((Int.gcd ((pX Hu (nx Hu i)) - (pX Hu i)) ((pY Hu (nx Hu i)) - (pY Hu i)) : Nat) : Int))))), (0, .ref mo), (3, .int (iN (i)))]) hx hb d_M_borderOf_66 rfl hl (by decide) rfl (fun ls hl => ?_)
      refine lv_iinc (v := iN ((i + 1))) (lv' := [(3, .int (iN ((i + 1)))), (1, .long (jN ((k + ((Int.gcd ((pX Hu (nx Hu i)) - (pX Hu i)) ((pY Hu (nx Hu i)) - (pY Hu i)) : Nat) : Int))))), (0, .ref mo)]) hx hb d_M_borderOf_67 hl (k := 2) rfl (by rw [show (i + 1) = i + (1 : Int) by omega, ← iN_add]; rfl) (by decide) rfl (fun ls hl => ?_)
      refine lv_goto (tgt := 17) hx hb d_M_borderOf_70 (by decide) ?_
      exact ih ((i + 1), (k + ((Int.gcd ((pX Hu (nx Hu i)) - (pX Hu i)) ((pY Hu (nx Hu i)) - (pY Hu i)) : Nat) : Int))) _ _ _ (by omega) ⟨by omega, by omega, by rw [tn_s h0]; unfold bst sX sY; rw [← h2, tn_c h0]⟩ w (lv_sub hl [2, 1, 0] rfl)
  · skip
    refine lv_aload_n hx hb d_M_borderOf_8 rfl (lv_at hl 0 rfl) ?_
    refine gk_get X w g.1.1 (show (mSt cI mo A f v F) mo = .inr (4, _) from mS_m) rfl in_M 10 (by decide) lk_M_51 rfl d_M_borderOf_9 ?_
    rw [show v 10 = (Hu.length : Int) from h10]
    exact g_iret X w hrt hlk d_M_borderOf_12 ⟨by unfold boM; rw [if_pos (by omega)], rfl⟩
theorem rest_b {a b : Int} (hb : 0 < b) : -b < a - a.tdiv b * b ∧ a - a.tdiv b * b < b := by
  have h := Int.tmod_def a b
  rw [Int.mul_comm] at h
  rw [← h]
  exact ⟨Int.lt_tmod_of_pos a hb, Int.tmod_lt_of_pos a hb⟩
theorem tdiv_b {a b : Int} (hb : 0 < b) (ha : -1000000000000 ≤ a ∧ a ≤ 1000000000000) : -1000000000000 ≤ a.tdiv b ∧ a.tdiv b ≤ 1000000000000 := by
  rcases Int.le_total 0 a with h | h
  · have h1 := Int.tdiv_le_self b h
    have h2 := Int.tdiv_nonneg h (show 0 ≤ b by omega)
    omega
  · have h1 := Int.tdiv_le_self b (show 0 ≤ -a by omega)
    have h2 := Int.tdiv_nonneg (show 0 ≤ -a by omega) (show 0 ≤ b by omega)
    rw [Int.neg_tdiv] at h1 h2
    omega
set_option maxHeartbeats 4000000 in
set_option maxRecDepth 100000 in
theorem c_M_partU (l : Launch) {D : va_G} {cI cR : ClassId} {L : List Nat} {f : Nat → va_E} {a b : Int} (hb0 : 0 < b) (hb1 : b ≤ 1000000000) (ha : -1000000000000 ≤ a ∧ a ≤ 1000000000000) : gMl D cI cR l y_M_part (Cond.code y_M_part b_M_part 9 (some .long) :: lw_g) { frames := 0, cells := 0, slots := 0, locals := 0 } [.long (jN (a)), .long (jN (b)), .int (iN (1))] L f (fun r u => r = jN (prt a b true) ∧ u = (L, f)) := by
  intro sz
  refine g_enter (by decide) rfl (Nat.le_of_ble_eq_true rfl) ?_
  intro p e s m below meth cd ls X hrt hlk hnm hl hsz w
  have X : gx p m cd b_M_part 9 s _ "HullSumsModel" D cI cR := X
  have hx := X.1.1
  have hb := X.1.2.1
  have hl : lv_has ls 9 [(0, .long (jN (a))), (2, .long (jN (b))), (4, .int (iN (1)))] := hl
  have hq := rest_b hb0 (a := a)
  have hq2 := tdiv_b hb0 ha
  refine lv_lload_n hx hb d_M_part_0 rfl (lv_at hl 0 rfl) ?_
  refine lv_lload_n hx hb d_M_part_1 rfl (lv_at hl 1 rfl) ?_
  refine rj_div (a := a) (b := b) hx hb d_M_part_2 rfl rfl (by unfold i6; omega) (by unfold i6; omega) (by omega) ?_
  refine lv_lstore (lv' := [(5, .long (jN ((a.tdiv b)))), (0, .long (jN (a))), (2, .long (jN (b))), (4, .int (iN (1)))]) hx hb d_M_part_3 hl (by decide) rfl (fun ls hl => ?_)
  refine lv_lload_n hx hb d_M_part_5 rfl (lv_at hl 1 rfl) ?_
  refine lv_lload hx hb d_M_part_6 (lv_at hl 0 rfl) ?_
  refine lv_lload_n hx hb d_M_part_8 rfl (lv_at hl 2 rfl) ?_
  refine rj_mul (a := (a.tdiv b)) (b := b) hx hb d_M_part_9 rfl rfl ?_
  refine rj_sub (a := a) (b := ((a.tdiv b) * b)) hx hb d_M_part_10 rfl rfl ?_
  refine lv_lstore (lv' := [(7, .long (jN ((a - ((a.tdiv b) * b))))), (5, .long (jN ((a.tdiv b)))), (0, .long (jN (a))), (2, .long (jN (b))), (4, .int (iN (1)))]) hx hb d_M_part_11 hl (by decide) rfl (fun ls hl => ?_)
  refine lv_iload hx hb d_M_part_13 (lv_at hl 4 rfl) ?_
  refine ri_zeq (a := 1) (tgt := 37) hx hb d_M_part_15 (by decide) rfl (by unfold i3; omega) (fun c15 => ?_) (fun c15 => ?_)
  · skip
    omega
  · skip
    refine lv_lload hx hb d_M_part_18 (lv_at hl 0 rfl) ?_
    refine lv_lconst (v := jN (0)) hx hb d_M_part_20 (by decide) ?_
    refine rj_cle (a := (a - ((a.tdiv b) * b))) (b := 0) (tgt := 32) hx hb d_M_part_21 d_M_part_22 (by decide) rfl rfl (by unfold i6; omega) (by unfold i6; omega) (fun c21 => ?_) (fun c21 => ?_)
    · skip
      refine lv_lload hx hb d_M_part_32 (lv_at hl 1 rfl) ?_
      refine lv_goto (tgt := 53) hx hb d_M_part_34 (by decide) ?_
      exact g_lret X w hrt hlk d_M_part_53 ⟨by unfold prt; rw [if_pos rfl, if_neg (by omega)], rfl⟩
    · skip
      refine lv_lload hx hb d_M_part_25 (lv_at hl 1 rfl) ?_
      refine lv_lconst (v := jN (1)) hx hb d_M_part_27 (by decide) ?_
      refine rj_add (a := (a.tdiv b)) (b := 1) hx hb d_M_part_28 rfl rfl ?_
      refine lv_goto (tgt := 53) hx hb d_M_part_29 (by decide) ?_
      exact g_lret X w hrt hlk d_M_part_53 ⟨by unfold prt; rw [if_pos rfl, if_pos (by omega)], rfl⟩
set_option maxHeartbeats 4000000 in
set_option maxRecDepth 100000 in
theorem c_M_partD (l : Launch) {D : va_G} {cI cR : ClassId} {L : List Nat} {f : Nat → va_E} {a b : Int} (hb0 : 0 < b) (hb1 : b ≤ 1000000000) (ha : -1000000000000 ≤ a ∧ a ≤ 1000000000000) : gMl D cI cR l y_M_part (Cond.code y_M_part b_M_part 9 (some .long) :: lw_g) { frames := 0, cells := 0, slots := 0, locals := 0 } [.long (jN (a)), .long (jN (b)), .int (iN (0))] L f (fun r u => r = jN (prt a b false) ∧ u = (L, f)) := by
  intro sz
  refine g_enter (by decide) rfl (Nat.le_of_ble_eq_true rfl) ?_
  intro p e s m below meth cd ls X hrt hlk hnm hl hsz w
  have X : gx p m cd b_M_part 9 s _ "HullSumsModel" D cI cR := X
  have hx := X.1.1
  have hb := X.1.2.1
  have hl : lv_has ls 9 [(0, .long (jN (a))), (2, .long (jN (b))), (4, .int (iN (0)))] := hl
  have hq := rest_b hb0 (a := a)
  have hq2 := tdiv_b hb0 ha
  refine lv_lload_n hx hb d_M_part_0 rfl (lv_at hl 0 rfl) ?_
  refine lv_lload_n hx hb d_M_part_1 rfl (lv_at hl 1 rfl) ?_
  refine rj_div (a := a) (b := b) hx hb d_M_part_2 rfl rfl (by unfold i6; omega) (by unfold i6; omega) (by omega) ?_
  refine lv_lstore (lv' := [(5, .long (jN ((a.tdiv b)))), (0, .long (jN (a))), (2, .long (jN (b))), (4, .int (iN (0)))]) hx hb d_M_part_3 hl (by decide) rfl (fun ls hl => ?_)
  refine lv_lload_n hx hb d_M_part_5 rfl (lv_at hl 1 rfl) ?_
  refine lv_lload hx hb d_M_part_6 (lv_at hl 0 rfl) ?_
  refine lv_lload_n hx hb d_M_part_8 rfl (lv_at hl 2 rfl) ?_
  refine rj_mul (a := (a.tdiv b)) (b := b) hx hb d_M_part_9 rfl rfl ?_
  refine rj_sub (a := a) (b := ((a.tdiv b) * b)) hx hb d_M_part_10 rfl rfl ?_
  refine lv_lstore (lv' := [(7, .long (jN ((a - ((a.tdiv b) * b))))), (5, .long (jN ((a.tdiv b)))), (0, .long (jN (a))), (2, .long (jN (b))), (4, .int (iN (0)))]) hx hb d_M_part_11 hl (by decide) rfl (fun ls hl => ?_)
  refine lv_iload hx hb d_M_part_13 (lv_at hl 4 rfl) ?_
  refine ri_zeq (a := 0) (tgt := 37) hx hb d_M_part_15 (by decide) rfl (by unfold i3; omega) (fun c15 => ?_) (fun c15 => ?_)
  · skip
    refine lv_lload hx hb d_M_part_37 (lv_at hl 0 rfl) ?_
    refine lv_lconst (v := jN (0)) hx hb d_M_part_39 (by decide) ?_
    refine rj_cge (a := (a - ((a.tdiv b) * b))) (b := 0) (tgt := 51) hx hb d_M_part_40 d_M_part_41 (by decide) rfl rfl (by unfold i6; omega) (by unfold i6; omega) (fun c40 => ?_) (fun c40 => ?_)
    · skip
      refine lv_lload hx hb d_M_part_51 (lv_at hl 1 rfl) ?_
      exact g_lret X w hrt hlk d_M_part_53 ⟨by unfold prt; rw [if_neg (by decide), if_neg (by omega)], rfl⟩
    · skip
      refine lv_lload hx hb d_M_part_44 (lv_at hl 1 rfl) ?_
      refine lv_lconst (v := jN (1)) hx hb d_M_part_46 (by decide) ?_
      refine rj_sub (a := (a.tdiv b)) (b := 1) hx hb d_M_part_47 rfl rfl ?_
      refine lv_goto (tgt := 53) hx hb d_M_part_48 (by decide) ?_
      exact g_lret X w hrt hlk d_M_part_53 ⟨by unfold prt; rw [if_neg (by decide), if_pos (by omega)], rfl⟩
  · omega
set_option maxHeartbeats 4000000 in
set_option maxRecDepth 100000 in
theorem c_M_see (l : Launch) {D : va_G} {cI cR : ClassId} {L : List Nat} {f : Nat → va_E} {mo : Nat} {A : Nat → Nat} {v : Nat → Int} {F : Nat → Nat → Int} (g : mg L mo A) {x y : Int} (hs15 : -1000000000 ≤ v 15 ∧ v 15 ≤ 1000000000 ∧ -1000000000 ≤ v 16 ∧ v 16 ≤ 1000000000) (hx3 : -1000000000 ≤ x ∧ x ≤ 1000000000) (hy3 : -1000000000 ≤ y ∧ y ≤ 1000000000) : gMv D cI cR l y_M_see (Cond.code y_M_see b_M_see 5 none :: lw_g) { frames := 0, cells := 0, slots := 0, locals := 0 } [.ref mo, .long (jN (x)), .long (jN (y))] L (mSt cI mo A f v F) (fun u => ∃ v' : Nat → Int, u = (L, mSt cI mo A f v' F) ∧ v' 15 = min x (v 15) ∧ v' 16 = max y (v 16) ∧ ∀ k, k ≠ 15 → k ≠ 16 → v' k = v k) := by
  intro sz
  refine g_enter (by decide) rfl (Nat.le_of_ble_eq_true rfl) ?_
  intro p e s m below meth cd ls X hrt hlk hnm hl hsz w
  have X : gx p m cd b_M_see 5 s _ "HullSumsModel" D cI cR := X
  have hx := X.1.1
  have hb := X.1.2.1
  have hl : lv_has ls 5 [(0, .ref mo), (1, .long (jN (x))), (3, .long (jN (y)))] := hl
  have hs := hs15
  refine lv_aload_n hx hb d_M_see_0 rfl (lv_at hl 0 rfl) ?_
  refine lv_lload_n hx hb d_M_see_1 rfl (lv_at hl 1 rfl) ?_
  refine g_joinw (D := D) (A := gA L sz) (H0 := s.heap) (L := L) (f := (mSt cI mo A f v F)) (g1 := F0 m 18 ls [.long (jN ((min x (v 15)))), .ref mo]) (fun H locs w => ?_) (fun K1 => ?_)
  · skip
    refine gk_put X w g.1.1 (show (mSt cI mo A f v F) mo = .inr (4, _) from mS_m) rfl in_M ty_M tyok_M nm_M 15 (by decide) lk_M_109 rfl (ty := .long) (by decide +kernel) rfl rfl (Nat.le_of_ble_eq_true rfl) d_M_see_18 (fun H locs w => ?_)
    obtain ⟨v2, hv2⟩ : ∃ q : Nat → Int, q = va_up v 15 ((min x (v 15))) := ⟨_, rfl⟩
    have v2s : v2 15 = (min x (v 15)) := by rw [hv2, va_up_self]
    have v2n : ∀ j, j ≠ 15 → v2 j = v j := fun j hj => by rw [hv2, va_up_ne _ _ hj]
    have w : gw D (gA L sz) s.heap H locs L (mSt cI mo A f v2 F) := by rw [hv2, ← mU_m (v := v)]; exact w
    refine lv_aload_n hx hb d_M_see_21 rfl (lv_at hl 0 rfl) ?_
    refine lv_lload_n hx hb d_M_see_22 rfl (lv_at hl 2 rfl) ?_
    refine g_joinw (D := D) (A := gA L sz) (H0 := s.heap) (L := L) (f := (mSt cI mo A f v2 F)) (g1 := F0 m 39 ls [.long (jN ((max y (v 16)))), .ref mo]) (fun H locs w => ?_) (fun K3 => ?_)
    · skip
      refine gk_put X w g.1.1 (show (mSt cI mo A f v2 F) mo = .inr (4, _) from mS_m) rfl in_M ty_M tyok_M nm_M 16 (by decide) lk_M_112 rfl (ty := .long) (by decide +kernel) rfl rfl (Nat.le_of_ble_eq_true rfl) d_M_see_39 (fun H locs w => ?_)
      obtain ⟨v4, hv4⟩ : ∃ q : Nat → Int, q = va_up v2 16 ((max y (v 16))) := ⟨_, rfl⟩
      have v4s : v4 16 = (max y (v 16)) := by rw [hv4, va_up_self]
      have v4n : ∀ j, j ≠ 16 → v4 j = v2 j := fun j hj => by rw [hv4, va_up_ne _ _ hj]
      have w : gw D (gA L sz) s.heap H locs L (mSt cI mo A f v4 F) := by rw [hv4, ← mU_m (v := v2)]; exact w
      exact g_vret X w hrt hlk d_M_see_42 ⟨v4, rfl, ((v4n 15 (by decide)).trans (v2s)), (v4s), fun k h15 h16 => ((v4n k h16).trans (v2n k h15))⟩
    · skip
      refine lv_aload_n hx hb d_M_see_23 rfl (lv_at hl 0 rfl) ?_
      refine gk_get X w g.1.1 (show (mSt cI mo A f v2 F) mo = .inr (4, _) from mS_m) rfl in_M 16 (by decide) lk_M_112 rfl d_M_see_24 ?_
      rw [show v2 16 = (v 16) from (v2n 16 (by decide))]
      refine rj_cle (a := y) (b := (v 16)) (tgt := 35) hx hb d_M_see_27 d_M_see_28 (by decide) rfl rfl (by unfold i6; omega) (by unfold i6; omega) (fun c27 => ?_) (fun c27 => ?_)
      · skip
        refine lv_aload_n hx hb d_M_see_35 rfl (lv_at hl 0 rfl) ?_
        refine gk_get X w g.1.1 (show (mSt cI mo A f v2 F) mo = .inr (4, _) from mS_m) rfl in_M 16 (by decide) lk_M_112 rfl d_M_see_36 ?_
        rw [show v2 16 = (v 16) from (v2n 16 (by decide))]
        exact W.eq (congrArg (fun z : Int => F0 m 39 ls [.long (jN z), .ref mo]) (show (v 16) = (max y (v 16)) from (by omega))) (K3 _ _ w)
      · skip
        refine lv_lload_n hx hb d_M_see_31 rfl (lv_at hl 2 rfl) ?_
        refine lv_goto (tgt := 39) hx hb d_M_see_32 (by decide) ?_
        exact W.eq (congrArg (fun z : Int => F0 m 39 ls [.long (jN z), .ref mo]) (show y = (max y (v 16)) from (by omega))) (K3 _ _ w)
  · skip
    refine lv_aload_n hx hb d_M_see_2 rfl (lv_at hl 0 rfl) ?_
    refine gk_get X w g.1.1 (show (mSt cI mo A f v F) mo = .inr (4, _) from mS_m) rfl in_M 15 (by decide) lk_M_109 rfl d_M_see_3 ?_
    refine rj_cge (a := x) (b := (v 15)) (tgt := 14) hx hb d_M_see_6 d_M_see_7 (by decide) rfl rfl (by unfold i6; omega) (by unfold i6; omega) (fun c6 => ?_) (fun c6 => ?_)
    · skip
      refine lv_aload_n hx hb d_M_see_14 rfl (lv_at hl 0 rfl) ?_
      refine gk_get X w g.1.1 (show (mSt cI mo A f v F) mo = .inr (4, _) from mS_m) rfl in_M 15 (by decide) lk_M_109 rfl d_M_see_15 ?_
      exact W.eq (congrArg (fun z : Int => F0 m 18 ls [.long (jN z), .ref mo]) (show (v 15) = (min x (v 15)) from (by omega))) (K1 _ _ w)
    · skip
      refine lv_lload_n hx hb d_M_see_10 rfl (lv_at hl 1 rfl) ?_
      refine lv_goto (tgt := 18) hx hb d_M_see_11 (by decide) ?_
      exact W.eq (congrArg (fun z : Int => F0 m 18 ls [.long (jN z), .ref mo]) (show x = (min x (v 15)) from (by omega))) (K1 _ _ w)
