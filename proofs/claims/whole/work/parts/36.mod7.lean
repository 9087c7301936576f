/-! THE REFERENCE: row, allPoints -/
def rwC (ax ay bx by_ y : Int) (r : Int × Int) : Int × Int := if y < ay ∨ by_ < y then r else if ay = by_ then (min bx (min ax r.1), max bx (max ax r.2)) else (min (ax + prt ((bx - ax) * (y - ay)) (by_ - ay) true) r.1, max (ax + prt ((bx - ax) * (y - ay)) (by_ - ay) false) r.2)
def rwS (H : List Pt) (i y k : Int) (r : Int × Int) : Int × Int := if k * pY H (nx H i) < k * pY H i then rwC (k * pX H (nx H i)) (k * pY H (nx H i)) (k * pX H i) (k * pY H i) y r else rwC (k * pX H i) (k * pY H i) (k * pX H (nx H i)) (k * pY H (nx H i)) y r
theorem prt_b {a b : Int} (up : Bool) (hb : 0 < b) (ha : -100000000 ≤ a ∧ a ≤ 100000000) : -100000001 ≤ prt a b up ∧ prt a b up ≤ 100000001 := by
  have h : -100000000 ≤ a.tdiv b ∧ a.tdiv b ≤ 100000000 := by
    rcases Int.le_total 0 a with h | h
    · have h1 := Int.tdiv_le_self b h
      have h2 := Int.tdiv_nonneg h (show 0 ≤ b by omega)
      omega
    · have h1 := Int.tdiv_le_self b (show 0 ≤ -a by omega)
      have h2 := Int.tdiv_nonneg (show 0 ≤ -a by omega) (show 0 ≤ b by omega)
      rw [Int.neg_tdiv] at h1 h2
      omega
  unfold prt
  split <;> split <;> omega
def rB (r : Int × Int) : Prop := -200000000 ≤ r.1 ∧ r.1 ≤ 200000000 ∧ -200000000 ≤ r.2 ∧ r.2 ≤ 200000000
def kB (x : Int) : Prop := -3600 ≤ x ∧ x ≤ 3600
theorem k_b {k x : Int} (hk : 0 ≤ k ∧ k ≤ 6) (hx : -600 ≤ x ∧ x ≤ 600) : kB (k * x) := by
  have := mbc (a := k) (b := x) 6 600 3600 (by omega) (by omega) (by omega) (by omega) (by decide)
  unfold kB; omega
theorem up_b {ax ay bx y : Int} (h1 : kB ax) (h2 : kB ay) (h3 : kB bx) (h5 : kB y) : -51840000 ≤ (bx - ax) * (y - ay) ∧ (bx - ax) * (y - ay) ≤ 51840000 := by
  unfold kB at *
  exact mbc (a := bx - ax) (b := y - ay) 7200 7200 51840000 (by omega) (by omega) (by omega) (by omega) (by decide)
theorem rwC_b {ax ay bx by_ y : Int} {r : Int × Int} (h1 : kB ax) (h2 : kB ay) (h3 : kB bx) (h4 : kB by_) (h5 : kB y) (hab : ay ≤ by_) (hr : rB r) : rB (rwC ax ay bx by_ y r) := by
  have hu := up_b h1 h2 h3 h5
  unfold rwC
  split
  · exact hr
  · split
    · unfold rB kB at *; dsimp only; omega
    · have a := prt_b (a := (bx - ax) * (y - ay)) (b := by_ - ay) true (by omega) (by omega)
      have b := prt_b (a := (bx - ax) * (y - ay)) (b := by_ - ay) false (by omega) (by omega)
      unfold rB kB at *; dsimp only; omega
theorem rwS_b {H : List Pt} {i y k : Int} {r : Int × Int} (hB : pb 600 H) (hk : 0 ≤ k ∧ k ≤ 6) (h5 : kB y) (hr : rB r) : rB (rwS H i y k r) := by
  have a := hB i; have b := hB (nx H i)
  unfold rwS
  split
  · exact rwC_b (k_b hk (by omega)) (k_b hk (by omega)) (k_b hk (by omega)) (k_b hk (by omega)) h5 (by omega) hr
  · exact rwC_b (k_b hk (by omega)) (k_b hk (by omega)) (k_b hk (by omega)) (k_b hk (by omega)) h5 (by omega) hr

set_option maxHeartbeats 4000000 in
set_option maxRecDepth 100000 in
theorem c_M_row (l : Launch) {D : va_G} {cI cR : ClassId} {L : List Nat} {f : Nat → va_E} {mo : Nat} {A : Nat → Nat} {v : Nat → Int} {F : Nat → Nat → Int} (g : mg L mo A) {Wl Hu : List Pt} (hL : mLd v F Wl Hu) (hH576 : Hu.length ≤ 576) (hHb : pb 600 Hu) {i y k : Int} (hi : 0 ≤ i ∧ i < Hu.length) (hy5 : kB y) (hk : 0 ≤ k ∧ k ≤ 6) (hr0 : rB (v 15, v 16)) : gMv D cI cR l y_M_row (Cond.code y_M_row b_M_row 15 none :: lw_g) { frames := 1, cells := 0, slots := 0, locals := 28 } [.ref mo, .int (iN (i)), .long (jN (y)), .int (iN (k))] L (mSt cI mo A f v F) (fun u => ∃ v' : Nat → Int, u = (L, mSt cI mo A f v' F) ∧ (v' 15, v' 16) = rwS Hu i y k (v 15, v 16) ∧ ∀ q, q ≠ 15 → q ≠ 16 → v' q = v q) := by
  intro sz
  refine g_enter (by decide) rfl (Nat.le_of_ble_eq_true rfl) ?_
  intro p e s m below meth cd ls X hrt hlk hnm hl hsz w
  have X : gx p m cd b_M_row 15 s _ "HullSumsModel" D cI cR := X
  have hx := X.1.1
  have hb := X.1.2.1
  have hl : lv_has ls 15 [(0, .ref mo), (1, .int (iN (i))), (2, .long (jN (y))), (4, .int (iN (k)))] := hl
  obtain ⟨h7, h10, hwF, hhF⟩ := hL
  have hb1 := hHb i
  have hb2 := hHb (nx Hu i)
  have hk1 : kB (k * (pX Hu i)) := k_b hk (by omega)
  have hk2 : kB (k * (pY Hu i)) := k_b hk (by omega)
  have hk3 : kB (k * (pX Hu (nx Hu i))) := k_b hk (by omega)
  have hk4 : kB (k * (pY Hu (nx Hu i))) := k_b hk (by omega)
  refine lv_iload hx hb d_M_row_0 (lv_at hl 3 rfl) ?_
  refine ri_i2l (a := k) hx hb d_M_row_2 rfl (by unfold i3; omega) ?_
  refine lv_aload_n hx hb d_M_row_3 rfl (lv_at hl 0 rfl) ?_
  refine gk_get X w g.1.1 (show (mSt cI mo A f v F) mo = .inr (4, _) from mS_m) rfl in_M 8 (by decide) lk_M_25 rfl d_M_row_4 ?_
  refine lv_iload_n hx hb d_M_row_7 rfl (lv_at hl 1 rfl) ?_
  refine gk_iald X w 0 g.1.2.2.2.2.2.2.1 (mS_8 g) rfl (vin (by omega) (show (i : Int) < 576 by have h9 : (i : Int) < Hu.length := (by omega); omega) (by decide)) d_M_row_8 ?_
  rw [vcl (z := i) (by omega) (by have h9 : (i : Int) < Hu.length := (by omega); omega), hld_x hhF (i := i) (by omega) (by omega)]
  refine ri_i2l (a := (pX Hu i)) hx hb d_M_row_9 rfl (by unfold i3; omega) ?_
  refine rj_mul (a := k) (b := (pX Hu i)) hx hb d_M_row_10 rfl rfl ?_
  refine lv_lstore (lv' := [(5, .long (jN ((k * (pX Hu i))))), (0, .ref mo), (1, .int (iN (i))), (2, .long (jN (y))), (4, .int (iN (k)))]) hx hb d_M_row_11 hl (by decide) rfl (fun ls hl => ?_)
  refine lv_iload hx hb d_M_row_13 (lv_at hl 4 rfl) ?_
  refine ri_i2l (a := k) hx hb d_M_row_15 rfl (by unfold i3; omega) ?_
  refine lv_aload_n hx hb d_M_row_16 rfl (lv_at hl 1 rfl) ?_
  refine gk_get X w g.1.1 (show (mSt cI mo A f v F) mo = .inr (4, _) from mS_m) rfl in_M 9 (by decide) lk_M_28 rfl d_M_row_17 ?_
  refine lv_iload_n hx hb d_M_row_20 rfl (lv_at hl 2 rfl) ?_
  refine gk_iald X w 0 g.1.2.2.2.2.2.2.2 (mS_9 g) rfl (vin (by omega) (show (i : Int) < 576 by have h9 : (i : Int) < Hu.length := (by omega); omega) (by decide)) d_M_row_21 ?_
  rw [vcl (z := i) (by omega) (by have h9 : (i : Int) < Hu.length := (by omega); omega), hld_y hhF (i := i) (by omega) (by omega)]
  refine ri_i2l (a := (pY Hu i)) hx hb d_M_row_22 rfl (by unfold i3; omega) ?_
  refine rj_mul (a := k) (b := (pY Hu i)) hx hb d_M_row_23 rfl rfl ?_
  refine lv_lstore (lv' := [(7, .long (jN ((k * (pY Hu i))))), (5, .long (jN ((k * (pX Hu i))))), (0, .ref mo), (1, .int (iN (i))), (2, .long (jN (y))), (4, .int (iN (k)))]) hx hb d_M_row_24 hl (by decide) rfl (fun ls hl => ?_)
  refine lv_iload hx hb d_M_row_26 (lv_at hl 5 rfl) ?_
  refine ri_i2l (a := k) hx hb d_M_row_28 rfl (by unfold i3; omega) ?_
  refine lv_aload_n hx hb d_M_row_29 rfl (lv_at hl 2 rfl) ?_
  refine gk_get X w g.1.1 (show (mSt cI mo A f v F) mo = .inr (4, _) from mS_m) rfl in_M 8 (by decide) lk_M_25 rfl d_M_row_30 ?_
  refine lv_aload_n hx hb d_M_row_33 rfl (lv_at hl 2 rfl) ?_
  refine lv_iload_n hx hb d_M_row_34 rfl (lv_at hl 3 rfl) ?_
  refine g_ci w (g_runV (As := [.int (iN (i))]) (rest := [.ref (A 8), .long (jN (k))]) X w (c_M_after l g (v := v) (F := F) (by rw [h10]; unfold i3; omega) (z := i) (by omega)) k_M_after v_M_after lk_M_66 g.1.1 (show mSt cI mo A f v F mo = .inr (4, _) from mS_m) rfl ⟨(Nat.le_of_ble_eq_true rfl), (Nat.le_of_ble_eq_true rfl)⟩ rfl hl.1 rfl (Nat.le_of_ble_eq_true rfl) d_M_row_35 ⟨(Nat.le_of_ble_eq_true rfl), (Nat.le_of_ble_eq_true rfl)⟩) (fun r u H locs hp w => ?_)
  obtain ⟨hr9, rfl⟩ := hp
  rw [aft_nx h10] at hr9
  subst hr9
  have w : gw D (gA L sz) s.heap H locs L (mSt cI mo A f v F) := w
  refine gk_iald X w 0 g.1.2.2.2.2.2.2.1 (mS_8 g) rfl (vin (nx_lt (by omega) (by omega)).1 (show ((nx Hu i) : Int) < 576 by have h9 : ((nx Hu i) : Int) < Hu.length := (nx_lt (by omega) (by omega)).2; omega) (by decide)) d_M_row_38 ?_
  rw [vcl (z := (nx Hu i)) (nx_lt (by omega) (by omega)).1 (by have h9 : ((nx Hu i) : Int) < Hu.length := (nx_lt (by omega) (by omega)).2; omega), hld_x hhF (i := (nx Hu i)) (nx_lt (by omega) (by omega)).1 (nx_lt (by omega) (by omega)).2]
  refine ri_i2l (a := (pX Hu (nx Hu i))) hx hb d_M_row_39 rfl (by unfold i3; omega) ?_
  refine rj_mul (a := k) (b := (pX Hu (nx Hu i))) hx hb d_M_row_40 rfl rfl ?_
  refine lv_lstore (lv' := [(9, .long (jN ((k * (pX Hu (nx Hu i)))))), (7, .long (jN ((k * (pY Hu i))))), (5, .long (jN ((k * (pX Hu i))))), (0, .ref mo), (1, .int (iN (i))), (2, .long (jN (y))), (4, .int (iN (k)))]) hx hb d_M_row_41 hl (by decide) rfl (fun ls hl => ?_)
  refine lv_iload hx hb d_M_row_43 (lv_at hl 6 rfl) ?_
  refine ri_i2l (a := k) hx hb d_M_row_45 rfl (by unfold i3; omega) ?_
  refine lv_aload_n hx hb d_M_row_46 rfl (lv_at hl 3 rfl) ?_
  refine gk_get X w g.1.1 (show (mSt cI mo A f v F) mo = .inr (4, _) from mS_m) rfl in_M 9 (by decide) lk_M_28 rfl d_M_row_47 ?_
  refine lv_aload_n hx hb d_M_row_50 rfl (lv_at hl 3 rfl) ?_
  refine lv_iload_n hx hb d_M_row_51 rfl (lv_at hl 4 rfl) ?_
  refine g_ci w (g_runV (As := [.int (iN (i))]) (rest := [.ref (A 9), .long (jN (k))]) X w (c_M_after l g (v := v) (F := F) (by rw [h10]; unfold i3; omega) (z := i) (by omega)) k_M_after v_M_after lk_M_66 g.1.1 (show mSt cI mo A f v F mo = .inr (4, _) from mS_m) rfl ⟨(Nat.le_of_ble_eq_true rfl), (Nat.le_of_ble_eq_true rfl)⟩ rfl hl.1 rfl (Nat.le_of_ble_eq_true rfl) d_M_row_52 ⟨(Nat.le_of_ble_eq_true rfl), (Nat.le_of_ble_eq_true rfl)⟩) (fun r u H locs hp w => ?_)
  obtain ⟨hr9, rfl⟩ := hp
  rw [aft_nx h10] at hr9
  subst hr9
  have w : gw D (gA L sz) s.heap H locs L (mSt cI mo A f v F) := w
  refine gk_iald X w 0 g.1.2.2.2.2.2.2.2 (mS_9 g) rfl (vin (nx_lt (by omega) (by omega)).1 (show ((nx Hu i) : Int) < 576 by have h9 : ((nx Hu i) : Int) < Hu.length := (nx_lt (by omega) (by omega)).2; omega) (by decide)) d_M_row_55 ?_
  rw [vcl (z := (nx Hu i)) (nx_lt (by omega) (by omega)).1 (by have h9 : ((nx Hu i) : Int) < Hu.length := (nx_lt (by omega) (by omega)).2; omega), hld_y hhF (i := (nx Hu i)) (nx_lt (by omega) (by omega)).1 (nx_lt (by omega) (by omega)).2]
  refine ri_i2l (a := (pY Hu (nx Hu i))) hx hb d_M_row_56 rfl (by unfold i3; omega) ?_
  refine rj_mul (a := k) (b := (pY Hu (nx Hu i))) hx hb d_M_row_57 rfl rfl ?_
  refine lv_lstore (lv' := [(11, .long (jN ((k * (pY Hu (nx Hu i)))))), (9, .long (jN ((k * (pX Hu (nx Hu i)))))), (7, .long (jN ((k * (pY Hu i))))), (5, .long (jN ((k * (pX Hu i))))), (0, .ref mo), (1, .int (iN (i))), (2, .long (jN (y))), (4, .int (iN (k)))]) hx hb d_M_row_58 hl (by decide) rfl (fun ls hl => ?_)
  refine lv_lload hx hb d_M_row_60 (lv_at hl 2 rfl) ?_
  refine lv_lload hx hb d_M_row_62 (lv_at hl 0 rfl) ?_
  refine rj_cle (a := (k * (pY Hu i))) (b := (k * (pY Hu (nx Hu i)))) (tgt := 92) hx hb d_M_row_64 d_M_row_65 (by decide) rfl rfl (by unfold kB at *; unfold i6; omega) (by unfold kB at *; unfold i6; omega) (fun c64 => ?_) (fun c64 => ?_)
  · skip
    refine lv_lload_n hx hb d_M_row_92 rfl (lv_at hl 6 rfl) ?_
    refine lv_lload hx hb d_M_row_93 (lv_at hl 2 rfl) ?_
    refine rj_clt (a := y) (b := (k * (pY Hu i))) (tgt := 106) hx hb d_M_row_95 d_M_row_96 (by decide) rfl rfl (by unfold kB at *; unfold i6; omega) (by unfold kB at *; unfold i6; omega) (fun c95 => ?_) (fun c95 => ?_)
    · skip
      exact g_vret X w hrt hlk d_M_row_106 ⟨v, rfl, by unfold rwS; rw [if_neg (by omega)]; unfold rwC; rw [if_pos (by omega)], fun _ _ _ => rfl⟩
    · skip
      refine lv_lload_n hx hb d_M_row_99 rfl (lv_at hl 6 rfl) ?_
      refine lv_lload hx hb d_M_row_100 (lv_at hl 0 rfl) ?_
      refine rj_cle (a := y) (b := (k * (pY Hu (nx Hu i)))) (tgt := 107) hx hb d_M_row_102 d_M_row_103 (by decide) rfl rfl (by unfold kB at *; unfold i6; omega) (by unfold kB at *; unfold i6; omega) (fun c102 => ?_) (fun c102 => ?_)
      · skip
        refine lv_lload hx hb d_M_row_107 (lv_at hl 2 rfl) ?_
        refine lv_lload hx hb d_M_row_109 (lv_at hl 0 rfl) ?_
        refine rj_cne (a := (k * (pY Hu i))) (b := (k * (pY Hu (nx Hu i)))) (tgt := 132) hx hb d_M_row_111 d_M_row_112 (by decide) rfl rfl (by unfold kB at *; unfold i6; omega) (by unfold kB at *; unfold i6; omega) (fun c111 => ?_) (fun c111 => ?_)
        · skip
          have hup := up_b (ax := (k * (pX Hu i))) (ay := (k * (pY Hu i))) (bx := (k * (pX Hu (nx Hu i)))) (y := y) (by assumption) (by assumption) (by assumption) hy5
          have hp1 := prt_b (a := (((k * (pX Hu (nx Hu i))) - (k * (pX Hu i))) * (y - (k * (pY Hu i))))) (b := (k * (pY Hu (nx Hu i))) - (k * (pY Hu i))) true (by omega) (by omega)
          have hp2 := prt_b (a := (((k * (pX Hu (nx Hu i))) - (k * (pX Hu i))) * (y - (k * (pY Hu i))))) (b := (k * (pY Hu (nx Hu i))) - (k * (pY Hu i))) false (by omega) (by omega)
          refine lv_lload hx hb d_M_row_132 (lv_at hl 1 rfl) ?_
          refine lv_lload hx hb d_M_row_134 (lv_at hl 3 rfl) ?_
          refine rj_sub (a := (k * (pX Hu (nx Hu i)))) (b := (k * (pX Hu i))) hx hb d_M_row_136 rfl rfl ?_
          refine lv_lload_n hx hb d_M_row_137 rfl (lv_at hl 6 rfl) ?_
          refine lv_lload hx hb d_M_row_138 (lv_at hl 2 rfl) ?_
          refine rj_sub (a := y) (b := (k * (pY Hu i))) hx hb d_M_row_140 rfl rfl ?_
          refine rj_mul (a := ((k * (pX Hu (nx Hu i))) - (k * (pX Hu i)))) (b := (y - (k * (pY Hu i)))) hx hb d_M_row_141 rfl rfl ?_
          refine lv_lstore (lv' := [(13, .long (jN ((((k * (pX Hu (nx Hu i))) - (k * (pX Hu i))) * (y - (k * (pY Hu i))))))), (11, .long (jN ((k * (pY Hu (nx Hu i)))))), (9, .long (jN ((k * (pX Hu (nx Hu i)))))), (7, .long (jN ((k * (pY Hu i))))), (5, .long (jN ((k * (pX Hu i))))), (0, .ref mo), (1, .int (iN (i))), (2, .long (jN (y))), (4, .int (iN (k)))]) hx hb d_M_row_142 hl (by decide) rfl (fun ls hl => ?_)
          refine lv_aload_n hx hb d_M_row_144 rfl (lv_at hl 5 rfl) ?_
          refine lv_lload hx hb d_M_row_145 (lv_at hl 4 rfl) ?_
          refine lv_lload hx hb d_M_row_147 (lv_at hl 0 rfl) ?_
          refine lv_lload hx hb d_M_row_149 (lv_at hl 1 rfl) ?_
          refine lv_lload hx hb d_M_row_151 (lv_at hl 3 rfl) ?_
          refine rj_sub (a := (k * (pY Hu (nx Hu i)))) (b := (k * (pY Hu i))) hx hb d_M_row_153 rfl rfl ?_
          refine lv_iconst (v := iN (1)) hx hb d_M_row_154 (by decide) ?_
          refine g_cl w (g_runS (As := [.long (jN ((((k * (pX Hu (nx Hu i))) - (k * (pX Hu i))) * (y - (k * (pY Hu i)))))), .long (jN (((k * (pY Hu (nx Hu i))) - (k * (pY Hu i))))), .int (iN (1))]) (rest := [.long (jN ((k * (pX Hu i)))), .ref mo]) X w (c_M_partU l (a := (((k * (pX Hu (nx Hu i))) - (k * (pX Hu i))) * (y - (k * (pY Hu i))))) (b := ((k * (pY Hu (nx Hu i))) - (k * (pY Hu i)))) (by omega) (by unfold kB at *; omega) (by omega)) k_M_part lk_M_105 st_M_part ⟨(Nat.le_of_ble_eq_true rfl), (Nat.le_of_ble_eq_true rfl)⟩ rfl hl.1 rfl (Nat.le_of_ble_eq_true rfl) d_M_row_155 ⟨Nat.zero_le _, Nat.zero_le _⟩) (fun r u H locs hp w => ?_)
          obtain ⟨rfl, rfl⟩ := hp
          have w : gw D (gA L sz) s.heap H locs L (mSt cI mo A f v F) := w
          refine rj_add (a := (k * (pX Hu i))) (b := (prt (((k * (pX Hu (nx Hu i))) - (k * (pX Hu i))) * (y - (k * (pY Hu i)))) ((k * (pY Hu (nx Hu i))) - (k * (pY Hu i))) true)) hx hb d_M_row_158 rfl rfl ?_
          refine lv_lload hx hb d_M_row_159 (lv_at hl 4 rfl) ?_
          refine lv_lload hx hb d_M_row_161 (lv_at hl 0 rfl) ?_
          refine lv_lload hx hb d_M_row_163 (lv_at hl 1 rfl) ?_
          refine lv_lload hx hb d_M_row_165 (lv_at hl 3 rfl) ?_
          refine rj_sub (a := (k * (pY Hu (nx Hu i)))) (b := (k * (pY Hu i))) hx hb d_M_row_167 rfl rfl ?_
          refine lv_iconst (v := iN (0)) hx hb d_M_row_168 (by decide) ?_
          refine g_cl w (g_runS (As := [.long (jN ((((k * (pX Hu (nx Hu i))) - (k * (pX Hu i))) * (y - (k * (pY Hu i)))))), .long (jN (((k * (pY Hu (nx Hu i))) - (k * (pY Hu i))))), .int (iN (0))]) (rest := [.long (jN ((k * (pX Hu i)))), .long (jN (((k * (pX Hu i)) + (prt (((k * (pX Hu (nx Hu i))) - (k * (pX Hu i))) * (y - (k * (pY Hu i)))) ((k * (pY Hu (nx Hu i))) - (k * (pY Hu i))) true)))), .ref mo]) X w (c_M_partD l (a := (((k * (pX Hu (nx Hu i))) - (k * (pX Hu i))) * (y - (k * (pY Hu i))))) (b := ((k * (pY Hu (nx Hu i))) - (k * (pY Hu i)))) (by omega) (by unfold kB at *; omega) (by omega)) k_M_part lk_M_105 st_M_part ⟨(Nat.le_of_ble_eq_true rfl), (Nat.le_of_ble_eq_true rfl)⟩ rfl hl.1 rfl (Nat.le_of_ble_eq_true rfl) d_M_row_169 ⟨Nat.zero_le _, Nat.zero_le _⟩) (fun r u H locs hp w => ?_)
          obtain ⟨rfl, rfl⟩ := hp
          have w : gw D (gA L sz) s.heap H locs L (mSt cI mo A f v F) := w
          refine rj_add (a := (k * (pX Hu i))) (b := (prt (((k * (pX Hu (nx Hu i))) - (k * (pX Hu i))) * (y - (k * (pY Hu i)))) ((k * (pY Hu (nx Hu i))) - (k * (pY Hu i))) false)) hx hb d_M_row_172 rfl rfl ?_
          refine g_cv w (g_runV (As := [.long (jN (((k * (pX Hu i)) + (prt (((k * (pX Hu (nx Hu i))) - (k * (pX Hu i))) * (y - (k * (pY Hu i)))) ((k * (pY Hu (nx Hu i))) - (k * (pY Hu i))) true)))), .long (jN (((k * (pX Hu i)) + (prt (((k * (pX Hu (nx Hu i))) - (k * (pX Hu i))) * (y - (k * (pY Hu i)))) ((k * (pY Hu (nx Hu i))) - (k * (pY Hu i))) false))))]) (rest := []) X w (c_M_see l g (v := v) (F := F) (x := ((k * (pX Hu i)) + (prt (((k * (pX Hu (nx Hu i))) - (k * (pX Hu i))) * (y - (k * (pY Hu i)))) ((k * (pY Hu (nx Hu i))) - (k * (pY Hu i))) true))) (y := ((k * (pX Hu i)) + (prt (((k * (pX Hu (nx Hu i))) - (k * (pX Hu i))) * (y - (k * (pY Hu i)))) ((k * (pY Hu (nx Hu i))) - (k * (pY Hu i))) false))) (by unfold rB at hr0; dsimp only at hr0; omega) (by unfold kB at *; omega) (by unfold kB at *; omega)) k_M_see v_M_see lk_M_101 g.1.1 (show mSt cI mo A f v F mo = .inr (4, _) from mS_m) rfl ⟨(Nat.le_of_ble_eq_true rfl), (Nat.le_of_ble_eq_true rfl)⟩ rfl hl.1 rfl (Nat.le_of_ble_eq_true rfl) d_M_row_173 ⟨(Nat.le_of_ble_eq_true rfl), (Nat.le_of_ble_eq_true rfl)⟩) (fun u H locs hp w => ?_)
          obtain ⟨s1, rfl, s1a, s1b, s1c⟩ := hp
          have w : gw D (gA L sz) s.heap H locs L (mSt cI mo A f s1 F) := w
          exact g_vret X w hrt hlk d_M_row_176 ⟨s1, rfl, by unfold rwS; rw [if_neg (by omega)]; unfold rwC; rw [if_neg (by omega), if_neg (by omega), s1a, s1b], s1c⟩
        · skip
          refine lv_aload_n hx hb d_M_row_115 rfl (lv_at hl 4 rfl) ?_
          refine lv_lload hx hb d_M_row_116 (lv_at hl 3 rfl) ?_
          refine lv_lload hx hb d_M_row_118 (lv_at hl 3 rfl) ?_
          refine g_cv w (g_runV (As := [.long (jN ((k * (pX Hu i)))), .long (jN ((k * (pX Hu i))))]) (rest := []) X w (c_M_see l g (v := v) (F := F) (x := (k * (pX Hu i))) (y := (k * (pX Hu i))) (by unfold rB at hr0; dsimp only at hr0; omega) (by unfold kB at *; omega) (by unfold kB at *; omega)) k_M_see v_M_see lk_M_101 g.1.1 (show mSt cI mo A f v F mo = .inr (4, _) from mS_m) rfl ⟨(Nat.le_of_ble_eq_true rfl), (Nat.le_of_ble_eq_true rfl)⟩ rfl hl.1 rfl (Nat.le_of_ble_eq_true rfl) d_M_row_120 ⟨(Nat.le_of_ble_eq_true rfl), (Nat.le_of_ble_eq_true rfl)⟩) (fun u H locs hp w => ?_)
          obtain ⟨s2, rfl, s2a, s2b, s2c⟩ := hp
          have w : gw D (gA L sz) s.heap H locs L (mSt cI mo A f s2 F) := w
          refine lv_aload_n hx hb d_M_row_123 rfl (lv_at hl 4 rfl) ?_
          refine lv_lload hx hb d_M_row_124 (lv_at hl 1 rfl) ?_
          refine lv_lload hx hb d_M_row_126 (lv_at hl 1 rfl) ?_
          refine g_cv w (g_runV (As := [.long (jN ((k * (pX Hu (nx Hu i))))), .long (jN ((k * (pX Hu (nx Hu i)))))]) (rest := []) X w (c_M_see l g (v := s2) (F := F) (x := (k * (pX Hu (nx Hu i)))) (y := (k * (pX Hu (nx Hu i)))) (by rw [s2a, s2b]; unfold rB kB at *; dsimp only at hr0; omega) (by unfold kB at *; omega) (by unfold kB at *; omega)) k_M_see v_M_see lk_M_101 g.1.1 (show (mSt cI mo A f s2 F) mo = .inr (4, _) from mS_m) rfl ⟨(Nat.le_of_ble_eq_true rfl), (Nat.le_of_ble_eq_true rfl)⟩ rfl hl.1 rfl (Nat.le_of_ble_eq_true rfl) d_M_row_128 ⟨(Nat.le_of_ble_eq_true rfl), (Nat.le_of_ble_eq_true rfl)⟩) (fun u H locs hp w => ?_)
          obtain ⟨s3, rfl, s3a, s3b, s3c⟩ := hp
          have w : gw D (gA L sz) s.heap H locs L (mSt cI mo A f s3 F) := w
          exact g_vret X w hrt hlk d_M_row_131 ⟨s3, rfl, by unfold rwS; rw [if_neg (by omega)]; unfold rwC; rw [if_neg (by omega), if_pos (by omega), s3a, s3b, s2a, s2b], fun q h15 h16 => (s3c q h15 h16).trans (s2c q h15 h16)⟩
      · skip
        exact g_vret X w hrt hlk d_M_row_106 ⟨v, rfl, by unfold rwS; rw [if_neg (by omega)]; unfold rwC; rw [if_pos (by omega)], fun _ _ _ => rfl⟩
  · skip
    refine lv_lload hx hb d_M_row_68 (lv_at hl 3 rfl) ?_
    refine lv_lstore (lv' := [(13, .long (jN ((k * (pX Hu i))))), (11, .long (jN ((k * (pY Hu (nx Hu i)))))), (9, .long (jN ((k * (pX Hu (nx Hu i)))))), (7, .long (jN ((k * (pY Hu i))))), (5, .long (jN ((k * (pX Hu i))))), (0, .ref mo), (1, .int (iN (i))), (2, .long (jN (y))), (4, .int (iN (k)))]) hx hb d_M_row_70 hl (by decide) rfl (fun ls hl => ?_)
    refine lv_lload hx hb d_M_row_72 (lv_at hl 2 rfl) ?_
    refine lv_lstore (lv' := [(5, .long (jN ((k * (pX Hu (nx Hu i)))))), (13, .long (jN ((k * (pX Hu i))))), (11, .long (jN ((k * (pY Hu (nx Hu i)))))), (9, .long (jN ((k * (pX Hu (nx Hu i)))))), (7, .long (jN ((k * (pY Hu i))))), (0, .ref mo), (1, .int (iN (i))), (2, .long (jN (y))), (4, .int (iN (k)))]) hx hb d_M_row_74 hl (by decide) rfl (fun ls hl => ?_)
    refine lv_lload hx hb d_M_row_76 (lv_at hl 1 rfl) ?_
    refine lv_lstore (lv' := [(9, .long (jN ((k * (pX Hu i))))), (5, .long (jN ((k * (pX Hu (nx Hu i)))))), (13, .long (jN ((k * (pX Hu i))))), (11, .long (jN ((k * (pY Hu (nx Hu i)))))), (7, .long (jN ((k * (pY Hu i))))), (0, .ref mo), (1, .int (iN (i))), (2, .long (jN (y))), (4, .int (iN (k)))]) hx hb d_M_row_78 hl (by decide) rfl (fun ls hl => ?_)
    refine lv_lload hx hb d_M_row_80 (lv_at hl 4 rfl) ?_
    refine lv_lstore (lv' := [(13, .long (jN ((k * (pY Hu i))))), (9, .long (jN ((k * (pX Hu i))))), (5, .long (jN ((k * (pX Hu (nx Hu i)))))), (11, .long (jN ((k * (pY Hu (nx Hu i)))))), (7, .long (jN ((k * (pY Hu i))))), (0, .ref mo), (1, .int (iN (i))), (2, .long (jN (y))), (4, .int (iN (k)))]) hx hb d_M_row_82 hl (by decide) rfl (fun ls hl => ?_)
    refine lv_lload hx hb d_M_row_84 (lv_at hl 3 rfl) ?_
    refine lv_lstore (lv' := [(7, .long (jN ((k * (pY Hu (nx Hu i)))))), (13, .long (jN ((k * (pY Hu i))))), (9, .long (jN ((k * (pX Hu i))))), (5, .long (jN ((k * (pX Hu (nx Hu i)))))), (11, .long (jN ((k * (pY Hu (nx Hu i)))))), (0, .ref mo), (1, .int (iN (i))), (2, .long (jN (y))), (4, .int (iN (k)))]) hx hb d_M_row_86 hl (by decide) rfl (fun ls hl => ?_)
    refine lv_lload hx hb d_M_row_88 (lv_at hl 1 rfl) ?_
    refine lv_lstore (lv' := [(11, .long (jN ((k * (pY Hu i))))), (7, .long (jN ((k * (pY Hu (nx Hu i)))))), (13, .long (jN ((k * (pY Hu i))))), (9, .long (jN ((k * (pX Hu i))))), (5, .long (jN ((k * (pX Hu (nx Hu i)))))), (0, .ref mo), (1, .int (iN (i))), (2, .long (jN (y))), (4, .int (iN (k)))]) hx hb d_M_row_90 hl (by decide) rfl (fun ls hl => ?_)
    refine lv_lload_n hx hb d_M_row_92 rfl (lv_at hl 7 rfl) ?_
    refine lv_lload hx hb d_M_row_93 (lv_at hl 1 rfl) ?_
    refine rj_clt (a := y) (b := (k * (pY Hu (nx Hu i)))) (tgt := 106) hx hb d_M_row_95 d_M_row_96 (by decide) rfl rfl (by unfold kB at *; unfold i6; omega) (by unfold kB at *; unfold i6; omega) (fun c95 => ?_) (fun c95 => ?_)
    · skip
      exact g_vret X w hrt hlk d_M_row_106 ⟨v, rfl, by unfold rwS; rw [if_pos (by omega)]; unfold rwC; rw [if_pos (by omega)], fun _ _ _ => rfl⟩
    · skip
      refine lv_lload_n hx hb d_M_row_99 rfl (lv_at hl 7 rfl) ?_
      refine lv_lload hx hb d_M_row_100 (lv_at hl 0 rfl) ?_
      refine rj_cle (a := y) (b := (k * (pY Hu i))) (tgt := 107) hx hb d_M_row_102 d_M_row_103 (by decide) rfl rfl (by unfold kB at *; unfold i6; omega) (by unfold kB at *; unfold i6; omega) (fun c102 => ?_) (fun c102 => ?_)
      · skip
        refine lv_lload hx hb d_M_row_107 (lv_at hl 1 rfl) ?_
        refine lv_lload hx hb d_M_row_109 (lv_at hl 0 rfl) ?_
        refine rj_cne (a := (k * (pY Hu (nx Hu i)))) (b := (k * (pY Hu i))) (tgt := 132) hx hb d_M_row_111 d_M_row_112 (by decide) rfl rfl (by unfold kB at *; unfold i6; omega) (by unfold kB at *; unfold i6; omega) (fun c111 => ?_) (fun c111 => ?_)
        · skip
          have hup := up_b (ax := (k * (pX Hu (nx Hu i)))) (ay := (k * (pY Hu (nx Hu i)))) (bx := (k * (pX Hu i))) (y := y) (by assumption) (by assumption) (by assumption) hy5
          have hp1 := prt_b (a := (((k * (pX Hu i)) - (k * (pX Hu (nx Hu i)))) * (y - (k * (pY Hu (nx Hu i)))))) (b := (k * (pY Hu i)) - (k * (pY Hu (nx Hu i)))) true (by omega) (by omega)
          have hp2 := prt_b (a := (((k * (pX Hu i)) - (k * (pX Hu (nx Hu i)))) * (y - (k * (pY Hu (nx Hu i)))))) (b := (k * (pY Hu i)) - (k * (pY Hu (nx Hu i)))) false (by omega) (by omega)
          refine lv_lload hx hb d_M_row_132 (lv_at hl 3 rfl) ?_
          refine lv_lload hx hb d_M_row_134 (lv_at hl 4 rfl) ?_
          refine rj_sub (a := (k * (pX Hu i))) (b := (k * (pX Hu (nx Hu i)))) hx hb d_M_row_136 rfl rfl ?_
          refine lv_lload_n hx hb d_M_row_137 rfl (lv_at hl 7 rfl) ?_
          refine lv_lload hx hb d_M_row_138 (lv_at hl 1 rfl) ?_
          refine rj_sub (a := y) (b := (k * (pY Hu (nx Hu i)))) hx hb d_M_row_140 rfl rfl ?_
          refine rj_mul (a := ((k * (pX Hu i)) - (k * (pX Hu (nx Hu i))))) (b := (y - (k * (pY Hu (nx Hu i))))) hx hb d_M_row_141 rfl rfl ?_
          refine lv_lstore (lv' := [(13, .long (jN ((((k * (pX Hu i)) - (k * (pX Hu (nx Hu i)))) * (y - (k * (pY Hu (nx Hu i)))))))), (11, .long (jN ((k * (pY Hu i))))), (7, .long (jN ((k * (pY Hu (nx Hu i)))))), (9, .long (jN ((k * (pX Hu i))))), (5, .long (jN ((k * (pX Hu (nx Hu i)))))), (0, .ref mo), (1, .int (iN (i))), (2, .long (jN (y))), (4, .int (iN (k)))]) hx hb d_M_row_142 hl (by decide) rfl (fun ls hl => ?_)
          refine lv_aload_n hx hb d_M_row_144 rfl (lv_at hl 5 rfl) ?_
          refine lv_lload hx hb d_M_row_145 (lv_at hl 4 rfl) ?_
          refine lv_lload hx hb d_M_row_147 (lv_at hl 0 rfl) ?_
          refine lv_lload hx hb d_M_row_149 (lv_at hl 1 rfl) ?_
          refine lv_lload hx hb d_M_row_151 (lv_at hl 2 rfl) ?_
          refine rj_sub (a := (k * (pY Hu i))) (b := (k * (pY Hu (nx Hu i)))) hx hb d_M_row_153 rfl rfl ?_
          refine lv_iconst (v := iN (1)) hx hb d_M_row_154 (by decide) ?_
          refine g_cl w (g_runS (As := [.long (jN ((((k * (pX Hu i)) - (k * (pX Hu (nx Hu i)))) * (y - (k * (pY Hu (nx Hu i))))))), .long (jN (((k * (pY Hu i)) - (k * (pY Hu (nx Hu i)))))), .int (iN (1))]) (rest := [.long (jN ((k * (pX Hu (nx Hu i))))), .ref mo]) X w (c_M_partU l (a := (((k * (pX Hu i)) - (k * (pX Hu (nx Hu i)))) * (y - (k * (pY Hu (nx Hu i)))))) (b := ((k * (pY Hu i)) - (k * (pY Hu (nx Hu i))))) (by omega) (by unfold kB at *; omega) (by omega)) k_M_part lk_M_105 st_M_part ⟨(Nat.le_of_ble_eq_true rfl), (Nat.le_of_ble_eq_true rfl)⟩ rfl hl.1 rfl (Nat.le_of_ble_eq_true rfl) d_M_row_155 ⟨Nat.zero_le _, Nat.zero_le _⟩) (fun r u H locs hp w => ?_)
          obtain ⟨rfl, rfl⟩ := hp
          have w : gw D (gA L sz) s.heap H locs L (mSt cI mo A f v F) := w
          refine rj_add (a := (k * (pX Hu (nx Hu i)))) (b := (prt (((k * (pX Hu i)) - (k * (pX Hu (nx Hu i)))) * (y - (k * (pY Hu (nx Hu i))))) ((k * (pY Hu i)) - (k * (pY Hu (nx Hu i)))) true)) hx hb d_M_row_158 rfl rfl ?_
          refine lv_lload hx hb d_M_row_159 (lv_at hl 4 rfl) ?_
          refine lv_lload hx hb d_M_row_161 (lv_at hl 0 rfl) ?_
          refine lv_lload hx hb d_M_row_163 (lv_at hl 1 rfl) ?_
          refine lv_lload hx hb d_M_row_165 (lv_at hl 2 rfl) ?_
          refine rj_sub (a := (k * (pY Hu i))) (b := (k * (pY Hu (nx Hu i)))) hx hb d_M_row_167 rfl rfl ?_
          refine lv_iconst (v := iN (0)) hx hb d_M_row_168 (by decide) ?_
          refine g_cl w (g_runS (As := [.long (jN ((((k * (pX Hu i)) - (k * (pX Hu (nx Hu i)))) * (y - (k * (pY Hu (nx Hu i))))))), .long (jN (((k * (pY Hu i)) - (k * (pY Hu (nx Hu i)))))), .int (iN (0))]) (rest := [.long (jN ((k * (pX Hu (nx Hu i))))), .long (jN (((k * (pX Hu (nx Hu i))) + (prt (((k * (pX Hu i)) - (k * (pX Hu (nx Hu i)))) * (y - (k * (pY Hu (nx Hu i))))) ((k * (pY Hu i)) - (k * (pY Hu (nx Hu i)))) true)))), .ref mo]) X w (c_M_partD l (a := (((k * (pX Hu i)) - (k * (pX Hu (nx Hu i)))) * (y - (k * (pY Hu (nx Hu i)))))) (b := ((k * (pY Hu i)) - (k * (pY Hu (nx Hu i))))) (by omega) (by unfold kB at *; omega) (by omega)) k_M_part lk_M_105 st_M_part ⟨(Nat.le_of_ble_eq_true rfl), (Nat.le_of_ble_eq_true rfl)⟩ rfl hl.1 rfl (Nat.le_of_ble_eq_true rfl) d_M_row_169 ⟨Nat.zero_le _, Nat.zero_le _⟩) (fun r u H locs hp w => ?_)
          obtain ⟨rfl, rfl⟩ := hp
          have w : gw D (gA L sz) s.heap H locs L (mSt cI mo A f v F) := w
          refine rj_add (a := (k * (pX Hu (nx Hu i)))) (b := (prt (((k * (pX Hu i)) - (k * (pX Hu (nx Hu i)))) * (y - (k * (pY Hu (nx Hu i))))) ((k * (pY Hu i)) - (k * (pY Hu (nx Hu i)))) false)) hx hb d_M_row_172 rfl rfl ?_
          refine g_cv w (g_runV (As := [.long (jN (((k * (pX Hu (nx Hu i))) + (prt (((k * (pX Hu i)) - (k * (pX Hu (nx Hu i)))) * (y - (k * (pY Hu (nx Hu i))))) ((k * (pY Hu i)) - (k * (pY Hu (nx Hu i)))) true)))), .long (jN (((k * (pX Hu (nx Hu i))) + (prt (((k * (pX Hu i)) - (k * (pX Hu (nx Hu i)))) * (y - (k * (pY Hu (nx Hu i))))) ((k * (pY Hu i)) - (k * (pY Hu (nx Hu i)))) false))))]) (rest := []) X w (c_M_see l g (v := v) (F := F) (x := ((k * (pX Hu (nx Hu i))) + (prt (((k * (pX Hu i)) - (k * (pX Hu (nx Hu i)))) * (y - (k * (pY Hu (nx Hu i))))) ((k * (pY Hu i)) - (k * (pY Hu (nx Hu i)))) true))) (y := ((k * (pX Hu (nx Hu i))) + (prt (((k * (pX Hu i)) - (k * (pX Hu (nx Hu i)))) * (y - (k * (pY Hu (nx Hu i))))) ((k * (pY Hu i)) - (k * (pY Hu (nx Hu i)))) false))) (by unfold rB at hr0; dsimp only at hr0; omega) (by unfold kB at *; omega) (by unfold kB at *; omega)) k_M_see v_M_see lk_M_101 g.1.1 (show mSt cI mo A f v F mo = .inr (4, _) from mS_m) rfl ⟨(Nat.le_of_ble_eq_true rfl), (Nat.le_of_ble_eq_true rfl)⟩ rfl hl.1 rfl (Nat.le_of_ble_eq_true rfl) d_M_row_173 ⟨(Nat.le_of_ble_eq_true rfl), (Nat.le_of_ble_eq_true rfl)⟩) (fun u H locs hp w => ?_)
          obtain ⟨s4, rfl, s4a, s4b, s4c⟩ := hp
          have w : gw D (gA L sz) s.heap H locs L (mSt cI mo A f s4 F) := w
          exact g_vret X w hrt hlk d_M_row_176 ⟨s4, rfl, by unfold rwS; rw [if_pos (by omega)]; unfold rwC; rw [if_neg (by omega), if_neg (by omega), s4a, s4b], s4c⟩
        · skip
          refine lv_aload_n hx hb d_M_row_115 rfl (lv_at hl 5 rfl) ?_
          refine lv_lload hx hb d_M_row_116 (lv_at hl 4 rfl) ?_
          refine lv_lload hx hb d_M_row_118 (lv_at hl 4 rfl) ?_
          refine g_cv w (g_runV (As := [.long (jN ((k * (pX Hu (nx Hu i))))), .long (jN ((k * (pX Hu (nx Hu i)))))]) (rest := []) X w (c_M_see l g (v := v) (F := F) (x := (k * (pX Hu (nx Hu i)))) (y := (k * (pX Hu (nx Hu i)))) (by unfold rB at hr0; dsimp only at hr0; omega) (by unfold kB at *; omega) (by unfold kB at *; omega)) k_M_see v_M_see lk_M_101 g.1.1 (show mSt cI mo A f v F mo = .inr (4, _) from mS_m) rfl ⟨(Nat.le_of_ble_eq_true rfl), (Nat.le_of_ble_eq_true rfl)⟩ rfl hl.1 rfl (Nat.le_of_ble_eq_true rfl) d_M_row_120 ⟨(Nat.le_of_ble_eq_true rfl), (Nat.le_of_ble_eq_true rfl)⟩) (fun u H locs hp w => ?_)
          obtain ⟨s5, rfl, s5a, s5b, s5c⟩ := hp
          have w : gw D (gA L sz) s.heap H locs L (mSt cI mo A f s5 F) := w
          refine lv_aload_n hx hb d_M_row_123 rfl (lv_at hl 5 rfl) ?_
          refine lv_lload hx hb d_M_row_124 (lv_at hl 3 rfl) ?_
          refine lv_lload hx hb d_M_row_126 (lv_at hl 3 rfl) ?_
          refine g_cv w (g_runV (As := [.long (jN ((k * (pX Hu i)))), .long (jN ((k * (pX Hu i))))]) (rest := []) X w (c_M_see l g (v := s5) (F := F) (x := (k * (pX Hu i))) (y := (k * (pX Hu i))) (by rw [s5a, s5b]; unfold rB kB at *; dsimp only at hr0; omega) (by unfold kB at *; omega) (by unfold kB at *; omega)) k_M_see v_M_see lk_M_101 g.1.1 (show (mSt cI mo A f s5 F) mo = .inr (4, _) from mS_m) rfl ⟨(Nat.le_of_ble_eq_true rfl), (Nat.le_of_ble_eq_true rfl)⟩ rfl hl.1 rfl (Nat.le_of_ble_eq_true rfl) d_M_row_128 ⟨(Nat.le_of_ble_eq_true rfl), (Nat.le_of_ble_eq_true rfl)⟩) (fun u H locs hp w => ?_)
          obtain ⟨s6, rfl, s6a, s6b, s6c⟩ := hp
          have w : gw D (gA L sz) s.heap H locs L (mSt cI mo A f s6 F) := w
          exact g_vret X w hrt hlk d_M_row_131 ⟨s6, rfl, by unfold rwS; rw [if_pos (by omega)]; unfold rwC; rw [if_neg (by omega), if_pos (by omega), s6a, s6b, s5a, s5b], fun q h15 h16 => (s6c q h15 h16).trans (s5c q h15 h16)⟩
      · skip
        exact g_vret X w hrt hlk d_M_row_106 ⟨v, rfl, by unfold rwS; rw [if_pos (by omega)]; unfold rwC; rw [if_pos (by omega)], fun _ _ _ => rfl⟩
def loS (H : List Pt) (k : Int) : Nat → Int
  | 0 => k * pY H 0
  | n + 1 => min (k * pY H n) (loS H k n)
def hiS (H : List Pt) (k : Int) : Nat → Int
  | 0 => k * pY H 0
  | n + 1 => max (k * pY H n) (hiS H k n)
def rowN (H : List Pt) (k y : Int) : Nat → Int × Int
  | 0 => (10000, -10000)
  | n + 1 => rwS H n y k (rowN H k y n)
def cntR (r : Int × Int) : Int := if r.1 ≤ r.2 then r.2 - r.1 + 1 else 0
def allN (H : List Pt) (k low : Int) : Nat → Int
  | 0 => 0
  | t + 1 => allN H k low t + cntR (rowN H k (low + t) H.length)
def apM (H : List Pt) (k : Int) : Int := if H.length = 0 then 0 else allN H k (loS H k H.length) (hiS H k H.length - loS H k H.length + 1).toNat
theorem lo_b {H : List Pt} (hB : pb 600 H) {k : Int} (hk : 0 ≤ k ∧ k ≤ 6) (n : Nat) : kB (loS H k n) ∧ kB (hiS H k n) ∧ loS H k n ≤ hiS H k n := by
  induction n with
  | zero => have a := hB 0; have := k_b hk (x := pY H 0) (by omega); unfold loS hiS kB at *; omega
  | succ n ih => have a := hB n; have := k_b hk (x := pY H n) (by omega); rw [loS, hiS]; unfold kB at *; omega
theorem rowN_b {H : List Pt} (hB : pb 600 H) {k y : Int} (hk : 0 ≤ k ∧ k ≤ 6) (hy : kB y) (n : Nat) : rB (rowN H k y n) := by
  induction n with
  | zero => unfold rowN rB; dsimp only; omega
  | succ n ih => exact rwS_b hB hk hy ih
theorem cntR_b {r : Int × Int} (h : rB r) : 0 ≤ cntR r ∧ cntR r ≤ 400000001 := by unfold cntR rB at *; split <;> omega
theorem allN_b {H : List Pt} (hB : pb 600 H) {k low : Int} (hk : 0 ≤ k ∧ k ≤ 6) (hl : -3600 ≤ low) (t : Nat) (ht : low + t ≤ 3601) : 0 ≤ allN H k low t ∧ allN H k low t ≤ 400000001 * t := by
  induction t with
  | zero => unfold allN; omega
  | succ t ih =>
    have h1 := ih (by omega)
    have h2 := cntR_b (rowN_b hB hk (y := low + t) (by unfold kB; omega) H.length)
    unfold allN; omega

set_option maxHeartbeats 4000000 in
set_option maxRecDepth 100000 in
theorem c_M_allPoints (l : Launch) {D : va_G} {cI cR : ClassId} {L : List Nat} {f : Nat → va_E} {mo : Nat} {A : Nat → Nat} {v : Nat → Int} {F : Nat → Nat → Int} (g : mg L mo A) {Wl Hu : List Pt} (hL : mLd v F Wl Hu) (hH576 : Hu.length ≤ 576) (hHb : pb 600 Hu) {k : Int} (hk : 0 ≤ k ∧ k ≤ 6) : gMi D cI cR l y_M_allPoints (Cond.code y_M_allPoints b_M_allPoints 11 (some .int) :: lw_g) { frames := 2, cells := 0, slots := 0, locals := 62 } [.ref mo, .int (iN (k))] L (mSt cI mo A f v F) (fun r u => r = iN (apM Hu k) ∧ ∃ v' : Nat → Int, u = (L, mSt cI mo A f v' F) ∧ ∀ q, q ≠ 15 → q ≠ 16 → v' q = v q) := by
  intro sz
  refine g_enter (by decide) rfl (Nat.le_of_ble_eq_true rfl) ?_
  intro p e s m below meth cd ls X hrt hlk hnm hl hsz w
  have X : gx p m cd b_M_allPoints 11 s _ "HullSumsModel" D cI cR := X
  have hx := X.1.1
  have hb := X.1.2.1
  have hl : lv_has ls 11 [(0, .ref mo), (1, .int (iN (k)))] := hl
  have hL0 := hL
  obtain ⟨h7, h10, hwF, hhF⟩ := hL
  refine lv_lconst (v := jN (0)) hx hb d_M_allPoints_0 (by decide) ?_
  refine lv_lstore_n (lv' := [(2, .long (jN (0))), (0, .ref mo), (1, .int (iN (k)))]) hx hb d_M_allPoints_1 rfl hl (by decide) rfl (fun ls hl => ?_)
  refine lv_aload_n hx hb d_M_allPoints_2 rfl (lv_at hl 1 rfl) ?_
  refine gk_get X w g.1.1 (show (mSt cI mo A f v F) mo = .inr (4, _) from mS_m) rfl in_M 10 (by decide) lk_M_51 rfl d_M_allPoints_3 ?_
  rw [show v 10 = (Hu.length : Int) from h10]
  refine ri_zne (a := (Hu.length : Int)) (tgt := 11) hx hb d_M_allPoints_6 (by decide) rfl (by unfold i3; omega) (fun c6 => ?_) (fun c6 => ?_)
  · skip
    refine lv_iload_n hx hb d_M_allPoints_11 rfl (lv_at hl 2 rfl) ?_
    refine ri_i2l (a := k) hx hb d_M_allPoints_12 rfl (by have := hHb 0; unfold i3; omega) ?_
    refine lv_aload_n hx hb d_M_allPoints_13 rfl (lv_at hl 1 rfl) ?_
    refine gk_get X w g.1.1 (show (mSt cI mo A f v F) mo = .inr (4, _) from mS_m) rfl in_M 9 (by decide) lk_M_28 rfl d_M_allPoints_14 ?_
    refine lv_iconst (v := iN (0)) hx hb d_M_allPoints_17 (by decide) ?_
    refine gk_iald X w 0 g.1.2.2.2.2.2.2.2 (mS_9 g) rfl (vin (by omega) (show (0 : Int) < 576 by have h9 : (0 : Int) < Hu.length := (by omega); omega) (by decide)) d_M_allPoints_18 ?_
    rw [vcl (z := 0) (by omega) (by have h9 : (0 : Int) < Hu.length := (by omega); omega), hld_y hhF (i := 0) (by omega) (by omega)]
    refine ri_i2l (a := (pY Hu 0)) hx hb d_M_allPoints_19 rfl (by have := hHb 0; unfold i3; omega) ?_
    refine rj_mul (a := k) (b := (pY Hu 0)) hx hb d_M_allPoints_20 rfl rfl ?_
    refine lv_lstore (lv' := [(4, .long (jN ((k * (pY Hu 0))))), (2, .long (jN (0))), (0, .ref mo), (1, .int (iN (k)))]) hx hb d_M_allPoints_21 hl (by decide) rfl (fun ls hl => ?_)
    refine lv_lload hx hb d_M_allPoints_23 (lv_at hl 0 rfl) ?_
    refine lv_lstore (lv' := [(6, .long (jN ((k * (pY Hu 0))))), (4, .long (jN ((k * (pY Hu 0))))), (2, .long (jN (0))), (0, .ref mo), (1, .int (iN (k)))]) hx hb d_M_allPoints_25 hl (by decide) rfl (fun ls hl => ?_)
    refine lv_iconst (v := iN (0)) hx hb d_M_allPoints_27 (by decide) ?_
    refine lv_istore (lv' := [(8, .int (iN (0))), (6, .long (jN ((k * (pY Hu 0))))), (4, .long (jN ((k * (pY Hu 0))))), (2, .long (jN (0))), (0, .ref mo), (1, .int (iN (k)))]) hx hb d_M_allPoints_28 hl (by decide) rfl (fun ls hl => ?_)
    refine g_loop (σ := Int × Int × Int) (fun z9 => (Hu.length - z9.1).toNat) (fun z9 => [(0, .ref mo), (1, .int (iN (k))), (2, .long (jN (0))), (4, .long (jN (z9.2.1))), (6, .long (jN (z9.2.2))), (8, .int (iN (z9.1)))]) L (fun z9 => (mSt cI mo A f v F)) (fun z9 => 0 ≤ z9.1 ∧ z9.1 ≤ Hu.length ∧ z9.2.1 = loS Hu k z9.1.toNat ∧ z9.2.2 = hiS Hu k z9.1.toNat) ?_ (0, (k * (pY Hu 0)), (k * (pY Hu 0))) _ _ _ ⟨by (try dsimp only); omega, by (try dsimp only); omega, rfl, rfl⟩ w (lv_sub hl [4, 5, 3, 2, 1, 0] rfl)
    intro z9 H locs ls hI w hl ih
    obtain ⟨i, a1, a2⟩ := z9
    have hl : lv_has ls 11 [(0, .ref mo), (1, .int (iN (k))), (2, .long (jN (0))), (4, .long (jN (a1))), (6, .long (jN (a2))), (8, .int (iN (i)))] := hl
    have w : gw D (gA L sz) s.heap H locs L ((mSt cI mo A f v F)) := w
    have hI : 0 ≤ i ∧ i ≤ Hu.length ∧ a1 = loS Hu k i.toNat ∧ a2 = hiS Hu k i.toNat := hI
    obtain ⟨h0, h1, h2, h3⟩ := hI
    have hlb := lo_b hHb hk i.toNat
    rw [← h2, ← h3] at hlb
    have hki : kB (k * (pY Hu i)) := by have := hHb i; exact k_b hk (by omega)
    refine lv_iload hx hb d_M_allPoints_30 (lv_at hl 5 rfl) ?_
    refine lv_aload_n hx hb d_M_allPoints_32 rfl (lv_at hl 0 rfl) ?_
    refine gk_get X w g.1.1 (show (mSt cI mo A f v F) mo = .inr (4, _) from mS_m) rfl in_M 10 (by decide) lk_M_51 rfl d_M_allPoints_33 ?_
    rw [show v 10 = (Hu.length : Int) from h10]
    refine ri_cge (a := i) (b := (Hu.length : Int)) (tgt := 92) hx hb d_M_allPoints_36 (by decide) rfl rfl (by unfold i3; omega) (by unfold i3; omega) (fun c36 => ?_) (fun c36 => ?_)
    · skip
      rw [show i.toNat = Hu.length by omega] at h2 h3
      refine lv_lload hx hb d_M_allPoints_92 (lv_at hl 3 rfl) ?_
      refine lv_lstore (lv' := [(8, .long (jN (a1))), (0, .ref mo), (1, .int (iN (k))), (2, .long (jN (0))), (4, .long (jN (a1))), (6, .long (jN (a2)))]) hx hb d_M_allPoints_94 hl (by decide) rfl (fun ls hl => ?_)
      refine g_loop (σ := Int × Int × (Nat → Int)) (fun z9 => (a2 + 1 - z9.1).toNat) (fun z9 => [(0, .ref mo), (1, .int (iN (k))), (2, .long (jN (z9.2.1))), (4, .long (jN (a1))), (6, .long (jN (a2))), (8, .long (jN (z9.1)))]) L (fun z9 => (mSt cI mo A f z9.2.2 F)) (fun z9 => a1 ≤ z9.1 ∧ z9.1 ≤ a2 + 1 ∧ z9.2.1 = allN Hu k a1 (z9.1 - a1).toNat ∧ (∀ q, q ≠ 15 → q ≠ 16 → z9.2.2 q = v q)) ?_ (a1, 0, v) _ _ _ ⟨by (try dsimp only); omega, by (try dsimp only); omega, by (try dsimp only); rw [show (a1 - a1).toNat = 0 by omega]; rfl, fun _ _ _ => rfl⟩ w (lv_sub hl [1, 2, 3, 4, 5, 0] rfl)
      intro z9 H locs ls hI w hl ih2
      obtain ⟨y, cn, vy⟩ := z9
      have hl : lv_has ls 11 [(0, .ref mo), (1, .int (iN (k))), (2, .long (jN (cn))), (4, .long (jN (a1))), (6, .long (jN (a2))), (8, .long (jN (y)))] := hl
      have w : gw D (gA L sz) s.heap H locs L ((mSt cI mo A f vy F)) := w
      have hI : a1 ≤ y ∧ y ≤ a2 + 1 ∧ cn = allN Hu k a1 (y - a1).toNat ∧ (∀ q, q ≠ 15 → q ≠ 16 → vy q = v q) := hI
      obtain ⟨k0, k1, k2, k3⟩ := hI
      have hab := allN_b hHb hk (low := a1) (by unfold kB at *; omega) (y - a1).toNat (by unfold kB at *; omega)
      rw [← k2] at hab
      refine lv_lload hx hb d_M_allPoints_96 (lv_at hl 5 rfl) ?_
      refine lv_lload hx hb d_M_allPoints_98 (lv_at hl 4 rfl) ?_
      refine rj_cgt (a := y) (b := a2) (tgt := 184) hx hb d_M_allPoints_100 d_M_allPoints_101 (by decide) rfl rfl (by unfold kB at *; unfold i6; omega) (by unfold kB at *; unfold i6; omega) (fun c100 => ?_) (fun c100 => ?_)
      · skip
        refine lv_lload_n hx hb d_M_allPoints_184 rfl (lv_at hl 2 rfl) ?_
        refine ri_l2i (a := cn) hx hb d_M_allPoints_185 rfl (by unfold kB at *; unfold i6; omega) ?_
        exact g_iret X w hrt hlk d_M_allPoints_186 ⟨by unfold apM; rw [if_neg (by omega), k2, ← h2, ← h3, show (a2 - a1 + 1) = y - a1 by omega], vy, rfl, k3⟩
      · skip
        refine lv_aload_n hx hb d_M_allPoints_104 rfl (lv_at hl 0 rfl) ?_
        refine lv_ldc2 hx hb X.1.2.2.2.1 (X.1.2.2.2.2 _ lk_M_115) d_M_allPoints_105 ?_
        refine gk_put X w g.1.1 (show (mSt cI mo A f vy F) mo = .inr (4, _) from mS_m) rfl in_M ty_M tyok_M nm_M 15 (by decide) lk_M_109 rfl (ty := .long) (by decide +kernel) rfl rfl (Nat.le_of_ble_eq_true rfl) d_M_allPoints_108 (fun H locs w => ?_)
        obtain ⟨v1, hv1⟩ : ∃ q : Nat → Int, q = va_up vy 15 (10000) := ⟨_, rfl⟩
        have v1s : v1 15 = 10000 := by rw [hv1, va_up_self]
        have v1n : ∀ j, j ≠ 15 → v1 j = vy j := fun j hj => by rw [hv1, va_up_ne _ _ hj]
        have w : gw D (gA L sz) s.heap H locs L (mSt cI mo A f v1 F) := by rw [hv1, ← mU_m (v := vy)]; exact w
        refine lv_aload_n hx hb d_M_allPoints_111 rfl (lv_at hl 0 rfl) ?_
        refine lv_ldc2 hx hb X.1.2.2.2.1 (X.1.2.2.2.2 _ lk_M_117) d_M_allPoints_112 ?_
        refine gk_put X w g.1.1 (show (mSt cI mo A f v1 F) mo = .inr (4, _) from mS_m) rfl in_M ty_M tyok_M nm_M 16 (by decide) lk_M_112 rfl (ty := .long) (by decide +kernel) rfl rfl (Nat.le_of_ble_eq_true rfl) d_M_allPoints_115 (fun H locs w => ?_)
        obtain ⟨v2, hv2⟩ : ∃ q : Nat → Int, q = va_up v1 16 ((-10000)) := ⟨_, rfl⟩
        have v2s : v2 16 = (-10000) := by rw [hv2, va_up_self]
        have v2n : ∀ j, j ≠ 16 → v2 j = v1 j := fun j hj => by rw [hv2, va_up_ne _ _ hj]
        have w : gw D (gA L sz) s.heap H locs L (mSt cI mo A f v2 F) := by rw [hv2, ← mU_m (v := v1)]; exact w
        refine lv_iconst (v := iN (0)) hx hb d_M_allPoints_118 (by decide) ?_
        refine lv_istore (lv' := [(10, .int (iN (0))), (0, .ref mo), (1, .int (iN (k))), (2, .long (jN (cn))), (4, .long (jN (a1))), (6, .long (jN (a2))), (8, .long (jN (y)))]) hx hb d_M_allPoints_119 hl (by decide) rfl (fun ls hl => ?_)
        refine g_loop (σ := Int × (Nat → Int)) (fun z9 => (Hu.length - z9.1).toNat) (fun z9 => [(0, .ref mo), (1, .int (iN (k))), (2, .long (jN (cn))), (4, .long (jN (a1))), (6, .long (jN (a2))), (8, .long (jN (y))), (10, .int (iN (z9.1)))]) L (fun z9 => (mSt cI mo A f z9.2 F)) (fun z9 => 0 ≤ z9.1 ∧ z9.1 ≤ Hu.length ∧ (z9.2 15, z9.2 16) = rowN Hu k y z9.1.toNat ∧ (∀ q, q ≠ 15 → q ≠ 16 → z9.2 q = v q)) ?_ (0, v2) _ _ _ ⟨by (try dsimp only); omega, by (try dsimp only); omega, by (try dsimp only); rw [((v2n 15 (by decide)).trans (v1s)), v2s]; rfl, fun q h15 h16 => ((v2n q h16).trans (v1n q h15)).trans (k3 q h15 h16)⟩ w (lv_sub hl [1, 2, 3, 4, 5, 6, 0] rfl)
        intro z9 H locs ls hI w hl ih3
        obtain ⟨j, v9⟩ := z9
        have hl : lv_has ls 11 [(0, .ref mo), (1, .int (iN (k))), (2, .long (jN (cn))), (4, .long (jN (a1))), (6, .long (jN (a2))), (8, .long (jN (y))), (10, .int (iN (j)))] := hl
        have w : gw D (gA L sz) s.heap H locs L ((mSt cI mo A f v9 F)) := w
        have hI : 0 ≤ j ∧ j ≤ Hu.length ∧ (v9 15, v9 16) = rowN Hu k y j.toNat ∧ (∀ q, q ≠ 15 → q ≠ 16 → v9 q = v q) := hI
        obtain ⟨j0, j1, j2, j3⟩ := hI
        have h109 : v9 10 = Hu.length := (j3 10 (by decide) (by decide)).trans h10
        have hLv : mLd v9 F Wl Hu := ⟨(j3 7 (by decide) (by decide)).trans h7, h109, hwF, hhF⟩
        have hrb : rB (v9 15, v9 16) := by rw [j2]; exact rowN_b hHb hk (by unfold kB at *; omega) _
        refine lv_iload hx hb d_M_allPoints_121 (lv_at hl 6 rfl) ?_
        refine lv_aload_n hx hb d_M_allPoints_123 rfl (lv_at hl 0 rfl) ?_
        refine gk_get X w g.1.1 (show (mSt cI mo A f v9 F) mo = .inr (4, _) from mS_m) rfl in_M 10 (by decide) lk_M_51 rfl d_M_allPoints_124 ?_
        rw [show v9 10 = (Hu.length : Int) from h109]
        refine ri_cge (a := j) (b := (Hu.length : Int)) (tgt := 145) hx hb d_M_allPoints_127 (by decide) rfl rfl (by unfold i3; omega) (by unfold i3; omega) (fun c127 => ?_) (fun c127 => ?_)
        · skip
          refine lv_lload_n hx hb d_M_allPoints_145 rfl (lv_at hl 2 rfl) ?_
          refine g_joinw (D := D) (A := gA L sz) (H0 := s.heap) (L := L) (f := (mSt cI mo A f v9 F)) (g1 := F0 m 173 ls [.long (jN ((cntR (v9 15, v9 16)))), .long (jN (cn))]) (fun H locs w => ?_) (fun K3 => ?_)
          · skip
            refine rj_add (a := cn) (b := (cntR (v9 15, v9 16))) hx hb d_M_allPoints_173 rfl rfl ?_
            refine lv_lstore_n (lv' := [(2, .long (jN ((cn + (cntR (v9 15, v9 16)))))), (0, .ref mo), (1, .int (iN (k))), (4, .long (jN (a1))), (6, .long (jN (a2))), (8, .long (jN (y))), (10, .int (iN (j)))]) hx hb d_M_allPoints_174 rfl hl (by decide) rfl (fun ls hl => ?_)
            refine lv_lload hx hb d_M_allPoints_175 (lv_at hl 5 rfl) ?_
            refine lv_lconst (v := jN (1)) hx hb d_M_allPoints_177 (by decide) ?_
            refine rj_add (a := y) (b := 1) hx hb d_M_allPoints_178 rfl rfl ?_
            refine lv_lstore (lv' := [(8, .long (jN ((y + 1)))), (2, .long (jN ((cn + (cntR (v9 15, v9 16)))))), (0, .ref mo), (1, .int (iN (k))), (4, .long (jN (a1))), (6, .long (jN (a2))), (10, .int (iN (j)))]) hx hb d_M_allPoints_179 hl (by decide) rfl (fun ls hl => ?_)
            refine lv_goto (tgt := 96) hx hb d_M_allPoints_181 (by decide) ?_
            have hI' : a1 ≤ (y + 1) ∧ (y + 1) ≤ a2 + 1 ∧ (cn + (cntR (v9 15, v9 16))) = allN Hu k a1 ((y + 1) - a1).toNat ∧ (∀ q, q ≠ 15 → q ≠ 16 → v9 q = v q) := ⟨by omega, by omega, by rw [show (y + 1 - a1).toNat = (y - a1).toNat + 1 by omega]; unfold allN; rw [← k2, show a1 + (((y - a1).toNat : Nat) : Int) = y by omega, ← show j.toNat = Hu.length by omega, ← j2], j3⟩
            exact ih2 ((y + 1), (cn + (cntR (v9 15, v9 16))), v9) _ _ _ (by omega) hI' w (lv_sub hl [2, 3, 1, 4, 5, 0] rfl)
          · skip
            refine lv_aload_n hx hb d_M_allPoints_146 rfl (lv_at hl 0 rfl) ?_
            refine gk_get X w g.1.1 (show (mSt cI mo A f v9 F) mo = .inr (4, _) from mS_m) rfl in_M 16 (by decide) lk_M_112 rfl d_M_allPoints_147 ?_
            refine lv_aload_n hx hb d_M_allPoints_150 rfl (lv_at hl 0 rfl) ?_
            refine gk_get X w g.1.1 (show (mSt cI mo A f v9 F) mo = .inr (4, _) from mS_m) rfl in_M 15 (by decide) lk_M_109 rfl d_M_allPoints_151 ?_
            refine rj_clt (a := (v9 16)) (b := (v9 15)) (tgt := 172) hx hb d_M_allPoints_154 d_M_allPoints_155 (by decide) rfl rfl (by unfold rB at hrb; dsimp only at hrb; unfold i6; omega) (by unfold rB at hrb; dsimp only at hrb; unfold i6; omega) (fun c154 => ?_) (fun c154 => ?_)
            · skip
              refine lv_lconst (v := jN (0)) hx hb d_M_allPoints_172 (by decide) ?_
              exact W.eq (congrArg (fun z : Int => F0 m 173 ls [.long (jN z), .long (jN (cn))]) (show 0 = (cntR (v9 15, v9 16)) from (by unfold cntR; rw [if_neg (by omega)]))) (K3 _ _ w)
            · skip
              refine lv_aload_n hx hb d_M_allPoints_158 rfl (lv_at hl 0 rfl) ?_
              refine gk_get X w g.1.1 (show (mSt cI mo A f v9 F) mo = .inr (4, _) from mS_m) rfl in_M 16 (by decide) lk_M_112 rfl d_M_allPoints_159 ?_
              refine lv_aload_n hx hb d_M_allPoints_162 rfl (lv_at hl 0 rfl) ?_
              refine gk_get X w g.1.1 (show (mSt cI mo A f v9 F) mo = .inr (4, _) from mS_m) rfl in_M 15 (by decide) lk_M_109 rfl d_M_allPoints_163 ?_
              refine rj_sub (a := (v9 16)) (b := (v9 15)) hx hb d_M_allPoints_166 rfl rfl ?_
              refine lv_lconst (v := jN (1)) hx hb d_M_allPoints_167 (by decide) ?_
              refine rj_add (a := ((v9 16) - (v9 15))) (b := 1) hx hb d_M_allPoints_168 rfl rfl ?_
              refine lv_goto (tgt := 173) hx hb d_M_allPoints_169 (by decide) ?_
              exact W.eq (congrArg (fun z : Int => F0 m 173 ls [.long (jN z), .long (jN (cn))]) (show (((v9 16) - (v9 15)) + 1) = (cntR (v9 15, v9 16)) from (by unfold cntR; rw [if_pos (by omega)]))) (K3 _ _ w)
        · skip
          refine lv_aload_n hx hb d_M_allPoints_130 rfl (lv_at hl 0 rfl) ?_
          refine lv_iload hx hb d_M_allPoints_131 (lv_at hl 6 rfl) ?_
          refine lv_lload hx hb d_M_allPoints_133 (lv_at hl 5 rfl) ?_
          refine lv_iload_n hx hb d_M_allPoints_135 rfl (lv_at hl 1 rfl) ?_
          refine g_cv w (g_runV (As := [.int (iN (j)), .long (jN (y)), .int (iN (k))]) (rest := []) X w (c_M_row l g (v := v9) (F := F) hLv hH576 hHb (i := j) (y := y) (k := k) (by omega) (by unfold kB at *; omega) hk (by rw [j2]; exact rowN_b hHb hk (by unfold kB at *; omega) _)) k_M_row v_M_row lk_M_119 g.1.1 (show (mSt cI mo A f v9 F) mo = .inr (4, _) from mS_m) rfl ⟨(Nat.le_of_ble_eq_true rfl), (Nat.le_of_ble_eq_true rfl)⟩ rfl hl.1 rfl (Nat.le_of_ble_eq_true rfl) d_M_allPoints_136 ⟨(Nat.le_of_ble_eq_true rfl), (Nat.le_of_ble_eq_true rfl)⟩) (fun u H locs hp w => ?_)
          obtain ⟨v8, rfl, e8, n8⟩ := hp
          have w : gw D (gA L sz) s.heap H locs L (mSt cI mo A f v8 F) := w
          refine lv_iinc (v := iN ((j + 1))) (lv' := [(10, .int (iN ((j + 1)))), (0, .ref mo), (1, .int (iN (k))), (2, .long (jN (cn))), (4, .long (jN (a1))), (6, .long (jN (a2))), (8, .long (jN (y)))]) hx hb d_M_allPoints_139 hl (k := 6) rfl (by rw [show (j + 1) = j + (1 : Int) by omega, ← iN_add]; rfl) (by decide) rfl (fun ls hl => ?_)
          refine lv_goto (tgt := 121) hx hb d_M_allPoints_142 (by decide) ?_
          have hI' : 0 ≤ (j + 1) ∧ (j + 1) ≤ Hu.length ∧ (v8 15, v8 16) = rowN Hu k y (j + 1).toNat ∧ (∀ q, q ≠ 15 → q ≠ 16 → v8 q = v q) := ⟨by omega, by omega, by rw [tn_s j0]; unfold rowN; rw [← j2, tn_c j0]; exact e8, fun q h15 h16 => (n8 q h15 h16).trans (j3 q h15 h16)⟩
          exact ih3 ((j + 1), v8) _ _ _ (by omega) hI' w (lv_sub hl [1, 2, 3, 4, 5, 6, 0] rfl)
    · skip
      refine lv_iload_n hx hb d_M_allPoints_39 rfl (lv_at hl 1 rfl) ?_
      refine ri_i2l (a := k) hx hb d_M_allPoints_40 rfl (by have := hHb 0; have := hHb i; unfold i3; omega) ?_
      refine lv_aload_n hx hb d_M_allPoints_41 rfl (lv_at hl 0 rfl) ?_
      refine gk_get X w g.1.1 (show (mSt cI mo A f v F) mo = .inr (4, _) from mS_m) rfl in_M 9 (by decide) lk_M_28 rfl d_M_allPoints_42 ?_
      refine lv_iload hx hb d_M_allPoints_45 (lv_at hl 5 rfl) ?_
      refine gk_iald X w 0 g.1.2.2.2.2.2.2.2 (mS_9 g) rfl (vin (by omega) (show (i : Int) < 576 by have h9 : (i : Int) < Hu.length := (by omega); omega) (by decide)) d_M_allPoints_47 ?_
      rw [vcl (z := i) (by omega) (by have h9 : (i : Int) < Hu.length := (by omega); omega), hld_y hhF (i := i) (by omega) (by omega)]
      refine ri_i2l (a := (pY Hu i)) hx hb d_M_allPoints_48 rfl (by have := hHb 0; have := hHb i; unfold i3; omega) ?_
      refine rj_mul (a := k) (b := (pY Hu i)) hx hb d_M_allPoints_49 rfl rfl ?_
      refine lv_lstore (lv' := [(9, .long (jN ((k * (pY Hu i))))), (0, .ref mo), (1, .int (iN (k))), (2, .long (jN (0))), (4, .long (jN (a1))), (6, .long (jN (a2))), (8, .int (iN (i)))]) hx hb d_M_allPoints_50 hl (by decide) rfl (fun ls hl => ?_)
      refine g_joinw (D := D) (A := gA L sz) (H0 := s.heap) (L := L) (f := (mSt cI mo A f v F)) (g1 := F0 m 67 ls [.long (jN ((min (k * (pY Hu i)) a1)))]) (fun H locs w => ?_) (fun K4 => ?_)
      · skip
        refine lv_lstore (lv' := [(4, .long (jN ((min (k * (pY Hu i)) a1)))), (9, .long (jN ((k * (pY Hu i))))), (0, .ref mo), (1, .int (iN (k))), (2, .long (jN (0))), (6, .long (jN (a2))), (8, .int (iN (i)))]) hx hb d_M_allPoints_67 hl (by decide) rfl (fun ls hl => ?_)
        refine g_joinw (D := D) (A := gA L sz) (H0 := s.heap) (L := L) (f := (mSt cI mo A f v F)) (g1 := F0 m 84 ls [.long (jN ((max (k * (pY Hu i)) a2)))]) (fun H locs w => ?_) (fun K5 => ?_)
        · skip
          refine lv_lstore (lv' := [(6, .long (jN ((max (k * (pY Hu i)) a2)))), (4, .long (jN ((min (k * (pY Hu i)) a1)))), (9, .long (jN ((k * (pY Hu i))))), (0, .ref mo), (1, .int (iN (k))), (2, .long (jN (0))), (8, .int (iN (i)))]) hx hb d_M_allPoints_84 hl (by decide) rfl (fun ls hl => ?_)
          refine lv_iinc (v := iN ((i + 1))) (lv' := [(8, .int (iN ((i + 1)))), (6, .long (jN ((max (k * (pY Hu i)) a2)))), (4, .long (jN ((min (k * (pY Hu i)) a1)))), (9, .long (jN ((k * (pY Hu i))))), (0, .ref mo), (1, .int (iN (k))), (2, .long (jN (0)))]) hx hb d_M_allPoints_86 hl (k := 6) rfl (by rw [show (i + 1) = i + (1 : Int) by omega, ← iN_add]; rfl) (by decide) rfl (fun ls hl => ?_)
          refine lv_goto (tgt := 30) hx hb d_M_allPoints_89 (by decide) ?_
          exact ih ((i + 1), (min (k * (pY Hu i)) a1), (max (k * (pY Hu i)) a2)) _ _ _ (by omega) ⟨by omega, by omega, by rw [tn_s h0]; unfold loS; rw [← h2, tn_c h0], by rw [tn_s h0]; unfold hiS; rw [← h3, tn_c h0]⟩ w (lv_sub hl [4, 5, 6, 2, 1, 0] rfl)
        · skip
          refine lv_lload hx hb d_M_allPoints_69 (lv_at hl 1 rfl) ?_
          refine lv_lload hx hb d_M_allPoints_71 (lv_at hl 5 rfl) ?_
          refine rj_cle (a := (k * (pY Hu i))) (b := a2) (tgt := 82) hx hb d_M_allPoints_73 d_M_allPoints_74 (by decide) rfl rfl (by unfold kB at *; unfold i6; omega) (by unfold kB at *; unfold i6; omega) (fun c73 => ?_) (fun c73 => ?_)
          · skip
            refine lv_lload hx hb d_M_allPoints_82 (lv_at hl 5 rfl) ?_
            exact W.eq (congrArg (fun z : Int => F0 m 84 ls [.long (jN z)]) (show a2 = (max (k * (pY Hu i)) a2) from (by omega))) (K5 _ _ w)
          · skip
            refine lv_lload hx hb d_M_allPoints_77 (lv_at hl 1 rfl) ?_
            refine lv_goto (tgt := 84) hx hb d_M_allPoints_79 (by decide) ?_
            exact W.eq (congrArg (fun z : Int => F0 m 84 ls [.long (jN z)]) (show (k * (pY Hu i)) = (max (k * (pY Hu i)) a2) from (by omega))) (K5 _ _ w)
      · skip
        refine lv_lload hx hb d_M_allPoints_52 (lv_at hl 0 rfl) ?_
        refine lv_lload hx hb d_M_allPoints_54 (lv_at hl 4 rfl) ?_
        refine rj_cge (a := (k * (pY Hu i))) (b := a1) (tgt := 65) hx hb d_M_allPoints_56 d_M_allPoints_57 (by decide) rfl rfl (by unfold kB at *; unfold i6; omega) (by unfold kB at *; unfold i6; omega) (fun c56 => ?_) (fun c56 => ?_)
        · skip
          refine lv_lload hx hb d_M_allPoints_65 (lv_at hl 4 rfl) ?_
          exact W.eq (congrArg (fun z : Int => F0 m 67 ls [.long (jN z)]) (show a1 = (min (k * (pY Hu i)) a1) from (by omega))) (K4 _ _ w)
        · skip
          refine lv_lload hx hb d_M_allPoints_60 (lv_at hl 0 rfl) ?_
          refine lv_goto (tgt := 67) hx hb d_M_allPoints_62 (by decide) ?_
          exact W.eq (congrArg (fun z : Int => F0 m 67 ls [.long (jN z)]) (show (k * (pY Hu i)) = (min (k * (pY Hu i)) a1) from (by omega))) (K4 _ _ w)
  · skip
    refine lv_iconst (v := iN (0)) hx hb d_M_allPoints_9 (by decide) ?_
    exact g_iret X w hrt hlk d_M_allPoints_10 ⟨by unfold apM; rw [if_pos (by omega)], v, rfl, fun _ _ _ => rfl⟩
