/-! THE REFERENCE: better, apart -/
def btr (s : Int × Int) (x y : Int) : Int × Int := if x * s.2 < s.1 * y then (x, y) else s

set_option maxHeartbeats 4000000 in
set_option maxRecDepth 100000 in
theorem c_M_better (l : Launch) {D : va_G} {cI cR : ClassId} {L : List Nat} {f : Nat → va_E} {mo : Nat} {A : Nat → Nat} {v : Nat → Int} {F : Nat → Nat → Int} (g : mg L mo A) {x y : Int} (h6a : i6 (x * v 14)) (h6b : i6 (v 13 * y)) : gMv D cI cR l y_M_better (Cond.code y_M_better b_M_better 5 none :: lw_g) { frames := 0, cells := 0, slots := 0, locals := 0 } [.ref mo, .long (jN (x)), .long (jN (y))] L (mSt cI mo A f v F) (fun u => ∃ v' : Nat → Int, u = (L, mSt cI mo A f v' F) ∧ (v' 13, v' 14) = btr (v 13, v 14) x y ∧ ∀ q, q ≠ 13 → q ≠ 14 → v' q = v q) := by
  intro sz
  refine g_enter (by decide) rfl (Nat.le_of_ble_eq_true rfl) ?_
  intro p e s m below meth cd ls X hrt hlk hnm hl hsz w
  have X : gx p m cd b_M_better 5 s _ "HullSumsModel" D cI cR := X
  have hx := X.1.1
  have hb := X.1.2.1
  have hl : lv_has ls 5 [(0, .ref mo), (1, .long (jN (x))), (3, .long (jN (y)))] := hl
  refine lv_lload_n hx hb d_M_better_0 rfl (lv_at hl 1 rfl) ?_
  refine lv_aload_n hx hb d_M_better_1 rfl (lv_at hl 0 rfl) ?_
  refine gk_get X w g.1.1 (show (mSt cI mo A f v F) mo = .inr (4, _) from mS_m) rfl in_M 14 (by decide) lk_M_133 rfl d_M_better_2 ?_
  refine rj_mul (a := x) (b := (v 14)) hx hb d_M_better_5 rfl rfl ?_
  refine lv_aload_n hx hb d_M_better_6 rfl (lv_at hl 0 rfl) ?_
  refine gk_get X w g.1.1 (show (mSt cI mo A f v F) mo = .inr (4, _) from mS_m) rfl in_M 13 (by decide) lk_M_130 rfl d_M_better_7 ?_
  refine lv_lload_n hx hb d_M_better_10 rfl (lv_at hl 2 rfl) ?_
  refine rj_mul (a := (v 13)) (b := y) hx hb d_M_better_11 rfl rfl ?_
  refine rj_cge (a := (x * (v 14))) (b := ((v 13) * y)) (tgt := 26) hx hb d_M_better_12 d_M_better_13 (by decide) rfl rfl h6a h6b (fun c12 => ?_) (fun c12 => ?_)
  · skip
    exact g_vret X w hrt hlk d_M_better_26 ⟨v, rfl, by unfold btr; dsimp only; rw [if_neg (Int.not_lt.mpr c12)], fun _ _ _ => rfl⟩
  · skip
    refine lv_aload_n hx hb d_M_better_16 rfl (lv_at hl 0 rfl) ?_
    refine lv_lload_n hx hb d_M_better_17 rfl (lv_at hl 1 rfl) ?_
    refine gk_put X w g.1.1 (show (mSt cI mo A f v F) mo = .inr (4, _) from mS_m) rfl in_M ty_M tyok_M nm_M 13 (by decide) lk_M_130 rfl (ty := .long) (by decide +kernel) rfl rfl (Nat.le_of_ble_eq_true rfl) d_M_better_18 (fun H locs w => ?_)
    obtain ⟨v1, hv1⟩ : ∃ q : Nat → Int, q = va_up v 13 (x) := ⟨_, rfl⟩
    have v1s : v1 13 = x := by rw [hv1, va_up_self]
    have v1n : ∀ j, j ≠ 13 → v1 j = v j := fun j hj => by rw [hv1, va_up_ne _ _ hj]
    have w : gw D (gA L sz) s.heap H locs L (mSt cI mo A f v1 F) := by rw [hv1, ← mU_m (v := v)]; exact w
    refine lv_aload_n hx hb d_M_better_21 rfl (lv_at hl 0 rfl) ?_
    refine lv_lload_n hx hb d_M_better_22 rfl (lv_at hl 2 rfl) ?_
    refine gk_put X w g.1.1 (show (mSt cI mo A f v1 F) mo = .inr (4, _) from mS_m) rfl in_M ty_M tyok_M nm_M 14 (by decide) lk_M_133 rfl (ty := .long) (by decide +kernel) rfl rfl (Nat.le_of_ble_eq_true rfl) d_M_better_23 (fun H locs w => ?_)
    obtain ⟨v2, hv2⟩ : ∃ q : Nat → Int, q = va_up v1 14 (y) := ⟨_, rfl⟩
    have v2s : v2 14 = y := by rw [hv2, va_up_self]
    have v2n : ∀ j, j ≠ 14 → v2 j = v1 j := fun j hj => by rw [hv2, va_up_ne _ _ hj]
    have w : gw D (gA L sz) s.heap H locs L (mSt cI mo A f v2 F) := by rw [hv2, ← mU_m (v := v1)]; exact w
    exact g_vret X w hrt hlk d_M_better_26 ⟨v2, rfl, by unfold btr; dsimp only; rw [if_pos (Int.not_le.mp c12), v2n 13 (by decide), v1s, v2s], fun q q1 q2 => (v2n q q2).trans (v1n q q1)⟩
def sz2 (H : List Pt) (i : Int) : Int := (pX H i - 0) * (pX H i - 0) + (pY H i - 0) * (pY H i - 0)
def alg (H : List Pt) (i : Int) : Int := -(pX H i * sX H i + pY H i * sY H i)
def al2 (H : List Pt) (i : Int) : Int := sX H i * sX H i + sY H i * sY H i
def trz (H : List Pt) (i : Int) : Int := (pX H i - 0) * (pY H (nx H i) - 0) - (pY H i - 0) * (pX H (nx H i) - 0)
def apT (H : List Pt) (i : Int) (s : Int × Int) : Int × Int := if 0 < alg H i ∧ alg H i < al2 H i then btr (btr s (sz2 H i) 1) (trz H i * trz H i) (al2 H i) else btr s (sz2 H i) 1
def apN (H : List Pt) (s : Int × Int) : Nat → Int × Int
  | 0 => s
  | n + 1 => apT H n (apN H s n)
noncomputable def apS (H : List Pt) : Int × Int := (if 0 < plM H 0 0 then 0 else sz2 H 0, 1)
noncomputable def apR (H : List Pt) : Int × Int := apN H (apS H) H.length
def apB (s : Int × Int) : Prop := 0 ≤ s.1 ∧ s.1 ≤ 518400000000 ∧ 0 < s.2 ∧ s.2 ≤ 2880000
theorem sz2_b {H : List Pt} (h : pb 600 H) (i : Int) : 0 ≤ sz2 H i ∧ sz2 H i ≤ 720000 := by
  have a := h i
  have q1 := mbc (a := pX H i - 0) (b := pX H i - 0) 600 600 360000 (by omega) (by omega) (by omega) (by omega) (by decide)
  have q2 := mbc (a := pY H i - 0) (b := pY H i - 0) 600 600 360000 (by omega) (by omega) (by omega) (by omega) (by decide)
  have q3 := mul_self_nn (pX H i - 0); have q4 := mul_self_nn (pY H i - 0)
  unfold sz2; omega
theorem al2_b {H : List Pt} (h : pb 600 H) (i : Int) : 0 ≤ al2 H i ∧ al2 H i ≤ 2880000 := by
  have a := h i; have b := h (nx H i)
  have q1 := mbc (a := sX H i) (b := sX H i) 1200 1200 1440000 (by unfold sX; omega) (by unfold sX; omega) (by unfold sX; omega) (by unfold sX; omega) (by decide)
  have q2 := mbc (a := sY H i) (b := sY H i) 1200 1200 1440000 (by unfold sY; omega) (by unfold sY; omega) (by unfold sY; omega) (by unfold sY; omega) (by decide)
  have q3 := mul_self_nn (sX H i); have q4 := mul_self_nn (sY H i)
  unfold al2; omega
theorem alg_b {H : List Pt} (h : pb 600 H) (i : Int) : -1440000 ≤ alg H i ∧ alg H i ≤ 1440000 := by
  have a := h i; have b := h (nx H i)
  have q1 := mbc (a := pX H i) (b := sX H i) 600 1200 720000 (by omega) (by omega) (by unfold sX; omega) (by unfold sX; omega) (by decide)
  have q2 := mbc (a := pY H i) (b := sY H i) 600 1200 720000 (by omega) (by omega) (by unfold sY; omega) (by unfold sY; omega) (by decide)
  unfold alg; omega
theorem trz_b {H : List Pt} (h : pb 600 H) (i : Int) : 0 ≤ trz H i * trz H i ∧ trz H i * trz H i ≤ 518400000000 := by
  have a := h i; have b := h (nx H i)
  have q1 := mbc (a := pX H i - 0) (b := pY H (nx H i) - 0) 600 600 360000 (by omega) (by omega) (by omega) (by omega) (by decide)
  have q2 := mbc (a := pY H i - 0) (b := pX H (nx H i) - 0) 600 600 360000 (by omega) (by omega) (by omega) (by omega) (by decide)
  have q3 := mul_self_nn (trz H i)
  have q4 := mbc (a := trz H i) (b := trz H i) 720000 720000 518400000000 (by unfold trz; omega) (by unfold trz; omega) (by unfold trz; omega) (by unfold trz; omega) (by decide)
  omega
theorem btr_b {s : Int × Int} {x y : Int} (h : apB s) (hx : 0 ≤ x ∧ x ≤ 518400000000) (hy : 0 < y ∧ y ≤ 2880000) : apB (btr s x y) := by
  unfold btr; split
  · unfold apB; dsimp only; omega
  · exact h
theorem apT_b {H : List Pt} (hb : pb 600 H) {i : Int} {s : Int × Int} (h : apB s) : apB (apT H i s) := by
  have a := sz2_b hb i; have b := al2_b hb i; have c := trz_b hb i
  have h1 : apB (btr s (sz2 H i) 1) := btr_b h (by omega) (by omega)
  unfold apT; split
  · exact btr_b h1 c (by omega)
  · exact h1
theorem apN_b {H : List Pt} (hb : pb 600 H) {s : Int × Int} (h : apB s) (n : Nat) : apB (apN H s n) := by
  induction n with
  | zero => exact h
  | succ n ih => exact apT_b hb ih
theorem btr_6 {s : Int × Int} {x y : Int} (h : apB s) (hx : 0 ≤ x ∧ x ≤ 518400000000) (hy : 0 < y ∧ y ≤ 2880000) : i6 (x * s.2) ∧ i6 (s.1 * y) := by
  obtain ⟨a, b, c, d⟩ := h
  have q1 := mbc (a := x) (b := s.2) 518400000000 2880000 1492992000000000000 (by omega) (by omega) (by omega) (by omega) (by decide)
  have q2 := mbc (a := s.1) (b := y) 518400000000 2880000 1492992000000000000 (by omega) (by omega) (by omega) (by omega) (by decide)
  unfold i6; omega
theorem btr_0 {s : Int × Int} {x y : Int} (h : apB s) (h0 : s.1 = 0) (hx : 0 ≤ x) : btr s x y = s := by
  unfold btr
  rw [if_neg]
  rw [h0]
  have := Int.mul_nonneg hx (show 0 ≤ s.2 by have := h.2.2.1; omega)
  omega
theorem apN_0 {H : List Pt} (hb : pb 600 H) {s : Int × Int} (h : apB s) {n : Nat} (h0 : (apN H s n).1 = 0) (k : Nat) : apN H s (n + k) = apN H s n := by
  induction k with
  | zero => rfl
  | succ k ih =>
    have hB := apN_b hb h n
    rw [show n + (k + 1) = (n + k) + 1 by omega]
    show apT H ((n + k : Nat) : Int) (apN H s (n + k)) = _
    rw [ih]
    have a := sz2_b hb ((n + k : Nat) : Int); have c := trz_b hb ((n + k : Nat) : Int)
    unfold apT
    rw [btr_0 hB h0 a.1, btr_0 hB h0 c.1]
    split <;> rfl
theorem apS_b {H : List Pt} (hb : pb 600 H) : apB (apS H) := by
  have := sz2_b hb 0
  unfold apS apB; dsimp only; split <;> omega

set_option maxHeartbeats 4000000 in
set_option maxRecDepth 100000 in
theorem c_M_apart (l : Launch) {D : va_G} {cI cR : ClassId} {L : List Nat} {f : Nat → va_E} {mo : Nat} {A : Nat → Nat} {v : Nat → Int} {F : Nat → Nat → Int} (g : mg L mo A) {K t1 t2 : Int} {S : Nat → List Pt} (hI0 : mInv v F K S) (h11 : v 11 = t1) (h12 : v 12 = t2) (hok : okS K S) (hhu : hulS K S) {z : Int} (hz : i3 z) {z2 : Int} (hz2 : i3 z2) (hsu : sumS K S (-1)) : gMi D cI cR l y_M_apart (Cond.code y_M_apart b_M_apart 16 (some .int) :: lw_g) { frames := 4, cells := 0, slots := 0, locals := 105 } [.ref mo, .int (iN (z)), .int (iN (z2))] L (mSt cI mo A f v F) (fun r u => r = iN (if (flA K S z z2 = 0) then 1 else flA K S z z2) ∧ crT (flA K S z z2 = 0) (frac1 (apR (sumH (S z.toNat) (S z2.toNat) (-1))).1 (apR (sumH (S z.toNat) (S z2.toNat) (-1))).2) (frac2 (apR (sumH (S z.toNat) (S z2.toNat) (-1))).1 (apR (sumH (S z.toNat) (S z2.toNat) (-1))).2) t1 t2 (fun p q => mpost L cI mo A f K p q S u)) := by
  intro sz
  refine g_enter (by decide) rfl (Nat.le_of_ble_eq_true rfl) ?_
  intro p e s m below meth cd ls X hrt hlk hnm hl hsz w
  have X : gx p m cd b_M_apart 16 s _ "HullSumsModel" D cI cR := X
  have hx := X.1.1
  have hb := X.1.2.1
  have hl : lv_has ls 16 [(0, .ref mo), (1, .int (iN (z))), (2, .int (iN (z2)))] := hl
  have hI1 := hI0
  obtain ⟨hi0, hi1, hi2, hi3, hi4⟩ := hI1
  refine lv_aload_n hx hb d_M_apart_0 rfl (lv_at hl 0 rfl) ?_
  refine lv_iload_n hx hb d_M_apart_1 rfl (lv_at hl 1 rfl) ?_
  refine lv_iload_n hx hb d_M_apart_2 rfl (lv_at hl 2 rfl) ?_
  refine g_ci w (g_runV (As := [.int (iN (z)), .int (iN (z2))]) (rest := []) X w (c_M_wrong l g hI0 h11 h12 hok hhu hz hz2) k_M_wrong v_M_wrong lk_M_177 g.1.1 (show mSt cI mo A f v F mo = .inr (4, _) from mS_m) rfl ⟨(Nat.le_of_ble_eq_true rfl), (Nat.le_of_ble_eq_true rfl)⟩ rfl hl.1 rfl (Nat.le_of_ble_eq_true rfl) d_M_apart_3 ⟨(Nat.le_of_ble_eq_true rfl), (Nat.le_of_ble_eq_true rfl)⟩) (fun r u H locs hp w => ?_)
  obtain ⟨rfl, rfl⟩ := hp
  have w : gw D (gA L sz) s.heap H locs L (mSt cI mo A f v F) := w
  have hfb := flA_b K S z z2
  refine lv_istore_n (lv' := [(3, .int (iN ((flA K S z z2)))), (0, .ref mo), (1, .int (iN (z))), (2, .int (iN (z2)))]) hx hb d_M_apart_6 rfl hl (by decide) rfl (fun ls hl => ?_)
  refine lv_iload_n hx hb d_M_apart_7 rfl (lv_at hl 0 rfl) ?_
  refine ri_zge (a := (flA K S z z2)) (tgt := 13) hx hb d_M_apart_8 (by decide) rfl (by unfold i3; omega) (fun c8 => ?_) (fun c8 => ?_)
  · skip
    refine lv_aload_n hx hb d_M_apart_13 rfl (lv_at hl 1 rfl) ?_
    refine lv_iload_n hx hb d_M_apart_14 rfl (lv_at hl 2 rfl) ?_
    refine lv_iload_n hx hb d_M_apart_15 rfl (lv_at hl 3 rfl) ?_
    refine lv_iconst (v := iN (-1)) hx hb d_M_apart_16 (by decide) ?_
    have hf0 : flA K S z z2 = 0 := by omega
    obtain ⟨⟨hzr, hyr⟩, hne1, hne2⟩ := flA_0 hf0
    obtain ⟨Wl, eWl⟩ : ∃ q, q = allS (S z.toNat) (S z2.toNat) (-1) := ⟨_, rfl⟩
    obtain ⟨Hu, eHu⟩ : ∃ q, q = sumH (S z.toNat) (S z2.toNat) (-1) := ⟨_, rfl⟩
    obtain ⟨ho1, hp1⟩ := hok z.toNat (by omega)
    obtain ⟨ho2, hp2⟩ := hok z2.toNat (by omega)
    obtain ⟨hhz, hhb⟩ := hsu z.toNat z2.toNat (by omega) (by omega) hne1 hne2
    rw [← eWl, ← eHu] at hhz
    rw [← eHu] at hhb
    have hH576 := hhz.2.2.1
    have hHb : pb 600 Hu := pb_of (by decide) hhb
    have hWpl : pbl 600 Wl := by rw [eWl]; exact allS_b (Or.inr rfl) hp1 hp2
    have hWb : pb 600 Wl := pb_of (by decide) hWpl
    have hW576 : Wl.length ≤ 576 := by rw [eWl]; unfold allS; rw [flat_len]; exact Nat.mul_le_mul ho1 ho2
    refine g_cv w (g_runV (As := [.int (iN (z)), .int (iN (z2)), .int (iN (-1))]) (rest := []) X w ((by have h9 := c_M_loadBoth (D := D) (cR := cR) (cI := cI) (f := f) l g hI0 (z := z) (z2 := z2) (sg := (-1)) hzr hyr ho1 ho2 (by rw [← eWl]; exact hWpl) (Hu := Hu) (by rw [← eWl]; exact hhz); rw [← eWl] at h9; exact h9)) k_M_loadBoth v_M_loadBoth lk_M_181 g.1.1 (show mSt cI mo A f v F mo = .inr (4, _) from mS_m) rfl ⟨(Nat.le_of_ble_eq_true rfl), (Nat.le_of_ble_eq_true rfl)⟩ rfl hl.1 rfl (Nat.le_of_ble_eq_true rfl) d_M_apart_17 ⟨(Nat.le_of_ble_eq_true rfl), (Nat.le_of_ble_eq_true rfl)⟩) (fun u H locs hp w => ?_)
    obtain ⟨v8, F8, rfl, hL8, hn8, hf8⟩ := hp
    have w : gw D (gA L sz) s.heap H locs L (mSt cI mo A f v8 F8) := w
    obtain ⟨h7, h10, hwF, hhF⟩ := id hL8
    have hI8 := mInv_k hI0 (hn8 0 (by decide) (by decide)) (hn8 1 (by decide) (by decide)) hf8
    have h118 := (hn8 11 (by decide) (by decide)).trans h11
    have h128 := (hn8 12 (by decide) (by decide)).trans h12
    have hW0 : 0 < Wl.length := by rw [eWl]; unfold allS; rw [flat_len]; exact Nat.mul_pos (by omega) (by omega)
    have hHu0 : 0 < Hu.length := List.length_pos_iff.mpr (hhz.2.1 hW0)
    have h10o := h10
    have h7o := h7
    refine lv_aload_n hx hb d_M_apart_20 rfl (lv_at hl 1 rfl) ?_
    refine lv_aload_n hx hb d_M_apart_21 rfl (lv_at hl 1 rfl) ?_
    refine gk_get X w g.1.1 (show (mSt cI mo A f v8 F8) mo = .inr (4, _) from mS_m) rfl in_M 8 (by decide) lk_M_25 rfl d_M_apart_22 ?_
    refine lv_iconst (v := iN (0)) hx hb d_M_apart_25 (by decide) ?_
    refine gk_iald X w 0 g.1.2.2.2.2.2.2.1 (mS_8 g) rfl (vin (by omega) (show (0 : Int) < 576 by have h9 : (0 : Int) < Hu.length := (by omega); omega) (by decide)) d_M_apart_26 ?_
    rw [vcl (z := 0) (by omega) (by have h9 : (0 : Int) < Hu.length := (by omega); omega), hld_x hhF (i := 0) (by omega) (by omega)]
    refine ri_i2l (a := (pX Hu 0)) hx hb d_M_apart_27 rfl (by have := hHb 0; unfold i3; omega) ?_
    refine lv_aload_n hx hb d_M_apart_28 rfl (lv_at hl 1 rfl) ?_
    refine gk_get X w g.1.1 (show (mSt cI mo A f v8 F8) mo = .inr (4, _) from mS_m) rfl in_M 9 (by decide) lk_M_28 rfl d_M_apart_29 ?_
    refine lv_iconst (v := iN (0)) hx hb d_M_apart_32 (by decide) ?_
    refine gk_iald X w 0 g.1.2.2.2.2.2.2.2 (mS_9 g) rfl (vin (by omega) (show (0 : Int) < 576 by have h9 : (0 : Int) < Hu.length := (by omega); omega) (by decide)) d_M_apart_33 ?_
    rw [vcl (z := 0) (by omega) (by have h9 : (0 : Int) < Hu.length := (by omega); omega), hld_y hhF (i := 0) (by omega) (by omega)]
    refine ri_i2l (a := (pY Hu 0)) hx hb d_M_apart_34 rfl (by have := hHb 0; unfold i3; omega) ?_
    refine lv_lconst (v := jN (0)) hx hb d_M_apart_35 (by decide) ?_
    refine lv_lconst (v := jN (0)) hx hb d_M_apart_36 (by decide) ?_
    refine g_cl w (g_runS (As := [.long (jN ((pX Hu 0))), .long (jN ((pY Hu 0))), .long (jN (0)), .long (jN (0))]) (rest := [.ref mo]) X w (c_M_square l (px := (pX Hu 0)) (py := (pY Hu 0)) (ax := 0) (ay := 0)) k_M_square lk_M_62 st_M_square ⟨(Nat.le_of_ble_eq_true rfl), (Nat.le_of_ble_eq_true rfl)⟩ rfl hl.1 rfl (Nat.le_of_ble_eq_true rfl) d_M_apart_37 ⟨Nat.zero_le _, Nat.zero_le _⟩) (fun r u H locs hp w => ?_)
    obtain ⟨rfl, rfl⟩ := hp
    have w : gw D (gA L sz) s.heap H locs L (mSt cI mo A f v8 F8) := w
    refine gk_put X w g.1.1 (show (mSt cI mo A f v8 F8) mo = .inr (4, _) from mS_m) rfl in_M ty_M tyok_M nm_M 13 (by decide) lk_M_130 rfl (ty := .long) (by decide +kernel) rfl rfl (Nat.le_of_ble_eq_true rfl) d_M_apart_40 (fun H locs w => ?_)
    obtain ⟨v1, hv1⟩ : ∃ q : Nat → Int, q = va_up v8 13 ((((pX Hu 0) - 0) * ((pX Hu 0) - 0) + ((pY Hu 0) - 0) * ((pY Hu 0) - 0))) := ⟨_, rfl⟩
    have v1s : v1 13 = (((pX Hu 0) - 0) * ((pX Hu 0) - 0) + ((pY Hu 0) - 0) * ((pY Hu 0) - 0)) := by rw [hv1, va_up_self]
    have v1n : ∀ j, j ≠ 13 → v1 j = v8 j := fun j hj => by rw [hv1, va_up_ne _ _ hj]
    have w : gw D (gA L sz) s.heap H locs L (mSt cI mo A f v1 F8) := by rw [hv1, ← mU_m (v := v8)]; exact w
    refine lv_aload_n hx hb d_M_apart_43 rfl (lv_at hl 1 rfl) ?_
    refine lv_lconst (v := jN (1)) hx hb d_M_apart_44 (by decide) ?_
    refine gk_put X w g.1.1 (show (mSt cI mo A f v1 F8) mo = .inr (4, _) from mS_m) rfl in_M ty_M tyok_M nm_M 14 (by decide) lk_M_133 rfl (ty := .long) (by decide +kernel) rfl rfl (Nat.le_of_ble_eq_true rfl) d_M_apart_45 (fun H locs w => ?_)
    obtain ⟨v2, hv2⟩ : ∃ q : Nat → Int, q = va_up v1 14 (1) := ⟨_, rfl⟩
    have v2s : v2 14 = 1 := by rw [hv2, va_up_self]
    have v2n : ∀ j, j ≠ 14 → v2 j = v1 j := fun j hj => by rw [hv2, va_up_ne _ _ hj]
    have w : gw D (gA L sz) s.heap H locs L (mSt cI mo A f v2 F8) := by rw [hv2, ← mU_m (v := v1)]; exact w
    have hLp : mLd v2 F8 Wl Hu := mLd_k hL8 ((v2n 7 (by decide)).trans (v1n 7 (by decide))) ((v2n 10 (by decide)).trans (v1n 10 (by decide)))
    refine lv_aload_n hx hb d_M_apart_48 rfl (lv_at hl 1 rfl) ?_
    refine lv_lconst (v := jN (0)) hx hb d_M_apart_49 (by decide) ?_
    refine lv_lconst (v := jN (0)) hx hb d_M_apart_50 (by decide) ?_
    refine g_ci w (g_runV (As := [.long (jN (0)), .long (jN (0))]) (rest := []) X w (c_M_placeOf l g (v := v2) (F := F8) hLp hH576 hHb (x := 0) (y := 0) (by omega) (by omega)) k_M_placeOf v_M_placeOf lk_M_91 g.1.1 (show (mSt cI mo A f v2 F8) mo = .inr (4, _) from mS_m) rfl ⟨(Nat.le_of_ble_eq_true rfl), (Nat.le_of_ble_eq_true rfl)⟩ rfl hl.1 rfl (Nat.le_of_ble_eq_true rfl) d_M_apart_51 ⟨Nat.zero_le _, Nat.zero_le _⟩) (fun r u H locs hp w => ?_)
    obtain ⟨rfl, rfl⟩ := hp
    have w : gw D (gA L sz) s.heap H locs L (mSt cI mo A f v2 F8) := w
    refine ri_zle (a := (plM Hu 0 0)) (tgt := 62) hx hb d_M_apart_54 (by decide) rfl (by have := plM_b Hu 0 0; unfold i3; omega) (fun c54 => ?_) (fun c54 => ?_)
    · skip
      refine lv_iconst (v := iN (0)) hx hb d_M_apart_62 (by decide) ?_
      refine lv_istore (lv' := [(4, .int (iN (0))), (3, .int (iN ((flA K S z z2)))), (0, .ref mo), (1, .int (iN (z))), (2, .int (iN (z2)))]) hx hb d_M_apart_63 hl (by decide) rfl (fun ls hl => ?_)
      have e13 : v2 13 = (apS Hu).1 := by rw [show v2 13 = _ from ((v2n 13 (by decide)).trans (v1s))]; unfold apS; dsimp only; rw [if_neg (by omega)]; rfl
      have e14 : v2 14 = 1 := (v2s)
      refine g_loop (σ := Int × (Nat → Int)) (fun z9 => (Hu.length - z9.1).toNat) (fun z9 => [(0, .ref mo), (1, .int (iN (z))), (2, .int (iN (z2))), (3, .int (iN ((flA K S z z2)))), (4, .int (iN (z9.1)))]) L (fun z9 => (mSt cI mo A f z9.2 F8)) (fun z9 => 0 ≤ z9.1 ∧ z9.1 ≤ Hu.length ∧ (z9.2 13, z9.2 14) = apN Hu (apS Hu) z9.1.toNat ∧ (∀ q, q ≠ 13 → q ≠ 14 → z9.2 q = v8 q)) ?_ (0, v2) _ _ _ ⟨by (try dsimp only); omega, by (try dsimp only); omega, by (try dsimp only); rw [e13, e14]; rfl, fun q q1 q2 => ((v2n q q2).trans (v1n q q1))⟩ w (lv_sub hl [2, 3, 4, 1, 0] rfl)
      intro z9 H locs ls hI w hl ih
      obtain ⟨i, vA⟩ := z9
      have hl : lv_has ls 16 [(0, .ref mo), (1, .int (iN (z))), (2, .int (iN (z2))), (3, .int (iN ((flA K S z z2)))), (4, .int (iN (i)))] := hl
      have w : gw D (gA L sz) s.heap H locs L ((mSt cI mo A f vA F8)) := w
      have hI : 0 ≤ i ∧ i ≤ Hu.length ∧ (vA 13, vA 14) = apN Hu (apS Hu) i.toNat ∧ (∀ q, q ≠ 13 → q ≠ 14 → vA q = v8 q) := hI
      obtain ⟨h0, h1, h2, h3⟩ := hI
      have hAB : apB (vA 13, vA 14) := by rw [h2]; exact apN_b hHb (apS_b hHb) _
      have h10 : vA 10 = Hu.length := (h3 10 (by decide) (by decide)).trans h10o
      have h7 : vA 7 = Wl.length := (h3 7 (by decide) (by decide)).trans h7o
      have hq1 := alg_b hHb i
      have hq2 := al2_b hHb i
      have hq3 : 0 ≤ vA 13 ∧ vA 13 ≤ 518400000000 := ⟨hAB.1, hAB.2.1⟩
      refine lv_iload hx hb d_M_apart_65 (lv_at hl 4 rfl) ?_
      refine lv_aload_n hx hb d_M_apart_67 rfl (lv_at hl 0 rfl) ?_
      refine gk_get X w g.1.1 (show (mSt cI mo A f vA F8) mo = .inr (4, _) from mS_m) rfl in_M 10 (by decide) lk_M_51 rfl d_M_apart_68 ?_
      rw [show vA 10 = (Hu.length : Int) from h10]
      refine ri_cge (a := i) (b := (Hu.length : Int)) (tgt := 263) hx hb d_M_apart_71 (by decide) rfl rfl (by unfold i3; omega) (by unfold i3; omega) (fun c71 => ?_) (fun c71 => ?_)
      · skip
        refine lv_aload_n hx hb d_M_apart_263 rfl (lv_at hl 0 rfl) ?_
        refine lv_aload_n hx hb d_M_apart_264 rfl (lv_at hl 0 rfl) ?_
        refine gk_get X w g.1.1 (show (mSt cI mo A f vA F8) mo = .inr (4, _) from mS_m) rfl in_M 13 (by decide) lk_M_130 rfl d_M_apart_265 ?_
        refine lv_aload_n hx hb d_M_apart_268 rfl (lv_at hl 0 rfl) ?_
        refine gk_get X w g.1.1 (show (mSt cI mo A f vA F8) mo = .inr (4, _) from mS_m) rfl in_M 14 (by decide) lk_M_133 rfl d_M_apart_269 ?_
        refine g_cv w (g_runV (As := [.long (jN ((vA 13))), .long (jN ((vA 14)))]) (rest := []) X w (c_M_tell l g (v := vA) (F := F8) (x := (vA 13)) (y := (vA 14)) (by unfold i6; omega) (by have := hAB.2.2.1; have := hAB.2.2.2; dsimp only at *; omega)) k_M_tell v_M_tell lk_M_143 g.1.1 (show (mSt cI mo A f vA F8) mo = .inr (4, _) from mS_m) rfl ⟨(Nat.le_of_ble_eq_true rfl), (Nat.le_of_ble_eq_true rfl)⟩ rfl hl.1 rfl (Nat.le_of_ble_eq_true rfl) d_M_apart_272 ⟨(Nat.le_of_ble_eq_true rfl), (Nat.le_of_ble_eq_true rfl)⟩) (fun u H locs hp w => ?_)
        obtain ⟨vT, rfl, eT1, eT2, hT⟩ := hp
        have w : gw D (gA L sz) s.heap H locs L (mSt cI mo A f vT F8) := w
        refine lv_iconst (v := iN (1)) hx hb d_M_apart_275 (by decide) ?_
        have eR : (vA 13, vA 14) = apR Hu := by
          unfold apR; rw [h2]
          first
            | rw [show i.toNat = Hu.length by omega]
            | (have h9 := apN_0 hHb (apS_b hHb) (n := i.toNat) (by rw [← h2]; dsimp only; omega) (Hu.length - i.toNat); rw [show i.toNat + (Hu.length - i.toNat) = Hu.length by omega] at h9; exact h9.symm)
        have e13 : vA 13 = (apR Hu).1 := by rw [← eR]
        have e14 : vA 14 = (apR Hu).2 := by rw [← eR]
        exact g_iret X w hrt hlk d_M_apart_276 ⟨by rw [if_pos hf0], by unfold crT; rw [if_pos hf0, ← eHu]; exact ⟨vT, F8, rfl, mInv_k hI8 ((hT 0 (by decide) (by decide)).trans (h3 0 (by decide) (by decide))) ((hT 1 (by decide) (by decide)).trans (h3 1 (by decide) (by decide))) (fun _ _ => rfl), by rw [eT1, e13, e14], by rw [eT2, e13, e14]⟩⟩
      · skip
        refine lv_aload_n hx hb d_M_apart_74 rfl (lv_at hl 0 rfl) ?_
        refine gk_get X w g.1.1 (show (mSt cI mo A f vA F8) mo = .inr (4, _) from mS_m) rfl in_M 13 (by decide) lk_M_130 rfl d_M_apart_75 ?_
        refine lv_lconst (v := jN (0)) hx hb d_M_apart_78 (by decide) ?_
        refine rj_cle (a := (vA 13)) (b := 0) (tgt := 263) hx hb d_M_apart_79 d_M_apart_80 (by decide) rfl rfl (by unfold i6; omega) (by unfold i6; omega) (fun c79 => ?_) (fun c79 => ?_)
        · skip
          refine lv_aload_n hx hb d_M_apart_263 rfl (lv_at hl 0 rfl) ?_
          refine lv_aload_n hx hb d_M_apart_264 rfl (lv_at hl 0 rfl) ?_
          refine gk_get X w g.1.1 (show (mSt cI mo A f vA F8) mo = .inr (4, _) from mS_m) rfl in_M 13 (by decide) lk_M_130 rfl d_M_apart_265 ?_
          refine lv_aload_n hx hb d_M_apart_268 rfl (lv_at hl 0 rfl) ?_
          refine gk_get X w g.1.1 (show (mSt cI mo A f vA F8) mo = .inr (4, _) from mS_m) rfl in_M 14 (by decide) lk_M_133 rfl d_M_apart_269 ?_
          refine g_cv w (g_runV (As := [.long (jN ((vA 13))), .long (jN ((vA 14)))]) (rest := []) X w (c_M_tell l g (v := vA) (F := F8) (x := (vA 13)) (y := (vA 14)) (by unfold i6; omega) (by have := hAB.2.2.1; have := hAB.2.2.2; dsimp only at *; omega)) k_M_tell v_M_tell lk_M_143 g.1.1 (show (mSt cI mo A f vA F8) mo = .inr (4, _) from mS_m) rfl ⟨(Nat.le_of_ble_eq_true rfl), (Nat.le_of_ble_eq_true rfl)⟩ rfl hl.1 rfl (Nat.le_of_ble_eq_true rfl) d_M_apart_272 ⟨(Nat.le_of_ble_eq_true rfl), (Nat.le_of_ble_eq_true rfl)⟩) (fun u H locs hp w => ?_)
          obtain ⟨vT, rfl, eT1, eT2, hT⟩ := hp
          have w : gw D (gA L sz) s.heap H locs L (mSt cI mo A f vT F8) := w
          refine lv_iconst (v := iN (1)) hx hb d_M_apart_275 (by decide) ?_
          have eR : (vA 13, vA 14) = apR Hu := by
            unfold apR; rw [h2]
            first
              | rw [show i.toNat = Hu.length by omega]
              | (have h9 := apN_0 hHb (apS_b hHb) (n := i.toNat) (by rw [← h2]; dsimp only; omega) (Hu.length - i.toNat); rw [show i.toNat + (Hu.length - i.toNat) = Hu.length by omega] at h9; exact h9.symm)
          have e13 : vA 13 = (apR Hu).1 := by rw [← eR]
          have e14 : vA 14 = (apR Hu).2 := by rw [← eR]
          exact g_iret X w hrt hlk d_M_apart_276 ⟨by rw [if_pos hf0], by unfold crT; rw [if_pos hf0, ← eHu]; exact ⟨vT, F8, rfl, mInv_k hI8 ((hT 0 (by decide) (by decide)).trans (h3 0 (by decide) (by decide))) ((hT 1 (by decide) (by decide)).trans (h3 1 (by decide) (by decide))) (fun _ _ => rfl), by rw [eT1, e13, e14], by rw [eT2, e13, e14]⟩⟩
        · skip
          refine lv_aload_n hx hb d_M_apart_83 rfl (lv_at hl 0 rfl) ?_
          refine lv_iload hx hb d_M_apart_84 (lv_at hl 4 rfl) ?_
          refine g_ci w (g_runV (As := [.int (iN (i))]) (rest := []) X w (c_M_after l g (v := vA) (F := F8) (by rw [h10]; unfold i3; omega) (z := i) (by omega)) k_M_after v_M_after lk_M_66 g.1.1 (show (mSt cI mo A f vA F8) mo = .inr (4, _) from mS_m) rfl ⟨(Nat.le_of_ble_eq_true rfl), (Nat.le_of_ble_eq_true rfl)⟩ rfl hl.1 rfl (Nat.le_of_ble_eq_true rfl) d_M_apart_86 ⟨(Nat.le_of_ble_eq_true rfl), (Nat.le_of_ble_eq_true rfl)⟩) (fun r u H locs hp w => ?_)
          obtain ⟨hr9, rfl⟩ := hp
          rw [aft_nx h10] at hr9
          subst hr9
          have w : gw D (gA L sz) s.heap H locs L (mSt cI mo A f vA F8) := w
          refine lv_istore (lv' := [(5, .int (iN ((nx Hu i)))), (0, .ref mo), (1, .int (iN (z))), (2, .int (iN (z2))), (3, .int (iN ((flA K S z z2)))), (4, .int (iN (i)))]) hx hb d_M_apart_89 hl (by decide) rfl (fun ls hl => ?_)
          refine lv_aload_n hx hb d_M_apart_91 rfl (lv_at hl 1 rfl) ?_
          refine lv_aload_n hx hb d_M_apart_92 rfl (lv_at hl 1 rfl) ?_
          refine gk_get X w g.1.1 (show (mSt cI mo A f vA F8) mo = .inr (4, _) from mS_m) rfl in_M 8 (by decide) lk_M_25 rfl d_M_apart_93 ?_
          refine lv_iload hx hb d_M_apart_96 (lv_at hl 5 rfl) ?_
          refine gk_iald X w 0 g.1.2.2.2.2.2.2.1 (mS_8 g) rfl (vin (by omega) (show (i : Int) < 576 by have h9 : (i : Int) < Hu.length := (by omega); omega) (by decide)) d_M_apart_98 ?_
          rw [vcl (z := i) (by omega) (by have h9 : (i : Int) < Hu.length := (by omega); omega), hld_x hhF (i := i) (by omega) (by omega)]
          refine ri_i2l (a := (pX Hu i)) hx hb d_M_apart_99 rfl (by have := hHb i; have := hHb (nx Hu i); unfold i3; omega) ?_
          refine lv_aload_n hx hb d_M_apart_100 rfl (lv_at hl 1 rfl) ?_
          refine gk_get X w g.1.1 (show (mSt cI mo A f vA F8) mo = .inr (4, _) from mS_m) rfl in_M 9 (by decide) lk_M_28 rfl d_M_apart_101 ?_
          refine lv_iload hx hb d_M_apart_104 (lv_at hl 5 rfl) ?_
          refine gk_iald X w 0 g.1.2.2.2.2.2.2.2 (mS_9 g) rfl (vin (by omega) (show (i : Int) < 576 by have h9 : (i : Int) < Hu.length := (by omega); omega) (by decide)) d_M_apart_106 ?_
          rw [vcl (z := i) (by omega) (by have h9 : (i : Int) < Hu.length := (by omega); omega), hld_y hhF (i := i) (by omega) (by omega)]
          refine ri_i2l (a := (pY Hu i)) hx hb d_M_apart_107 rfl (by have := hHb i; have := hHb (nx Hu i); unfold i3; omega) ?_
          refine lv_lconst (v := jN (0)) hx hb d_M_apart_108 (by decide) ?_
          refine lv_lconst (v := jN (0)) hx hb d_M_apart_109 (by decide) ?_
          refine g_cl w (g_runS (As := [.long (jN ((pX Hu i))), .long (jN ((pY Hu i))), .long (jN (0)), .long (jN (0))]) (rest := [.ref mo]) X w (c_M_square l (px := (pX Hu i)) (py := (pY Hu i)) (ax := 0) (ay := 0)) k_M_square lk_M_62 st_M_square ⟨(Nat.le_of_ble_eq_true rfl), (Nat.le_of_ble_eq_true rfl)⟩ rfl hl.1 rfl (Nat.le_of_ble_eq_true rfl) d_M_apart_110 ⟨Nat.zero_le _, Nat.zero_le _⟩) (fun r u H locs hp w => ?_)
          obtain ⟨rfl, rfl⟩ := hp
          have w : gw D (gA L sz) s.heap H locs L (mSt cI mo A f vA F8) := w
          refine lv_lconst (v := jN (1)) hx hb d_M_apart_113 (by decide) ?_
          refine g_cv w (g_runV (As := [.long (jN ((((pX Hu i) - 0) * ((pX Hu i) - 0) + ((pY Hu i) - 0) * ((pY Hu i) - 0)))), .long (jN (1))]) (rest := []) X w (c_M_better l g (v := vA) (F := F8) (x := (sz2 Hu i)) (y := 1) (btr_6 (x := (sz2 Hu i)) (y := 1) hAB (by have := sz2_b hHb i; omega) (by omega)).1 (btr_6 (x := (sz2 Hu i)) (y := 1) hAB (by have := sz2_b hHb i; omega) (by omega)).2) k_M_better v_M_better lk_M_188 g.1.1 (show (mSt cI mo A f vA F8) mo = .inr (4, _) from mS_m) rfl ⟨(Nat.le_of_ble_eq_true rfl), (Nat.le_of_ble_eq_true rfl)⟩ rfl hl.1 rfl (Nat.le_of_ble_eq_true rfl) d_M_apart_114 ⟨(Nat.le_of_ble_eq_true rfl), (Nat.le_of_ble_eq_true rfl)⟩) (fun u H locs hp w => ?_)
          obtain ⟨b3, rfl, b3e, b3n⟩ := hp
          have w : gw D (gA L sz) s.heap H locs L (mSt cI mo A f b3 F8) := w
          have b3B : apB (b3 13, b3 14) := by rw [b3e]; exact btr_b hAB (by have := sz2_b hHb i; omega) (by omega)
          refine lv_aload_n hx hb d_M_apart_117 rfl (lv_at hl 1 rfl) ?_
          refine gk_get X w g.1.1 (show (mSt cI mo A f b3 F8) mo = .inr (4, _) from mS_m) rfl in_M 8 (by decide) lk_M_25 rfl d_M_apart_118 ?_
          refine lv_iload hx hb d_M_apart_121 (lv_at hl 0 rfl) ?_
          refine gk_iald X w 0 g.1.2.2.2.2.2.2.1 (mS_8 g) rfl (vin (nx_lt (by omega) (by omega)).1 (show ((nx Hu i) : Int) < 576 by have h9 : ((nx Hu i) : Int) < Hu.length := (nx_lt (by omega) (by omega)).2; omega) (by decide)) d_M_apart_123 ?_
          rw [vcl (z := (nx Hu i)) (nx_lt (by omega) (by omega)).1 (by have h9 : ((nx Hu i) : Int) < Hu.length := (nx_lt (by omega) (by omega)).2; omega), hld_x hhF (i := (nx Hu i)) (nx_lt (by omega) (by omega)).1 (nx_lt (by omega) (by omega)).2]
          refine lv_aload_n hx hb d_M_apart_124 rfl (lv_at hl 1 rfl) ?_
          refine gk_get X w g.1.1 (show (mSt cI mo A f b3 F8) mo = .inr (4, _) from mS_m) rfl in_M 8 (by decide) lk_M_25 rfl d_M_apart_125 ?_
          refine lv_iload hx hb d_M_apart_128 (lv_at hl 5 rfl) ?_
          refine gk_iald X w 0 g.1.2.2.2.2.2.2.1 (mS_8 g) rfl (vin (by omega) (show (i : Int) < 576 by have h9 : (i : Int) < Hu.length := (by omega); omega) (by decide)) d_M_apart_130 ?_
          rw [vcl (z := i) (by omega) (by have h9 : (i : Int) < Hu.length := (by omega); omega), hld_x hhF (i := i) (by omega) (by omega)]
          refine ri_sub (a := (pX Hu (nx Hu i))) (b := (pX Hu i)) hx hb d_M_apart_131 rfl rfl ?_
          refine ri_i2l (a := ((pX Hu (nx Hu i)) - (pX Hu i))) hx hb d_M_apart_132 rfl (by have := hHb i; have := hHb (nx Hu i); unfold i3; omega) ?_
          refine lv_lstore (lv' := [(6, .long (jN (((pX Hu (nx Hu i)) - (pX Hu i))))), (5, .int (iN ((nx Hu i)))), (0, .ref mo), (1, .int (iN (z))), (2, .int (iN (z2))), (3, .int (iN ((flA K S z z2)))), (4, .int (iN (i)))]) hx hb d_M_apart_133 hl (by decide) rfl (fun ls hl => ?_)
          have hl : lv_has ls 16 [(6, .long (jN (sX Hu i))), (5, .int (iN ((nx Hu i)))), (0, .ref mo), (1, .int (iN (z))), (2, .int (iN (z2))), (3, .int (iN ((flA K S z z2)))), (4, .int (iN (i)))] := hl
          refine lv_aload_n hx hb d_M_apart_135 rfl (lv_at hl 2 rfl) ?_
          refine gk_get X w g.1.1 (show (mSt cI mo A f b3 F8) mo = .inr (4, _) from mS_m) rfl in_M 9 (by decide) lk_M_28 rfl d_M_apart_136 ?_
          refine lv_iload hx hb d_M_apart_139 (lv_at hl 1 rfl) ?_
          refine gk_iald X w 0 g.1.2.2.2.2.2.2.2 (mS_9 g) rfl (vin (nx_lt (by omega) (by omega)).1 (show ((nx Hu i) : Int) < 576 by have h9 : ((nx Hu i) : Int) < Hu.length := (nx_lt (by omega) (by omega)).2; omega) (by decide)) d_M_apart_141 ?_
          rw [vcl (z := (nx Hu i)) (nx_lt (by omega) (by omega)).1 (by have h9 : ((nx Hu i) : Int) < Hu.length := (nx_lt (by omega) (by omega)).2; omega), hld_y hhF (i := (nx Hu i)) (nx_lt (by omega) (by omega)).1 (nx_lt (by omega) (by omega)).2]
          refine lv_aload_n hx hb d_M_apart_142 rfl (lv_at hl 2 rfl) ?_
          refine gk_get X w g.1.1 (show (mSt cI mo A f b3 F8) mo = .inr (4, _) from mS_m) rfl in_M 9 (by decide) lk_M_28 rfl d_M_apart_143 ?_
          refine lv_iload hx hb d_M_apart_146 (lv_at hl 6 rfl) ?_
          refine gk_iald X w 0 g.1.2.2.2.2.2.2.2 (mS_9 g) rfl (vin (by omega) (show (i : Int) < 576 by have h9 : (i : Int) < Hu.length := (by omega); omega) (by decide)) d_M_apart_148 ?_
          rw [vcl (z := i) (by omega) (by have h9 : (i : Int) < Hu.length := (by omega); omega), hld_y hhF (i := i) (by omega) (by omega)]
          refine ri_sub (a := (pY Hu (nx Hu i))) (b := (pY Hu i)) hx hb d_M_apart_149 rfl rfl ?_
          refine ri_i2l (a := ((pY Hu (nx Hu i)) - (pY Hu i))) hx hb d_M_apart_150 rfl (by have := hHb i; have := hHb (nx Hu i); unfold i3; omega) ?_
          refine lv_lstore (lv' := [(8, .long (jN (((pY Hu (nx Hu i)) - (pY Hu i))))), (6, .long (jN (sX Hu i))), (5, .int (iN ((nx Hu i)))), (0, .ref mo), (1, .int (iN (z))), (2, .int (iN (z2))), (3, .int (iN ((flA K S z z2)))), (4, .int (iN (i)))]) hx hb d_M_apart_151 hl (by decide) rfl (fun ls hl => ?_)
          have hl : lv_has ls 16 [(8, .long (jN (sY Hu i))), (6, .long (jN (sX Hu i))), (5, .int (iN ((nx Hu i)))), (0, .ref mo), (1, .int (iN (z))), (2, .int (iN (z2))), (3, .int (iN ((flA K S z z2)))), (4, .int (iN (i)))] := hl
          refine lv_aload_n hx hb d_M_apart_153 rfl (lv_at hl 3 rfl) ?_
          refine gk_get X w g.1.1 (show (mSt cI mo A f b3 F8) mo = .inr (4, _) from mS_m) rfl in_M 8 (by decide) lk_M_25 rfl d_M_apart_154 ?_
          refine lv_iload hx hb d_M_apart_157 (lv_at hl 7 rfl) ?_
          refine gk_iald X w 0 g.1.2.2.2.2.2.2.1 (mS_8 g) rfl (vin (by omega) (show (i : Int) < 576 by have h9 : (i : Int) < Hu.length := (by omega); omega) (by decide)) d_M_apart_159 ?_
          rw [vcl (z := i) (by omega) (by have h9 : (i : Int) < Hu.length := (by omega); omega), hld_x hhF (i := i) (by omega) (by omega)]
          refine ri_i2l (a := (pX Hu i)) hx hb d_M_apart_160 rfl (by have := hHb i; have := hHb (nx Hu i); unfold i3; omega) ?_
          refine lv_lload hx hb d_M_apart_161 (lv_at hl 1 rfl) ?_
          refine rj_mul (a := (pX Hu i)) (b := sX Hu i) hx hb d_M_apart_163 rfl rfl ?_
          refine lv_aload_n hx hb d_M_apart_164 rfl (lv_at hl 3 rfl) ?_
          refine gk_get X w g.1.1 (show (mSt cI mo A f b3 F8) mo = .inr (4, _) from mS_m) rfl in_M 9 (by decide) lk_M_28 rfl d_M_apart_165 ?_
          refine lv_iload hx hb d_M_apart_168 (lv_at hl 7 rfl) ?_
          refine gk_iald X w 0 g.1.2.2.2.2.2.2.2 (mS_9 g) rfl (vin (by omega) (show (i : Int) < 576 by have h9 : (i : Int) < Hu.length := (by omega); omega) (by decide)) d_M_apart_170 ?_
          rw [vcl (z := i) (by omega) (by have h9 : (i : Int) < Hu.length := (by omega); omega), hld_y hhF (i := i) (by omega) (by omega)]
          refine ri_i2l (a := (pY Hu i)) hx hb d_M_apart_171 rfl (by have := hHb i; have := hHb (nx Hu i); unfold i3; omega) ?_
          refine lv_lload hx hb d_M_apart_172 (lv_at hl 0 rfl) ?_
          refine rj_mul (a := (pY Hu i)) (b := sY Hu i) hx hb d_M_apart_174 rfl rfl ?_
          refine rj_add (a := ((pX Hu i) * sX Hu i)) (b := ((pY Hu i) * sY Hu i)) hx hb d_M_apart_175 rfl rfl ?_
          refine rj_neg (a := (((pX Hu i) * sX Hu i) + ((pY Hu i) * sY Hu i))) hx hb d_M_apart_176 rfl ?_
          refine lv_lstore (lv' := [(10, .long (jN ((-(((pX Hu i) * sX Hu i) + ((pY Hu i) * sY Hu i)))))), (8, .long (jN (sY Hu i))), (6, .long (jN (sX Hu i))), (5, .int (iN ((nx Hu i)))), (0, .ref mo), (1, .int (iN (z))), (2, .int (iN (z2))), (3, .int (iN ((flA K S z z2)))), (4, .int (iN (i)))]) hx hb d_M_apart_177 hl (by decide) rfl (fun ls hl => ?_)
          have hl : lv_has ls 16 [(10, .long (jN (alg Hu i))), (8, .long (jN (sY Hu i))), (6, .long (jN (sX Hu i))), (5, .int (iN ((nx Hu i)))), (0, .ref mo), (1, .int (iN (z))), (2, .int (iN (z2))), (3, .int (iN ((flA K S z z2)))), (4, .int (iN (i)))] := hl
          refine lv_lload hx hb d_M_apart_179 (lv_at hl 2 rfl) ?_
          refine lv_lload hx hb d_M_apart_181 (lv_at hl 2 rfl) ?_
          refine rj_mul (a := sX Hu i) (b := sX Hu i) hx hb d_M_apart_183 rfl rfl ?_
          refine lv_lload hx hb d_M_apart_184 (lv_at hl 1 rfl) ?_
          refine lv_lload hx hb d_M_apart_186 (lv_at hl 1 rfl) ?_
          refine rj_mul (a := sY Hu i) (b := sY Hu i) hx hb d_M_apart_188 rfl rfl ?_
          refine rj_add (a := (sX Hu i * sX Hu i)) (b := (sY Hu i * sY Hu i)) hx hb d_M_apart_189 rfl rfl ?_
          refine lv_lstore (lv' := [(12, .long (jN (((sX Hu i * sX Hu i) + (sY Hu i * sY Hu i))))), (10, .long (jN (alg Hu i))), (8, .long (jN (sY Hu i))), (6, .long (jN (sX Hu i))), (5, .int (iN ((nx Hu i)))), (0, .ref mo), (1, .int (iN (z))), (2, .int (iN (z2))), (3, .int (iN ((flA K S z z2)))), (4, .int (iN (i)))]) hx hb d_M_apart_190 hl (by decide) rfl (fun ls hl => ?_)
          have hl : lv_has ls 16 [(12, .long (jN (al2 Hu i))), (10, .long (jN (alg Hu i))), (8, .long (jN (sY Hu i))), (6, .long (jN (sX Hu i))), (5, .int (iN ((nx Hu i)))), (0, .ref mo), (1, .int (iN (z))), (2, .int (iN (z2))), (3, .int (iN ((flA K S z z2)))), (4, .int (iN (i)))] := hl
          refine lv_lload hx hb d_M_apart_192 (lv_at hl 1 rfl) ?_
          refine lv_lconst (v := jN (0)) hx hb d_M_apart_194 (by decide) ?_
          refine rj_cle (a := alg Hu i) (b := 0) (tgt := 257) hx hb d_M_apart_195 d_M_apart_196 (by decide) rfl rfl (by unfold i6; omega) (by unfold i6; omega) (fun c195 => ?_) (fun c195 => ?_)
          · skip
            refine lv_iinc (v := iN ((i + 1))) (lv' := [(4, .int (iN ((i + 1)))), (12, .long (jN (al2 Hu i))), (10, .long (jN (alg Hu i))), (8, .long (jN (sY Hu i))), (6, .long (jN (sX Hu i))), (5, .int (iN ((nx Hu i)))), (0, .ref mo), (1, .int (iN (z))), (2, .int (iN (z2))), (3, .int (iN ((flA K S z z2))))]) hx hb d_M_apart_257 hl (k := 9) rfl (by rw [show (i + 1) = i + (1 : Int) by omega, ← iN_add]; rfl) (by decide) rfl (fun ls hl => ?_)
            refine lv_goto (tgt := 65) hx hb d_M_apart_260 (by decide) ?_
            have hI' : 0 ≤ (i + 1) ∧ (i + 1) ≤ Hu.length ∧ (b3 13, b3 14) = apN Hu (apS Hu) (i + 1).toNat ∧ (∀ q, q ≠ 13 → q ≠ 14 → b3 q = v8 q) := ⟨by omega, by omega, by rw [tn_s h0]; unfold apN; rw [← h2, tn_c h0]; unfold apT; rw [if_neg (by omega), ← b3e], fun q q1 q2 => (b3n q q1 q2).trans (h3 q q1 q2)⟩
            exact ih ((i + 1), b3) _ _ _ (by omega) hI' w (lv_sub hl [6, 7, 8, 9, 0] rfl)
          · skip
            refine lv_lload hx hb d_M_apart_199 (lv_at hl 1 rfl) ?_
            refine lv_lload hx hb d_M_apart_201 (lv_at hl 0 rfl) ?_
            refine rj_cge (a := alg Hu i) (b := al2 Hu i) (tgt := 257) hx hb d_M_apart_203 d_M_apart_204 (by decide) rfl rfl (by unfold i6; omega) (by unfold i6; omega) (fun c203 => ?_) (fun c203 => ?_)
            · skip
              refine lv_iinc (v := iN ((i + 1))) (lv' := [(4, .int (iN ((i + 1)))), (12, .long (jN (al2 Hu i))), (10, .long (jN (alg Hu i))), (8, .long (jN (sY Hu i))), (6, .long (jN (sX Hu i))), (5, .int (iN ((nx Hu i)))), (0, .ref mo), (1, .int (iN (z))), (2, .int (iN (z2))), (3, .int (iN ((flA K S z z2))))]) hx hb d_M_apart_257 hl (k := 9) rfl (by rw [show (i + 1) = i + (1 : Int) by omega, ← iN_add]; rfl) (by decide) rfl (fun ls hl => ?_)
              refine lv_goto (tgt := 65) hx hb d_M_apart_260 (by decide) ?_
              have hI' : 0 ≤ (i + 1) ∧ (i + 1) ≤ Hu.length ∧ (b3 13, b3 14) = apN Hu (apS Hu) (i + 1).toNat ∧ (∀ q, q ≠ 13 → q ≠ 14 → b3 q = v8 q) := ⟨by omega, by omega, by rw [tn_s h0]; unfold apN; rw [← h2, tn_c h0]; unfold apT; rw [if_neg (by omega), ← b3e], fun q q1 q2 => (b3n q q1 q2).trans (h3 q q1 q2)⟩
              exact ih ((i + 1), b3) _ _ _ (by omega) hI' w (lv_sub hl [6, 7, 8, 9, 0] rfl)
            · skip
              refine lv_lconst (v := jN (0)) hx hb d_M_apart_207 (by decide) ?_
              refine lv_lconst (v := jN (0)) hx hb d_M_apart_208 (by decide) ?_
              refine lv_aload_n hx hb d_M_apart_209 rfl (lv_at hl 5 rfl) ?_
              refine gk_get X w g.1.1 (show (mSt cI mo A f b3 F8) mo = .inr (4, _) from mS_m) rfl in_M 8 (by decide) lk_M_25 rfl d_M_apart_210 ?_
              refine lv_iload hx hb d_M_apart_213 (lv_at hl 9 rfl) ?_
              refine gk_iald X w 0 g.1.2.2.2.2.2.2.1 (mS_8 g) rfl (vin (by omega) (show (i : Int) < 576 by have h9 : (i : Int) < Hu.length := (by omega); omega) (by decide)) d_M_apart_215 ?_
              rw [vcl (z := i) (by omega) (by have h9 : (i : Int) < Hu.length := (by omega); omega), hld_x hhF (i := i) (by omega) (by omega)]
              refine ri_i2l (a := (pX Hu i)) hx hb d_M_apart_216 rfl (by have := hHb i; have := hHb (nx Hu i); unfold i3; omega) ?_
              refine lv_aload_n hx hb d_M_apart_217 rfl (lv_at hl 5 rfl) ?_
              refine gk_get X w g.1.1 (show (mSt cI mo A f b3 F8) mo = .inr (4, _) from mS_m) rfl in_M 9 (by decide) lk_M_28 rfl d_M_apart_218 ?_
              refine lv_iload hx hb d_M_apart_221 (lv_at hl 9 rfl) ?_
              refine gk_iald X w 0 g.1.2.2.2.2.2.2.2 (mS_9 g) rfl (vin (by omega) (show (i : Int) < 576 by have h9 : (i : Int) < Hu.length := (by omega); omega) (by decide)) d_M_apart_223 ?_
              rw [vcl (z := i) (by omega) (by have h9 : (i : Int) < Hu.length := (by omega); omega), hld_y hhF (i := i) (by omega) (by omega)]
              refine ri_i2l (a := (pY Hu i)) hx hb d_M_apart_224 rfl (by have := hHb i; have := hHb (nx Hu i); unfold i3; omega) ?_
              refine lv_aload_n hx hb d_M_apart_225 rfl (lv_at hl 5 rfl) ?_
              refine gk_get X w g.1.1 (show (mSt cI mo A f b3 F8) mo = .inr (4, _) from mS_m) rfl in_M 8 (by decide) lk_M_25 rfl d_M_apart_226 ?_
              refine lv_iload hx hb d_M_apart_229 (lv_at hl 4 rfl) ?_
              refine gk_iald X w 0 g.1.2.2.2.2.2.2.1 (mS_8 g) rfl (vin (nx_lt (by omega) (by omega)).1 (show ((nx Hu i) : Int) < 576 by have h9 : ((nx Hu i) : Int) < Hu.length := (nx_lt (by omega) (by omega)).2; omega) (by decide)) d_M_apart_231 ?_
              rw [vcl (z := (nx Hu i)) (nx_lt (by omega) (by omega)).1 (by have h9 : ((nx Hu i) : Int) < Hu.length := (nx_lt (by omega) (by omega)).2; omega), hld_x hhF (i := (nx Hu i)) (nx_lt (by omega) (by omega)).1 (nx_lt (by omega) (by omega)).2]
              refine ri_i2l (a := (pX Hu (nx Hu i))) hx hb d_M_apart_232 rfl (by have := hHb i; have := hHb (nx Hu i); unfold i3; omega) ?_
              refine lv_aload_n hx hb d_M_apart_233 rfl (lv_at hl 5 rfl) ?_
              refine gk_get X w g.1.1 (show (mSt cI mo A f b3 F8) mo = .inr (4, _) from mS_m) rfl in_M 9 (by decide) lk_M_28 rfl d_M_apart_234 ?_
              refine lv_iload hx hb d_M_apart_237 (lv_at hl 4 rfl) ?_
              refine gk_iald X w 0 g.1.2.2.2.2.2.2.2 (mS_9 g) rfl (vin (nx_lt (by omega) (by omega)).1 (show ((nx Hu i) : Int) < 576 by have h9 : ((nx Hu i) : Int) < Hu.length := (nx_lt (by omega) (by omega)).2; omega) (by decide)) d_M_apart_239 ?_
              rw [vcl (z := (nx Hu i)) (nx_lt (by omega) (by omega)).1 (by have h9 : ((nx Hu i) : Int) < Hu.length := (nx_lt (by omega) (by omega)).2; omega), hld_y hhF (i := (nx Hu i)) (nx_lt (by omega) (by omega)).1 (nx_lt (by omega) (by omega)).2]
              refine ri_i2l (a := (pY Hu (nx Hu i))) hx hb d_M_apart_240 rfl (by have := hHb i; have := hHb (nx Hu i); unfold i3; omega) ?_
              refine g_cl w (g_runS (As := [.long (jN (0)), .long (jN (0)), .long (jN ((pX Hu i))), .long (jN ((pY Hu i))), .long (jN ((pX Hu (nx Hu i)))), .long (jN ((pY Hu (nx Hu i))))]) (rest := []) X w (c_M_turn l (px := 0) (py := 0) (ax := (pX Hu i)) (ay := (pY Hu i)) (bx := (pX Hu (nx Hu i))) (by_ := (pY Hu (nx Hu i)))) k_M_turn lk_M_58 st_M_turn ⟨(Nat.le_of_ble_eq_true rfl), (Nat.le_of_ble_eq_true rfl)⟩ rfl hl.1 rfl (Nat.le_of_ble_eq_true rfl) d_M_apart_241 ⟨Nat.zero_le _, Nat.zero_le _⟩) (fun r u H locs hp w => ?_)
              obtain ⟨rfl, rfl⟩ := hp
              have w : gw D (gA L sz) s.heap H locs L (mSt cI mo A f b3 F8) := w
              refine lv_lstore (lv' := [(14, .long (jN ((((pX Hu i) - 0) * ((pY Hu (nx Hu i)) - 0) - ((pY Hu i) - 0) * ((pX Hu (nx Hu i)) - 0))))), (12, .long (jN (al2 Hu i))), (10, .long (jN (alg Hu i))), (8, .long (jN (sY Hu i))), (6, .long (jN (sX Hu i))), (5, .int (iN ((nx Hu i)))), (0, .ref mo), (1, .int (iN (z))), (2, .int (iN (z2))), (3, .int (iN ((flA K S z z2)))), (4, .int (iN (i)))]) hx hb d_M_apart_244 hl (by decide) rfl (fun ls hl => ?_)
              have hl : lv_has ls 16 [(14, .long (jN (trz Hu i))), (12, .long (jN (al2 Hu i))), (10, .long (jN (alg Hu i))), (8, .long (jN (sY Hu i))), (6, .long (jN (sX Hu i))), (5, .int (iN ((nx Hu i)))), (0, .ref mo), (1, .int (iN (z))), (2, .int (iN (z2))), (3, .int (iN ((flA K S z z2)))), (4, .int (iN (i)))] := hl
              refine lv_aload_n hx hb d_M_apart_246 rfl (lv_at hl 6 rfl) ?_
              refine lv_lload hx hb d_M_apart_247 (lv_at hl 0 rfl) ?_
              refine lv_lload hx hb d_M_apart_249 (lv_at hl 0 rfl) ?_
              refine rj_mul (a := trz Hu i) (b := trz Hu i) hx hb d_M_apart_251 rfl rfl ?_
              refine lv_lload hx hb d_M_apart_252 (lv_at hl 1 rfl) ?_
              refine g_cv w (g_runV (As := [.long (jN ((trz Hu i * trz Hu i))), .long (jN (al2 Hu i))]) (rest := []) X w (c_M_better l g (v := b3) (F := F8) (x := (trz Hu i * trz Hu i)) (y := (al2 Hu i)) (btr_6 (x := (trz Hu i * trz Hu i)) (y := (al2 Hu i)) b3B (trz_b hHb i) (by have := al2_b hHb i; omega)).1 (btr_6 (x := (trz Hu i * trz Hu i)) (y := (al2 Hu i)) b3B (trz_b hHb i) (by have := al2_b hHb i; omega)).2) k_M_better v_M_better lk_M_188 g.1.1 (show (mSt cI mo A f b3 F8) mo = .inr (4, _) from mS_m) rfl ⟨(Nat.le_of_ble_eq_true rfl), (Nat.le_of_ble_eq_true rfl)⟩ rfl hl.1 rfl (Nat.le_of_ble_eq_true rfl) d_M_apart_254 ⟨(Nat.le_of_ble_eq_true rfl), (Nat.le_of_ble_eq_true rfl)⟩) (fun u H locs hp w => ?_)
              obtain ⟨b4, rfl, b4e, b4n⟩ := hp
              have w : gw D (gA L sz) s.heap H locs L (mSt cI mo A f b4 F8) := w
              have b4B : apB (b4 13, b4 14) := by rw [b4e]; exact btr_b b3B (trz_b hHb i) (by have := al2_b hHb i; omega)
              refine lv_iinc (v := iN ((i + 1))) (lv' := [(4, .int (iN ((i + 1)))), (14, .long (jN (trz Hu i))), (12, .long (jN (al2 Hu i))), (10, .long (jN (alg Hu i))), (8, .long (jN (sY Hu i))), (6, .long (jN (sX Hu i))), (5, .int (iN ((nx Hu i)))), (0, .ref mo), (1, .int (iN (z))), (2, .int (iN (z2))), (3, .int (iN ((flA K S z z2))))]) hx hb d_M_apart_257 hl (k := 10) rfl (by rw [show (i + 1) = i + (1 : Int) by omega, ← iN_add]; rfl) (by decide) rfl (fun ls hl => ?_)
              refine lv_goto (tgt := 65) hx hb d_M_apart_260 (by decide) ?_
              have hI' : 0 ≤ (i + 1) ∧ (i + 1) ≤ Hu.length ∧ (b4 13, b4 14) = apN Hu (apS Hu) (i + 1).toNat ∧ (∀ q, q ≠ 13 → q ≠ 14 → b4 q = v8 q) := ⟨by omega, by omega, by rw [tn_s h0]; unfold apN; rw [← h2, tn_c h0]; unfold apT; rw [if_pos ⟨by omega, by omega⟩, ← b3e, ← b4e], fun q q1 q2 => ((b4n q q1 q2).trans (b3n q q1 q2)).trans (h3 q q1 q2)⟩
              exact ih ((i + 1), b4) _ _ _ (by omega) hI' w (lv_sub hl [7, 8, 9, 10, 0] rfl)
    · skip
      refine lv_aload_n hx hb d_M_apart_57 rfl (lv_at hl 1 rfl) ?_
      refine lv_lconst (v := jN (0)) hx hb d_M_apart_58 (by decide) ?_
      refine gk_put X w g.1.1 (show (mSt cI mo A f v2 F8) mo = .inr (4, _) from mS_m) rfl in_M ty_M tyok_M nm_M 13 (by decide) lk_M_130 rfl (ty := .long) (by decide +kernel) rfl rfl (Nat.le_of_ble_eq_true rfl) d_M_apart_59 (fun H locs w => ?_)
      obtain ⟨v5, hv5⟩ : ∃ q : Nat → Int, q = va_up v2 13 (0) := ⟨_, rfl⟩
      have v5s : v5 13 = 0 := by rw [hv5, va_up_self]
      have v5n : ∀ j, j ≠ 13 → v5 j = v2 j := fun j hj => by rw [hv5, va_up_ne _ _ hj]
      have w : gw D (gA L sz) s.heap H locs L (mSt cI mo A f v5 F8) := by rw [hv5, ← mU_m (v := v2)]; exact w
      refine lv_iconst (v := iN (0)) hx hb d_M_apart_62 (by decide) ?_
      refine lv_istore (lv' := [(4, .int (iN (0))), (3, .int (iN ((flA K S z z2)))), (0, .ref mo), (1, .int (iN (z))), (2, .int (iN (z2)))]) hx hb d_M_apart_63 hl (by decide) rfl (fun ls hl => ?_)
      have e13 : v5 13 = (apS Hu).1 := by rw [show v5 13 = _ from (v5s)]; unfold apS; dsimp only; rw [if_pos (by omega)]
      have e14 : v5 14 = 1 := ((v5n 14 (by decide)).trans (v2s))
      refine g_loop (σ := Int × (Nat → Int)) (fun z9 => (Hu.length - z9.1).toNat) (fun z9 => [(0, .ref mo), (1, .int (iN (z))), (2, .int (iN (z2))), (3, .int (iN ((flA K S z z2)))), (4, .int (iN (z9.1)))]) L (fun z9 => (mSt cI mo A f z9.2 F8)) (fun z9 => 0 ≤ z9.1 ∧ z9.1 ≤ Hu.length ∧ (z9.2 13, z9.2 14) = apN Hu (apS Hu) z9.1.toNat ∧ (∀ q, q ≠ 13 → q ≠ 14 → z9.2 q = v8 q)) ?_ (0, v5) _ _ _ ⟨by (try dsimp only); omega, by (try dsimp only); omega, by (try dsimp only); rw [e13, e14]; rfl, fun q q1 q2 => (((v5n q q1).trans (v2n q q2)).trans (v1n q q1))⟩ w (lv_sub hl [2, 3, 4, 1, 0] rfl)
      intro z9 H locs ls hI w hl ih
      obtain ⟨i, vA⟩ := z9
      have hl : lv_has ls 16 [(0, .ref mo), (1, .int (iN (z))), (2, .int (iN (z2))), (3, .int (iN ((flA K S z z2)))), (4, .int (iN (i)))] := hl
      have w : gw D (gA L sz) s.heap H locs L ((mSt cI mo A f vA F8)) := w
      have hI : 0 ≤ i ∧ i ≤ Hu.length ∧ (vA 13, vA 14) = apN Hu (apS Hu) i.toNat ∧ (∀ q, q ≠ 13 → q ≠ 14 → vA q = v8 q) := hI
      obtain ⟨h0, h1, h2, h3⟩ := hI
      have hAB : apB (vA 13, vA 14) := by rw [h2]; exact apN_b hHb (apS_b hHb) _
      have h10 : vA 10 = Hu.length := (h3 10 (by decide) (by decide)).trans h10o
      have h7 : vA 7 = Wl.length := (h3 7 (by decide) (by decide)).trans h7o
      have hq1 := alg_b hHb i
      have hq2 := al2_b hHb i
      have hq3 : 0 ≤ vA 13 ∧ vA 13 ≤ 518400000000 := ⟨hAB.1, hAB.2.1⟩
      refine lv_iload hx hb d_M_apart_65 (lv_at hl 4 rfl) ?_
      refine lv_aload_n hx hb d_M_apart_67 rfl (lv_at hl 0 rfl) ?_
      refine gk_get X w g.1.1 (show (mSt cI mo A f vA F8) mo = .inr (4, _) from mS_m) rfl in_M 10 (by decide) lk_M_51 rfl d_M_apart_68 ?_
      rw [show vA 10 = (Hu.length : Int) from h10]
      refine ri_cge (a := i) (b := (Hu.length : Int)) (tgt := 263) hx hb d_M_apart_71 (by decide) rfl rfl (by unfold i3; omega) (by unfold i3; omega) (fun c71 => ?_) (fun c71 => ?_)
      · skip
        refine lv_aload_n hx hb d_M_apart_263 rfl (lv_at hl 0 rfl) ?_
        refine lv_aload_n hx hb d_M_apart_264 rfl (lv_at hl 0 rfl) ?_
        refine gk_get X w g.1.1 (show (mSt cI mo A f vA F8) mo = .inr (4, _) from mS_m) rfl in_M 13 (by decide) lk_M_130 rfl d_M_apart_265 ?_
        refine lv_aload_n hx hb d_M_apart_268 rfl (lv_at hl 0 rfl) ?_
        refine gk_get X w g.1.1 (show (mSt cI mo A f vA F8) mo = .inr (4, _) from mS_m) rfl in_M 14 (by decide) lk_M_133 rfl d_M_apart_269 ?_
        refine g_cv w (g_runV (As := [.long (jN ((vA 13))), .long (jN ((vA 14)))]) (rest := []) X w (c_M_tell l g (v := vA) (F := F8) (x := (vA 13)) (y := (vA 14)) (by unfold i6; omega) (by have := hAB.2.2.1; have := hAB.2.2.2; dsimp only at *; omega)) k_M_tell v_M_tell lk_M_143 g.1.1 (show (mSt cI mo A f vA F8) mo = .inr (4, _) from mS_m) rfl ⟨(Nat.le_of_ble_eq_true rfl), (Nat.le_of_ble_eq_true rfl)⟩ rfl hl.1 rfl (Nat.le_of_ble_eq_true rfl) d_M_apart_272 ⟨(Nat.le_of_ble_eq_true rfl), (Nat.le_of_ble_eq_true rfl)⟩) (fun u H locs hp w => ?_)
        obtain ⟨vT, rfl, eT1, eT2, hT⟩ := hp
        have w : gw D (gA L sz) s.heap H locs L (mSt cI mo A f vT F8) := w
        refine lv_iconst (v := iN (1)) hx hb d_M_apart_275 (by decide) ?_
        have eR : (vA 13, vA 14) = apR Hu := by
          unfold apR; rw [h2]
          first
            | rw [show i.toNat = Hu.length by omega]
            | (have h9 := apN_0 hHb (apS_b hHb) (n := i.toNat) (by rw [← h2]; dsimp only; omega) (Hu.length - i.toNat); rw [show i.toNat + (Hu.length - i.toNat) = Hu.length by omega] at h9; exact h9.symm)
        have e13 : vA 13 = (apR Hu).1 := by rw [← eR]
        have e14 : vA 14 = (apR Hu).2 := by rw [← eR]
        exact g_iret X w hrt hlk d_M_apart_276 ⟨by rw [if_pos hf0], by unfold crT; rw [if_pos hf0, ← eHu]; exact ⟨vT, F8, rfl, mInv_k hI8 ((hT 0 (by decide) (by decide)).trans (h3 0 (by decide) (by decide))) ((hT 1 (by decide) (by decide)).trans (h3 1 (by decide) (by decide))) (fun _ _ => rfl), by rw [eT1, e13, e14], by rw [eT2, e13, e14]⟩⟩
      · skip
        refine lv_aload_n hx hb d_M_apart_74 rfl (lv_at hl 0 rfl) ?_
        refine gk_get X w g.1.1 (show (mSt cI mo A f vA F8) mo = .inr (4, _) from mS_m) rfl in_M 13 (by decide) lk_M_130 rfl d_M_apart_75 ?_
        refine lv_lconst (v := jN (0)) hx hb d_M_apart_78 (by decide) ?_
        refine rj_cle (a := (vA 13)) (b := 0) (tgt := 263) hx hb d_M_apart_79 d_M_apart_80 (by decide) rfl rfl (by unfold i6; omega) (by unfold i6; omega) (fun c79 => ?_) (fun c79 => ?_)
        · skip
          refine lv_aload_n hx hb d_M_apart_263 rfl (lv_at hl 0 rfl) ?_
          refine lv_aload_n hx hb d_M_apart_264 rfl (lv_at hl 0 rfl) ?_
          refine gk_get X w g.1.1 (show (mSt cI mo A f vA F8) mo = .inr (4, _) from mS_m) rfl in_M 13 (by decide) lk_M_130 rfl d_M_apart_265 ?_
          refine lv_aload_n hx hb d_M_apart_268 rfl (lv_at hl 0 rfl) ?_
          refine gk_get X w g.1.1 (show (mSt cI mo A f vA F8) mo = .inr (4, _) from mS_m) rfl in_M 14 (by decide) lk_M_133 rfl d_M_apart_269 ?_
          refine g_cv w (g_runV (As := [.long (jN ((vA 13))), .long (jN ((vA 14)))]) (rest := []) X w (c_M_tell l g (v := vA) (F := F8) (x := (vA 13)) (y := (vA 14)) (by unfold i6; omega) (by have := hAB.2.2.1; have := hAB.2.2.2; dsimp only at *; omega)) k_M_tell v_M_tell lk_M_143 g.1.1 (show (mSt cI mo A f vA F8) mo = .inr (4, _) from mS_m) rfl ⟨(Nat.le_of_ble_eq_true rfl), (Nat.le_of_ble_eq_true rfl)⟩ rfl hl.1 rfl (Nat.le_of_ble_eq_true rfl) d_M_apart_272 ⟨(Nat.le_of_ble_eq_true rfl), (Nat.le_of_ble_eq_true rfl)⟩) (fun u H locs hp w => ?_)
          obtain ⟨vT, rfl, eT1, eT2, hT⟩ := hp
          have w : gw D (gA L sz) s.heap H locs L (mSt cI mo A f vT F8) := w
          refine lv_iconst (v := iN (1)) hx hb d_M_apart_275 (by decide) ?_
          have eR : (vA 13, vA 14) = apR Hu := by
            unfold apR; rw [h2]
            first
              | rw [show i.toNat = Hu.length by omega]
              | (have h9 := apN_0 hHb (apS_b hHb) (n := i.toNat) (by rw [← h2]; dsimp only; omega) (Hu.length - i.toNat); rw [show i.toNat + (Hu.length - i.toNat) = Hu.length by omega] at h9; exact h9.symm)
          have e13 : vA 13 = (apR Hu).1 := by rw [← eR]
          have e14 : vA 14 = (apR Hu).2 := by rw [← eR]
          exact g_iret X w hrt hlk d_M_apart_276 ⟨by rw [if_pos hf0], by unfold crT; rw [if_pos hf0, ← eHu]; exact ⟨vT, F8, rfl, mInv_k hI8 ((hT 0 (by decide) (by decide)).trans (h3 0 (by decide) (by decide))) ((hT 1 (by decide) (by decide)).trans (h3 1 (by decide) (by decide))) (fun _ _ => rfl), by rw [eT1, e13, e14], by rw [eT2, e13, e14]⟩⟩
        · skip
          refine lv_aload_n hx hb d_M_apart_83 rfl (lv_at hl 0 rfl) ?_
          refine lv_iload hx hb d_M_apart_84 (lv_at hl 4 rfl) ?_
          refine g_ci w (g_runV (As := [.int (iN (i))]) (rest := []) X w (c_M_after l g (v := vA) (F := F8) (by rw [h10]; unfold i3; omega) (z := i) (by omega)) k_M_after v_M_after lk_M_66 g.1.1 (show (mSt cI mo A f vA F8) mo = .inr (4, _) from mS_m) rfl ⟨(Nat.le_of_ble_eq_true rfl), (Nat.le_of_ble_eq_true rfl)⟩ rfl hl.1 rfl (Nat.le_of_ble_eq_true rfl) d_M_apart_86 ⟨(Nat.le_of_ble_eq_true rfl), (Nat.le_of_ble_eq_true rfl)⟩) (fun r u H locs hp w => ?_)
          obtain ⟨hr9, rfl⟩ := hp
          rw [aft_nx h10] at hr9
          subst hr9
          have w : gw D (gA L sz) s.heap H locs L (mSt cI mo A f vA F8) := w
          refine lv_istore (lv' := [(5, .int (iN ((nx Hu i)))), (0, .ref mo), (1, .int (iN (z))), (2, .int (iN (z2))), (3, .int (iN ((flA K S z z2)))), (4, .int (iN (i)))]) hx hb d_M_apart_89 hl (by decide) rfl (fun ls hl => ?_)
          refine lv_aload_n hx hb d_M_apart_91 rfl (lv_at hl 1 rfl) ?_
          refine lv_aload_n hx hb d_M_apart_92 rfl (lv_at hl 1 rfl) ?_
          refine gk_get X w g.1.1 (show (mSt cI mo A f vA F8) mo = .inr (4, _) from mS_m) rfl in_M 8 (by decide) lk_M_25 rfl d_M_apart_93 ?_
          refine lv_iload hx hb d_M_apart_96 (lv_at hl 5 rfl) ?_
          refine gk_iald X w 0 g.1.2.2.2.2.2.2.1 (mS_8 g) rfl (vin (by omega) (show (i : Int) < 576 by have h9 : (i : Int) < Hu.length := (by omega); omega) (by decide)) d_M_apart_98 ?_
          rw [vcl (z := i) (by omega) (by have h9 : (i : Int) < Hu.length := (by omega); omega), hld_x hhF (i := i) (by omega) (by omega)]
          refine ri_i2l (a := (pX Hu i)) hx hb d_M_apart_99 rfl (by have := hHb i; have := hHb (nx Hu i); unfold i3; omega) ?_
          refine lv_aload_n hx hb d_M_apart_100 rfl (lv_at hl 1 rfl) ?_
          refine gk_get X w g.1.1 (show (mSt cI mo A f vA F8) mo = .inr (4, _) from mS_m) rfl in_M 9 (by decide) lk_M_28 rfl d_M_apart_101 ?_
          refine lv_iload hx hb d_M_apart_104 (lv_at hl 5 rfl) ?_
          refine gk_iald X w 0 g.1.2.2.2.2.2.2.2 (mS_9 g) rfl (vin (by omega) (show (i : Int) < 576 by have h9 : (i : Int) < Hu.length := (by omega); omega) (by decide)) d_M_apart_106 ?_
          rw [vcl (z := i) (by omega) (by have h9 : (i : Int) < Hu.length := (by omega); omega), hld_y hhF (i := i) (by omega) (by omega)]
          refine ri_i2l (a := (pY Hu i)) hx hb d_M_apart_107 rfl (by have := hHb i; have := hHb (nx Hu i); unfold i3; omega) ?_
          refine lv_lconst (v := jN (0)) hx hb d_M_apart_108 (by decide) ?_
          refine lv_lconst (v := jN (0)) hx hb d_M_apart_109 (by decide) ?_
          refine g_cl w (g_runS (As := [.long (jN ((pX Hu i))), .long (jN ((pY Hu i))), .long (jN (0)), .long (jN (0))]) (rest := [.ref mo]) X w (c_M_square l (px := (pX Hu i)) (py := (pY Hu i)) (ax := 0) (ay := 0)) k_M_square lk_M_62 st_M_square ⟨(Nat.le_of_ble_eq_true rfl), (Nat.le_of_ble_eq_true rfl)⟩ rfl hl.1 rfl (Nat.le_of_ble_eq_true rfl) d_M_apart_110 ⟨Nat.zero_le _, Nat.zero_le _⟩) (fun r u H locs hp w => ?_)
          obtain ⟨rfl, rfl⟩ := hp
          have w : gw D (gA L sz) s.heap H locs L (mSt cI mo A f vA F8) := w
          refine lv_lconst (v := jN (1)) hx hb d_M_apart_113 (by decide) ?_
          refine g_cv w (g_runV (As := [.long (jN ((((pX Hu i) - 0) * ((pX Hu i) - 0) + ((pY Hu i) - 0) * ((pY Hu i) - 0)))), .long (jN (1))]) (rest := []) X w (c_M_better l g (v := vA) (F := F8) (x := (sz2 Hu i)) (y := 1) (btr_6 (x := (sz2 Hu i)) (y := 1) hAB (by have := sz2_b hHb i; omega) (by omega)).1 (btr_6 (x := (sz2 Hu i)) (y := 1) hAB (by have := sz2_b hHb i; omega) (by omega)).2) k_M_better v_M_better lk_M_188 g.1.1 (show (mSt cI mo A f vA F8) mo = .inr (4, _) from mS_m) rfl ⟨(Nat.le_of_ble_eq_true rfl), (Nat.le_of_ble_eq_true rfl)⟩ rfl hl.1 rfl (Nat.le_of_ble_eq_true rfl) d_M_apart_114 ⟨(Nat.le_of_ble_eq_true rfl), (Nat.le_of_ble_eq_true rfl)⟩) (fun u H locs hp w => ?_)
          obtain ⟨b6, rfl, b6e, b6n⟩ := hp
          have w : gw D (gA L sz) s.heap H locs L (mSt cI mo A f b6 F8) := w
          have b6B : apB (b6 13, b6 14) := by rw [b6e]; exact btr_b hAB (by have := sz2_b hHb i; omega) (by omega)
          refine lv_aload_n hx hb d_M_apart_117 rfl (lv_at hl 1 rfl) ?_
          refine gk_get X w g.1.1 (show (mSt cI mo A f b6 F8) mo = .inr (4, _) from mS_m) rfl in_M 8 (by decide) lk_M_25 rfl d_M_apart_118 ?_
          refine lv_iload hx hb d_M_apart_121 (lv_at hl 0 rfl) ?_
          refine gk_iald X w 0 g.1.2.2.2.2.2.2.1 (mS_8 g) rfl (vin (nx_lt (by omega) (by omega)).1 (show ((nx Hu i) : Int) < 576 by have h9 : ((nx Hu i) : Int) < Hu.length := (nx_lt (by omega) (by omega)).2; omega) (by decide)) d_M_apart_123 ?_
          rw [vcl (z := (nx Hu i)) (nx_lt (by omega) (by omega)).1 (by have h9 : ((nx Hu i) : Int) < Hu.length := (nx_lt (by omega) (by omega)).2; omega), hld_x hhF (i := (nx Hu i)) (nx_lt (by omega) (by omega)).1 (nx_lt (by omega) (by omega)).2]
          refine lv_aload_n hx hb d_M_apart_124 rfl (lv_at hl 1 rfl) ?_
          refine gk_get X w g.1.1 (show (mSt cI mo A f b6 F8) mo = .inr (4, _) from mS_m) rfl in_M 8 (by decide) lk_M_25 rfl d_M_apart_125 ?_
          refine lv_iload hx hb d_M_apart_128 (lv_at hl 5 rfl) ?_
          refine gk_iald X w 0 g.1.2.2.2.2.2.2.1 (mS_8 g) rfl (vin (by omega) (show (i : Int) < 576 by have h9 : (i : Int) < Hu.length := (by omega); omega) (by decide)) d_M_apart_130 ?_
          rw [vcl (z := i) (by omega) (by have h9 : (i : Int) < Hu.length := (by omega); omega), hld_x hhF (i := i) (by omega) (by omega)]
          refine ri_sub (a := (pX Hu (nx Hu i))) (b := (pX Hu i)) hx hb d_M_apart_131 rfl rfl ?_
          refine ri_i2l (a := ((pX Hu (nx Hu i)) - (pX Hu i))) hx hb d_M_apart_132 rfl (by have := hHb i; have := hHb (nx Hu i); unfold i3; omega) ?_
          refine lv_lstore (lv' := [(6, .long (jN (((pX Hu (nx Hu i)) - (pX Hu i))))), (5, .int (iN ((nx Hu i)))), (0, .ref mo), (1, .int (iN (z))), (2, .int (iN (z2))), (3, .int (iN ((flA K S z z2)))), (4, .int (iN (i)))]) hx hb d_M_apart_133 hl (by decide) rfl (fun ls hl => ?_)
          have hl : lv_has ls 16 [(6, .long (jN (sX Hu i))), (5, .int (iN ((nx Hu i)))), (0, .ref mo), (1, .int (iN (z))), (2, .int (iN (z2))), (3, .int (iN ((flA K S z z2)))), (4, .int (iN (i)))] := hl
          refine lv_aload_n hx hb d_M_apart_135 rfl (lv_at hl 2 rfl) ?_
          refine gk_get X w g.1.1 (show (mSt cI mo A f b6 F8) mo = .inr (4, _) from mS_m) rfl in_M 9 (by decide) lk_M_28 rfl d_M_apart_136 ?_
          refine lv_iload hx hb d_M_apart_139 (lv_at hl 1 rfl) ?_
          refine gk_iald X w 0 g.1.2.2.2.2.2.2.2 (mS_9 g) rfl (vin (nx_lt (by omega) (by omega)).1 (show ((nx Hu i) : Int) < 576 by have h9 : ((nx Hu i) : Int) < Hu.length := (nx_lt (by omega) (by omega)).2; omega) (by decide)) d_M_apart_141 ?_
          rw [vcl (z := (nx Hu i)) (nx_lt (by omega) (by omega)).1 (by have h9 : ((nx Hu i) : Int) < Hu.length := (nx_lt (by omega) (by omega)).2; omega), hld_y hhF (i := (nx Hu i)) (nx_lt (by omega) (by omega)).1 (nx_lt (by omega) (by omega)).2]
          refine lv_aload_n hx hb d_M_apart_142 rfl (lv_at hl 2 rfl) ?_
          refine gk_get X w g.1.1 (show (mSt cI mo A f b6 F8) mo = .inr (4, _) from mS_m) rfl in_M 9 (by decide) lk_M_28 rfl d_M_apart_143 ?_
          refine lv_iload hx hb d_M_apart_146 (lv_at hl 6 rfl) ?_
          refine gk_iald X w 0 g.1.2.2.2.2.2.2.2 (mS_9 g) rfl (vin (by omega) (show (i : Int) < 576 by have h9 : (i : Int) < Hu.length := (by omega); omega) (by decide)) d_M_apart_148 ?_
          rw [vcl (z := i) (by omega) (by have h9 : (i : Int) < Hu.length := (by omega); omega), hld_y hhF (i := i) (by omega) (by omega)]
          refine ri_sub (a := (pY Hu (nx Hu i))) (b := (pY Hu i)) hx hb d_M_apart_149 rfl rfl ?_
          refine ri_i2l (a := ((pY Hu (nx Hu i)) - (pY Hu i))) hx hb d_M_apart_150 rfl (by have := hHb i; have := hHb (nx Hu i); unfold i3; omega) ?_
          refine lv_lstore (lv' := [(8, .long (jN (((pY Hu (nx Hu i)) - (pY Hu i))))), (6, .long (jN (sX Hu i))), (5, .int (iN ((nx Hu i)))), (0, .ref mo), (1, .int (iN (z))), (2, .int (iN (z2))), (3, .int (iN ((flA K S z z2)))), (4, .int (iN (i)))]) hx hb d_M_apart_151 hl (by decide) rfl (fun ls hl => ?_)
          have hl : lv_has ls 16 [(8, .long (jN (sY Hu i))), (6, .long (jN (sX Hu i))), (5, .int (iN ((nx Hu i)))), (0, .ref mo), (1, .int (iN (z))), (2, .int (iN (z2))), (3, .int (iN ((flA K S z z2)))), (4, .int (iN (i)))] := hl
          refine lv_aload_n hx hb d_M_apart_153 rfl (lv_at hl 3 rfl) ?_
          refine gk_get X w g.1.1 (show (mSt cI mo A f b6 F8) mo = .inr (4, _) from mS_m) rfl in_M 8 (by decide) lk_M_25 rfl d_M_apart_154 ?_
          refine lv_iload hx hb d_M_apart_157 (lv_at hl 7 rfl) ?_
          refine gk_iald X w 0 g.1.2.2.2.2.2.2.1 (mS_8 g) rfl (vin (by omega) (show (i : Int) < 576 by have h9 : (i : Int) < Hu.length := (by omega); omega) (by decide)) d_M_apart_159 ?_
          rw [vcl (z := i) (by omega) (by have h9 : (i : Int) < Hu.length := (by omega); omega), hld_x hhF (i := i) (by omega) (by omega)]
          refine ri_i2l (a := (pX Hu i)) hx hb d_M_apart_160 rfl (by have := hHb i; have := hHb (nx Hu i); unfold i3; omega) ?_
          refine lv_lload hx hb d_M_apart_161 (lv_at hl 1 rfl) ?_
          refine rj_mul (a := (pX Hu i)) (b := sX Hu i) hx hb d_M_apart_163 rfl rfl ?_
          refine lv_aload_n hx hb d_M_apart_164 rfl (lv_at hl 3 rfl) ?_
          refine gk_get X w g.1.1 (show (mSt cI mo A f b6 F8) mo = .inr (4, _) from mS_m) rfl in_M 9 (by decide) lk_M_28 rfl d_M_apart_165 ?_
          refine lv_iload hx hb d_M_apart_168 (lv_at hl 7 rfl) ?_
          refine gk_iald X w 0 g.1.2.2.2.2.2.2.2 (mS_9 g) rfl (vin (by omega) (show (i : Int) < 576 by have h9 : (i : Int) < Hu.length := (by omega); omega) (by decide)) d_M_apart_170 ?_
          rw [vcl (z := i) (by omega) (by have h9 : (i : Int) < Hu.length := (by omega); omega), hld_y hhF (i := i) (by omega) (by omega)]
          refine ri_i2l (a := (pY Hu i)) hx hb d_M_apart_171 rfl (by have := hHb i; have := hHb (nx Hu i); unfold i3; omega) ?_
          refine lv_lload hx hb d_M_apart_172 (lv_at hl 0 rfl) ?_
          refine rj_mul (a := (pY Hu i)) (b := sY Hu i) hx hb d_M_apart_174 rfl rfl ?_
          refine rj_add (a := ((pX Hu i) * sX Hu i)) (b := ((pY Hu i) * sY Hu i)) hx hb d_M_apart_175 rfl rfl ?_
          refine rj_neg (a := (((pX Hu i) * sX Hu i) + ((pY Hu i) * sY Hu i))) hx hb d_M_apart_176 rfl ?_
          refine lv_lstore (lv' := [(10, .long (jN ((-(((pX Hu i) * sX Hu i) + ((pY Hu i) * sY Hu i)))))), (8, .long (jN (sY Hu i))), (6, .long (jN (sX Hu i))), (5, .int (iN ((nx Hu i)))), (0, .ref mo), (1, .int (iN (z))), (2, .int (iN (z2))), (3, .int (iN ((flA K S z z2)))), (4, .int (iN (i)))]) hx hb d_M_apart_177 hl (by decide) rfl (fun ls hl => ?_)
          have hl : lv_has ls 16 [(10, .long (jN (alg Hu i))), (8, .long (jN (sY Hu i))), (6, .long (jN (sX Hu i))), (5, .int (iN ((nx Hu i)))), (0, .ref mo), (1, .int (iN (z))), (2, .int (iN (z2))), (3, .int (iN ((flA K S z z2)))), (4, .int (iN (i)))] := hl
          refine lv_lload hx hb d_M_apart_179 (lv_at hl 2 rfl) ?_
          refine lv_lload hx hb d_M_apart_181 (lv_at hl 2 rfl) ?_
          refine rj_mul (a := sX Hu i) (b := sX Hu i) hx hb d_M_apart_183 rfl rfl ?_
          refine lv_lload hx hb d_M_apart_184 (lv_at hl 1 rfl) ?_
          refine lv_lload hx hb d_M_apart_186 (lv_at hl 1 rfl) ?_
          refine rj_mul (a := sY Hu i) (b := sY Hu i) hx hb d_M_apart_188 rfl rfl ?_
          refine rj_add (a := (sX Hu i * sX Hu i)) (b := (sY Hu i * sY Hu i)) hx hb d_M_apart_189 rfl rfl ?_
          refine lv_lstore (lv' := [(12, .long (jN (((sX Hu i * sX Hu i) + (sY Hu i * sY Hu i))))), (10, .long (jN (alg Hu i))), (8, .long (jN (sY Hu i))), (6, .long (jN (sX Hu i))), (5, .int (iN ((nx Hu i)))), (0, .ref mo), (1, .int (iN (z))), (2, .int (iN (z2))), (3, .int (iN ((flA K S z z2)))), (4, .int (iN (i)))]) hx hb d_M_apart_190 hl (by decide) rfl (fun ls hl => ?_)
          have hl : lv_has ls 16 [(12, .long (jN (al2 Hu i))), (10, .long (jN (alg Hu i))), (8, .long (jN (sY Hu i))), (6, .long (jN (sX Hu i))), (5, .int (iN ((nx Hu i)))), (0, .ref mo), (1, .int (iN (z))), (2, .int (iN (z2))), (3, .int (iN ((flA K S z z2)))), (4, .int (iN (i)))] := hl
          refine lv_lload hx hb d_M_apart_192 (lv_at hl 1 rfl) ?_
          refine lv_lconst (v := jN (0)) hx hb d_M_apart_194 (by decide) ?_
          refine rj_cle (a := alg Hu i) (b := 0) (tgt := 257) hx hb d_M_apart_195 d_M_apart_196 (by decide) rfl rfl (by unfold i6; omega) (by unfold i6; omega) (fun c195 => ?_) (fun c195 => ?_)
          · skip
            refine lv_iinc (v := iN ((i + 1))) (lv' := [(4, .int (iN ((i + 1)))), (12, .long (jN (al2 Hu i))), (10, .long (jN (alg Hu i))), (8, .long (jN (sY Hu i))), (6, .long (jN (sX Hu i))), (5, .int (iN ((nx Hu i)))), (0, .ref mo), (1, .int (iN (z))), (2, .int (iN (z2))), (3, .int (iN ((flA K S z z2))))]) hx hb d_M_apart_257 hl (k := 9) rfl (by rw [show (i + 1) = i + (1 : Int) by omega, ← iN_add]; rfl) (by decide) rfl (fun ls hl => ?_)
            refine lv_goto (tgt := 65) hx hb d_M_apart_260 (by decide) ?_
            have hI' : 0 ≤ (i + 1) ∧ (i + 1) ≤ Hu.length ∧ (b6 13, b6 14) = apN Hu (apS Hu) (i + 1).toNat ∧ (∀ q, q ≠ 13 → q ≠ 14 → b6 q = v8 q) := ⟨by omega, by omega, by rw [tn_s h0]; unfold apN; rw [← h2, tn_c h0]; unfold apT; rw [if_neg (by omega), ← b6e], fun q q1 q2 => (b6n q q1 q2).trans (h3 q q1 q2)⟩
            exact ih ((i + 1), b6) _ _ _ (by omega) hI' w (lv_sub hl [6, 7, 8, 9, 0] rfl)
          · skip
            refine lv_lload hx hb d_M_apart_199 (lv_at hl 1 rfl) ?_
            refine lv_lload hx hb d_M_apart_201 (lv_at hl 0 rfl) ?_
            refine rj_cge (a := alg Hu i) (b := al2 Hu i) (tgt := 257) hx hb d_M_apart_203 d_M_apart_204 (by decide) rfl rfl (by unfold i6; omega) (by unfold i6; omega) (fun c203 => ?_) (fun c203 => ?_)
            · skip
              refine lv_iinc (v := iN ((i + 1))) (lv' := [(4, .int (iN ((i + 1)))), (12, .long (jN (al2 Hu i))), (10, .long (jN (alg Hu i))), (8, .long (jN (sY Hu i))), (6, .long (jN (sX Hu i))), (5, .int (iN ((nx Hu i)))), (0, .ref mo), (1, .int (iN (z))), (2, .int (iN (z2))), (3, .int (iN ((flA K S z z2))))]) hx hb d_M_apart_257 hl (k := 9) rfl (by rw [show (i + 1) = i + (1 : Int) by omega, ← iN_add]; rfl) (by decide) rfl (fun ls hl => ?_)
              refine lv_goto (tgt := 65) hx hb d_M_apart_260 (by decide) ?_
              have hI' : 0 ≤ (i + 1) ∧ (i + 1) ≤ Hu.length ∧ (b6 13, b6 14) = apN Hu (apS Hu) (i + 1).toNat ∧ (∀ q, q ≠ 13 → q ≠ 14 → b6 q = v8 q) := ⟨by omega, by omega, by rw [tn_s h0]; unfold apN; rw [← h2, tn_c h0]; unfold apT; rw [if_neg (by omega), ← b6e], fun q q1 q2 => (b6n q q1 q2).trans (h3 q q1 q2)⟩
              exact ih ((i + 1), b6) _ _ _ (by omega) hI' w (lv_sub hl [6, 7, 8, 9, 0] rfl)
            · skip
              refine lv_lconst (v := jN (0)) hx hb d_M_apart_207 (by decide) ?_
              refine lv_lconst (v := jN (0)) hx hb d_M_apart_208 (by decide) ?_
              refine lv_aload_n hx hb d_M_apart_209 rfl (lv_at hl 5 rfl) ?_
              refine gk_get X w g.1.1 (show (mSt cI mo A f b6 F8) mo = .inr (4, _) from mS_m) rfl in_M 8 (by decide) lk_M_25 rfl d_M_apart_210 ?_
              refine lv_iload hx hb d_M_apart_213 (lv_at hl 9 rfl) ?_
              refine gk_iald X w 0 g.1.2.2.2.2.2.2.1 (mS_8 g) rfl (vin (by omega) (show (i : Int) < 576 by have h9 : (i : Int) < Hu.length := (by omega); omega) (by decide)) d_M_apart_215 ?_
              rw [vcl (z := i) (by omega) (by have h9 : (i : Int) < Hu.length := (by omega); omega), hld_x hhF (i := i) (by omega) (by omega)]
              refine ri_i2l (a := (pX Hu i)) hx hb d_M_apart_216 rfl (by have := hHb i; have := hHb (nx Hu i); unfold i3; omega) ?_
              refine lv_aload_n hx hb d_M_apart_217 rfl (lv_at hl 5 rfl) ?_
              refine gk_get X w g.1.1 (show (mSt cI mo A f b6 F8) mo = .inr (4, _) from mS_m) rfl in_M 9 (by decide) lk_M_28 rfl d_M_apart_218 ?_
              refine lv_iload hx hb d_M_apart_221 (lv_at hl 9 rfl) ?_
              refine gk_iald X w 0 g.1.2.2.2.2.2.2.2 (mS_9 g) rfl (vin (by omega) (show (i : Int) < 576 by have h9 : (i : Int) < Hu.length := (by omega); omega) (by decide)) d_M_apart_223 ?_
              rw [vcl (z := i) (by omega) (by have h9 : (i : Int) < Hu.length := (by omega); omega), hld_y hhF (i := i) (by omega) (by omega)]
              refine ri_i2l (a := (pY Hu i)) hx hb d_M_apart_224 rfl (by have := hHb i; have := hHb (nx Hu i); unfold i3; omega) ?_
              refine lv_aload_n hx hb d_M_apart_225 rfl (lv_at hl 5 rfl) ?_
              refine gk_get X w g.1.1 (show (mSt cI mo A f b6 F8) mo = .inr (4, _) from mS_m) rfl in_M 8 (by decide) lk_M_25 rfl d_M_apart_226 ?_
              refine lv_iload hx hb d_M_apart_229 (lv_at hl 4 rfl) ?_
              refine gk_iald X w 0 g.1.2.2.2.2.2.2.1 (mS_8 g) rfl (vin (nx_lt (by omega) (by omega)).1 (show ((nx Hu i) : Int) < 576 by have h9 : ((nx Hu i) : Int) < Hu.length := (nx_lt (by omega) (by omega)).2; omega) (by decide)) d_M_apart_231 ?_
              rw [vcl (z := (nx Hu i)) (nx_lt (by omega) (by omega)).1 (by have h9 : ((nx Hu i) : Int) < Hu.length := (nx_lt (by omega) (by omega)).2; omega), hld_x hhF (i := (nx Hu i)) (nx_lt (by omega) (by omega)).1 (nx_lt (by omega) (by omega)).2]
              refine ri_i2l (a := (pX Hu (nx Hu i))) hx hb d_M_apart_232 rfl (by have := hHb i; have := hHb (nx Hu i); unfold i3; omega) ?_
              refine lv_aload_n hx hb d_M_apart_233 rfl (lv_at hl 5 rfl) ?_
              refine gk_get X w g.1.1 (show (mSt cI mo A f b6 F8) mo = .inr (4, _) from mS_m) rfl in_M 9 (by decide) lk_M_28 rfl d_M_apart_234 ?_
              refine lv_iload hx hb d_M_apart_237 (lv_at hl 4 rfl) ?_
              refine gk_iald X w 0 g.1.2.2.2.2.2.2.2 (mS_9 g) rfl (vin (nx_lt (by omega) (by omega)).1 (show ((nx Hu i) : Int) < 576 by have h9 : ((nx Hu i) : Int) < Hu.length := (nx_lt (by omega) (by omega)).2; omega) (by decide)) d_M_apart_239 ?_
              rw [vcl (z := (nx Hu i)) (nx_lt (by omega) (by omega)).1 (by have h9 : ((nx Hu i) : Int) < Hu.length := (nx_lt (by omega) (by omega)).2; omega), hld_y hhF (i := (nx Hu i)) (nx_lt (by omega) (by omega)).1 (nx_lt (by omega) (by omega)).2]
              refine ri_i2l (a := (pY Hu (nx Hu i))) hx hb d_M_apart_240 rfl (by have := hHb i; have := hHb (nx Hu i); unfold i3; omega) ?_
              refine g_cl w (g_runS (As := [.long (jN (0)), .long (jN (0)), .long (jN ((pX Hu i))), .long (jN ((pY Hu i))), .long (jN ((pX Hu (nx Hu i)))), .long (jN ((pY Hu (nx Hu i))))]) (rest := []) X w (c_M_turn l (px := 0) (py := 0) (ax := (pX Hu i)) (ay := (pY Hu i)) (bx := (pX Hu (nx Hu i))) (by_ := (pY Hu (nx Hu i)))) k_M_turn lk_M_58 st_M_turn ⟨(Nat.le_of_ble_eq_true rfl), (Nat.le_of_ble_eq_true rfl)⟩ rfl hl.1 rfl (Nat.le_of_ble_eq_true rfl) d_M_apart_241 ⟨Nat.zero_le _, Nat.zero_le _⟩) (fun r u H locs hp w => ?_)
              obtain ⟨rfl, rfl⟩ := hp
              have w : gw D (gA L sz) s.heap H locs L (mSt cI mo A f b6 F8) := w
              refine lv_lstore (lv' := [(14, .long (jN ((((pX Hu i) - 0) * ((pY Hu (nx Hu i)) - 0) - ((pY Hu i) - 0) * ((pX Hu (nx Hu i)) - 0))))), (12, .long (jN (al2 Hu i))), (10, .long (jN (alg Hu i))), (8, .long (jN (sY Hu i))), (6, .long (jN (sX Hu i))), (5, .int (iN ((nx Hu i)))), (0, .ref mo), (1, .int (iN (z))), (2, .int (iN (z2))), (3, .int (iN ((flA K S z z2)))), (4, .int (iN (i)))]) hx hb d_M_apart_244 hl (by decide) rfl (fun ls hl => ?_)
              have hl : lv_has ls 16 [(14, .long (jN (trz Hu i))), (12, .long (jN (al2 Hu i))), (10, .long (jN (alg Hu i))), (8, .long (jN (sY Hu i))), (6, .long (jN (sX Hu i))), (5, .int (iN ((nx Hu i)))), (0, .ref mo), (1, .int (iN (z))), (2, .int (iN (z2))), (3, .int (iN ((flA K S z z2)))), (4, .int (iN (i)))] := hl
              refine lv_aload_n hx hb d_M_apart_246 rfl (lv_at hl 6 rfl) ?_
              refine lv_lload hx hb d_M_apart_247 (lv_at hl 0 rfl) ?_
              refine lv_lload hx hb d_M_apart_249 (lv_at hl 0 rfl) ?_
              refine rj_mul (a := trz Hu i) (b := trz Hu i) hx hb d_M_apart_251 rfl rfl ?_
              refine lv_lload hx hb d_M_apart_252 (lv_at hl 1 rfl) ?_
              refine g_cv w (g_runV (As := [.long (jN ((trz Hu i * trz Hu i))), .long (jN (al2 Hu i))]) (rest := []) X w (c_M_better l g (v := b6) (F := F8) (x := (trz Hu i * trz Hu i)) (y := (al2 Hu i)) (btr_6 (x := (trz Hu i * trz Hu i)) (y := (al2 Hu i)) b6B (trz_b hHb i) (by have := al2_b hHb i; omega)).1 (btr_6 (x := (trz Hu i * trz Hu i)) (y := (al2 Hu i)) b6B (trz_b hHb i) (by have := al2_b hHb i; omega)).2) k_M_better v_M_better lk_M_188 g.1.1 (show (mSt cI mo A f b6 F8) mo = .inr (4, _) from mS_m) rfl ⟨(Nat.le_of_ble_eq_true rfl), (Nat.le_of_ble_eq_true rfl)⟩ rfl hl.1 rfl (Nat.le_of_ble_eq_true rfl) d_M_apart_254 ⟨(Nat.le_of_ble_eq_true rfl), (Nat.le_of_ble_eq_true rfl)⟩) (fun u H locs hp w => ?_)
              obtain ⟨b7, rfl, b7e, b7n⟩ := hp
              have w : gw D (gA L sz) s.heap H locs L (mSt cI mo A f b7 F8) := w
              have b7B : apB (b7 13, b7 14) := by rw [b7e]; exact btr_b b6B (trz_b hHb i) (by have := al2_b hHb i; omega)
              refine lv_iinc (v := iN ((i + 1))) (lv' := [(4, .int (iN ((i + 1)))), (14, .long (jN (trz Hu i))), (12, .long (jN (al2 Hu i))), (10, .long (jN (alg Hu i))), (8, .long (jN (sY Hu i))), (6, .long (jN (sX Hu i))), (5, .int (iN ((nx Hu i)))), (0, .ref mo), (1, .int (iN (z))), (2, .int (iN (z2))), (3, .int (iN ((flA K S z z2))))]) hx hb d_M_apart_257 hl (k := 10) rfl (by rw [show (i + 1) = i + (1 : Int) by omega, ← iN_add]; rfl) (by decide) rfl (fun ls hl => ?_)
              refine lv_goto (tgt := 65) hx hb d_M_apart_260 (by decide) ?_
              have hI' : 0 ≤ (i + 1) ∧ (i + 1) ≤ Hu.length ∧ (b7 13, b7 14) = apN Hu (apS Hu) (i + 1).toNat ∧ (∀ q, q ≠ 13 → q ≠ 14 → b7 q = v8 q) := ⟨by omega, by omega, by rw [tn_s h0]; unfold apN; rw [← h2, tn_c h0]; unfold apT; rw [if_pos ⟨by omega, by omega⟩, ← b6e, ← b7e], fun q q1 q2 => ((b7n q q1 q2).trans (b6n q q1 q2)).trans (h3 q q1 q2)⟩
              exact ih ((i + 1), b7) _ _ _ (by omega) hI' w (lv_sub hl [7, 8, 9, 10, 0] rfl)
  · skip
    refine lv_iload_n hx hb d_M_apart_11 rfl (lv_at hl 0 rfl) ?_
    exact g_iret X w hrt hlk d_M_apart_12 ⟨by rw [if_neg (by omega)], by unfold crT; rw [if_neg (by omega)]; exact ⟨v, F, rfl, hI0, h11, h12⟩⟩
