/-! CIRCLE: the loops of enclose; a circle's numbers as one state -/
abbrev C5 : Type := Int × Int × Int × Int × Int
def c5 (c : C5) : va_E := cC c.1 c.2.1 c.2.2.1 c.2.2.2.1 c.2.2.2.2
def cB5 (c : C5) : Prop := cB c.1 c.2.1 c.2.2.1 c.2.2.2.1 c.2.2.2.2
def cHas5 (c : C5) (P : List Pt) (i : Int) : Prop := cHas c.1 c.2.1 c.2.2.1 c.2.2.2.1 c.2.2.2.2 (pX P i) (pY P i)
def cShr (P : List Pt) (i : Int) : C5 := (pX P i, pY P i, 0, 0, 1)
def cSpan (P : List Pt) (i j : Int) : C5 := (pX P i, pY P i, pX P j - pX P i, pY P j - pY P i, 2)
def cPass (P : List Pt) (i j k : Int) : C5 := (pX P i, pY P i, sgn (twi P i j k) * psx P i j k, sgn (twi P i j k) * psy P i j k, sgn (twi P i j k) * 2 * twi P i j k)
noncomputable def cIf (p : Prop) (x y : C5) : C5 := @ite _ p (Classical.propDecidable p) x y
theorem cIf_t {p : Prop} {x y : C5} (h : p) : cIf p x y = x := if_pos h
theorem cIf_f {p : Prop} {x y : C5} (h : ¬ p) : cIf p x y = y := if_neg h
noncomputable def encB (P : List Pt) (i j : Int) : Nat → C5
  | 0 => cSpan P i j
  | k + 1 => cIf (cHas5 (encB P i j k) P k) (encB P i j k) (cPass P i j k)
noncomputable def encT (P : List Pt) (i : Int) : Nat → C5
  | 0 => cShr P i
  | j + 1 => cIf (cHas5 (encT P i j) P j) (encT P i j) (encB P i j j)
noncomputable def encA (P : List Pt) : Nat → C5
  | 0 => cShr P 0
  | i + 1 => cIf (cHas5 (encA P i) P (i + 1)) (encA P i) (encT P (i + 1) (i + 1))
theorem cShr_b {P : List Pt} (h : pb 300 P) (i : Int) : cB5 (cShr P i) := by
  have := h i; unfold cB5 cShr cB; dsimp only; omega
theorem cSpan_b {P : List Pt} (h : pb 300 P) (i j : Int) : cB5 (cSpan P i j) := by
  have := h i; have := h j; unfold cB5 cSpan cB; dsimp only; omega
theorem sgn_b {z y B : Int} (h : -B ≤ y ∧ y ≤ B) : -B ≤ sgn z * y ∧ sgn z * y ≤ B := by unfold sgn; split <;> omega
theorem cPass_b {P : List Pt} (h : pb 300 P) (i j k : Int) : cB5 (cPass P i j k) := by
  have h1 := h i
  obtain ⟨a, b, c⟩ := pass_b h i j k
  have a' := sgn_b (z := twi P i j k) (y := 2 * twi P i j k) (B := 1440000) (by omega)
  have b' := sgn_b (z := twi P i j k) b
  have c' := sgn_b (z := twi P i j k) c
  rw [← Int.mul_assoc] at a'
  unfold cB5 cPass cB; dsimp only; omega
theorem encB_b {P : List Pt} (h : pb 300 P) (i j : Int) (k : Nat) : cB5 (encB P i j k) := by
  induction k with
  | zero => exact cSpan_b h i j
  | succ k ih =>
    unfold encB
    by_cases q : cHas5 (encB P i j k) P k
    · rw [cIf_t q]; exact ih
    · rw [cIf_f q]; exact cPass_b h i j k
theorem encT_b {P : List Pt} (h : pb 300 P) (i : Int) (j : Nat) : cB5 (encT P i j) := by
  induction j with
  | zero => exact cShr_b h i
  | succ j ih =>
    unfold encT
    by_cases q : cHas5 (encT P i j) P j
    · rw [cIf_t q]; exact ih
    · rw [cIf_f q]; exact encB_b h i j j
theorem encA_b {P : List Pt} (h : pb 300 P) (i : Nat) : cB5 (encA P i) := by
  induction i with
  | zero => exact cShr_b h 0
  | succ i ih =>
    unfold encA
    by_cases q : cHas5 (encA P i) P (i + 1)
    · rw [cIf_t q]; exact ih
    · rw [cIf_f q]; exact encT_b h (i + 1) (i + 1)

set_option maxHeartbeats 4000000 in
set_option maxRecDepth 100000 in
theorem c_C_encloseThroughBoth (l : Launch) {D : va_G} {cI cR : ClassId} {L : List Nat} {f : Nat → va_E} {a : Nat} {c0 : C5} (ha : a ∈ L) (he : f a = c5 c0) {rx ry : Nat → Nat} {r0 : Nat} {P : List Pt} (hor : ro L rx ry r0) (hr : rowIs cI rx ry f r0 P) (hoo : oo rx ry a r0) (hB : pb 300 P) {i : Int} (hi : 0 ≤ i ∧ i ≤ 100) {j : Int} (hj : 0 ≤ j ∧ j ≤ 100) : gMv D cI cR l y_C_encloseThroughBoth (Cond.code y_C_encloseThroughBoth b_C_encloseThroughBoth 5 none :: lw_g) { frames := 2, cells := 0, slots := 0, locals := 61 } [.ref a, .ref r0, .int (iN (i)), .int (iN (j))] L f (fun u => u = (L, va_up f a (c5 (encB P i j j.toNat)))) := by
  intro sz
  refine g_enter (by decide) rfl (Nat.le_of_ble_eq_true rfl) ?_
  intro p e s m below meth cd ls X hrt hlk hnm hl hsz w
  have X : gx p m cd b_C_encloseThroughBoth 5 s _ "HullSums$Circle" D cI cR := X
  have hx := X.1.1
  have hb := X.1.2.1
  have hl : lv_has ls 5 [(0, .ref a), (1, .ref r0), (2, .int (iN (i))), (3, .int (iN (j)))] := hl
  have hn48 := hr.1
  have w : gw D (gA L sz) s.heap s.heap [] L (va_up f a (c5 c0)) := by rw [va_same he]; exact w
  refine lv_aload_n hx hb d_C_encloseThroughBoth_0 rfl (lv_at hl 0 rfl) ?_
  refine lv_aload_n hx hb d_C_encloseThroughBoth_1 rfl (lv_at hl 1 rfl) ?_
  refine lv_iload_n hx hb d_C_encloseThroughBoth_2 rfl (lv_at hl 2 rfl) ?_
  refine lv_iload_n hx hb d_C_encloseThroughBoth_3 rfl (lv_at hl 3 rfl) ?_
  refine g_cv w (g_runV (As := [.ref r0, .int (iN (i)), .int (iN (j))]) (rest := []) X w (c_C_spanAcross l ha (va_up_self _ _ _) hor (rowIs_up hoo hr) hoo hB (i := i) (by omega) (j := j) (by omega)) k_C_spanAcross v_C_spanAcross lk_C_46 ha (show va_up f a (c5 c0) a = .inr (2, _) from va_up_self _ _ _) rfl ⟨(Nat.le_of_ble_eq_true rfl), (Nat.le_of_ble_eq_true rfl)⟩ rfl hl.1 rfl (Nat.le_of_ble_eq_true rfl) d_C_encloseThroughBoth_4 ⟨(Nat.le_of_ble_eq_true rfl), (Nat.le_of_ble_eq_true rfl)⟩) (fun u H locs hp w => ?_)
  obtain rfl := hp
  have w : gw D (gA L sz) s.heap H locs L (va_up f a (c5 (cSpan P i j))) := by have w9 := w; dsimp only at w9; rw [bx_uu] at w9; exact w9
  refine lv_iconst (v := iN (0)) hx hb d_C_encloseThroughBoth_7 (by decide) ?_
  refine lv_istore (lv' := [(4, .int (iN (0))), (0, .ref a), (1, .ref r0), (2, .int (iN (i))), (3, .int (iN (j)))]) hx hb d_C_encloseThroughBoth_8 hl (by decide) rfl (fun ls hl => ?_)
  refine g_loop (σ := Int) (fun z9 => (j - z9).toNat) (fun z9 => [(0, .ref a), (1, .ref r0), (2, .int (iN (i))), (3, .int (iN (j))), (4, .int (iN (z9)))]) L (fun z9 => va_up f a (c5 (encB P i j z9.toNat))) (fun z9 => 0 ≤ z9 ∧ z9 ≤ j) ?_ 0 _ _ _ ⟨by omega, by omega⟩ w (lv_sub hl [1, 2, 3, 4, 0] rfl)
  intro k H locs ls hI w hl ih
  have hl : lv_has ls 5 [(0, .ref a), (1, .ref r0), (2, .int (iN (i))), (3, .int (iN (j))), (4, .int (iN (k)))] := hl
  have w : gw D (gA L sz) s.heap H locs L (va_up f a (c5 (encB P i j k.toNat))) := w
  have hI : 0 ≤ k ∧ k ≤ j := hI
  obtain ⟨h0, h1⟩ := hI
  have hcb : cB5 (encB P i j k.toNat) := encB_b hB _ _ _
  refine lv_iload hx hb d_C_encloseThroughBoth_10 (lv_at hl 4 rfl) ?_
  refine lv_iload_n hx hb d_C_encloseThroughBoth_12 rfl (lv_at hl 3 rfl) ?_
  refine ri_cge (a := k) (b := j) (tgt := 41) hx hb d_C_encloseThroughBoth_13 (by decide) rfl rfl (by unfold i3; omega) (by unfold i3; omega) (fun c13 => ?_) (fun c13 => ?_)
  · skip
    exact g_vret X w hrt hlk d_C_encloseThroughBoth_41 (by rw [show k = j by omega])
  · skip
    refine lv_aload_n hx hb d_C_encloseThroughBoth_16 rfl (lv_at hl 0 rfl) ?_
    refine lv_aload_n hx hb d_C_encloseThroughBoth_17 rfl (lv_at hl 1 rfl) ?_
    refine lv_iload hx hb d_C_encloseThroughBoth_18 (lv_at hl 4 rfl) ?_
    refine g_ci w (g_runV (As := [.ref r0, .int (iN (k))]) (rest := []) X w (c_C_has l ha (va_up_self _ _ _) hor (rowIs_up hoo hr) hoo hB (i := k) (by omega) hcb) k_C_has v_C_has lk_C_35 ha (show va_up f a (c5 (encB P i j k.toNat)) a = .inr (2, _) from va_up_self _ _ _) rfl ⟨(Nat.le_of_ble_eq_true rfl), (Nat.le_of_ble_eq_true rfl)⟩ rfl hl.1 rfl (Nat.le_of_ble_eq_true rfl) d_C_encloseThroughBoth_20 ⟨Nat.zero_le _, Nat.zero_le _⟩) (fun r u H locs hp w => ?_)
    obtain ⟨rfl, rfl⟩ := hp
    have w : gw D (gA L sz) s.heap H locs L (va_up f a (c5 (encB P i j k.toNat))) := w
    refine ri_zne (a := (bI (cHas5 (encB P i j k.toNat) P k))) (tgt := 35) hx hb d_C_encloseThroughBoth_23 (by decide) rfl (bI_3 _) (fun c23 => ?_) (fun c23 => ?_)
    · skip
      refine lv_iinc (v := iN ((k + 1))) (lv' := [(4, .int (iN ((k + 1)))), (0, .ref a), (1, .ref r0), (2, .int (iN (i))), (3, .int (iN (j)))]) hx hb d_C_encloseThroughBoth_35 hl (k := 4) rfl (by rw [show (k + 1) = k + (1 : Int) by omega, ← iN_add]; rfl) (by decide) rfl (fun ls hl => ?_)
      refine lv_goto (tgt := 10) hx hb d_C_encloseThroughBoth_38 (by decide) ?_
      have es : (encB P i j (k + 1).toNat) = (encB P i j k.toNat) := by
        rw [show (k + 1).toNat = k.toNat + 1 by omega, encB, tn_c h0]; first | exact cIf_t (bI_n (by omega)) | exact cIf_f (bI_0 (by omega)) | (rw [tn_c (by omega)]; first | exact cIf_t (bI_n (by omega)) | exact cIf_f (bI_0 (by omega)))
      rw [← es] at w
      exact ih (k + 1) _ _ _ (by omega) ⟨by omega, by omega⟩ w (lv_sub hl [1, 2, 3, 4, 0] rfl)
    · skip
      refine lv_aload_n hx hb d_C_encloseThroughBoth_26 rfl (lv_at hl 0 rfl) ?_
      refine lv_aload_n hx hb d_C_encloseThroughBoth_27 rfl (lv_at hl 1 rfl) ?_
      refine lv_iload_n hx hb d_C_encloseThroughBoth_28 rfl (lv_at hl 2 rfl) ?_
      refine lv_iload_n hx hb d_C_encloseThroughBoth_29 rfl (lv_at hl 3 rfl) ?_
      refine lv_iload hx hb d_C_encloseThroughBoth_30 (lv_at hl 4 rfl) ?_
      refine g_cv w (g_runV (As := [.ref r0, .int (iN (i)), .int (iN (j)), .int (iN (k))]) (rest := []) X w (c_C_passThrough l ha (va_up_self _ _ _) hor (rowIs_up hoo hr) hoo hB (i := i) (by omega) (j := j) (by omega) (k := k) (by omega)) k_C_passThrough v_C_passThrough lk_C_49 ha (show va_up f a (c5 (encB P i j k.toNat)) a = .inr (2, _) from va_up_self _ _ _) rfl ⟨(Nat.le_of_ble_eq_true rfl), (Nat.le_of_ble_eq_true rfl)⟩ rfl hl.1 rfl (Nat.le_of_ble_eq_true rfl) d_C_encloseThroughBoth_32 ⟨(Nat.le_of_ble_eq_true rfl), (Nat.le_of_ble_eq_true rfl)⟩) (fun u H locs hp w => ?_)
      obtain rfl := hp
      have w : gw D (gA L sz) s.heap H locs L (va_up f a (c5 (cPass P i j k))) := by have w9 := w; dsimp only at w9; rw [bx_uu] at w9; exact w9
      refine lv_iinc (v := iN ((k + 1))) (lv' := [(4, .int (iN ((k + 1)))), (0, .ref a), (1, .ref r0), (2, .int (iN (i))), (3, .int (iN (j)))]) hx hb d_C_encloseThroughBoth_35 hl (k := 4) rfl (by rw [show (k + 1) = k + (1 : Int) by omega, ← iN_add]; rfl) (by decide) rfl (fun ls hl => ?_)
      refine lv_goto (tgt := 10) hx hb d_C_encloseThroughBoth_38 (by decide) ?_
      have es : (encB P i j (k + 1).toNat) = (cPass P i j k) := by
        rw [show (k + 1).toNat = k.toNat + 1 by omega, encB, tn_c h0]; first | exact cIf_t (bI_n (by omega)) | exact cIf_f (bI_0 (by omega)) | (rw [tn_c (by omega)]; first | exact cIf_t (bI_n (by omega)) | exact cIf_f (bI_0 (by omega)))
      rw [← es] at w
      exact ih (k + 1) _ _ _ (by omega) ⟨by omega, by omega⟩ w (lv_sub hl [1, 2, 3, 4, 0] rfl)
set_option maxHeartbeats 4000000 in
set_option maxRecDepth 100000 in
theorem c_C_encloseThrough (l : Launch) {D : va_G} {cI cR : ClassId} {L : List Nat} {f : Nat → va_E} {a : Nat} {c0 : C5} (ha : a ∈ L) (he : f a = c5 c0) {rx ry : Nat → Nat} {r0 : Nat} {P : List Pt} (hor : ro L rx ry r0) (hr : rowIs cI rx ry f r0 P) (hoo : oo rx ry a r0) (hB : pb 300 P) {i : Int} (hi : 0 ≤ i ∧ i ≤ 100) : gMv D cI cR l y_C_encloseThrough (Cond.code y_C_encloseThrough b_C_encloseThrough 4 none :: lw_g) { frames := 3, cells := 0, slots := 0, locals := 85 } [.ref a, .ref r0, .int (iN (i))] L f (fun u => u = (L, va_up f a (c5 (encT P i i.toNat)))) := by
  intro sz
  refine g_enter (by decide) rfl (Nat.le_of_ble_eq_true rfl) ?_
  intro p e s m below meth cd ls X hrt hlk hnm hl hsz w
  have X : gx p m cd b_C_encloseThrough 4 s _ "HullSums$Circle" D cI cR := X
  have hx := X.1.1
  have hb := X.1.2.1
  have hl : lv_has ls 4 [(0, .ref a), (1, .ref r0), (2, .int (iN (i)))] := hl
  have hn48 := hr.1
  have w : gw D (gA L sz) s.heap s.heap [] L (va_up f a (c5 c0)) := by rw [va_same he]; exact w
  refine lv_aload_n hx hb d_C_encloseThrough_0 rfl (lv_at hl 0 rfl) ?_
  refine lv_aload_n hx hb d_C_encloseThrough_1 rfl (lv_at hl 1 rfl) ?_
  refine lv_iload_n hx hb d_C_encloseThrough_2 rfl (lv_at hl 2 rfl) ?_
  refine g_cv w (g_runV (As := [.ref r0, .int (iN (i))]) (rest := []) X w (c_C_shrinkTo l ha (va_up_self _ _ _) hor (rowIs_up hoo hr) hoo hB (i := i) (by omega)) k_C_shrinkTo v_C_shrinkTo lk_C_25 ha (show va_up f a (c5 c0) a = .inr (2, _) from va_up_self _ _ _) rfl ⟨(Nat.le_of_ble_eq_true rfl), (Nat.le_of_ble_eq_true rfl)⟩ rfl hl.1 rfl (Nat.le_of_ble_eq_true rfl) d_C_encloseThrough_3 ⟨(Nat.le_of_ble_eq_true rfl), (Nat.le_of_ble_eq_true rfl)⟩) (fun u H locs hp w => ?_)
  obtain rfl := hp
  have w : gw D (gA L sz) s.heap H locs L (va_up f a (c5 (cShr P i))) := by have w9 := w; dsimp only at w9; rw [bx_uu] at w9; exact w9
  refine lv_iconst (v := iN (0)) hx hb d_C_encloseThrough_6 (by decide) ?_
  refine lv_istore_n (lv' := [(3, .int (iN (0))), (0, .ref a), (1, .ref r0), (2, .int (iN (i)))]) hx hb d_C_encloseThrough_7 rfl hl (by decide) rfl (fun ls hl => ?_)
  refine g_loop (σ := Int) (fun z9 => (i - z9).toNat) (fun z9 => [(0, .ref a), (1, .ref r0), (2, .int (iN (i))), (3, .int (iN (z9)))]) L (fun z9 => va_up f a (c5 (encT P i z9.toNat))) (fun z9 => 0 ≤ z9 ∧ z9 ≤ i) ?_ 0 _ _ _ ⟨by omega, by omega⟩ w (lv_sub hl [1, 2, 3, 0] rfl)
  intro j H locs ls hI w hl ih
  have hl : lv_has ls 4 [(0, .ref a), (1, .ref r0), (2, .int (iN (i))), (3, .int (iN (j)))] := hl
  have w : gw D (gA L sz) s.heap H locs L (va_up f a (c5 (encT P i j.toNat))) := w
  have hI : 0 ≤ j ∧ j ≤ i := hI
  obtain ⟨h0, h1⟩ := hI
  have hcb : cB5 (encT P i j.toNat) := encT_b hB _ _
  refine lv_iload_n hx hb d_C_encloseThrough_8 rfl (lv_at hl 3 rfl) ?_
  refine lv_iload_n hx hb d_C_encloseThrough_9 rfl (lv_at hl 2 rfl) ?_
  refine ri_cge (a := j) (b := i) (tgt := 35) hx hb d_C_encloseThrough_10 (by decide) rfl rfl (by unfold i3; omega) (by unfold i3; omega) (fun c10 => ?_) (fun c10 => ?_)
  · skip
    exact g_vret X w hrt hlk d_C_encloseThrough_35 (by rw [show j = i by omega])
  · skip
    refine lv_aload_n hx hb d_C_encloseThrough_13 rfl (lv_at hl 0 rfl) ?_
    refine lv_aload_n hx hb d_C_encloseThrough_14 rfl (lv_at hl 1 rfl) ?_
    refine lv_iload_n hx hb d_C_encloseThrough_15 rfl (lv_at hl 3 rfl) ?_
    refine g_ci w (g_runV (As := [.ref r0, .int (iN (j))]) (rest := []) X w (c_C_has l ha (va_up_self _ _ _) hor (rowIs_up hoo hr) hoo hB (i := j) (by omega) hcb) k_C_has v_C_has lk_C_35 ha (show va_up f a (c5 (encT P i j.toNat)) a = .inr (2, _) from va_up_self _ _ _) rfl ⟨(Nat.le_of_ble_eq_true rfl), (Nat.le_of_ble_eq_true rfl)⟩ rfl hl.1 rfl (Nat.le_of_ble_eq_true rfl) d_C_encloseThrough_16 ⟨Nat.zero_le _, Nat.zero_le _⟩) (fun r u H locs hp w => ?_)
    obtain ⟨rfl, rfl⟩ := hp
    have w : gw D (gA L sz) s.heap H locs L (va_up f a (c5 (encT P i j.toNat))) := w
    refine ri_zne (a := (bI (cHas5 (encT P i j.toNat) P j))) (tgt := 29) hx hb d_C_encloseThrough_19 (by decide) rfl (bI_3 _) (fun c19 => ?_) (fun c19 => ?_)
    · skip
      refine lv_iinc (v := iN ((j + 1))) (lv' := [(3, .int (iN ((j + 1)))), (0, .ref a), (1, .ref r0), (2, .int (iN (i)))]) hx hb d_C_encloseThrough_29 hl (k := 3) rfl (by rw [show (j + 1) = j + (1 : Int) by omega, ← iN_add]; rfl) (by decide) rfl (fun ls hl => ?_)
      refine lv_goto (tgt := 8) hx hb d_C_encloseThrough_32 (by decide) ?_
      have es : (encT P i (j + 1).toNat) = (encT P i j.toNat) := by
        rw [show (j + 1).toNat = j.toNat + 1 by omega, encT, tn_c h0]; first | exact cIf_t (bI_n (by omega)) | exact cIf_f (bI_0 (by omega)) | (rw [tn_c (by omega)]; first | exact cIf_t (bI_n (by omega)) | exact cIf_f (bI_0 (by omega)))
      rw [← es] at w
      exact ih (j + 1) _ _ _ (by omega) ⟨by omega, by omega⟩ w (lv_sub hl [1, 2, 3, 0] rfl)
    · skip
      refine lv_aload_n hx hb d_C_encloseThrough_22 rfl (lv_at hl 0 rfl) ?_
      refine lv_aload_n hx hb d_C_encloseThrough_23 rfl (lv_at hl 1 rfl) ?_
      refine lv_iload_n hx hb d_C_encloseThrough_24 rfl (lv_at hl 2 rfl) ?_
      refine lv_iload_n hx hb d_C_encloseThrough_25 rfl (lv_at hl 3 rfl) ?_
      refine g_cv w (g_runV (As := [.ref r0, .int (iN (i)), .int (iN (j))]) (rest := []) X w (c_C_encloseThroughBoth l ha (va_up_self _ _ _) hor (rowIs_up hoo hr) hoo hB (i := i) (by omega) (j := j) (by omega)) k_C_encloseThroughBoth v_C_encloseThroughBoth lk_C_42 ha (show va_up f a (c5 (encT P i j.toNat)) a = .inr (2, _) from va_up_self _ _ _) rfl ⟨(Nat.le_of_ble_eq_true rfl), (Nat.le_of_ble_eq_true rfl)⟩ rfl hl.1 rfl (Nat.le_of_ble_eq_true rfl) d_C_encloseThrough_26 ⟨(Nat.le_of_ble_eq_true rfl), (Nat.le_of_ble_eq_true rfl)⟩) (fun u H locs hp w => ?_)
      obtain rfl := hp
      have w : gw D (gA L sz) s.heap H locs L (va_up f a (c5 (encB P i j j.toNat))) := by have w9 := w; dsimp only at w9; rw [bx_uu] at w9; exact w9
      refine lv_iinc (v := iN ((j + 1))) (lv' := [(3, .int (iN ((j + 1)))), (0, .ref a), (1, .ref r0), (2, .int (iN (i)))]) hx hb d_C_encloseThrough_29 hl (k := 3) rfl (by rw [show (j + 1) = j + (1 : Int) by omega, ← iN_add]; rfl) (by decide) rfl (fun ls hl => ?_)
      refine lv_goto (tgt := 8) hx hb d_C_encloseThrough_32 (by decide) ?_
      have es : (encT P i (j + 1).toNat) = (encB P i j j.toNat) := by
        rw [show (j + 1).toNat = j.toNat + 1 by omega, encT, tn_c h0]; first | exact cIf_t (bI_n (by omega)) | exact cIf_f (bI_0 (by omega)) | (rw [tn_c (by omega)]; first | exact cIf_t (bI_n (by omega)) | exact cIf_f (bI_0 (by omega)))
      rw [← es] at w
      exact ih (j + 1) _ _ _ (by omega) ⟨by omega, by omega⟩ w (lv_sub hl [1, 2, 3, 0] rfl)
set_option maxHeartbeats 4000000 in
set_option maxRecDepth 100000 in
theorem c_C_enclose (l : Launch) {D : va_G} {cI cR : ClassId} {L : List Nat} {f : Nat → va_E} {a : Nat} {c0 : C5} (ha : a ∈ L) (he : f a = c5 c0) {rx ry : Nat → Nat} {r0 : Nat} {P : List Pt} (hor : ro L rx ry r0) (hr : rowIs cI rx ry f r0 P) (hoo : oo rx ry a r0) (hB : pb 300 P) (hne : 1 ≤ P.length) : gMv D cI cR l y_C_enclose (Cond.code y_C_enclose b_C_enclose 3 none :: lw_g) { frames := 4, cells := 0, slots := 0, locals := 108 } [.ref a, .ref r0] L f (fun u => u = (L, va_up f a (c5 (encA P (P.length - 1))))) := by
  intro sz
  refine g_enter (by decide) rfl (Nat.le_of_ble_eq_true rfl) ?_
  intro p e s m below meth cd ls X hrt hlk hnm hl hsz w
  have X : gx p m cd b_C_enclose 3 s _ "HullSums$Circle" D cI cR := X
  have hx := X.1.1
  have hb := X.1.2.1
  have hl : lv_has ls 3 [(0, .ref a), (1, .ref r0)] := hl
  have hn48 := hr.1
  have w : gw D (gA L sz) s.heap s.heap [] L (va_up f a (c5 c0)) := by rw [va_same he]; exact w
  refine lv_aload_n hx hb d_C_enclose_0 rfl (lv_at hl 0 rfl) ?_
  refine lv_aload_n hx hb d_C_enclose_1 rfl (lv_at hl 1 rfl) ?_
  refine lv_iconst (v := iN (0)) hx hb d_C_enclose_2 (by decide) ?_
  refine g_cv w (g_runV (As := [.ref r0, .int (iN (0))]) (rest := []) X w (c_C_shrinkTo l ha (va_up_self _ _ _) hor (rowIs_up hoo hr) hoo hB (i := 0) (by omega)) k_C_shrinkTo v_C_shrinkTo lk_C_25 ha (show va_up f a (c5 c0) a = .inr (2, _) from va_up_self _ _ _) rfl ⟨(Nat.le_of_ble_eq_true rfl), (Nat.le_of_ble_eq_true rfl)⟩ rfl hl.1 rfl (Nat.le_of_ble_eq_true rfl) d_C_enclose_3 ⟨(Nat.le_of_ble_eq_true rfl), (Nat.le_of_ble_eq_true rfl)⟩) (fun u H locs hp w => ?_)
  obtain rfl := hp
  have w : gw D (gA L sz) s.heap H locs L (va_up f a (c5 (cShr P 0))) := by have w9 := w; dsimp only at w9; rw [bx_uu] at w9; exact w9
  refine lv_iconst (v := iN (1)) hx hb d_C_enclose_6 (by decide) ?_
  refine lv_istore_n (lv' := [(2, .int (iN (1))), (0, .ref a), (1, .ref r0)]) hx hb d_C_enclose_7 rfl hl (by decide) rfl (fun ls hl => ?_)
  refine g_loop (σ := Int) (fun z9 => ((P.length : Int) - z9).toNat) (fun z9 => [(0, .ref a), (1, .ref r0), (2, .int (iN (z9)))]) L (fun z9 => va_up f a (c5 (encA P (z9 - 1).toNat))) (fun z9 => 1 ≤ z9 ∧ z9 ≤ (P.length : Int)) ?_ 1 _ _ _ ⟨by omega, by omega⟩ w (lv_sub hl [1, 2, 0] rfl)
  intro i H locs ls hI w hl ih
  have hl : lv_has ls 3 [(0, .ref a), (1, .ref r0), (2, .int (iN (i)))] := hl
  have w : gw D (gA L sz) s.heap H locs L (va_up f a (c5 (encA P (i - 1).toNat))) := w
  have hI : 1 ≤ i ∧ i ≤ (P.length : Int) := hI
  obtain ⟨h0, h1⟩ := hI
  have hcb : cB5 (encA P (i - 1).toNat) := encA_b hB _
  refine lv_iload_n hx hb d_C_enclose_8 rfl (lv_at hl 2 rfl) ?_
  refine lv_aload_n hx hb d_C_enclose_9 rfl (lv_at hl 1 rfl) ?_
  refine g_ci w (g_runV (As := []) (rest := [.int (iN (i))]) X w (c_R_size l hor (rowIs_up hoo hr)) k_R_size v_R_size lk_C_29 hor.1 (rowIs_up (c := c5 (encA P (i - 1).toNat)) hoo hr).2.1 rfl ⟨(Nat.le_of_ble_eq_true rfl), (Nat.le_of_ble_eq_true rfl)⟩ rfl hl.1 rfl (Nat.le_of_ble_eq_true rfl) d_C_enclose_10 ⟨Nat.zero_le _, Nat.zero_le _⟩) (fun r u H locs hp w => ?_)
  obtain ⟨rfl, rfl⟩ := hp
  have w : gw D (gA L sz) s.heap H locs L (va_up f a (c5 (encA P (i - 1).toNat))) := w
  refine ri_cge (a := i) (b := (P.length : Int)) (tgt := 37) hx hb d_C_enclose_13 (by decide) rfl rfl (by unfold i3; omega) (by unfold i3; omega) (fun c13 => ?_) (fun c13 => ?_)
  · skip
    exact g_vret X w hrt hlk d_C_enclose_37 (by rw [show (i - 1).toNat = P.length - 1 by omega])
  · skip
    refine lv_aload_n hx hb d_C_enclose_16 rfl (lv_at hl 0 rfl) ?_
    refine lv_aload_n hx hb d_C_enclose_17 rfl (lv_at hl 1 rfl) ?_
    refine lv_iload_n hx hb d_C_enclose_18 rfl (lv_at hl 2 rfl) ?_
    refine g_ci w (g_runV (As := [.ref r0, .int (iN (i))]) (rest := []) X w (c_C_has l ha (va_up_self _ _ _) hor (rowIs_up hoo hr) hoo hB (i := i) (by omega) hcb) k_C_has v_C_has lk_C_35 ha (show va_up f a (c5 (encA P (i - 1).toNat)) a = .inr (2, _) from va_up_self _ _ _) rfl ⟨(Nat.le_of_ble_eq_true rfl), (Nat.le_of_ble_eq_true rfl)⟩ rfl hl.1 rfl (Nat.le_of_ble_eq_true rfl) d_C_enclose_19 ⟨Nat.zero_le _, Nat.zero_le _⟩) (fun r u H locs hp w => ?_)
    obtain ⟨rfl, rfl⟩ := hp
    have w : gw D (gA L sz) s.heap H locs L (va_up f a (c5 (encA P (i - 1).toNat))) := w
    refine ri_zne (a := (bI (cHas5 (encA P (i - 1).toNat) P i))) (tgt := 31) hx hb d_C_enclose_22 (by decide) rfl (bI_3 _) (fun c22 => ?_) (fun c22 => ?_)
    · skip
      refine lv_iinc (v := iN ((i + 1))) (lv' := [(2, .int (iN ((i + 1)))), (0, .ref a), (1, .ref r0)]) hx hb d_C_enclose_31 hl (k := 2) rfl (by rw [show (i + 1) = i + (1 : Int) by omega, ← iN_add]; rfl) (by decide) rfl (fun ls hl => ?_)
      refine lv_goto (tgt := 8) hx hb d_C_enclose_34 (by decide) ?_
      have es : (encA P ((i + 1) - 1).toNat) = (encA P (i - 1).toNat) := by
        rw [show (i + 1 - 1).toNat = (i - 1).toNat + 1 by omega, encA, tn_c (show 0 ≤ i - 1 by omega), show i - 1 + 1 = i by omega, show (i - 1).toNat + 1 = i.toNat by omega]; first | exact cIf_t (bI_n (by omega)) | exact cIf_f (bI_0 (by omega)) | (rw [tn_c (by omega)]; first | exact cIf_t (bI_n (by omega)) | exact cIf_f (bI_0 (by omega)))
      rw [← es] at w
      exact ih (i + 1) _ _ _ (by omega) ⟨by omega, by omega⟩ w (lv_sub hl [1, 2, 0] rfl)
    · skip
      refine lv_aload_n hx hb d_C_enclose_25 rfl (lv_at hl 0 rfl) ?_
      refine lv_aload_n hx hb d_C_enclose_26 rfl (lv_at hl 1 rfl) ?_
      refine lv_iload_n hx hb d_C_enclose_27 rfl (lv_at hl 2 rfl) ?_
      refine g_cv w (g_runV (As := [.ref r0, .int (iN (i))]) (rest := []) X w (c_C_encloseThrough l ha (va_up_self _ _ _) hor (rowIs_up hoo hr) hoo hB (i := i) (by omega)) k_C_encloseThrough v_C_encloseThrough lk_C_39 ha (show va_up f a (c5 (encA P (i - 1).toNat)) a = .inr (2, _) from va_up_self _ _ _) rfl ⟨(Nat.le_of_ble_eq_true rfl), (Nat.le_of_ble_eq_true rfl)⟩ rfl hl.1 rfl (Nat.le_of_ble_eq_true rfl) d_C_enclose_28 ⟨(Nat.le_of_ble_eq_true rfl), (Nat.le_of_ble_eq_true rfl)⟩) (fun u H locs hp w => ?_)
      obtain rfl := hp
      have w : gw D (gA L sz) s.heap H locs L (va_up f a (c5 (encT P i i.toNat))) := by have w9 := w; dsimp only at w9; rw [bx_uu] at w9; exact w9
      refine lv_iinc (v := iN ((i + 1))) (lv' := [(2, .int (iN ((i + 1)))), (0, .ref a), (1, .ref r0)]) hx hb d_C_enclose_31 hl (k := 2) rfl (by rw [show (i + 1) = i + (1 : Int) by omega, ← iN_add]; rfl) (by decide) rfl (fun ls hl => ?_)
      refine lv_goto (tgt := 8) hx hb d_C_enclose_34 (by decide) ?_
      have es : (encA P ((i + 1) - 1).toNat) = (encT P i i.toNat) := by
        rw [show (i + 1 - 1).toNat = (i - 1).toNat + 1 by omega, encA, tn_c (show 0 ≤ i - 1 by omega), show i - 1 + 1 = i by omega, show (i - 1).toNat + 1 = i.toNat by omega]; first | exact cIf_t (bI_n (by omega)) | exact cIf_f (bI_0 (by omega)) | (rw [tn_c (by omega)]; first | exact cIf_t (bI_n (by omega)) | exact cIf_f (bI_0 (by omega)))
      rw [← es] at w
      exact ih (i + 1) _ _ _ (by omega) ⟨by omega, by omega⟩ w (lv_sub hl [1, 2, 0] rfl)
