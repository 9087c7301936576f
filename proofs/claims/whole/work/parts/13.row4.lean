/-! ROWS: sums and greatest numbers round a row -/
theorem tn_s {j : Int} (h : 0 ≤ j) : (j + 1).toNat = j.toNat + 1 := by omega
theorem tn_c {j : Int} (h : 0 ≤ j) : ((j.toNat : Nat) : Int) = j := by omega
def rch (P : List Pt) (i : Int) : Nat → Int
  | 0 => 0
  | n + 1 => max (rch P i n) (off P i (pX P n) (pY P n))
theorem rch_b {P : List Pt} (h : pb 600 P) (i : Int) (n : Nat) : 0 ≤ rch P i n ∧ rch P i n ≤ 4000000 := by
  induction n with
  | zero => unfold rch; omega
  | succ n ih =>
    have b := h n
    have := pT_b h i (nx P i) (x := pX P n) (y := pY P n) (by omega) (by omega)
    unfold rch off; omega
def dar (P : List Pt) : Nat → Int
  | 0 => 0
  | n + 1 => dar P n + (pX P n * pY P (nx P n) - pY P n * pX P (nx P n))
theorem dar_b {P : List Pt} (h : pb 600 P) (n : Nat) : -(720000 * (n : Int)) ≤ dar P n ∧ dar P n ≤ 720000 * n := by
  induction n with
  | zero => unfold dar; omega
  | succ n ih =>
    have a := h n; have b := h (nx P n)
    have q1 := mbc (a := pX P n) (b := pY P (nx P n)) 600 600 360000 (by omega) (by omega) (by omega) (by omega) (by decide)
    have q2 := mbc (a := pY P n) (b := pX P (nx P n)) 600 600 360000 (by omega) (by omega) (by omega) (by omega) (by decide)
    unfold dar; omega
def sX (P : List Pt) (i : Int) : Int := pX P (nx P i) - pX P i
def sY (P : List Pt) (i : Int) : Int := pY P (nx P i) - pY P i
def gst (P : List Pt) : Nat → Int
  | 0 => 0
  | n + 1 => gst P n + Int.gcd (sX P n) (sY P n)
theorem gcd_b {a b : Int} {B : Int} (h1 : -B ≤ a ∧ a ≤ B) (h2 : -B ≤ b ∧ b ≤ B) : (Int.gcd a b : Int) ≤ B := by
  by_cases h : a = 0
  · subst h
    rw [Int.gcd_zero_left]
    omega
  · have := Int.gcd_le_natAbs_left b h
    omega
theorem gst_b {P : List Pt} (h : pb 600 P) (n : Nat) : 0 ≤ gst P n ∧ gst P n ≤ 1200 * n := by
  induction n with
  | zero => unfold gst; omega
  | succ n ih =>
    have a := h n; have b := h (nx P n)
    have := gcd_b (a := sX P n) (b := sY P n) (B := 1200) (by unfold sX; omega) (by unfold sY; omega)
    unfold gst; omega

def faceZ (P : List Pt) (i : Int) : Prop := 0 ≤ (-pX P i) * sX P i - pY P i * sY P i ∧ (-pX P i) * sX P i - pY P i * sY P i ≤ sq P i (nx P i)
theorem face_b {P : List Pt} (h : pb 600 P) (i : Int) : -1440000 ≤ (-pX P i) * sX P i - pY P i * sY P i ∧ (-pX P i) * sX P i - pY P i * sY P i ≤ 1440000 := by
  have a := h i; have b := h (nx P i)
  have q1 := mbc (a := -pX P i) (b := sX P i) 600 1200 720000 (by omega) (by omega) (by unfold sX; omega) (by unfold sX; omega) (by decide)
  have q2 := mbc (a := pY P i) (b := sY P i) 600 1200 720000 (by omega) (by omega) (by unfold sY; omega) (by unfold sY; omega) (by decide)
  omega
set_option maxHeartbeats 4000000 in
set_option maxRecDepth 100000 in
theorem c_R_sideFacesZero (l : Launch) {D : va_G} {cI cR : ClassId} {L : List Nat} {f : Nat → va_E} {rx ry : Nat → Nat} {a : Nat} {P : List Pt} (ho : ro L rx ry a) (hr : rowIs cI rx ry f a P) (hB : pb 600 P) {i : Int} (hi : 0 ≤ i ∧ i ≤ 100) : gMi D cI cR l y_R_sideFacesZero (Cond.code y_R_sideFacesZero b_R_sideFacesZero 3 (some .boolean) :: lw_g) { frames := 3, cells := 0, slots := 0, locals := 66 } [.ref a, .int (iN (i))] L f (fun r u => r = iN (bI (faceZ P i)) ∧ u = (L, f)) := by
  intro sz
  refine g_enter (by decide) rfl (Nat.le_of_ble_eq_true rfl) ?_
  intro p e s m below meth cd ls X hrt hlk hnm hl hsz w
  have X : gx p m cd b_R_sideFacesZero 3 s _ "HullSums$Row" D cI cR := X
  have hx := X.1.1
  have hb := X.1.2.1
  have hl : lv_has ls 3 [(0, .ref a), (1, .int (iN (i)))] := hl
  have hn48 := hr.1
  refine lv_aload_n hx hb d_R_sideFacesZero_0 rfl (lv_at hl 0 rfl) ?_
  refine lv_iload_n hx hb d_R_sideFacesZero_1 rfl (lv_at hl 1 rfl) ?_
  refine g_ci w (g_runV (As := [.int (iN (i))]) (rest := []) X w (c_R_x l ho hr (by unfold i3; omega)) k_R_x v_R_x lk_R_22 ho.1 hr.2.1 rfl ⟨(Nat.le_of_ble_eq_true rfl), (Nat.le_of_ble_eq_true rfl)⟩ rfl hl.1 rfl (Nat.le_of_ble_eq_true rfl) d_R_sideFacesZero_2 ⟨Nat.zero_le _, Nat.zero_le _⟩) (fun r u H locs hp w => ?_)
  obtain ⟨rfl, rfl⟩ := hp
  have w : gw D (gA L sz) s.heap H locs L f := w
  refine ri_neg (a := (pX P i)) hx hb d_R_sideFacesZero_5 rfl ?_
  refine lv_aload_n hx hb d_R_sideFacesZero_6 rfl (lv_at hl 0 rfl) ?_
  refine lv_iload_n hx hb d_R_sideFacesZero_7 rfl (lv_at hl 1 rfl) ?_
  refine g_ci w (g_runV (As := [.int (iN (i))]) (rest := [.int (iN ((-(pX P i))))]) X w (c_R_sideX l ho hr (by omega)) k_R_sideX v_R_sideX lk_R_73 ho.1 hr.2.1 rfl ⟨(Nat.le_of_ble_eq_true rfl), (Nat.le_of_ble_eq_true rfl)⟩ rfl hl.1 rfl (Nat.le_of_ble_eq_true rfl) d_R_sideFacesZero_8 ⟨Nat.zero_le _, Nat.zero_le _⟩) (fun r u H locs hp w => ?_)
  obtain ⟨rfl, rfl⟩ := hp
  have w : gw D (gA L sz) s.heap H locs L f := w
  refine ri_mul (a := (-(pX P i))) (b := (sX P i)) hx hb d_R_sideFacesZero_11 rfl rfl ?_
  refine lv_aload_n hx hb d_R_sideFacesZero_12 rfl (lv_at hl 0 rfl) ?_
  refine lv_iload_n hx hb d_R_sideFacesZero_13 rfl (lv_at hl 1 rfl) ?_
  refine g_ci w (g_runV (As := [.int (iN (i))]) (rest := [.int (iN (((-(pX P i)) * (sX P i))))]) X w (c_R_y l ho hr (by unfold i3; omega)) k_R_y v_R_y lk_R_26 ho.1 hr.2.1 rfl ⟨(Nat.le_of_ble_eq_true rfl), (Nat.le_of_ble_eq_true rfl)⟩ rfl hl.1 rfl (Nat.le_of_ble_eq_true rfl) d_R_sideFacesZero_14 ⟨Nat.zero_le _, Nat.zero_le _⟩) (fun r u H locs hp w => ?_)
  obtain ⟨rfl, rfl⟩ := hp
  have w : gw D (gA L sz) s.heap H locs L f := w
  refine lv_aload_n hx hb d_R_sideFacesZero_17 rfl (lv_at hl 0 rfl) ?_
  refine lv_iload_n hx hb d_R_sideFacesZero_18 rfl (lv_at hl 1 rfl) ?_
  refine g_ci w (g_runV (As := [.int (iN (i))]) (rest := [.int (iN ((pY P i))), .int (iN (((-(pX P i)) * (sX P i))))]) X w (c_R_sideY l ho hr (by omega)) k_R_sideY v_R_sideY lk_R_76 ho.1 hr.2.1 rfl ⟨(Nat.le_of_ble_eq_true rfl), (Nat.le_of_ble_eq_true rfl)⟩ rfl hl.1 rfl (Nat.le_of_ble_eq_true rfl) d_R_sideFacesZero_19 ⟨Nat.zero_le _, Nat.zero_le _⟩) (fun r u H locs hp w => ?_)
  obtain ⟨rfl, rfl⟩ := hp
  have w : gw D (gA L sz) s.heap H locs L f := w
  refine ri_mul (a := (pY P i)) (b := (sY P i)) hx hb d_R_sideFacesZero_22 rfl rfl ?_
  refine ri_sub (a := ((-(pX P i)) * (sX P i))) (b := ((pY P i) * (sY P i))) hx hb d_R_sideFacesZero_23 rfl rfl ?_
  refine lv_istore_n (lv' := [(2, .int (iN ((((-(pX P i)) * (sX P i)) - ((pY P i) * (sY P i)))))), (0, .ref a), (1, .int (iN (i)))]) hx hb d_R_sideFacesZero_24 rfl hl (by decide) rfl (fun ls hl => ?_)
  refine lv_iload_n hx hb d_R_sideFacesZero_25 rfl (lv_at hl 0 rfl) ?_
  refine ri_zlt (a := (((-(pX P i)) * (sX P i)) - ((pY P i) * (sY P i)))) (tgt := 42) hx hb d_R_sideFacesZero_26 (by decide) rfl (by have := face_b hB i; unfold i3; omega) (fun c26 => ?_) (fun c26 => ?_)
  · skip
    refine lv_iconst (v := iN (0)) hx hb d_R_sideFacesZero_42 (by decide) ?_
    exact g_zret X w hrt hlk d_R_sideFacesZero_43 rfl ⟨by rw [bI_f (fun h => by have := h.1; have := h.2; omega)], rfl⟩
  · skip
    refine lv_iload_n hx hb d_R_sideFacesZero_29 rfl (lv_at hl 0 rfl) ?_
    refine lv_aload_n hx hb d_R_sideFacesZero_30 rfl (lv_at hl 1 rfl) ?_
    refine lv_iload_n hx hb d_R_sideFacesZero_31 rfl (lv_at hl 2 rfl) ?_
    refine g_ci w (g_runV (As := [.int (iN (i))]) (rest := [.int (iN ((((-(pX P i)) * (sX P i)) - ((pY P i) * (sY P i)))))]) X w (c_R_squareOfSide l ho hr (by omega)) k_R_squareOfSide v_R_squareOfSide lk_R_79 ho.1 hr.2.1 rfl ⟨(Nat.le_of_ble_eq_true rfl), (Nat.le_of_ble_eq_true rfl)⟩ rfl hl.1 rfl (Nat.le_of_ble_eq_true rfl) d_R_sideFacesZero_32 ⟨Nat.zero_le _, Nat.zero_le _⟩) (fun r u H locs hp w => ?_)
    obtain ⟨rfl, rfl⟩ := hp
    have w : gw D (gA L sz) s.heap H locs L f := w
    refine ri_cgt (a := (((-(pX P i)) * (sX P i)) - ((pY P i) * (sY P i)))) (b := (sq P i (nx P i))) (tgt := 42) hx hb d_R_sideFacesZero_35 (by decide) rfl rfl (by have := face_b hB i; unfold i3; omega) (by have := sq_b hB i (nx P i); unfold i3; omega) (fun c35 => ?_) (fun c35 => ?_)
    · skip
      refine lv_iconst (v := iN (0)) hx hb d_R_sideFacesZero_42 (by decide) ?_
      exact g_zret X w hrt hlk d_R_sideFacesZero_43 rfl ⟨by rw [bI_f (fun h => by have := h.1; have := h.2; omega)], rfl⟩
    · skip
      refine lv_iconst (v := iN (1)) hx hb d_R_sideFacesZero_38 (by decide) ?_
      refine lv_goto (tgt := 43) hx hb d_R_sideFacesZero_39 (by decide) ?_
      exact g_zret X w hrt hlk d_R_sideFacesZero_43 rfl ⟨by rw [bI_t ⟨by omega, by omega⟩], rfl⟩
set_option maxHeartbeats 4000000 in
set_option maxRecDepth 100000 in
theorem c_R_reachFromSide (l : Launch) {D : va_G} {cI cR : ClassId} {L : List Nat} {f : Nat → va_E} {rx ry : Nat → Nat} {a : Nat} {P : List Pt} (ho : ro L rx ry a) (hr : rowIs cI rx ry f a P) (hB : pb 600 P) {i : Int} (hi : 0 ≤ i ∧ i ≤ 100) : gMi D cI cR l y_R_reachFromSide (Cond.code y_R_reachFromSide b_R_reachFromSide 4 (some .int) :: lw_g) { frames := 3, cells := 0, slots := 0, locals := 68 } [.ref a, .int (iN (i))] L f (fun r u => r = iN (rch P i P.length) ∧ u = (L, f)) := by
  intro sz
  refine g_enter (by decide) rfl (Nat.le_of_ble_eq_true rfl) ?_
  intro p e s m below meth cd ls X hrt hlk hnm hl hsz w
  have X : gx p m cd b_R_reachFromSide 4 s _ "HullSums$Row" D cI cR := X
  have hx := X.1.1
  have hb := X.1.2.1
  have hl : lv_has ls 4 [(0, .ref a), (1, .int (iN (i)))] := hl
  have hn48 := hr.1
  refine lv_iconst (v := iN (0)) hx hb d_R_reachFromSide_0 (by decide) ?_
  refine lv_istore_n (lv' := [(2, .int (iN (0))), (0, .ref a), (1, .int (iN (i)))]) hx hb d_R_reachFromSide_1 rfl hl (by decide) rfl (fun ls hl => ?_)
  refine lv_iconst (v := iN (0)) hx hb d_R_reachFromSide_2 (by decide) ?_
  refine lv_istore_n (lv' := [(3, .int (iN (0))), (2, .int (iN (0))), (0, .ref a), (1, .int (iN (i)))]) hx hb d_R_reachFromSide_3 rfl hl (by decide) rfl (fun ls hl => ?_)
  refine g_loop (σ := Int × Int) (fun z9 => (P.length - z9.1).toNat) (fun z9 => [(0, .ref a), (1, .int (iN (i))), (2, .int (iN (z9.2))), (3, .int (iN (z9.1)))]) L (fun z9 => f) (fun z9 => 0 ≤ z9.1 ∧ z9.1 ≤ P.length ∧ z9.2 = rch P i z9.1.toNat) ?_ (0, 0) _ _ _ ⟨by omega, by omega, rfl⟩ w (lv_sub hl [2, 3, 1, 0] rfl)
  intro z9 H locs ls hI w hl ih
  obtain ⟨j, k⟩ := z9
  have hl : lv_has ls 4 [(0, .ref a), (1, .int (iN (i))), (2, .int (iN (k))), (3, .int (iN (j)))] := hl
  have w : gw D (gA L sz) s.heap H locs L (f) := w
  have hI : 0 ≤ j ∧ j ≤ P.length ∧ k = rch P i j.toNat := hI
  obtain ⟨h0, h1, h2⟩ := hI
  refine lv_iload_n hx hb d_R_reachFromSide_4 rfl (lv_at hl 3 rfl) ?_
  refine lv_aload_n hx hb d_R_reachFromSide_5 rfl (lv_at hl 0 rfl) ?_
  refine gk_get X w ho.1 hr.2.1 rfl in_R 2 (by decide) lk_R_18 rfl d_R_reachFromSide_6 ?_
  refine ri_cge (a := j) (b := (P.length : Int)) (tgt := 38) hx hb d_R_reachFromSide_9 (by decide) rfl rfl (by unfold i3; omega) (by unfold i3; omega) (fun c9 => ?_) (fun c9 => ?_)
  · skip
    refine lv_iload_n hx hb d_R_reachFromSide_38 rfl (lv_at hl 2 rfl) ?_
    exact g_iret X w hrt hlk d_R_reachFromSide_39 ⟨by rw [h2, show j.toNat = P.length by omega], rfl⟩
  · skip
    refine lv_iload_n hx hb d_R_reachFromSide_12 rfl (lv_at hl 2 rfl) ?_
    refine lv_aload_n hx hb d_R_reachFromSide_13 rfl (lv_at hl 0 rfl) ?_
    refine lv_iload_n hx hb d_R_reachFromSide_14 rfl (lv_at hl 1 rfl) ?_
    refine lv_aload_n hx hb d_R_reachFromSide_15 rfl (lv_at hl 0 rfl) ?_
    refine lv_iload_n hx hb d_R_reachFromSide_16 rfl (lv_at hl 3 rfl) ?_
    refine g_ci w (g_runV (As := [.int (iN (j))]) (rest := [.int (iN (i)), .ref a, .int (iN (k))]) X w (c_R_x l ho hr (by unfold i3; omega)) k_R_x v_R_x lk_R_22 ho.1 hr.2.1 rfl ⟨(Nat.le_of_ble_eq_true rfl), (Nat.le_of_ble_eq_true rfl)⟩ rfl hl.1 rfl (Nat.le_of_ble_eq_true rfl) d_R_reachFromSide_17 ⟨Nat.zero_le _, Nat.zero_le _⟩) (fun r u H locs hp w => ?_)
    obtain ⟨rfl, rfl⟩ := hp
    have w : gw D (gA L sz) s.heap H locs L f := w
    refine lv_aload_n hx hb d_R_reachFromSide_20 rfl (lv_at hl 0 rfl) ?_
    refine lv_iload_n hx hb d_R_reachFromSide_21 rfl (lv_at hl 3 rfl) ?_
    refine g_ci w (g_runV (As := [.int (iN (j))]) (rest := [.int (iN ((pX P j))), .int (iN (i)), .ref a, .int (iN (k))]) X w (c_R_y l ho hr (by unfold i3; omega)) k_R_y v_R_y lk_R_26 ho.1 hr.2.1 rfl ⟨(Nat.le_of_ble_eq_true rfl), (Nat.le_of_ble_eq_true rfl)⟩ rfl hl.1 rfl (Nat.le_of_ble_eq_true rfl) d_R_reachFromSide_22 ⟨Nat.zero_le _, Nat.zero_le _⟩) (fun r u H locs hp w => ?_)
    obtain ⟨rfl, rfl⟩ := hp
    have w : gw D (gA L sz) s.heap H locs L f := w
    refine g_ci w (g_runV (As := [.int (iN (i)), .int (iN ((pX P j))), .int (iN ((pY P j)))]) (rest := [.int (iN (k))]) X w (c_R_offSide l ho hr (x := (pX P j)) (y := (pY P j)) (by omega)) k_R_offSide v_R_offSide lk_R_64 ho.1 hr.2.1 rfl ⟨(Nat.le_of_ble_eq_true rfl), (Nat.le_of_ble_eq_true rfl)⟩ rfl hl.1 rfl (Nat.le_of_ble_eq_true rfl) d_R_reachFromSide_25 ⟨Nat.zero_le _, Nat.zero_le _⟩) (fun r u H locs hp w => ?_)
    obtain ⟨rfl, rfl⟩ := hp
    have w : gw D (gA L sz) s.heap H locs L f := w
    refine ri_mmax (a := k) (b := (off P i (pX P j) (pY P j))) X hl.1 lk_R_68 (Nat.le_of_ble_eq_true rfl) (Nat.le_of_ble_eq_true rfl) (Nat.zero_le _) (Nat.zero_le _) rfl rfl (by have := rch_b hB i j.toNat; unfold i3; omega) (by have := hB j; exact pT_3 hB _ _ (by omega) (by omega)) d_R_reachFromSide_28 ?_
    refine lv_istore_n (lv' := [(2, .int (iN ((max k (off P i (pX P j) (pY P j)))))), (0, .ref a), (1, .int (iN (i))), (3, .int (iN (j)))]) hx hb d_R_reachFromSide_31 rfl hl (by decide) rfl (fun ls hl => ?_)
    refine lv_iinc (v := iN ((j + 1))) (lv' := [(3, .int (iN ((j + 1)))), (2, .int (iN ((max k (off P i (pX P j) (pY P j)))))), (0, .ref a), (1, .int (iN (i)))]) hx hb d_R_reachFromSide_32 hl (k := 3) rfl (by rw [show (j + 1) = j + (1 : Int) by omega, ← iN_add]; rfl) (by decide) rfl (fun ls hl => ?_)
    refine lv_goto (tgt := 4) hx hb d_R_reachFromSide_35 (by decide) ?_
    exact ih ((j + 1), (max k (off P i (pX P j) (pY P j)))) _ _ _ (by omega) ⟨by omega, by omega, by rw [tn_s h0]; unfold rch; rw [← h2, tn_c h0]⟩ w (lv_sub hl [2, 3, 1, 0] rfl)
set_option maxHeartbeats 4000000 in
set_option maxRecDepth 100000 in
theorem c_R_doubleArea (l : Launch) {D : va_G} {cI cR : ClassId} {L : List Nat} {f : Nat → va_E} {rx ry : Nat → Nat} {a : Nat} {P : List Pt} (ho : ro L rx ry a) (hr : rowIs cI rx ry f a P) : gMi D cI cR l y_R_doubleArea (Cond.code y_R_doubleArea b_R_doubleArea 3 (some .int) :: lw_g) { frames := 1, cells := 0, slots := 0, locals := 21 } [.ref a] L f (fun r u => r = iN (dar P P.length) ∧ u = (L, f)) := by
  intro sz
  refine g_enter (by decide) rfl (Nat.le_of_ble_eq_true rfl) ?_
  intro p e s m below meth cd ls X hrt hlk hnm hl hsz w
  have X : gx p m cd b_R_doubleArea 3 s _ "HullSums$Row" D cI cR := X
  have hx := X.1.1
  have hb := X.1.2.1
  have hl : lv_has ls 3 [(0, .ref a)] := hl
  have hn48 := hr.1
  refine lv_iconst (v := iN (0)) hx hb d_R_doubleArea_0 (by decide) ?_
  refine lv_istore_n (lv' := [(1, .int (iN (0))), (0, .ref a)]) hx hb d_R_doubleArea_1 rfl hl (by decide) rfl (fun ls hl => ?_)
  refine lv_iconst (v := iN (0)) hx hb d_R_doubleArea_2 (by decide) ?_
  refine lv_istore_n (lv' := [(2, .int (iN (0))), (1, .int (iN (0))), (0, .ref a)]) hx hb d_R_doubleArea_3 rfl hl (by decide) rfl (fun ls hl => ?_)
  refine g_loop (σ := Int × Int) (fun z9 => (P.length - z9.1).toNat) (fun z9 => [(0, .ref a), (1, .int (iN (z9.2))), (2, .int (iN (z9.1)))]) L (fun z9 => f) (fun z9 => 0 ≤ z9.1 ∧ z9.1 ≤ P.length ∧ z9.2 = dar P z9.1.toNat) ?_ (0, 0) _ _ _ ⟨by omega, by omega, rfl⟩ w (lv_sub hl [2, 1, 0] rfl)
  intro z9 H locs ls hI w hl ih
  obtain ⟨i, k⟩ := z9
  have hl : lv_has ls 3 [(0, .ref a), (1, .int (iN (k))), (2, .int (iN (i)))] := hl
  have w : gw D (gA L sz) s.heap H locs L (f) := w
  have hI : 0 ≤ i ∧ i ≤ P.length ∧ k = dar P i.toNat := hI
  obtain ⟨h0, h1, h2⟩ := hI
  refine lv_iload_n hx hb d_R_doubleArea_4 rfl (lv_at hl 2 rfl) ?_
  refine lv_aload_n hx hb d_R_doubleArea_5 rfl (lv_at hl 0 rfl) ?_
  refine gk_get X w ho.1 hr.2.1 rfl in_R 2 (by decide) lk_R_18 rfl d_R_doubleArea_6 ?_
  refine ri_cge (a := i) (b := (P.length : Int)) (tgt := 52) hx hb d_R_doubleArea_9 (by decide) rfl rfl (by unfold i3; omega) (by unfold i3; omega) (fun c9 => ?_) (fun c9 => ?_)
  · skip
    refine lv_iload_n hx hb d_R_doubleArea_52 rfl (lv_at hl 1 rfl) ?_
    exact g_iret X w hrt hlk d_R_doubleArea_53 ⟨by rw [h2, show i.toNat = P.length by omega], rfl⟩
  · skip
    refine lv_iload_n hx hb d_R_doubleArea_12 rfl (lv_at hl 1 rfl) ?_
    refine lv_aload_n hx hb d_R_doubleArea_13 rfl (lv_at hl 0 rfl) ?_
    refine lv_iload_n hx hb d_R_doubleArea_14 rfl (lv_at hl 2 rfl) ?_
    refine g_ci w (g_runV (As := [.int (iN (i))]) (rest := [.int (iN (k))]) X w (c_R_x l ho hr (by unfold i3; omega)) k_R_x v_R_x lk_R_22 ho.1 hr.2.1 rfl ⟨(Nat.le_of_ble_eq_true rfl), (Nat.le_of_ble_eq_true rfl)⟩ rfl hl.1 rfl (Nat.le_of_ble_eq_true rfl) d_R_doubleArea_15 ⟨Nat.zero_le _, Nat.zero_le _⟩) (fun r u H locs hp w => ?_)
    obtain ⟨rfl, rfl⟩ := hp
    have w : gw D (gA L sz) s.heap H locs L f := w
    refine lv_aload_n hx hb d_R_doubleArea_18 rfl (lv_at hl 0 rfl) ?_
    refine lv_aload_n hx hb d_R_doubleArea_19 rfl (lv_at hl 0 rfl) ?_
    refine lv_iload_n hx hb d_R_doubleArea_20 rfl (lv_at hl 2 rfl) ?_
    refine g_ci w (g_runV (As := [.int (iN (i))]) (rest := [.ref a, .int (iN ((pX P i))), .int (iN (k))]) X w (c_R_next l ho hr (by omega)) k_R_next v_R_next lk_R_57 ho.1 hr.2.1 rfl ⟨(Nat.le_of_ble_eq_true rfl), (Nat.le_of_ble_eq_true rfl)⟩ rfl hl.1 rfl (Nat.le_of_ble_eq_true rfl) d_R_doubleArea_21 ⟨Nat.zero_le _, Nat.zero_le _⟩) (fun r u H locs hp w => ?_)
    obtain ⟨rfl, rfl⟩ := hp
    have w : gw D (gA L sz) s.heap H locs L f := w
    refine g_ci w (g_runV (As := [.int (iN ((nx P i)))]) (rest := [.int (iN ((pX P i))), .int (iN (k))]) X w (c_R_y l ho hr (by have := nx_4 (i := i) hn48 (by omega); unfold i3; omega)) k_R_y v_R_y lk_R_26 ho.1 hr.2.1 rfl ⟨(Nat.le_of_ble_eq_true rfl), (Nat.le_of_ble_eq_true rfl)⟩ rfl hl.1 rfl (Nat.le_of_ble_eq_true rfl) d_R_doubleArea_24 ⟨Nat.zero_le _, Nat.zero_le _⟩) (fun r u H locs hp w => ?_)
    obtain ⟨rfl, rfl⟩ := hp
    have w : gw D (gA L sz) s.heap H locs L f := w
    refine ri_mul (a := (pX P i)) (b := (pY P (nx P i))) hx hb d_R_doubleArea_27 rfl rfl ?_
    refine lv_aload_n hx hb d_R_doubleArea_28 rfl (lv_at hl 0 rfl) ?_
    refine lv_iload_n hx hb d_R_doubleArea_29 rfl (lv_at hl 2 rfl) ?_
    refine g_ci w (g_runV (As := [.int (iN (i))]) (rest := [.int (iN (((pX P i) * (pY P (nx P i))))), .int (iN (k))]) X w (c_R_y l ho hr (by unfold i3; omega)) k_R_y v_R_y lk_R_26 ho.1 hr.2.1 rfl ⟨(Nat.le_of_ble_eq_true rfl), (Nat.le_of_ble_eq_true rfl)⟩ rfl hl.1 rfl (Nat.le_of_ble_eq_true rfl) d_R_doubleArea_30 ⟨Nat.zero_le _, Nat.zero_le _⟩) (fun r u H locs hp w => ?_)
    obtain ⟨rfl, rfl⟩ := hp
    have w : gw D (gA L sz) s.heap H locs L f := w
    refine lv_aload_n hx hb d_R_doubleArea_33 rfl (lv_at hl 0 rfl) ?_
    refine lv_aload_n hx hb d_R_doubleArea_34 rfl (lv_at hl 0 rfl) ?_
    refine lv_iload_n hx hb d_R_doubleArea_35 rfl (lv_at hl 2 rfl) ?_
    refine g_ci w (g_runV (As := [.int (iN (i))]) (rest := [.ref a, .int (iN ((pY P i))), .int (iN (((pX P i) * (pY P (nx P i))))), .int (iN (k))]) X w (c_R_next l ho hr (by omega)) k_R_next v_R_next lk_R_57 ho.1 hr.2.1 rfl ⟨(Nat.le_of_ble_eq_true rfl), (Nat.le_of_ble_eq_true rfl)⟩ rfl hl.1 rfl (Nat.le_of_ble_eq_true rfl) d_R_doubleArea_36 ⟨Nat.zero_le _, Nat.zero_le _⟩) (fun r u H locs hp w => ?_)
    obtain ⟨rfl, rfl⟩ := hp
    have w : gw D (gA L sz) s.heap H locs L f := w
    refine g_ci w (g_runV (As := [.int (iN ((nx P i)))]) (rest := [.int (iN ((pY P i))), .int (iN (((pX P i) * (pY P (nx P i))))), .int (iN (k))]) X w (c_R_x l ho hr (by have := nx_4 (i := i) hn48 (by omega); unfold i3; omega)) k_R_x v_R_x lk_R_22 ho.1 hr.2.1 rfl ⟨(Nat.le_of_ble_eq_true rfl), (Nat.le_of_ble_eq_true rfl)⟩ rfl hl.1 rfl (Nat.le_of_ble_eq_true rfl) d_R_doubleArea_39 ⟨Nat.zero_le _, Nat.zero_le _⟩) (fun r u H locs hp w => ?_)
    obtain ⟨rfl, rfl⟩ := hp
    have w : gw D (gA L sz) s.heap H locs L f := w
    refine ri_mul (a := (pY P i)) (b := (pX P (nx P i))) hx hb d_R_doubleArea_42 rfl rfl ?_
    refine ri_sub (a := ((pX P i) * (pY P (nx P i)))) (b := ((pY P i) * (pX P (nx P i)))) hx hb d_R_doubleArea_43 rfl rfl ?_
    refine ri_add (a := k) (b := (((pX P i) * (pY P (nx P i))) - ((pY P i) * (pX P (nx P i))))) hx hb d_R_doubleArea_44 rfl rfl ?_
    refine lv_istore_n (lv' := [(1, .int (iN ((k + (((pX P i) * (pY P (nx P i))) - ((pY P i) * (pX P (nx P i)))))))), (0, .ref a), (2, .int (iN (i)))]) hx hb d_R_doubleArea_45 rfl hl (by decide) rfl (fun ls hl => ?_)
    refine lv_iinc (v := iN ((i + 1))) (lv' := [(2, .int (iN ((i + 1)))), (1, .int (iN ((k + (((pX P i) * (pY P (nx P i))) - ((pY P i) * (pX P (nx P i)))))))), (0, .ref a)]) hx hb d_R_doubleArea_46 hl (k := 2) rfl (by rw [show (i + 1) = i + (1 : Int) by omega, ← iN_add]; rfl) (by decide) rfl (fun ls hl => ?_)
    refine lv_goto (tgt := 4) hx hb d_R_doubleArea_49 (by decide) ?_
    exact ih ((i + 1), (k + (((pX P i) * (pY P (nx P i))) - ((pY P i) * (pX P (nx P i)))))) _ _ _ (by omega) ⟨by omega, by omega, by rw [tn_s h0]; unfold dar; rw [← h2, tn_c h0]⟩ w (lv_sub hl [2, 1, 0] rfl)
def gbk (x y : Int) : Prop := x < 0 ∨ (x = 0 ∧ y < 0)
set_option maxHeartbeats 4000000 in
set_option maxRecDepth 100000 in
theorem c_R_goesBack (l : Launch) {D : va_G} {cI cR : ClassId} {L : List Nat} {f : Nat → va_E} {x y : Int} (hx3 : i3 x) (hy3 : i3 y) : gMi D cI cR l y_R_goesBack (Cond.code y_R_goesBack b_R_goesBack 2 (some .boolean) :: lw_g) { frames := 0, cells := 0, slots := 0, locals := 0 } [.int (iN (x)), .int (iN (y))] L f (fun r u => r = iN (bI (gbk x y)) ∧ u = (L, f)) := by
  intro sz
  refine g_enter (by decide) rfl (Nat.le_of_ble_eq_true rfl) ?_
  intro p e s m below meth cd ls X hrt hlk hnm hl hsz w
  have X : gx p m cd b_R_goesBack 2 s _ "HullSums$Row" D cI cR := X
  have hx := X.1.1
  have hb := X.1.2.1
  have hl : lv_has ls 2 [(0, .int (iN (x))), (1, .int (iN (y)))] := hl
  refine lv_iload_n hx hb d_R_goesBack_0 rfl (lv_at hl 0 rfl) ?_
  refine ri_zlt (a := x) (tgt := 12) hx hb d_R_goesBack_1 (by decide) rfl hx3 (fun c1 => ?_) (fun c1 => ?_)
  · skip
    refine lv_iconst (v := iN (1)) hx hb d_R_goesBack_12 (by decide) ?_
    refine lv_goto (tgt := 17) hx hb d_R_goesBack_13 (by decide) ?_
    exact g_zret X w hrt hlk d_R_goesBack_17 rfl ⟨by rw [bI_t (show gbk x y by unfold gbk; omega)], rfl⟩
  · skip
    refine lv_iload_n hx hb d_R_goesBack_4 rfl (lv_at hl 0 rfl) ?_
    refine ri_zne (a := x) (tgt := 16) hx hb d_R_goesBack_5 (by decide) rfl hx3 (fun c5 => ?_) (fun c5 => ?_)
    · skip
      refine lv_iconst (v := iN (0)) hx hb d_R_goesBack_16 (by decide) ?_
      exact g_zret X w hrt hlk d_R_goesBack_17 rfl ⟨by rw [bI_f (show ¬ gbk x y by unfold gbk; omega)], rfl⟩
    · skip
      refine lv_iload_n hx hb d_R_goesBack_8 rfl (lv_at hl 1 rfl) ?_
      refine ri_zge (a := y) (tgt := 16) hx hb d_R_goesBack_9 (by decide) rfl hy3 (fun c9 => ?_) (fun c9 => ?_)
      · skip
        refine lv_iconst (v := iN (0)) hx hb d_R_goesBack_16 (by decide) ?_
        exact g_zret X w hrt hlk d_R_goesBack_17 rfl ⟨by rw [bI_f (show ¬ gbk x y by unfold gbk; omega)], rfl⟩
      · skip
        refine lv_iconst (v := iN (1)) hx hb d_R_goesBack_12 (by decide) ?_
        refine lv_goto (tgt := 17) hx hb d_R_goesBack_13 (by decide) ?_
        exact g_zret X w hrt hlk d_R_goesBack_17 rfl ⟨by rw [bI_t (show gbk x y by unfold gbk; omega)], rfl⟩
set_option maxHeartbeats 4000000 in
set_option maxRecDepth 100000 in
theorem c_H_isNear (l : Launch) {D : va_G} {cI cR : ClassId} {L : List Nat} {f : Nat → va_E} {x y : Int} (hx3 : i3 x) (hy3 : 0 ≤ y ∧ y ≤ 1000) : gMi D cI cR l y_H_isNear (Cond.code y_H_isNear b_H_isNear 2 (some .boolean) :: lw_g) { frames := 0, cells := 0, slots := 0, locals := 0 } [.int (iN (x)), .int (iN (y))] L f (fun r u => r = iN (bI (-y ≤ x ∧ x ≤ y)) ∧ u = (L, f)) := by
  intro sz
  refine g_enter (by decide) rfl (Nat.le_of_ble_eq_true rfl) ?_
  intro p e s m below meth cd ls X hrt hlk hnm hl hsz w
  have X : gx p m cd b_H_isNear 2 s _ "HullSums" D cI cR := X
  have hx := X.1.1
  have hb := X.1.2.1
  have hl : lv_has ls 2 [(0, .int (iN (x))), (1, .int (iN (y)))] := hl
  refine lv_iload_n hx hb d_H_isNear_0 rfl (lv_at hl 0 rfl) ?_
  refine lv_iload_n hx hb d_H_isNear_1 rfl (lv_at hl 1 rfl) ?_
  refine ri_neg (a := y) hx hb d_H_isNear_2 rfl ?_
  refine ri_clt (a := x) (b := (-y)) (tgt := 15) hx hb d_H_isNear_3 (by decide) rfl rfl hx3 (by unfold i3; omega) (fun c3 => ?_) (fun c3 => ?_)
  · skip
    refine lv_iconst (v := iN (0)) hx hb d_H_isNear_15 (by decide) ?_
    exact g_zret X w hrt hlk d_H_isNear_16 rfl ⟨by rw [bI_f (fun h => by have := h.1; have := h.2; omega)], rfl⟩
  · skip
    refine lv_iload_n hx hb d_H_isNear_6 rfl (lv_at hl 0 rfl) ?_
    refine lv_iload_n hx hb d_H_isNear_7 rfl (lv_at hl 1 rfl) ?_
    refine ri_cgt (a := x) (b := y) (tgt := 15) hx hb d_H_isNear_8 (by decide) rfl rfl hx3 (by unfold i3; omega) (fun c8 => ?_) (fun c8 => ?_)
    · skip
      refine lv_iconst (v := iN (0)) hx hb d_H_isNear_15 (by decide) ?_
      exact g_zret X w hrt hlk d_H_isNear_16 rfl ⟨by rw [bI_f (fun h => by have := h.1; have := h.2; omega)], rfl⟩
    · skip
      refine lv_iconst (v := iN (1)) hx hb d_H_isNear_11 (by decide) ?_
      refine lv_goto (tgt := 16) hx hb d_H_isNear_12 (by decide) ?_
      exact g_zret X w hrt hlk d_H_isNear_16 rfl ⟨by rw [bI_t ⟨by omega, by omega⟩], rfl⟩
theorem eu_inv {x y k : Int} {N : Int} (hk : 1 ≤ k) (hxy : y < x) (hy : 0 < y) (hb : x * y * 2 ^ (k - 1).toNat < N) : y * x.tmod y * 2 ^ (k + 1 - 1).toNat < N := by
  obtain ⟨h1, h2, h3⟩ := eu_step (x := x) hy (by omega)
  have h4 := h3 (by omega)
  rw [show (k + 1 - 1).toNat = (k - 1).toNat + 1 by omega, Int.pow_succ]
  have h5 : 0 ≤ (2 : Int) ^ (k - 1).toNat := Int.le_of_lt (Int.pow_pos (by decide))
  have h6 := Int.mul_le_mul_of_nonneg_right h4 h5
  grind
theorem eu_end {x y k : Int} (hk : 100 ≤ k) (hxy : y < x) (hy : 0 ≤ y) (hb : x * y * 2 ^ (k - 1).toNat < 2 ^ 96) : y = 0 := by
  by_cases h : y = 0
  · exact h
  · exfalso
    have h1 : 1 ≤ x * y := by
      have := Int.mul_pos (show 0 < x by omega) (show 0 < y by omega)
      omega
    have h2 : (2 : Int) ^ 96 ≤ 2 ^ (k - 1).toNat := by
      have : (2 : Nat) ^ 96 ≤ 2 ^ (k - 1).toNat := Nat.pow_le_pow_right (by decide) (by omega)
      exact_mod_cast this
    have h3 := Int.mul_le_mul_of_nonneg_right h1 (show (0 : Int) ≤ 2 ^ (k - 1).toNat from Int.le_of_lt (Int.pow_pos (by decide)))
    omega
theorem zabs_n (a : Int) : zabs a = a.natAbs := by unfold zabs; split <;> omega
def euI (a b k x y : Int) : Prop := 0 ≤ k ∧ k ≤ 100 ∧ 0 ≤ x ∧ 0 ≤ y ∧ Int.gcd x y = Int.gcd a b ∧ i6 x ∧ y < 2 ^ 48 ∧ (k = 0 ∨ (y < x ∧ x < 2 ^ 48 ∧ x * y * 2 ^ (k - 1).toNat < 2 ^ 96))
theorem euI_0 {a b : Int} (ha : i6 a ∧ -9223372036854775807 ≤ a) (hb48 : -281474976710656 < b ∧ b < 281474976710656) : euI a b 0 (zabs a) (zabs b) := by
  obtain ⟨⟨q1, q2⟩, q3⟩ := ha
  have e1 := zabs_n a
  have e2 := zabs_n b
  exact ⟨by omega, by omega, by omega, by omega, by rw [e1, e2]; rfl, ⟨by omega, by omega⟩, by omega, Or.inl rfl⟩
theorem euI_s {a b k x y : Int} (h : euI a b k x y) (hk : k < 100) (hy : y ≠ 0) : euI a b (k + 1) y (x.tmod y) := by
  obtain ⟨h0, h1, h2, h3, h4, h5, h6, h7⟩ := h
  have hy : 0 < y := by omega
  obtain ⟨q1, q2, q3⟩ := eu_step hy h2
  refine ⟨by omega, by omega, h3, q1, ?_, ⟨by omega, by omega⟩, by omega, Or.inr ⟨q2, h6, ?_⟩⟩
  · rw [eu_gcd h2 hy, h4]
  · rcases h7 with h7 | ⟨r1, r2, r3⟩
    · subst h7
      show y * x.tmod y * 2 ^ (0 + 1 - 1 : Int).toNat < 2 ^ 96
      have e1 : (2 : Int) ^ (0 + 1 - 1 : Int).toNat = 1 := rfl
      rw [e1, Int.mul_one]
      have := Int.mul_le_mul_of_nonneg_left (show x.tmod y ≤ 2 ^ 48 - 1 by omega) h3
      have := Int.mul_le_mul_of_nonneg_right (show y ≤ 2 ^ 48 - 1 by omega) (show (0 : Int) ≤ 2 ^ 48 - 1 by omega)
      omega
    · by_cases hk0 : k = 0
      · subst hk0
        show y * x.tmod y * 2 ^ (0 + 1 - 1 : Int).toNat < 2 ^ 96
        have e1 : (2 : Int) ^ (0 + 1 - 1 : Int).toNat = 1 := rfl
        rw [e1, Int.mul_one]
        have := Int.mul_le_mul_of_nonneg_left (show x.tmod y ≤ 2 ^ 48 - 1 by omega) h3
        have := Int.mul_le_mul_of_nonneg_right (show y ≤ 2 ^ 48 - 1 by omega) (show (0 : Int) ≤ 2 ^ 48 - 1 by omega)
        omega
      · exact eu_inv (by omega) r1 hy r3
theorem euI_e {a b k x y : Int} (h : euI a b k x y) (hk : 100 ≤ k ∨ y = 0) : x = Int.gcd a b := by
  obtain ⟨h0, h1, h2, h3, h4, h5, h6, h7⟩ := h
  have hy : y = 0 := by
    rcases hk with hk | hk
    · rcases h7 with h7 | ⟨r1, r2, r3⟩
      · omega
      · exact eu_end hk r1 h3 r3
    · exact hk
  subst hy
  rw [← h4, Int.gcd_zero_right]
  omega

set_option maxHeartbeats 4000000 in
set_option maxRecDepth 100000 in
theorem c_H_commonDivisor (l : Launch) {D : va_G} {cI cR : ClassId} {L : List Nat} {f : Nat → va_E} {a b : Int} (ha : i6 a ∧ -9223372036854775807 ≤ a) (hb48 : -281474976710656 < b ∧ b < 281474976710656) : gMl D cI cR l y_H_commonDivisor (Cond.code y_H_commonDivisor b_H_commonDivisor 11 (some .long) :: lw_g) { frames := 1, cells := 0, slots := 0, locals := 21 } [.long (jN (a)), .long (jN (b))] L f (fun r u => r = jN (Int.gcd a b) ∧ u = (L, f)) := by
  obtain ⟨ha, ha'⟩ := ha
  intro sz
  refine g_enter (by decide) rfl (Nat.le_of_ble_eq_true rfl) ?_
  intro p e s m below meth cd ls X hrt hlk hnm hl hsz w
  have X : gx p m cd b_H_commonDivisor 11 s _ "HullSums" D cI cR := X
  have hx := X.1.1
  have hb := X.1.2.1
  have hl : lv_has ls 11 [(0, .long (jN (a))), (2, .long (jN (b)))] := hl
  refine lv_lload_n hx hb d_H_commonDivisor_0 rfl (lv_at hl 0 rfl) ?_
  refine rj_mabs (a := a) X hl.1 lk_H_198 (Nat.le_of_ble_eq_true rfl) (Nat.le_of_ble_eq_true rfl) (Nat.zero_le _) (Nat.zero_le _) rfl ha d_H_commonDivisor_1 ?_
  refine lv_lstore (lv' := [(4, .long (jN ((zabs a)))), (0, .long (jN (a))), (2, .long (jN (b)))]) hx hb d_H_commonDivisor_4 hl (by decide) rfl (fun ls hl => ?_)
  refine lv_lload_n hx hb d_H_commonDivisor_6 rfl (lv_at hl 2 rfl) ?_
  refine rj_mabs (a := b) X hl.1 lk_H_198 (Nat.le_of_ble_eq_true rfl) (Nat.le_of_ble_eq_true rfl) (Nat.zero_le _) (Nat.zero_le _) rfl (by unfold i6; omega) d_H_commonDivisor_7 ?_
  refine lv_lstore (lv' := [(6, .long (jN ((zabs b)))), (4, .long (jN ((zabs a)))), (0, .long (jN (a))), (2, .long (jN (b)))]) hx hb d_H_commonDivisor_10 hl (by decide) rfl (fun ls hl => ?_)
  refine lv_iconst (v := iN (0)) hx hb d_H_commonDivisor_12 (by decide) ?_
  refine lv_istore (lv' := [(8, .int (iN (0))), (6, .long (jN ((zabs b)))), (4, .long (jN ((zabs a)))), (0, .long (jN (a))), (2, .long (jN (b)))]) hx hb d_H_commonDivisor_13 hl (by decide) rfl (fun ls hl => ?_)
  refine g_loop (σ := Int × Int × Int) (fun z9 => (100 - z9.1).toNat) (fun z9 => [(4, .long (jN (z9.2.1))), (6, .long (jN (z9.2.2))), (8, .int (iN (z9.1)))]) L (fun z9 => f) (fun z9 => euI a b z9.1 z9.2.1 z9.2.2) ?_ (0, (zabs a), (zabs b)) _ _ _ (euI_0 ⟨ha, ha'⟩ hb48) w (lv_sub hl [2, 1, 0] rfl)
  intro z9 H locs ls hI w hl ih
  obtain ⟨k, x, y⟩ := z9
  have hl : lv_has ls 11 [(4, .long (jN (x))), (6, .long (jN (y))), (8, .int (iN (k)))] := hl
  have w : gw D (gA L sz) s.heap H locs L (f) := w
  have hI : euI a b k x y := hI
  have hI0 := hI.1
  have hI1 := hI.2.1
  have hI3 := hI.2.2.2.1
  have hI6 := hI.2.2.2.2.2.2.1
  refine lv_iload hx hb d_H_commonDivisor_15 (lv_at hl 2 rfl) ?_
  refine lv_bipush (v := iN (100)) hx hb d_H_commonDivisor_17 (by decide) ?_
  refine ri_cge (a := k) (b := 100) (tgt := 50) hx hb d_H_commonDivisor_19 (by decide) rfl rfl (by unfold i3; omega) (by unfold i3; omega) (fun c19 => ?_) (fun c19 => ?_)
  · skip
    refine lv_lload hx hb d_H_commonDivisor_50 (lv_at hl 0 rfl) ?_
    exact g_lret X w hrt hlk d_H_commonDivisor_52 ⟨by rw [euI_e hI (by omega)], rfl⟩
  · skip
    refine lv_lload hx hb d_H_commonDivisor_22 (lv_at hl 1 rfl) ?_
    refine lv_lconst (v := jN (0)) hx hb d_H_commonDivisor_24 (by decide) ?_
    refine rj_ceq (a := y) (b := 0) (tgt := 50) hx hb d_H_commonDivisor_25 d_H_commonDivisor_26 (by decide) rfl rfl (by unfold i6; omega) (by unfold i6; omega) (fun c25 => ?_) (fun c25 => ?_)
    · skip
      refine lv_lload hx hb d_H_commonDivisor_50 (lv_at hl 0 rfl) ?_
      exact g_lret X w hrt hlk d_H_commonDivisor_52 ⟨by rw [euI_e hI (by omega)], rfl⟩
    · skip
      refine lv_lload hx hb d_H_commonDivisor_29 (lv_at hl 0 rfl) ?_
      refine lv_lload hx hb d_H_commonDivisor_31 (lv_at hl 1 rfl) ?_
      refine rj_rem (a := x) (b := y) hx hb d_H_commonDivisor_33 rfl rfl hI.2.2.2.2.2.1 (by have := hI.2.2.2.1; have := hI.2.2.2.2.2.2.1; unfold i6; omega) (by omega) ?_
      refine lv_lstore (lv' := [(9, .long (jN ((x.tmod y)))), (4, .long (jN (x))), (6, .long (jN (y))), (8, .int (iN (k)))]) hx hb d_H_commonDivisor_34 hl (by decide) rfl (fun ls hl => ?_)
      refine lv_lload hx hb d_H_commonDivisor_36 (lv_at hl 2 rfl) ?_
      refine lv_lstore (lv' := [(4, .long (jN (y))), (9, .long (jN ((x.tmod y)))), (6, .long (jN (y))), (8, .int (iN (k)))]) hx hb d_H_commonDivisor_38 hl (by decide) rfl (fun ls hl => ?_)
      refine lv_lload hx hb d_H_commonDivisor_40 (lv_at hl 1 rfl) ?_
      refine lv_lstore (lv' := [(6, .long (jN ((x.tmod y)))), (4, .long (jN (y))), (9, .long (jN ((x.tmod y)))), (8, .int (iN (k)))]) hx hb d_H_commonDivisor_42 hl (by decide) rfl (fun ls hl => ?_)
      refine lv_iinc (v := iN ((k + 1))) (lv' := [(8, .int (iN ((k + 1)))), (6, .long (jN ((x.tmod y)))), (4, .long (jN (y))), (9, .long (jN ((x.tmod y))))]) hx hb d_H_commonDivisor_44 hl (k := 3) rfl (by rw [show (k + 1) = k + (1 : Int) by omega, ← iN_add]; rfl) (by decide) rfl (fun ls hl => ?_)
      refine lv_goto (tgt := 15) hx hb d_H_commonDivisor_47 (by decide) ?_
      exact ih ((k + 1), y, (x.tmod y)) _ _ _ (by omega) (euI_s hI (by omega) (by omega)) w (lv_sub hl [2, 1, 0] rfl)
set_option maxHeartbeats 4000000 in
set_option maxRecDepth 100000 in
theorem c_R_gridSteps (l : Launch) {D : va_G} {cI cR : ClassId} {L : List Nat} {f : Nat → va_E} {rx ry : Nat → Nat} {a : Nat} {P : List Pt} (ho : ro L rx ry a) (hr : rowIs cI rx ry f a P) (hB : pb 600 P) : gMi D cI cR l y_R_gridSteps (Cond.code y_R_gridSteps b_R_gridSteps 3 (some .int) :: lw_g) { frames := 2, cells := 0, slots := 0, locals := 51 } [.ref a] L f (fun r u => r = iN (gst P (sd P).toNat) ∧ u = (L, f)) := by
  intro sz
  refine g_enter (by decide) rfl (Nat.le_of_ble_eq_true rfl) ?_
  intro p e s m below meth cd ls X hrt hlk hnm hl hsz w
  have X : gx p m cd b_R_gridSteps 3 s _ "HullSums$Row" D cI cR := X
  have hx := X.1.1
  have hb := X.1.2.1
  have hl : lv_has ls 3 [(0, .ref a)] := hl
  have hn48 := hr.1
  refine lv_iconst (v := iN (0)) hx hb d_R_gridSteps_0 (by decide) ?_
  refine lv_istore_n (lv' := [(1, .int (iN (0))), (0, .ref a)]) hx hb d_R_gridSteps_1 rfl hl (by decide) rfl (fun ls hl => ?_)
  refine lv_iconst (v := iN (0)) hx hb d_R_gridSteps_2 (by decide) ?_
  refine lv_istore_n (lv' := [(2, .int (iN (0))), (1, .int (iN (0))), (0, .ref a)]) hx hb d_R_gridSteps_3 rfl hl (by decide) rfl (fun ls hl => ?_)
  refine g_loop (σ := Int × Int) (fun z9 => (sd P - z9.1).toNat) (fun z9 => [(0, .ref a), (1, .int (iN (z9.2))), (2, .int (iN (z9.1)))]) L (fun z9 => f) (fun z9 => 0 ≤ z9.1 ∧ z9.1 ≤ sd P ∧ sd P ≤ 48 ∧ z9.2 = gst P z9.1.toNat) ?_ (0, 0) _ _ _ ⟨by omega, by unfold sd; split <;> omega, by unfold sd; split <;> omega, rfl⟩ w (lv_sub hl [2, 1, 0] rfl)
  intro z9 H locs ls hI w hl ih
  obtain ⟨i, k⟩ := z9
  have hl : lv_has ls 3 [(0, .ref a), (1, .int (iN (k))), (2, .int (iN (i)))] := hl
  have w : gw D (gA L sz) s.heap H locs L (f) := w
  have hI : 0 ≤ i ∧ i ≤ sd P ∧ sd P ≤ 48 ∧ k = gst P i.toNat := hI
  obtain ⟨h0, h1, h3, h2⟩ := hI
  refine lv_iload_n hx hb d_R_gridSteps_4 rfl (lv_at hl 2 rfl) ?_
  refine lv_aload_n hx hb d_R_gridSteps_5 rfl (lv_at hl 0 rfl) ?_
  refine g_ci w (g_runV (As := []) (rest := [.int (iN (i))]) X w (c_R_sides l ho hr) k_R_sides v_R_sides lk_R_88 ho.1 hr.2.1 rfl ⟨(Nat.le_of_ble_eq_true rfl), (Nat.le_of_ble_eq_true rfl)⟩ rfl hl.1 rfl (Nat.le_of_ble_eq_true rfl) d_R_gridSteps_6 ⟨Nat.zero_le _, Nat.zero_le _⟩) (fun r u H locs hp w => ?_)
  obtain ⟨rfl, rfl⟩ := hp
  have w : gw D (gA L sz) s.heap H locs L f := w
  refine ri_cge (a := i) (b := (sd P)) (tgt := 37) hx hb d_R_gridSteps_9 (by decide) rfl rfl (by unfold i3; omega) (by unfold sd i3; split <;> omega) (fun c9 => ?_) (fun c9 => ?_)
  · skip
    refine lv_iload_n hx hb d_R_gridSteps_37 rfl (lv_at hl 1 rfl) ?_
    exact g_iret X w hrt hlk d_R_gridSteps_38 ⟨by rw [h2, show i = sd P by omega], rfl⟩
  · skip
    refine lv_iload_n hx hb d_R_gridSteps_12 rfl (lv_at hl 1 rfl) ?_
    refine lv_aload_n hx hb d_R_gridSteps_13 rfl (lv_at hl 0 rfl) ?_
    refine lv_iload_n hx hb d_R_gridSteps_14 rfl (lv_at hl 2 rfl) ?_
    refine g_ci w (g_runV (As := [.int (iN (i))]) (rest := [.int (iN (k))]) X w (c_R_sideX l ho hr (by omega)) k_R_sideX v_R_sideX lk_R_73 ho.1 hr.2.1 rfl ⟨(Nat.le_of_ble_eq_true rfl), (Nat.le_of_ble_eq_true rfl)⟩ rfl hl.1 rfl (Nat.le_of_ble_eq_true rfl) d_R_gridSteps_15 ⟨Nat.zero_le _, Nat.zero_le _⟩) (fun r u H locs hp w => ?_)
    obtain ⟨rfl, rfl⟩ := hp
    have w : gw D (gA L sz) s.heap H locs L f := w
    refine ri_i2l (a := (sX P i)) hx hb d_R_gridSteps_18 rfl (by have := hB i; have := hB (nx P i); unfold sX i3; omega) ?_
    refine lv_aload_n hx hb d_R_gridSteps_19 rfl (lv_at hl 0 rfl) ?_
    refine lv_iload_n hx hb d_R_gridSteps_20 rfl (lv_at hl 2 rfl) ?_
    refine g_ci w (g_runV (As := [.int (iN (i))]) (rest := [.long (jN ((sX P i))), .int (iN (k))]) X w (c_R_sideY l ho hr (by omega)) k_R_sideY v_R_sideY lk_R_76 ho.1 hr.2.1 rfl ⟨(Nat.le_of_ble_eq_true rfl), (Nat.le_of_ble_eq_true rfl)⟩ rfl hl.1 rfl (Nat.le_of_ble_eq_true rfl) d_R_gridSteps_21 ⟨Nat.zero_le _, Nat.zero_le _⟩) (fun r u H locs hp w => ?_)
    obtain ⟨rfl, rfl⟩ := hp
    have w : gw D (gA L sz) s.heap H locs L f := w
    refine ri_i2l (a := (sY P i)) hx hb d_R_gridSteps_24 rfl (by have := hB i; have := hB (nx P i); unfold sY i3; omega) ?_
    refine g_cl w (g_runSN (As := [.long (jN ((sX P i))), .long (jN ((sY P i)))]) (rest := [.int (iN (k))]) X w (c_H_commonDivisor l (by have := hB i; have := hB (nx P i); unfold sX i6; omega) (by have := hB i; have := hB (nx P i); unfold sY; omega)) k_H_commonDivisor X.2.2.2.2 st_H_commonDivisor ⟨(Nat.le_of_ble_eq_true rfl), (Nat.le_of_ble_eq_true rfl)⟩ rfl hl.1 rfl (Nat.le_of_ble_eq_true rfl) d_R_gridSteps_25 ⟨Nat.zero_le _, Nat.zero_le _⟩) (fun r u H locs hp w => ?_)
    obtain ⟨rfl, rfl⟩ := hp
    have w : gw D (gA L sz) s.heap H locs L f := w
    have hsd : sd P ≤ P.length := by unfold sd; split <;> omega
    refine ri_l2i (a := ((Int.gcd (sX P i) (sY P i) : Nat) : Int)) hx hb d_R_gridSteps_28 rfl (by have := hB i; have := hB (nx P i); have := gcd_b (a := sX P i) (b := sY P i) (B := 1200) (by unfold sX; omega) (by unfold sY; omega); unfold i6; omega) ?_
    refine ri_add (a := k) (b := ((Int.gcd (sX P i) (sY P i) : Nat) : Int)) hx hb d_R_gridSteps_29 rfl rfl ?_
    refine lv_istore_n (lv' := [(1, .int (iN ((k + ((Int.gcd (sX P i) (sY P i) : Nat) : Int))))), (0, .ref a), (2, .int (iN (i)))]) hx hb d_R_gridSteps_30 rfl hl (by decide) rfl (fun ls hl => ?_)
    refine lv_iinc (v := iN ((i + 1))) (lv' := [(2, .int (iN ((i + 1)))), (1, .int (iN ((k + ((Int.gcd (sX P i) (sY P i) : Nat) : Int))))), (0, .ref a)]) hx hb d_R_gridSteps_31 hl (k := 2) rfl (by rw [show (i + 1) = i + (1 : Int) by omega, ← iN_add]; rfl) (by decide) rfl (fun ls hl => ?_)
    refine lv_goto (tgt := 4) hx hb d_R_gridSteps_34 (by decide) ?_
    exact ih ((i + 1), (k + ((Int.gcd (sX P i) (sY P i) : Nat) : Int))) _ _ _ (by omega) ⟨by omega, by omega, h3, by rw [tn_s h0]; unfold gst; rw [← h2, tn_c h0]⟩ w (lv_sub hl [2, 1, 0] rfl)
theorem gs_b {P : List Pt} (h : pb 600 P) (hn : P.length ≤ 48) : 0 ≤ gst P (sd P).toNat ∧ gst P (sd P).toNat ≤ 57600 := by
  have h1 := gst_b h (sd P).toNat
  have : sd P ≤ 48 := by unfold sd; split <;> omega
  omega
def gob (P : List Pt) : Int := if P.length = 0 then 0 else if P.length < 3 then (gst P (sd P).toNat).tdiv 2 + 1 else gst P (sd P).toNat
def gwg (P : List Pt) (k : Int) : Int := if P.length = 0 then 0 else (dar P P.length * k * k + gst P (sd P).toNat * k + 2).tdiv 2
theorem gwg_b {P : List Pt} (h : pb 600 P) (hn : P.length ≤ 48) {k : Int} (hk : 0 ≤ k ∧ k ≤ 6) : i3 (dar P P.length * k * k + gst P (sd P).toNat * k + 2) := by
  have h1 := gs_b h hn
  have h2 := dar_b h P.length
  have q1 := mbc (a := dar P P.length) (b := k) 34560000 6 207360000 (by omega) (by omega) (by omega) (by omega) (by decide)
  have q2 := mbc (a := dar P P.length * k) (b := k) 207360000 6 1244160000 (by omega) (by omega) (by omega) (by omega) (by decide)
  have q3 := mbc (a := gst P (sd P).toNat) (b := k) 57600 6 345600 (by omega) (by omega) (by omega) (by omega) (by decide)
  unfold i3; omega
set_option maxHeartbeats 4000000 in
set_option maxRecDepth 100000 in
theorem c_R_gridOnBorder (l : Launch) {D : va_G} {cI cR : ClassId} {L : List Nat} {f : Nat → va_E} {rx ry : Nat → Nat} {a : Nat} {P : List Pt} (ho : ro L rx ry a) (hr : rowIs cI rx ry f a P) (hB : pb 600 P) : gMi D cI cR l y_R_gridOnBorder (Cond.code y_R_gridOnBorder b_R_gridOnBorder 1 (some .int) :: lw_g) { frames := 3, cells := 0, slots := 0, locals := 73 } [.ref a] L f (fun r u => r = iN (gob P) ∧ u = (L, f)) := by
  intro sz
  refine g_enter (by decide) rfl (Nat.le_of_ble_eq_true rfl) ?_
  intro p e s m below meth cd ls X hrt hlk hnm hl hsz w
  have X : gx p m cd b_R_gridOnBorder 1 s _ "HullSums$Row" D cI cR := X
  have hx := X.1.1
  have hb := X.1.2.1
  have hl : lv_has ls 1 [(0, .ref a)] := hl
  have hn48 := hr.1
  refine lv_aload_n hx hb d_R_gridOnBorder_0 rfl (lv_at hl 0 rfl) ?_
  refine gk_get X w ho.1 hr.2.1 rfl in_R 2 (by decide) lk_R_18 rfl d_R_gridOnBorder_1 ?_
  refine ri_zne (a := (P.length : Int)) (tgt := 9) hx hb d_R_gridOnBorder_4 (by decide) rfl (by unfold i3; omega) (fun c4 => ?_) (fun c4 => ?_)
  · skip
    refine lv_aload_n hx hb d_R_gridOnBorder_9 rfl (lv_at hl 0 rfl) ?_
    refine gk_get X w ho.1 hr.2.1 rfl in_R 2 (by decide) lk_R_18 rfl d_R_gridOnBorder_10 ?_
    refine lv_iconst (v := iN (3)) hx hb d_R_gridOnBorder_13 (by decide) ?_
    refine ri_cge (a := (P.length : Int)) (b := 3) (tgt := 28) hx hb d_R_gridOnBorder_14 (by decide) rfl rfl (by unfold i3; omega) (by unfold i3; omega) (fun c14 => ?_) (fun c14 => ?_)
    · skip
      refine lv_aload_n hx hb d_R_gridOnBorder_28 rfl (lv_at hl 0 rfl) ?_
      refine g_ci w (g_runV (As := []) (rest := []) X w (c_R_gridSteps l ho hr hB) k_R_gridSteps v_R_gridSteps lk_R_95 ho.1 hr.2.1 rfl ⟨(Nat.le_of_ble_eq_true rfl), (Nat.le_of_ble_eq_true rfl)⟩ rfl hl.1 rfl (Nat.le_of_ble_eq_true rfl) d_R_gridOnBorder_29 ⟨Nat.zero_le _, Nat.zero_le _⟩) (fun r u H locs hp w => ?_)
      obtain ⟨rfl, rfl⟩ := hp
      have w : gw D (gA L sz) s.heap H locs L f := w
      exact g_iret X w hrt hlk d_R_gridOnBorder_32 ⟨by unfold gob; rw [if_neg (by omega), if_neg (by omega)], rfl⟩
    · skip
      refine lv_aload_n hx hb d_R_gridOnBorder_17 rfl (lv_at hl 0 rfl) ?_
      refine g_ci w (g_runV (As := []) (rest := []) X w (c_R_gridSteps l ho hr hB) k_R_gridSteps v_R_gridSteps lk_R_95 ho.1 hr.2.1 rfl ⟨(Nat.le_of_ble_eq_true rfl), (Nat.le_of_ble_eq_true rfl)⟩ rfl hl.1 rfl (Nat.le_of_ble_eq_true rfl) d_R_gridOnBorder_18 ⟨Nat.zero_le _, Nat.zero_le _⟩) (fun r u H locs hp w => ?_)
      obtain ⟨rfl, rfl⟩ := hp
      have w : gw D (gA L sz) s.heap H locs L f := w
      refine lv_iconst (v := iN (2)) hx hb d_R_gridOnBorder_21 (by decide) ?_
      refine ri_div (a := (gst P (sd P).toNat)) (b := 2) hx hb d_R_gridOnBorder_22 rfl rfl (by have := gs_b hB hn48; unfold i3; omega) (by unfold i3; omega) (by decide) ?_
      refine lv_iconst (v := iN (1)) hx hb d_R_gridOnBorder_23 (by decide) ?_
      refine ri_add (a := ((gst P (sd P).toNat).tdiv 2)) (b := 1) hx hb d_R_gridOnBorder_24 rfl rfl ?_
      refine lv_goto (tgt := 32) hx hb d_R_gridOnBorder_25 (by decide) ?_
      exact g_iret X w hrt hlk d_R_gridOnBorder_32 ⟨by unfold gob; rw [if_neg (by omega), if_pos (by omega)], rfl⟩
  · skip
    refine lv_iconst (v := iN (0)) hx hb d_R_gridOnBorder_7 (by decide) ?_
    exact g_iret X w hrt hlk d_R_gridOnBorder_8 ⟨by unfold gob; rw [if_pos (by omega)], rfl⟩
set_option maxHeartbeats 4000000 in
set_option maxRecDepth 100000 in
theorem c_R_gridWhenGrown (l : Launch) {D : va_G} {cI cR : ClassId} {L : List Nat} {f : Nat → va_E} {rx ry : Nat → Nat} {a : Nat} {P : List Pt} (ho : ro L rx ry a) (hr : rowIs cI rx ry f a P) (hB : pb 600 P) {k : Int} (hk : 0 ≤ k ∧ k ≤ 6) : gMi D cI cR l y_R_gridWhenGrown (Cond.code y_R_gridWhenGrown b_R_gridWhenGrown 2 (some .int) :: lw_g) { frames := 3, cells := 0, slots := 0, locals := 73 } [.ref a, .int (iN (k))] L f (fun r u => r = iN (gwg P k) ∧ u = (L, f)) := by
  intro sz
  refine g_enter (by decide) rfl (Nat.le_of_ble_eq_true rfl) ?_
  intro p e s m below meth cd ls X hrt hlk hnm hl hsz w
  have X : gx p m cd b_R_gridWhenGrown 2 s _ "HullSums$Row" D cI cR := X
  have hx := X.1.1
  have hb := X.1.2.1
  have hl : lv_has ls 2 [(0, .ref a), (1, .int (iN (k)))] := hl
  have hn48 := hr.1
  refine lv_aload_n hx hb d_R_gridWhenGrown_0 rfl (lv_at hl 0 rfl) ?_
  refine gk_get X w ho.1 hr.2.1 rfl in_R 2 (by decide) lk_R_18 rfl d_R_gridWhenGrown_1 ?_
  refine ri_zne (a := (P.length : Int)) (tgt := 11) hx hb d_R_gridWhenGrown_4 (by decide) rfl (by unfold i3; omega) (fun c4 => ?_) (fun c4 => ?_)
  · skip
    refine lv_aload_n hx hb d_R_gridWhenGrown_11 rfl (lv_at hl 0 rfl) ?_
    refine g_ci w (g_runV (As := []) (rest := []) X w (c_R_doubleArea l ho hr) k_R_doubleArea v_R_doubleArea lk_R_98 ho.1 hr.2.1 rfl ⟨(Nat.le_of_ble_eq_true rfl), (Nat.le_of_ble_eq_true rfl)⟩ rfl hl.1 rfl (Nat.le_of_ble_eq_true rfl) d_R_gridWhenGrown_12 ⟨Nat.zero_le _, Nat.zero_le _⟩) (fun r u H locs hp w => ?_)
    obtain ⟨rfl, rfl⟩ := hp
    have w : gw D (gA L sz) s.heap H locs L f := w
    refine lv_iload_n hx hb d_R_gridWhenGrown_15 rfl (lv_at hl 1 rfl) ?_
    refine ri_mul (a := (dar P P.length)) (b := k) hx hb d_R_gridWhenGrown_16 rfl rfl ?_
    refine lv_iload_n hx hb d_R_gridWhenGrown_17 rfl (lv_at hl 1 rfl) ?_
    refine ri_mul (a := ((dar P P.length) * k)) (b := k) hx hb d_R_gridWhenGrown_18 rfl rfl ?_
    refine lv_aload_n hx hb d_R_gridWhenGrown_19 rfl (lv_at hl 0 rfl) ?_
    refine g_ci w (g_runV (As := []) (rest := [.int (iN ((((dar P P.length) * k) * k)))]) X w (c_R_gridSteps l ho hr hB) k_R_gridSteps v_R_gridSteps lk_R_95 ho.1 hr.2.1 rfl ⟨(Nat.le_of_ble_eq_true rfl), (Nat.le_of_ble_eq_true rfl)⟩ rfl hl.1 rfl (Nat.le_of_ble_eq_true rfl) d_R_gridWhenGrown_20 ⟨Nat.zero_le _, Nat.zero_le _⟩) (fun r u H locs hp w => ?_)
    obtain ⟨rfl, rfl⟩ := hp
    have w : gw D (gA L sz) s.heap H locs L f := w
    refine lv_iload_n hx hb d_R_gridWhenGrown_23 rfl (lv_at hl 1 rfl) ?_
    refine ri_mul (a := (gst P (sd P).toNat)) (b := k) hx hb d_R_gridWhenGrown_24 rfl rfl ?_
    refine ri_add (a := (((dar P P.length) * k) * k)) (b := ((gst P (sd P).toNat) * k)) hx hb d_R_gridWhenGrown_25 rfl rfl ?_
    refine lv_iconst (v := iN (2)) hx hb d_R_gridWhenGrown_26 (by decide) ?_
    refine ri_add (a := ((((dar P P.length) * k) * k) + ((gst P (sd P).toNat) * k))) (b := 2) hx hb d_R_gridWhenGrown_27 rfl rfl ?_
    refine lv_iconst (v := iN (2)) hx hb d_R_gridWhenGrown_28 (by decide) ?_
    refine ri_div (a := (((((dar P P.length) * k) * k) + ((gst P (sd P).toNat) * k)) + 2)) (b := 2) hx hb d_R_gridWhenGrown_29 rfl rfl (gwg_b hB hn48 hk) (by unfold i3; omega) (by decide) ?_
    exact g_iret X w hrt hlk d_R_gridWhenGrown_30 ⟨by unfold gwg; rw [if_neg (by omega)], rfl⟩
  · skip
    refine lv_iconst (v := iN (0)) hx hb d_R_gridWhenGrown_7 (by decide) ?_
    refine lv_goto (tgt := 30) hx hb d_R_gridWhenGrown_8 (by decide) ?_
    exact g_iret X w hrt hlk d_R_gridWhenGrown_30 ⟨by unfold gwg; rw [if_pos (by omega)], rfl⟩
def wth (P : List Pt) (n r : Int) : Prop := ∀ i : Int, 0 ≤ i → i < n → (-r ≤ pX P i ∧ pX P i ≤ r) ∧ (-r ≤ pY P i ∧ pY P i ≤ r)
set_option maxHeartbeats 4000000 in
set_option maxRecDepth 100000 in
theorem c_R_isWithin (l : Launch) {D : va_G} {cI cR : ClassId} {L : List Nat} {f : Nat → va_E} {rx ry : Nat → Nat} {a : Nat} {P : List Pt} (ho : ro L rx ry a) (hr : rowIs cI rx ry f a P) (hB : pb 600 P) {r0 : Int} (hr0 : 0 ≤ r0 ∧ r0 ≤ 1000) : gMi D cI cR l y_R_isWithin (Cond.code y_R_isWithin b_R_isWithin 3 (some .boolean) :: lw_g) { frames := 1, cells := 0, slots := 0, locals := 21 } [.ref a, .int (iN (r0))] L f (fun r u => r = iN (bI (wth P P.length r0)) ∧ u = (L, f)) := by
  intro sz
  refine g_enter (by decide) rfl (Nat.le_of_ble_eq_true rfl) ?_
  intro p e s m below meth cd ls X hrt hlk hnm hl hsz w
  have X : gx p m cd b_R_isWithin 3 s _ "HullSums$Row" D cI cR := X
  have hx := X.1.1
  have hb := X.1.2.1
  have hl : lv_has ls 3 [(0, .ref a), (1, .int (iN (r0)))] := hl
  have hn48 := hr.1
  refine lv_iconst (v := iN (0)) hx hb d_R_isWithin_0 (by decide) ?_
  refine lv_istore_n (lv' := [(2, .int (iN (0))), (0, .ref a), (1, .int (iN (r0)))]) hx hb d_R_isWithin_1 rfl hl (by decide) rfl (fun ls hl => ?_)
  refine g_loop (σ := Int) (fun z9 => (P.length - z9).toNat) (fun z9 => [(0, .ref a), (1, .int (iN (r0))), (2, .int (iN (z9)))]) L (fun z9 => f) (fun z9 => 0 ≤ z9 ∧ z9 ≤ P.length ∧ wth P z9 r0) ?_ 0 _ _ _ ⟨by omega, by omega, fun _ q0 q1 => by omega⟩ w (lv_sub hl [1, 2, 0] rfl)
  intro i H locs ls hI w hl ih
  have hl : lv_has ls 3 [(0, .ref a), (1, .int (iN (r0))), (2, .int (iN (i)))] := hl
  have w : gw D (gA L sz) s.heap H locs L (f) := w
  have hI : 0 ≤ i ∧ i ≤ P.length ∧ wth P i r0 := hI
  obtain ⟨h0, h1, h2⟩ := hI
  refine lv_iload_n hx hb d_R_isWithin_2 rfl (lv_at hl 2 rfl) ?_
  refine lv_aload_n hx hb d_R_isWithin_3 rfl (lv_at hl 0 rfl) ?_
  refine gk_get X w ho.1 hr.2.1 rfl in_R 2 (by decide) lk_R_18 rfl d_R_isWithin_4 ?_
  refine ri_cge (a := i) (b := (P.length : Int)) (tgt := 42) hx hb d_R_isWithin_7 (by decide) rfl rfl (by unfold i3; omega) (by unfold i3; omega) (fun c7 => ?_) (fun c7 => ?_)
  · skip
    refine lv_iconst (v := iN (1)) hx hb d_R_isWithin_42 (by decide) ?_
    exact g_zret X w hrt hlk d_R_isWithin_43 rfl ⟨by rw [bI_t (by rw [show (P.length : Int) = i by omega]; exact h2)], rfl⟩
  · skip
    refine lv_aload_n hx hb d_R_isWithin_10 rfl (lv_at hl 0 rfl) ?_
    refine lv_iload_n hx hb d_R_isWithin_11 rfl (lv_at hl 2 rfl) ?_
    refine g_ci w (g_runV (As := [.int (iN (i))]) (rest := []) X w (c_R_x l ho hr (by unfold i3; omega)) k_R_x v_R_x lk_R_22 ho.1 hr.2.1 rfl ⟨(Nat.le_of_ble_eq_true rfl), (Nat.le_of_ble_eq_true rfl)⟩ rfl hl.1 rfl (Nat.le_of_ble_eq_true rfl) d_R_isWithin_12 ⟨Nat.zero_le _, Nat.zero_le _⟩) (fun r u H locs hp w => ?_)
    obtain ⟨rfl, rfl⟩ := hp
    have w : gw D (gA L sz) s.heap H locs L f := w
    refine lv_iload_n hx hb d_R_isWithin_15 rfl (lv_at hl 1 rfl) ?_
    refine g_ci w (g_runSN (As := [.int (iN ((pX P i))), .int (iN (r0))]) (rest := []) X w (c_H_isNear l (pX_3 hB _) hr0) k_H_isNear X.2.2.2.1 st_H_isNear ⟨(Nat.le_of_ble_eq_true rfl), (Nat.le_of_ble_eq_true rfl)⟩ rfl hl.1 rfl (Nat.le_of_ble_eq_true rfl) d_R_isWithin_16 ⟨Nat.zero_le _, Nat.zero_le _⟩) (fun r u H locs hp w => ?_)
    obtain ⟨rfl, rfl⟩ := hp
    have w : gw D (gA L sz) s.heap H locs L f := w
    refine ri_zeq (a := (bI (-r0 ≤ (pX P i) ∧ (pX P i) ≤ r0))) (tgt := 34) hx hb d_R_isWithin_19 (by decide) rfl (bI_3 _) (fun c19 => ?_) (fun c19 => ?_)
    · skip
      refine lv_iconst (v := iN (0)) hx hb d_R_isWithin_34 (by decide) ?_
      exact g_zret X w hrt hlk d_R_isWithin_35 rfl ⟨by rw [bI_f (fun h => by have q := h i h0 (by omega); first | exact bI_0 c19 q.1 | exact bI_0 (by omega) q.2)], rfl⟩
    · skip
      refine lv_aload_n hx hb d_R_isWithin_22 rfl (lv_at hl 0 rfl) ?_
      refine lv_iload_n hx hb d_R_isWithin_23 rfl (lv_at hl 2 rfl) ?_
      refine g_ci w (g_runV (As := [.int (iN (i))]) (rest := []) X w (c_R_y l ho hr (by unfold i3; omega)) k_R_y v_R_y lk_R_26 ho.1 hr.2.1 rfl ⟨(Nat.le_of_ble_eq_true rfl), (Nat.le_of_ble_eq_true rfl)⟩ rfl hl.1 rfl (Nat.le_of_ble_eq_true rfl) d_R_isWithin_24 ⟨Nat.zero_le _, Nat.zero_le _⟩) (fun r u H locs hp w => ?_)
      obtain ⟨rfl, rfl⟩ := hp
      have w : gw D (gA L sz) s.heap H locs L f := w
      refine lv_iload_n hx hb d_R_isWithin_27 rfl (lv_at hl 1 rfl) ?_
      refine g_ci w (g_runSN (As := [.int (iN ((pY P i))), .int (iN (r0))]) (rest := []) X w (c_H_isNear l (pY_3 hB _) hr0) k_H_isNear X.2.2.2.1 st_H_isNear ⟨(Nat.le_of_ble_eq_true rfl), (Nat.le_of_ble_eq_true rfl)⟩ rfl hl.1 rfl (Nat.le_of_ble_eq_true rfl) d_R_isWithin_28 ⟨Nat.zero_le _, Nat.zero_le _⟩) (fun r u H locs hp w => ?_)
      obtain ⟨rfl, rfl⟩ := hp
      have w : gw D (gA L sz) s.heap H locs L f := w
      refine ri_zne (a := (bI (-r0 ≤ (pY P i) ∧ (pY P i) ≤ r0))) (tgt := 36) hx hb d_R_isWithin_31 (by decide) rfl (bI_3 _) (fun c31 => ?_) (fun c31 => ?_)
      · skip
        refine lv_iinc (v := iN ((i + 1))) (lv' := [(2, .int (iN ((i + 1)))), (0, .ref a), (1, .int (iN (r0)))]) hx hb d_R_isWithin_36 hl (k := 2) rfl (by rw [show (i + 1) = i + (1 : Int) by omega, ← iN_add]; rfl) (by decide) rfl (fun ls hl => ?_)
        refine lv_goto (tgt := 2) hx hb d_R_isWithin_39 (by decide) ?_
        exact ih (i + 1) _ _ _ (by omega) ⟨by omega, by omega, fun j q0 q1 => by by_cases e : j = i; (subst e; exact ⟨bI_n c19, bI_n c31⟩); exact h2 j q0 (by omega)⟩ w (lv_sub hl [1, 2, 0] rfl)
      · skip
        refine lv_iconst (v := iN (0)) hx hb d_R_isWithin_34 (by decide) ?_
        exact g_zret X w hrt hlk d_R_isWithin_35 rfl ⟨by rw [bI_f (fun h => by have q := h i h0 (by omega); first | exact bI_0 c19 q.1 | exact bI_0 (by omega) q.2)], rfl⟩
noncomputable def ordS (P : List Pt) (i : Int) (S : List Pt) (j : Int) : Int := by
  classical
  exact if sd P ≤ i then 1 else if sd S ≤ j then -1 else if bI (gbk (sX P i) (sY P i)) ≠ bI (gbk (sX S j) (sY S j)) then (if gbk (sX P i) (sY P i) then 1 else -1) else sX S j * sY P i - sY S j * sX P i
set_option maxHeartbeats 4000000 in
set_option maxRecDepth 100000 in
theorem c_R_orderOfSides (l : Launch) {D : va_G} {cI cR : ClassId} {L : List Nat} {f : Nat → va_E} {rx ry : Nat → Nat} {a b : Nat} {P S : List Pt} (ho : ro L rx ry a) (hr : rowIs cI rx ry f a P) (ho2 : ro L rx ry b) (hr2 : rowIs cI rx ry f b S) (hB : pb 600 P) (hB2 : pb 600 S) {i : Int} (hi : 0 ≤ i ∧ i ≤ 100) {j : Int} (hj : 0 ≤ j ∧ j ≤ 100) : gMi D cI cR l y_R_orderOfSides (Cond.code y_R_orderOfSides b_R_orderOfSides 5 (some .int) :: lw_g) { frames := 2, cells := 0, slots := 0, locals := 42 } [.ref a, .int (iN (i)), .ref b, .int (iN (j))] L f (fun r u => r = iN (ordS P i S j) ∧ u = (L, f)) := by
  intro sz
  refine g_enter (by decide) rfl (Nat.le_of_ble_eq_true rfl) ?_
  intro p e s m below meth cd ls X hrt hlk hnm hl hsz w
  have X : gx p m cd b_R_orderOfSides 5 s _ "HullSums$Row" D cI cR := X
  have hx := X.1.1
  have hb := X.1.2.1
  have hl : lv_has ls 5 [(0, .ref a), (1, .int (iN (i))), (2, .ref b), (3, .int (iN (j)))] := hl
  have hn48 := hr.1
  have hn482 := hr2.1
  refine lv_iload_n hx hb d_R_orderOfSides_0 rfl (lv_at hl 1 rfl) ?_
  refine lv_aload_n hx hb d_R_orderOfSides_1 rfl (lv_at hl 0 rfl) ?_
  refine g_ci w (g_runV (As := []) (rest := [.int (iN (i))]) X w (c_R_sides l ho hr) k_R_sides v_R_sides lk_R_88 ho.1 hr.2.1 rfl ⟨(Nat.le_of_ble_eq_true rfl), (Nat.le_of_ble_eq_true rfl)⟩ rfl hl.1 rfl (Nat.le_of_ble_eq_true rfl) d_R_orderOfSides_2 ⟨Nat.zero_le _, Nat.zero_le _⟩) (fun r u H locs hp w => ?_)
  obtain ⟨rfl, rfl⟩ := hp
  have w : gw D (gA L sz) s.heap H locs L f := w
  refine ri_clt (a := i) (b := (sd P)) (tgt := 10) hx hb d_R_orderOfSides_5 (by decide) rfl rfl (by unfold i3; omega) (by unfold sd i3; split <;> omega) (fun c5 => ?_) (fun c5 => ?_)
  · skip
    refine lv_iload_n hx hb d_R_orderOfSides_10 rfl (lv_at hl 3 rfl) ?_
    refine lv_aload_n hx hb d_R_orderOfSides_11 rfl (lv_at hl 2 rfl) ?_
    refine g_ci w (g_runV (As := []) (rest := [.int (iN (j))]) X w (c_R_sides l ho2 hr2) k_R_sides v_R_sides lk_R_88 ho2.1 hr2.2.1 rfl ⟨(Nat.le_of_ble_eq_true rfl), (Nat.le_of_ble_eq_true rfl)⟩ rfl hl.1 rfl (Nat.le_of_ble_eq_true rfl) d_R_orderOfSides_12 ⟨Nat.zero_le _, Nat.zero_le _⟩) (fun r u H locs hp w => ?_)
    obtain ⟨rfl, rfl⟩ := hp
    have w : gw D (gA L sz) s.heap H locs L f := w
    refine ri_clt (a := j) (b := (sd S)) (tgt := 20) hx hb d_R_orderOfSides_15 (by decide) rfl rfl (by unfold i3; omega) (by unfold sd i3; split <;> omega) (fun c15 => ?_) (fun c15 => ?_)
    · skip
      refine lv_aload_n hx hb d_R_orderOfSides_20 rfl (lv_at hl 0 rfl) ?_
      refine lv_iload_n hx hb d_R_orderOfSides_21 rfl (lv_at hl 1 rfl) ?_
      refine g_ci w (g_runV (As := [.int (iN (i))]) (rest := []) X w (c_R_sideX l ho hr (by omega)) k_R_sideX v_R_sideX lk_R_73 ho.1 hr.2.1 rfl ⟨(Nat.le_of_ble_eq_true rfl), (Nat.le_of_ble_eq_true rfl)⟩ rfl hl.1 rfl (Nat.le_of_ble_eq_true rfl) d_R_orderOfSides_22 ⟨Nat.zero_le _, Nat.zero_le _⟩) (fun r u H locs hp w => ?_)
      obtain ⟨rfl, rfl⟩ := hp
      have w : gw D (gA L sz) s.heap H locs L f := w
      refine lv_aload_n hx hb d_R_orderOfSides_25 rfl (lv_at hl 0 rfl) ?_
      refine lv_iload_n hx hb d_R_orderOfSides_26 rfl (lv_at hl 1 rfl) ?_
      refine g_ci w (g_runV (As := [.int (iN (i))]) (rest := [.int (iN ((sX P i)))]) X w (c_R_sideY l ho hr (by omega)) k_R_sideY v_R_sideY lk_R_76 ho.1 hr.2.1 rfl ⟨(Nat.le_of_ble_eq_true rfl), (Nat.le_of_ble_eq_true rfl)⟩ rfl hl.1 rfl (Nat.le_of_ble_eq_true rfl) d_R_orderOfSides_27 ⟨Nat.zero_le _, Nat.zero_le _⟩) (fun r u H locs hp w => ?_)
      obtain ⟨rfl, rfl⟩ := hp
      have w : gw D (gA L sz) s.heap H locs L f := w
      refine g_ci w (g_runS (As := [.int (iN ((sX P i))), .int (iN ((sY P i)))]) (rest := []) X w (c_R_goesBack l (by have := hB i; have := hB (nx P i); unfold sX i3; omega) (by have := hB i; have := hB (nx P i); unfold sY i3; omega)) k_R_goesBack lk_R_105 st_R_goesBack ⟨(Nat.le_of_ble_eq_true rfl), (Nat.le_of_ble_eq_true rfl)⟩ rfl hl.1 rfl (Nat.le_of_ble_eq_true rfl) d_R_orderOfSides_30 ⟨Nat.zero_le _, Nat.zero_le _⟩) (fun r u H locs hp w => ?_)
      obtain ⟨rfl, rfl⟩ := hp
      have w : gw D (gA L sz) s.heap H locs L f := w
      refine lv_istore (lv' := [(4, .int (iN ((bI (gbk (sX P i) (sY P i)))))), (0, .ref a), (1, .int (iN (i))), (2, .ref b), (3, .int (iN (j)))]) hx hb d_R_orderOfSides_33 hl (by decide) rfl (fun ls hl => ?_)
      refine lv_iload hx hb d_R_orderOfSides_35 (lv_at hl 0 rfl) ?_
      refine lv_aload_n hx hb d_R_orderOfSides_37 rfl (lv_at hl 3 rfl) ?_
      refine lv_iload_n hx hb d_R_orderOfSides_38 rfl (lv_at hl 4 rfl) ?_
      refine g_ci w (g_runV (As := [.int (iN (j))]) (rest := [.int (iN ((bI (gbk (sX P i) (sY P i)))))]) X w (c_R_sideX l ho2 hr2 (by omega)) k_R_sideX v_R_sideX lk_R_73 ho2.1 hr2.2.1 rfl ⟨(Nat.le_of_ble_eq_true rfl), (Nat.le_of_ble_eq_true rfl)⟩ rfl hl.1 rfl (Nat.le_of_ble_eq_true rfl) d_R_orderOfSides_39 ⟨Nat.zero_le _, Nat.zero_le _⟩) (fun r u H locs hp w => ?_)
      obtain ⟨rfl, rfl⟩ := hp
      have w : gw D (gA L sz) s.heap H locs L f := w
      refine lv_aload_n hx hb d_R_orderOfSides_42 rfl (lv_at hl 3 rfl) ?_
      refine lv_iload_n hx hb d_R_orderOfSides_43 rfl (lv_at hl 4 rfl) ?_
      refine g_ci w (g_runV (As := [.int (iN (j))]) (rest := [.int (iN ((sX S j))), .int (iN ((bI (gbk (sX P i) (sY P i)))))]) X w (c_R_sideY l ho2 hr2 (by omega)) k_R_sideY v_R_sideY lk_R_76 ho2.1 hr2.2.1 rfl ⟨(Nat.le_of_ble_eq_true rfl), (Nat.le_of_ble_eq_true rfl)⟩ rfl hl.1 rfl (Nat.le_of_ble_eq_true rfl) d_R_orderOfSides_44 ⟨Nat.zero_le _, Nat.zero_le _⟩) (fun r u H locs hp w => ?_)
      obtain ⟨rfl, rfl⟩ := hp
      have w : gw D (gA L sz) s.heap H locs L f := w
      refine g_ci w (g_runS (As := [.int (iN ((sX S j))), .int (iN ((sY S j)))]) (rest := [.int (iN ((bI (gbk (sX P i) (sY P i)))))]) X w (c_R_goesBack l (by have := hB2 j; have := hB2 (nx S j); unfold sX i3; omega) (by have := hB2 j; have := hB2 (nx S j); unfold sY i3; omega)) k_R_goesBack lk_R_105 st_R_goesBack ⟨(Nat.le_of_ble_eq_true rfl), (Nat.le_of_ble_eq_true rfl)⟩ rfl hl.1 rfl (Nat.le_of_ble_eq_true rfl) d_R_orderOfSides_47 ⟨Nat.zero_le _, Nat.zero_le _⟩) (fun r u H locs hp w => ?_)
      obtain ⟨rfl, rfl⟩ := hp
      have w : gw D (gA L sz) s.heap H locs L f := w
      refine ri_ceq (a := (bI (gbk (sX P i) (sY P i)))) (b := (bI (gbk (sX S j) (sY S j)))) (tgt := 64) hx hb d_R_orderOfSides_50 (by decide) rfl rfl (bI_3 _) (bI_3 _) (fun c50 => ?_) (fun c50 => ?_)
      · skip
        refine lv_aload_n hx hb d_R_orderOfSides_64 rfl (lv_at hl 3 rfl) ?_
        refine lv_iload_n hx hb d_R_orderOfSides_65 rfl (lv_at hl 4 rfl) ?_
        refine g_ci w (g_runV (As := [.int (iN (j))]) (rest := []) X w (c_R_sideX l ho2 hr2 (by omega)) k_R_sideX v_R_sideX lk_R_73 ho2.1 hr2.2.1 rfl ⟨(Nat.le_of_ble_eq_true rfl), (Nat.le_of_ble_eq_true rfl)⟩ rfl hl.1 rfl (Nat.le_of_ble_eq_true rfl) d_R_orderOfSides_66 ⟨Nat.zero_le _, Nat.zero_le _⟩) (fun r u H locs hp w => ?_)
        obtain ⟨rfl, rfl⟩ := hp
        have w : gw D (gA L sz) s.heap H locs L f := w
        refine lv_aload_n hx hb d_R_orderOfSides_69 rfl (lv_at hl 1 rfl) ?_
        refine lv_iload_n hx hb d_R_orderOfSides_70 rfl (lv_at hl 2 rfl) ?_
        refine g_ci w (g_runV (As := [.int (iN (i))]) (rest := [.int (iN ((sX S j)))]) X w (c_R_sideY l ho hr (by omega)) k_R_sideY v_R_sideY lk_R_76 ho.1 hr.2.1 rfl ⟨(Nat.le_of_ble_eq_true rfl), (Nat.le_of_ble_eq_true rfl)⟩ rfl hl.1 rfl (Nat.le_of_ble_eq_true rfl) d_R_orderOfSides_71 ⟨Nat.zero_le _, Nat.zero_le _⟩) (fun r u H locs hp w => ?_)
        obtain ⟨rfl, rfl⟩ := hp
        have w : gw D (gA L sz) s.heap H locs L f := w
        refine ri_mul (a := (sX S j)) (b := (sY P i)) hx hb d_R_orderOfSides_74 rfl rfl ?_
        refine lv_aload_n hx hb d_R_orderOfSides_75 rfl (lv_at hl 3 rfl) ?_
        refine lv_iload_n hx hb d_R_orderOfSides_76 rfl (lv_at hl 4 rfl) ?_
        refine g_ci w (g_runV (As := [.int (iN (j))]) (rest := [.int (iN (((sX S j) * (sY P i))))]) X w (c_R_sideY l ho2 hr2 (by omega)) k_R_sideY v_R_sideY lk_R_76 ho2.1 hr2.2.1 rfl ⟨(Nat.le_of_ble_eq_true rfl), (Nat.le_of_ble_eq_true rfl)⟩ rfl hl.1 rfl (Nat.le_of_ble_eq_true rfl) d_R_orderOfSides_77 ⟨Nat.zero_le _, Nat.zero_le _⟩) (fun r u H locs hp w => ?_)
        obtain ⟨rfl, rfl⟩ := hp
        have w : gw D (gA L sz) s.heap H locs L f := w
        refine lv_aload_n hx hb d_R_orderOfSides_80 rfl (lv_at hl 1 rfl) ?_
        refine lv_iload_n hx hb d_R_orderOfSides_81 rfl (lv_at hl 2 rfl) ?_
        refine g_ci w (g_runV (As := [.int (iN (i))]) (rest := [.int (iN ((sY S j))), .int (iN (((sX S j) * (sY P i))))]) X w (c_R_sideX l ho hr (by omega)) k_R_sideX v_R_sideX lk_R_73 ho.1 hr.2.1 rfl ⟨(Nat.le_of_ble_eq_true rfl), (Nat.le_of_ble_eq_true rfl)⟩ rfl hl.1 rfl (Nat.le_of_ble_eq_true rfl) d_R_orderOfSides_82 ⟨Nat.zero_le _, Nat.zero_le _⟩) (fun r u H locs hp w => ?_)
        obtain ⟨rfl, rfl⟩ := hp
        have w : gw D (gA L sz) s.heap H locs L f := w
        refine ri_mul (a := (sY S j)) (b := (sX P i)) hx hb d_R_orderOfSides_85 rfl rfl ?_
        refine ri_sub (a := ((sX S j) * (sY P i))) (b := ((sY S j) * (sX P i))) hx hb d_R_orderOfSides_86 rfl rfl ?_
        exact g_iret X w hrt hlk d_R_orderOfSides_87 ⟨by unfold ordS; rw [if_neg (by omega), if_neg (by omega), if_neg (by simpa using c50)], rfl⟩
      · skip
        refine lv_iload hx hb d_R_orderOfSides_53 (lv_at hl 0 rfl) ?_
        refine ri_zeq (a := (bI (gbk (sX P i) (sY P i)))) (tgt := 62) hx hb d_R_orderOfSides_55 (by decide) rfl (bI_3 _) (fun c55 => ?_) (fun c55 => ?_)
        · skip
          refine lv_iconst (v := iN (-1)) hx hb d_R_orderOfSides_62 (by decide) ?_
          exact g_iret X w hrt hlk d_R_orderOfSides_63 ⟨by unfold ordS; rw [if_neg (by omega), if_neg (by omega), if_pos c50, if_neg (bI_0 c55)], rfl⟩
        · skip
          refine lv_iconst (v := iN (1)) hx hb d_R_orderOfSides_58 (by decide) ?_
          refine lv_goto (tgt := 63) hx hb d_R_orderOfSides_59 (by decide) ?_
          exact g_iret X w hrt hlk d_R_orderOfSides_63 ⟨by unfold ordS; rw [if_neg (by omega), if_neg (by omega), if_pos c50, if_pos (bI_n c55)], rfl⟩
    · skip
      refine lv_iconst (v := iN (-1)) hx hb d_R_orderOfSides_18 (by decide) ?_
      exact g_iret X w hrt hlk d_R_orderOfSides_19 ⟨by unfold ordS; rw [if_neg (by omega), if_pos (by omega)], rfl⟩
  · skip
    refine lv_iconst (v := iN (1)) hx hb d_R_orderOfSides_8 (by decide) ?_
    exact g_iret X w hrt hlk d_R_orderOfSides_9 ⟨by unfold ordS; rw [if_pos (by omega)], rfl⟩
