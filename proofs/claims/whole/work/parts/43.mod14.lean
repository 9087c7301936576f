/-! THE REFERENCE: width; the tests of the circle -/
def ndS (K : Int) (S : Nat → List Pt) : Prop := ∀ i : Nat, (i : Int) < K → (S i).Nodup
theorem mul_self_nn (a : Int) : 0 ≤ a * a := by
  rcases Int.le_total 0 a with h | h
  · exact Int.mul_nonneg h h
  · exact Int.mul_nonneg_of_nonpos_of_nonpos h h
theorem mul_self_0 {a : Int} (h : a * a = 0) : a = 0 := by rcases Int.mul_eq_zero.mp h with h | h <;> exact h
theorem nd_inj {W : List Pt} (h : W.Nodup) {i j : Int} (hi : 0 ≤ i ∧ i < W.length) (hj : 0 ≤ j ∧ j < W.length) (hx : pX W i = pX W j) (hy : pY W i = pY W j) : i = j := by
  obtain ⟨a, p, ea, hp, ex, ey⟩ := px_get hi.1 hi.2
  obtain ⟨b, q, eb, hq, fx, fy⟩ := px_get hj.1 hj.2
  have e : p = q := Prod.ext (by rw [← ex, ← fx, hx]) (by rw [← ey, ← fy, hy])
  have hl := (List.getElem?_eq_some_iff.mp hp).1
  have := (List.getElem?_inj (l := W) (i := a) (j := b) hl h).mp (by rw [hp, hq, e])
  omega
theorem sq_pos {W : List Pt} (h : W.Nodup) {i j : Int} (hi : 0 ≤ i ∧ i < W.length) (hj : 0 ≤ j ∧ j < W.length) (hij : i ≠ j) : 0 < sq W i j := by
  have a := mul_self_nn (pX W i - pX W j); have b := mul_self_nn (pY W i - pY W j)
  unfold sq
  by_cases e : (pX W i - pX W j) * (pX W i - pX W j) + (pY W i - pY W j) * (pY W i - pY W j) = 0
  · have e1 := mul_self_0 (show (pX W i - pX W j) * (pX W i - pX W j) = 0 by omega)
    have e2 := mul_self_0 (show (pY W i - pY W j) * (pY W i - pY W j) = 0 by omega)
    exact absurd (nd_inj h hi hj (by omega) (by omega)) hij
  · omega
noncomputable def wmJ (W : List Pt) (i : Int) : Nat → L3 → L3
  | 0, s => s
  | j + 1, s => lt3 (wmJ W i j s) (spR W i j * spR W i j) (sq W i j)
noncomputable def wmL (W : List Pt) : Nat → L3
  | 0 => (0, 1, 0)
  | n + 1 => wmJ W n n (wmL W n)
theorem spR2_b {W : List Pt} (h : pb 300 W) (i j : Int) : 0 ≤ spR W i j * spR W i j ∧ spR W i j * spR W i j ≤ 2073600000000 := by
  have a := spR_b h i j
  have b := mbc (a := spR W i j) (b := spR W i j) 1440000 1440000 2073600000000 (by omega) (by omega) (by omega) (by omega) (by decide)
  have := mul_self_nn (spR W i j); omega
theorem wmJ_b {W : List Pt} (h : pb 300 W) (i : Int) (n : Nat) {s : L3} (hs : l3b 2073600000000 720000 s) : l3b 2073600000000 720000 (wmJ W i n s) := by
  induction n with
  | zero => exact hs
  | succ n ih => exact lt3_b ih (spR2_b h i n) (sq_b3 h i n)
theorem wmL_b {W : List Pt} (h : pb 300 W) (n : Nat) : l3b 2073600000000 720000 (wmL W n) := by
  induction n with
  | zero => unfold wmL l3b; dsimp only; omega
  | succ n ih => exact wmJ_b h n n ih
theorem lt3_p {s : L3} {no nu : Int} (h : 0 < s.2.1) (h2 : 0 < nu) : 0 < (lt3 s no nu).2.1 := by
  unfold lt3; split
  · exact h2
  · exact h
theorem wmJ_p {W : List Pt} (h : W.Nodup) {i : Int} (n : Nat) {s : L3} (hs : 0 < s.2.1) (hi : (n : Int) ≤ i ∧ i < W.length) : 0 < (wmJ W i n s).2.1 := by
  induction n with
  | zero => exact hs
  | succ n ih => exact lt3_p (ih (by omega)) (sq_pos h (by omega) (by omega) (by omega))
theorem wmL_p {W : List Pt} (h : W.Nodup) (n : Nat) (hn : n ≤ W.length) : 0 < (wmL W n).2.1 := by
  induction n with
  | zero => unfold wmL; decide
  | succ n ih => exact wmJ_p h n (ih (by omega)) (by omega)

set_option maxHeartbeats 4000000 in
set_option maxRecDepth 100000 in
theorem c_M_width (l : Launch) {D : va_G} {cI cR : ClassId} {L : List Nat} {f : Nat → va_E} {mo : Nat} {A : Nat → Nat} {v : Nat → Int} {F : Nat → Nat → Int} (g : mg L mo A) {K t1 t2 : Int} {S : Nat → List Pt} (hI0 : mInv v F K S) (h11 : v 11 = t1) (h12 : v 12 = t2) (hok : okS K S) (hhu : hulS K S) {z : Int} (hz : i3 z) (hnd : ndS K S) : gMi D cI cR l y_M_width (Cond.code y_M_width b_M_width 9 (some .int) :: lw_g) { frames := 4, cells := 0, slots := 0, locals := 102 } [.ref mo, .int (iN (z))] L (mSt cI mo A f v F) (fun r u => r = iN (if (0 ≤ z ∧ z < K) then (if (S z.toNat).length = 0 then -3 else 1) else -1) ∧ crT ((0 ≤ z ∧ z < K) ∧ (S z.toNat).length ≠ 0) (frac1 (wmL (S z.toNat) (S z.toNat).length).1 (wmL (S z.toNat) (S z.toNat).length).2.1) (frac2 (wmL (S z.toNat) (S z.toNat).length).1 (wmL (S z.toNat) (S z.toNat).length).2.1) t1 t2 (fun p q => mpost L cI mo A f K p q S u)) := by
  intro sz
  refine g_enter (by decide) rfl (Nat.le_of_ble_eq_true rfl) ?_
  intro p e s m below meth cd ls X hrt hlk hnm hl hsz w
  have X : gx p m cd b_M_width 9 s _ "HullSumsModel" D cI cR := X
  have hx := X.1.1
  have hb := X.1.2.1
  have hl : lv_has ls 9 [(0, .ref mo), (1, .int (iN (z)))] := hl
  have hI1 := hI0
  obtain ⟨hi0, hi1, hi2, hi3, hi4⟩ := hI1
  refine lv_aload_n hx hb d_M_width_0 rfl (lv_at hl 0 rfl) ?_
  refine lv_iload_n hx hb d_M_width_1 rfl (lv_at hl 1 rfl) ?_
  refine g_ci w (g_runV (As := [.int (iN (z))]) (rest := []) X w (c_M_is l g (v := v) (F := F) hi0 (by rw [hi1]; unfold i3; omega) (z := z) hz) k_M_is v_M_is lk_M_79 g.1.1 (show mSt cI mo A f v F mo = .inr (4, _) from mS_m) rfl ⟨(Nat.le_of_ble_eq_true rfl), (Nat.le_of_ble_eq_true rfl)⟩ rfl hl.1 rfl (Nat.le_of_ble_eq_true rfl) d_M_width_2 ⟨(Nat.le_of_ble_eq_true rfl), (Nat.le_of_ble_eq_true rfl)⟩) (fun r u H locs hp w => ?_)
  obtain ⟨hr9, rfl⟩ := hp
  rw [hi1] at hr9
  subst hr9
  have w : gw D (gA L sz) s.heap H locs L (mSt cI mo A f v F) := w
  refine ri_zne (a := (bI (0 ≤ z ∧ z < K))) (tgt := 10) hx hb d_M_width_5 (by decide) rfl (bI_3 _) (fun c5 => ?_) (fun c5 => ?_)
  · skip
    refine lv_aload_n hx hb d_M_width_10 rfl (lv_at hl 0 rfl) ?_
    refine lv_iload_n hx hb d_M_width_11 rfl (lv_at hl 1 rfl) ?_
    have hzr : 0 ≤ z ∧ z < K := bI_n (by omega)
    obtain ⟨Wl, eWl⟩ : ∃ q, q = S z.toNat := ⟨_, rfl⟩
    obtain ⟨Hu, eHu⟩ : ∃ q, q = hullF (S z.toNat) := ⟨_, rfl⟩
    have hoz := hok z.toNat (by omega)
    have hhz : isHL Wl Hu := by rw [eWl, eHu]; exact hhu z.toNat (by omega)
    have hH576 := hhz.2.2.1
    have hHb : pb 600 Hu := by rw [eHu]; exact pb_of (by decide) (pbl_le (by decide) (pbl_hull hoz.2))
    have hHb3 : pb 300 Hu := by rw [eHu]; exact pb_of (by decide) (pbl_hull hoz.2)
    have hWb : pb 300 Wl := by rw [eWl]; exact pb_of (by decide) hoz.2
    have hW24 : Wl.length ≤ 24 := by rw [eWl]; exact hoz.1
    refine g_cv w (g_runV (As := [.int (iN (z))]) (rest := []) X w ((by have h9 := c_M_load (D := D) (cR := cR) (cI := cI) (f := f) l g hI0 (z := z) hzr hoz.1 (pbl_le (by decide) hoz.2) (Hu := Hu) (by rw [← eWl]; exact hhz); rw [← eWl] at h9; exact h9)) k_M_load v_M_load lk_M_87 g.1.1 (show mSt cI mo A f v F mo = .inr (4, _) from mS_m) rfl ⟨(Nat.le_of_ble_eq_true rfl), (Nat.le_of_ble_eq_true rfl)⟩ rfl hl.1 rfl (Nat.le_of_ble_eq_true rfl) d_M_width_12 ⟨(Nat.le_of_ble_eq_true rfl), (Nat.le_of_ble_eq_true rfl)⟩) (fun u H locs hp w => ?_)
    obtain ⟨v8, F8, rfl, hL8, hn8, hf8⟩ := hp
    have w : gw D (gA L sz) s.heap H locs L (mSt cI mo A f v8 F8) := w
    obtain ⟨h7, h10, hwF, hhF⟩ := id hL8
    have hI8 := mInv_k hI0 (hn8 0 (by decide) (by decide)) (hn8 1 (by decide) (by decide)) hf8
    have h118 := (hn8 11 (by decide) (by decide)).trans h11
    have h128 := (hn8 12 (by decide) (by decide)).trans h12
    refine lv_aload_n hx hb d_M_width_15 rfl (lv_at hl 0 rfl) ?_
    refine gk_get X w g.1.1 (show (mSt cI mo A f v8 F8) mo = .inr (4, _) from mS_m) rfl in_M 7 (by decide) lk_M_45 rfl d_M_width_16 ?_
    rw [show v8 7 = (Wl.length : Int) from h7]
    refine ri_zne (a := (Wl.length : Int)) (tgt := 25) hx hb d_M_width_19 (by decide) rfl (by unfold i3; omega) (fun c19 => ?_) (fun c19 => ?_)
    · skip
      refine lv_iconst (v := iN (0)) hx hb d_M_width_25 (by decide) ?_
      refine lv_istore_n (lv' := [(2, .int (iN (0))), (0, .ref mo), (1, .int (iN (z)))]) hx hb d_M_width_26 rfl hl (by decide) rfl (fun ls hl => ?_)
      refine lv_aload_n hx hb d_M_width_27 rfl (lv_at hl 1 rfl) ?_
      refine lv_lconst (v := jN (0)) hx hb d_M_width_28 (by decide) ?_
      refine gk_put X w g.1.1 (show (mSt cI mo A f v8 F8) mo = .inr (4, _) from mS_m) rfl in_M ty_M tyok_M nm_M 13 (by decide) lk_M_130 rfl (ty := .long) (by decide +kernel) rfl rfl (Nat.le_of_ble_eq_true rfl) d_M_width_29 (fun H locs w => ?_)
      obtain ⟨v1, hv1⟩ : ∃ q : Nat → Int, q = va_up v8 13 (0) := ⟨_, rfl⟩
      have v1s : v1 13 = 0 := by rw [hv1, va_up_self]
      have v1n : ∀ j, j ≠ 13 → v1 j = v8 j := fun j hj => by rw [hv1, va_up_ne _ _ hj]
      have w : gw D (gA L sz) s.heap H locs L (mSt cI mo A f v1 F8) := by rw [hv1, ← mU_m (v := v8)]; exact w
      refine lv_aload_n hx hb d_M_width_32 rfl (lv_at hl 1 rfl) ?_
      refine lv_lconst (v := jN (1)) hx hb d_M_width_33 (by decide) ?_
      refine gk_put X w g.1.1 (show (mSt cI mo A f v1 F8) mo = .inr (4, _) from mS_m) rfl in_M ty_M tyok_M nm_M 14 (by decide) lk_M_133 rfl (ty := .long) (by decide +kernel) rfl rfl (Nat.le_of_ble_eq_true rfl) d_M_width_34 (fun H locs w => ?_)
      obtain ⟨v2, hv2⟩ : ∃ q : Nat → Int, q = va_up v1 14 (1) := ⟨_, rfl⟩
      have v2s : v2 14 = 1 := by rw [hv2, va_up_self]
      have v2n : ∀ j, j ≠ 14 → v2 j = v1 j := fun j hj => by rw [hv2, va_up_ne _ _ hj]
      have w : gw D (gA L sz) s.heap H locs L (mSt cI mo A f v2 F8) := by rw [hv2, ← mU_m (v := v1)]; exact w
      refine lv_iconst (v := iN (0)) hx hb d_M_width_37 (by decide) ?_
      refine lv_istore_n (lv' := [(3, .int (iN (0))), (2, .int (iN (0))), (0, .ref mo), (1, .int (iN (z)))]) hx hb d_M_width_38 rfl hl (by decide) rfl (fun ls hl => ?_)
      have hndz : Wl.Nodup := by rw [eWl]; exact hnd z.toNat (by omega)
      refine g_loop (σ := Int × Int × (Nat → Int)) (fun z9 => ((Wl.length : Int) - z9.1).toNat) (fun z9 => [(0, .ref mo), (1, .int (iN (z))), (2, .int (iN (z9.2.1))), (3, .int (iN (z9.1)))]) L (fun z9 => (mSt cI mo A f z9.2.2 F8)) (fun z9 => 0 ≤ z9.1 ∧ z9.1 ≤ Wl.length ∧ (z9.2.2 13, z9.2.2 14, z9.2.1) = wmL Wl z9.1.toNat ∧ (∀ q, q ≠ 13 → q ≠ 14 → q ≠ 17 → z9.2.2 q = v8 q)) ?_ (0, 0, v2) _ _ _ ⟨by (try dsimp only); omega, by (try dsimp only); omega, by (try dsimp only); rw [v2n 13 (by decide), v1s, v2s]; rfl, fun q q1 q2 _ => (v2n q q2).trans (v1n q q1)⟩ w (lv_sub hl [2, 3, 1, 0] rfl)
      intro z9 H locs ls hI w hl ih
      obtain ⟨i, fl, vA⟩ := z9
      have hl : lv_has ls 9 [(0, .ref mo), (1, .int (iN (z))), (2, .int (iN (fl))), (3, .int (iN (i)))] := hl
      have w : gw D (gA L sz) s.heap H locs L ((mSt cI mo A f vA F8)) := w
      have hI : 0 ≤ i ∧ i ≤ Wl.length ∧ (vA 13, vA 14, fl) = wmL Wl i.toNat ∧ (∀ q, q ≠ 13 → q ≠ 14 → q ≠ 17 → vA q = v8 q) := hI
      obtain ⟨h0, h1, h2, hnA⟩ := hI
      have h7o := h7
      have h10o := h10
      have h7 : vA 7 = Wl.length := (hnA 7 (by decide) (by decide) (by decide)).trans h7o
      have hmb := wmL_b hWb i.toNat
      rw [← h2] at hmb
      refine lv_iload_n hx hb d_M_width_39 rfl (lv_at hl 3 rfl) ?_
      refine lv_aload_n hx hb d_M_width_40 rfl (lv_at hl 0 rfl) ?_
      refine gk_get X w g.1.1 (show (mSt cI mo A f vA F8) mo = .inr (4, _) from mS_m) rfl in_M 7 (by decide) lk_M_45 rfl d_M_width_41 ?_
      rw [show vA 7 = (Wl.length : Int) from h7]
      refine ri_cge (a := i) (b := (Wl.length : Int)) (tgt := 157) hx hb d_M_width_44 (by decide) rfl rfl (by unfold i3; omega) (by unfold i3; omega) (fun c44 => ?_) (fun c44 => ?_)
      · skip
        refine lv_aload_n hx hb d_M_width_157 rfl (lv_at hl 0 rfl) ?_
        refine lv_aload_n hx hb d_M_width_158 rfl (lv_at hl 0 rfl) ?_
        refine gk_get X w g.1.1 (show (mSt cI mo A f vA F8) mo = .inr (4, _) from mS_m) rfl in_M 13 (by decide) lk_M_130 rfl d_M_width_159 ?_
        refine lv_aload_n hx hb d_M_width_162 rfl (lv_at hl 0 rfl) ?_
        refine gk_get X w g.1.1 (show (mSt cI mo A f vA F8) mo = .inr (4, _) from mS_m) rfl in_M 14 (by decide) lk_M_133 rfl d_M_width_163 ?_
        refine g_cv w (g_runV (As := [.long (jN ((vA 13))), .long (jN ((vA 14)))]) (rest := []) X w (c_M_tell l g (v := vA) (F := F8) (x := (vA 13)) (y := (vA 14)) (by unfold l3b at hmb; dsimp only at hmb; unfold i6; omega) (by unfold l3b at hmb; dsimp only at hmb; have := wmL_p hndz i.toNat (by omega); rw [← h2] at this; dsimp only at this; omega)) k_M_tell v_M_tell lk_M_143 g.1.1 (show (mSt cI mo A f vA F8) mo = .inr (4, _) from mS_m) rfl ⟨(Nat.le_of_ble_eq_true rfl), (Nat.le_of_ble_eq_true rfl)⟩ rfl hl.1 rfl (Nat.le_of_ble_eq_true rfl) d_M_width_166 ⟨(Nat.le_of_ble_eq_true rfl), (Nat.le_of_ble_eq_true rfl)⟩) (fun u H locs hp w => ?_)
        obtain ⟨vT, rfl, eT1, eT2, hT⟩ := hp
        have w : gw D (gA L sz) s.heap H locs L (mSt cI mo A f vT F8) := w
        refine lv_iconst (v := iN (1)) hx hb d_M_width_169 (by decide) ?_
        have e13 : vA 13 = (wmL Wl Wl.length).1 := by rw [← show i.toNat = Wl.length by omega, ← h2]
        have e14 : vA 14 = (wmL Wl Wl.length).2.1 := by rw [← show i.toNat = Wl.length by omega, ← h2]
        exact g_iret X w hrt hlk d_M_width_170 ⟨by rw [if_pos hzr, ← eWl, if_neg (by omega)], by unfold crT; rw [← eWl, if_pos ⟨hzr, by omega⟩]; exact ⟨vT, F8, rfl, mInv_k hI8 ((hT 0 (by decide) (by decide)).trans (hnA 0 (by decide) (by decide) (by decide))) ((hT 1 (by decide) (by decide)).trans (hnA 1 (by decide) (by decide) (by decide))) (fun _ _ => rfl), by rw [eT1, e13, e14], by rw [eT2, e13, e14]⟩⟩
      · skip
        refine lv_iconst (v := iN (0)) hx hb d_M_width_47 (by decide) ?_
        refine lv_istore (lv' := [(4, .int (iN (0))), (0, .ref mo), (1, .int (iN (z))), (2, .int (iN (fl))), (3, .int (iN (i)))]) hx hb d_M_width_48 hl (by decide) rfl (fun ls hl => ?_)
        refine g_loop (σ := Int × Int × (Nat → Int)) (fun z9 => (i - z9.1).toNat) (fun z9 => [(0, .ref mo), (1, .int (iN (z))), (2, .int (iN (z9.2.1))), (3, .int (iN (i))), (4, .int (iN (z9.1)))]) L (fun z9 => (mSt cI mo A f z9.2.2 F8)) (fun z9 => 0 ≤ z9.1 ∧ z9.1 ≤ i ∧ (z9.2.2 13, z9.2.2 14, z9.2.1) = wmJ Wl i z9.1.toNat (vA 13, vA 14, fl) ∧ (∀ q, q ≠ 13 → q ≠ 14 → q ≠ 17 → z9.2.2 q = v8 q)) ?_ (0, fl, vA) _ _ _ ⟨by (try dsimp only); omega, by (try dsimp only); omega, rfl, hnA⟩ w (lv_sub hl [1, 2, 3, 4, 0] rfl)
        intro z9 H locs ls hI w hl ih2
        obtain ⟨j, fl2, vB⟩ := z9
        have hl : lv_has ls 9 [(0, .ref mo), (1, .int (iN (z))), (2, .int (iN (fl2))), (3, .int (iN (i))), (4, .int (iN (j)))] := hl
        have w : gw D (gA L sz) s.heap H locs L ((mSt cI mo A f vB F8)) := w
        have hI : 0 ≤ j ∧ j ≤ i ∧ (vB 13, vB 14, fl2) = wmJ Wl i j.toNat (vA 13, vA 14, fl) ∧ (∀ q, q ≠ 13 → q ≠ 14 → q ≠ 17 → vB q = v8 q) := hI
        obtain ⟨k0, k1, k2, hnB⟩ := hI
        have h7 : vB 7 = Wl.length := (hnB 7 (by decide) (by decide) (by decide)).trans h7o
        have hLB : mLd vB F8 Wl Hu := ⟨h7, (hnB 10 (by decide) (by decide) (by decide)).trans h10o, hwF, hhF⟩
        have hjb := wmJ_b hWb i j.toNat hmb
        rw [← k2] at hjb
        have hqb := sq_b3 hWb i j
        have hrb := spR2_b hWb i j
        have h6 := lt3_6 (A := 2073600000000) (B := 720000) (by decide) hjb hrb hqb
        dsimp only at h6
        have hfl : fl2 = 0 ∨ fl2 = 1 := hjb.2.2.2.2
        refine lv_iload hx hb d_M_width_50 (lv_at hl 4 rfl) ?_
        refine lv_iload_n hx hb d_M_width_52 rfl (lv_at hl 3 rfl) ?_
        refine ri_cge (a := j) (b := i) (tgt := 151) hx hb d_M_width_53 (by decide) rfl rfl (by unfold i3; omega) (by unfold i3; omega) (fun c53 => ?_) (fun c53 => ?_)
        · skip
          refine lv_iinc (v := iN ((i + 1))) (lv' := [(3, .int (iN ((i + 1)))), (0, .ref mo), (1, .int (iN (z))), (2, .int (iN (fl2))), (4, .int (iN (j)))]) hx hb d_M_width_151 hl (k := 3) rfl (by rw [show (i + 1) = i + (1 : Int) by omega, ← iN_add]; rfl) (by decide) rfl (fun ls hl => ?_)
          refine lv_goto (tgt := 39) hx hb d_M_width_154 (by decide) ?_
          have hI' : 0 ≤ (i + 1) ∧ (i + 1) ≤ Wl.length ∧ (vB 13, vB 14, fl2) = wmL Wl (i + 1).toNat ∧ (∀ q, q ≠ 13 → q ≠ 14 → q ≠ 17 → vB q = v8 q) := ⟨by omega, by omega, by rw [tn_s h0]; unfold wmL; rw [← h2, tn_c h0, k2, show j = i by omega], hnB⟩
          exact ih ((i + 1), fl2, vB) _ _ _ (by omega) hI' w (lv_sub hl [1, 2, 3, 0] rfl)
        · skip
          refine lv_aload_n hx hb d_M_width_56 rfl (lv_at hl 0 rfl) ?_
          refine lv_iload_n hx hb d_M_width_57 rfl (lv_at hl 3 rfl) ?_
          refine lv_iload hx hb d_M_width_58 (lv_at hl 4 rfl) ?_
          refine g_cv w (g_runV (As := [.int (iN (i)), .int (iN (j))]) (rest := []) X w (c_M_spread l g (v := vB) (F := F8) hLB hH576 hHb hWb hW24 (i := i) (j := j) (by omega) (by omega)) k_M_spread v_M_spread lk_M_136 g.1.1 (show (mSt cI mo A f vB F8) mo = .inr (4, _) from mS_m) rfl ⟨(Nat.le_of_ble_eq_true rfl), (Nat.le_of_ble_eq_true rfl)⟩ rfl hl.1 rfl (Nat.le_of_ble_eq_true rfl) d_M_width_60 ⟨(Nat.le_of_ble_eq_true rfl), (Nat.le_of_ble_eq_true rfl)⟩) (fun u H locs hp w => ?_)
          obtain ⟨vS, rfl, eS17, hS⟩ := hp
          have w : gw D (gA L sz) s.heap H locs L (mSt cI mo A f vS F8) := w
          have eS13 := hS 13 (by decide)
          have eS14 := hS 14 (by decide)
          have eS7 := hS 7 (by decide)
          refine lv_aload_n hx hb d_M_width_63 rfl (lv_at hl 0 rfl) ?_
          refine gk_get X w g.1.1 (show (mSt cI mo A f vS F8) mo = .inr (4, _) from mS_m) rfl in_M 5 (by decide) lk_M_19 rfl d_M_width_64 ?_
          refine lv_iload_n hx hb d_M_width_67 rfl (lv_at hl 3 rfl) ?_
          refine gk_iald X w 0 g.1.2.2.2.2.1 (mS_5 g) rfl (vin (by omega) (show (i : Int) < 576 by have h9 : (i : Int) < Wl.length := (by omega); omega) (by decide)) d_M_width_68 ?_
          rw [vcl (z := i) (by omega) (by have h9 : (i : Int) < Wl.length := (by omega); omega), wld_x hwF (i := i) (by omega) (by omega)]
          refine ri_i2l (a := (pX Wl i)) hx hb d_M_width_69 rfl (by have := hWb i; have := hWb j; unfold i3; omega) ?_
          refine lv_aload_n hx hb d_M_width_70 rfl (lv_at hl 0 rfl) ?_
          refine gk_get X w g.1.1 (show (mSt cI mo A f vS F8) mo = .inr (4, _) from mS_m) rfl in_M 6 (by decide) lk_M_22 rfl d_M_width_71 ?_
          refine lv_iload_n hx hb d_M_width_74 rfl (lv_at hl 3 rfl) ?_
          refine gk_iald X w 0 g.1.2.2.2.2.2.1 (mS_6 g) rfl (vin (by omega) (show (i : Int) < 576 by have h9 : (i : Int) < Wl.length := (by omega); omega) (by decide)) d_M_width_75 ?_
          rw [vcl (z := i) (by omega) (by have h9 : (i : Int) < Wl.length := (by omega); omega), wld_y hwF (i := i) (by omega) (by omega)]
          refine ri_i2l (a := (pY Wl i)) hx hb d_M_width_76 rfl (by have := hWb i; have := hWb j; unfold i3; omega) ?_
          refine lv_aload_n hx hb d_M_width_77 rfl (lv_at hl 0 rfl) ?_
          refine gk_get X w g.1.1 (show (mSt cI mo A f vS F8) mo = .inr (4, _) from mS_m) rfl in_M 5 (by decide) lk_M_19 rfl d_M_width_78 ?_
          refine lv_iload hx hb d_M_width_81 (lv_at hl 4 rfl) ?_
          refine gk_iald X w 0 g.1.2.2.2.2.1 (mS_5 g) rfl (vin (by omega) (show (j : Int) < 576 by have h9 : (j : Int) < Wl.length := (by omega); omega) (by decide)) d_M_width_83 ?_
          rw [vcl (z := j) (by omega) (by have h9 : (j : Int) < Wl.length := (by omega); omega), wld_x hwF (i := j) (by omega) (by omega)]
          refine ri_i2l (a := (pX Wl j)) hx hb d_M_width_84 rfl (by have := hWb i; have := hWb j; unfold i3; omega) ?_
          refine lv_aload_n hx hb d_M_width_85 rfl (lv_at hl 0 rfl) ?_
          refine gk_get X w g.1.1 (show (mSt cI mo A f vS F8) mo = .inr (4, _) from mS_m) rfl in_M 6 (by decide) lk_M_22 rfl d_M_width_86 ?_
          refine lv_iload hx hb d_M_width_89 (lv_at hl 4 rfl) ?_
          refine gk_iald X w 0 g.1.2.2.2.2.2.1 (mS_6 g) rfl (vin (by omega) (show (j : Int) < 576 by have h9 : (j : Int) < Wl.length := (by omega); omega) (by decide)) d_M_width_91 ?_
          rw [vcl (z := j) (by omega) (by have h9 : (j : Int) < Wl.length := (by omega); omega), wld_y hwF (i := j) (by omega) (by omega)]
          refine ri_i2l (a := (pY Wl j)) hx hb d_M_width_92 rfl (by have := hWb i; have := hWb j; unfold i3; omega) ?_
          refine g_cl w (g_runS (As := [.long (jN ((pX Wl i))), .long (jN ((pY Wl i))), .long (jN ((pX Wl j))), .long (jN ((pY Wl j)))]) (rest := []) X w (c_M_square l (px := (pX Wl i)) (py := (pY Wl i)) (ax := (pX Wl j)) (ay := (pY Wl j))) k_M_square lk_M_62 st_M_square ⟨(Nat.le_of_ble_eq_true rfl), (Nat.le_of_ble_eq_true rfl)⟩ rfl hl.1 rfl (Nat.le_of_ble_eq_true rfl) d_M_width_93 ⟨Nat.zero_le _, Nat.zero_le _⟩) (fun r u H locs hp w => ?_)
          obtain ⟨rfl, rfl⟩ := hp
          have w : gw D (gA L sz) s.heap H locs L (mSt cI mo A f vS F8) := w
          refine lv_lstore (lv' := [(5, .long (jN ((((pX Wl i) - (pX Wl j)) * ((pX Wl i) - (pX Wl j)) + ((pY Wl i) - (pY Wl j)) * ((pY Wl i) - (pY Wl j)))))), (0, .ref mo), (1, .int (iN (z))), (2, .int (iN (fl2))), (3, .int (iN (i))), (4, .int (iN (j)))]) hx hb d_M_width_96 hl (by decide) rfl (fun ls hl => ?_)
          refine lv_aload_n hx hb d_M_width_98 rfl (lv_at hl 1 rfl) ?_
          refine gk_get X w g.1.1 (show (mSt cI mo A f vS F8) mo = .inr (4, _) from mS_m) rfl in_M 17 (by decide) lk_M_140 rfl d_M_width_99 ?_
          refine lv_aload_n hx hb d_M_width_102 rfl (lv_at hl 1 rfl) ?_
          refine gk_get X w g.1.1 (show (mSt cI mo A f vS F8) mo = .inr (4, _) from mS_m) rfl in_M 17 (by decide) lk_M_140 rfl d_M_width_103 ?_
          refine rj_mul (a := (vS 17)) (b := (vS 17)) hx hb d_M_width_106 rfl rfl ?_
          refine lv_lstore (lv' := [(7, .long (jN (((vS 17) * (vS 17))))), (5, .long (jN ((((pX Wl i) - (pX Wl j)) * ((pX Wl i) - (pX Wl j)) + ((pY Wl i) - (pY Wl j)) * ((pY Wl i) - (pY Wl j)))))), (0, .ref mo), (1, .int (iN (z))), (2, .int (iN (fl2))), (3, .int (iN (i))), (4, .int (iN (j)))]) hx hb d_M_width_107 hl (by decide) rfl (fun ls hl => ?_)
          refine lv_iload_n hx hb d_M_width_109 rfl (lv_at hl 4 rfl) ?_
          refine ri_zeq (a := fl2) (tgt := 131) hx hb d_M_width_110 (by decide) rfl (by unfold i3; omega) (fun c110 => ?_) (fun c110 => ?_)
          · skip
            refine lv_aload_n hx hb d_M_width_131 rfl (lv_at hl 2 rfl) ?_
            refine lv_lload hx hb d_M_width_132 (lv_at hl 0 rfl) ?_
            refine gk_put X w g.1.1 (show (mSt cI mo A f vS F8) mo = .inr (4, _) from mS_m) rfl in_M ty_M tyok_M nm_M 13 (by decide) lk_M_130 rfl (ty := .long) (by decide +kernel) rfl rfl (Nat.le_of_ble_eq_true rfl) d_M_width_134 (fun H locs w => ?_)
            obtain ⟨v3, hv3⟩ : ∃ q : Nat → Int, q = va_up vS 13 (((vS 17) * (vS 17))) := ⟨_, rfl⟩
            have v3s : v3 13 = ((vS 17) * (vS 17)) := by rw [hv3, va_up_self]
            have v3n : ∀ j, j ≠ 13 → v3 j = vS j := fun j hj => by rw [hv3, va_up_ne _ _ hj]
            have w : gw D (gA L sz) s.heap H locs L (mSt cI mo A f v3 F8) := by rw [hv3, ← mU_m (v := vS)]; exact w
            refine lv_aload_n hx hb d_M_width_137 rfl (lv_at hl 2 rfl) ?_
            refine lv_lload hx hb d_M_width_138 (lv_at hl 1 rfl) ?_
            refine gk_put X w g.1.1 (show (mSt cI mo A f v3 F8) mo = .inr (4, _) from mS_m) rfl in_M ty_M tyok_M nm_M 14 (by decide) lk_M_133 rfl (ty := .long) (by decide +kernel) rfl rfl (Nat.le_of_ble_eq_true rfl) d_M_width_140 (fun H locs w => ?_)
            obtain ⟨v4, hv4⟩ : ∃ q : Nat → Int, q = va_up v3 14 ((((pX Wl i) - (pX Wl j)) * ((pX Wl i) - (pX Wl j)) + ((pY Wl i) - (pY Wl j)) * ((pY Wl i) - (pY Wl j)))) := ⟨_, rfl⟩
            have v4s : v4 14 = (((pX Wl i) - (pX Wl j)) * ((pX Wl i) - (pX Wl j)) + ((pY Wl i) - (pY Wl j)) * ((pY Wl i) - (pY Wl j))) := by rw [hv4, va_up_self]
            have v4n : ∀ j, j ≠ 14 → v4 j = v3 j := fun j hj => by rw [hv4, va_up_ne _ _ hj]
            have w : gw D (gA L sz) s.heap H locs L (mSt cI mo A f v4 F8) := by rw [hv4, ← mU_m (v := v3)]; exact w
            refine lv_iconst (v := iN (1)) hx hb d_M_width_143 (by decide) ?_
            refine lv_istore_n (lv' := [(2, .int (iN (1))), (7, .long (jN (((vS 17) * (vS 17))))), (5, .long (jN ((((pX Wl i) - (pX Wl j)) * ((pX Wl i) - (pX Wl j)) + ((pY Wl i) - (pY Wl j)) * ((pY Wl i) - (pY Wl j)))))), (0, .ref mo), (1, .int (iN (z))), (3, .int (iN (i))), (4, .int (iN (j)))]) hx hb d_M_width_144 rfl hl (by decide) rfl (fun ls hl => ?_)
            refine lv_iinc (v := iN ((j + 1))) (lv' := [(4, .int (iN ((j + 1)))), (2, .int (iN (1))), (7, .long (jN (((vS 17) * (vS 17))))), (5, .long (jN ((((pX Wl i) - (pX Wl j)) * ((pX Wl i) - (pX Wl j)) + ((pY Wl i) - (pY Wl j)) * ((pY Wl i) - (pY Wl j)))))), (0, .ref mo), (1, .int (iN (z))), (3, .int (iN (i)))]) hx hb d_M_width_145 hl (k := 6) rfl (by rw [show (j + 1) = j + (1 : Int) by omega, ← iN_add]; rfl) (by decide) rfl (fun ls hl => ?_)
            refine lv_goto (tgt := 50) hx hb d_M_width_148 (by decide) ?_
            have eN : (v4 13, v4 14, (1 : Int)) = wmJ Wl i (j + 1).toNat (vA 13, vA 14, fl) := by
              rw [tn_s k0]; unfold wmJ; rw [← k2, tn_c k0]; unfold lt3
              rw [if_pos (by first | (left; dsimp only; omega) | (right; dsimp only; rw [← eS17, ← eS13, ← eS14]; exact Int.not_le.mp c127)), v4n 13 (by decide), v3s, v4s, eS17]; rfl
            have hI' : 0 ≤ (j + 1) ∧ (j + 1) ≤ i ∧ (v4 13, v4 14, 1) = wmJ Wl i (j + 1).toNat (vA 13, vA 14, fl) ∧ (∀ q, q ≠ 13 → q ≠ 14 → q ≠ 17 → v4 q = v8 q) := ⟨by omega, by omega, eN, fun q q1 q2 q3 => (((v4n q q2).trans (v3n q q1)).trans (hS q q3)).trans (hnB q q1 q2 q3)⟩
            exact ih2 ((j + 1), 1, v4) _ _ _ (by omega) hI' w (lv_sub hl [4, 5, 1, 6, 0] rfl)
          · skip
            refine lv_lload hx hb d_M_width_113 (lv_at hl 0 rfl) ?_
            refine lv_aload_n hx hb d_M_width_115 rfl (lv_at hl 2 rfl) ?_
            refine gk_get X w g.1.1 (show (mSt cI mo A f vS F8) mo = .inr (4, _) from mS_m) rfl in_M 14 (by decide) lk_M_133 rfl d_M_width_116 ?_
            refine rj_mul (a := ((vS 17) * (vS 17))) (b := (vS 14)) hx hb d_M_width_119 rfl rfl ?_
            refine lv_aload_n hx hb d_M_width_120 rfl (lv_at hl 2 rfl) ?_
            refine gk_get X w g.1.1 (show (mSt cI mo A f vS F8) mo = .inr (4, _) from mS_m) rfl in_M 13 (by decide) lk_M_130 rfl d_M_width_121 ?_
            refine lv_lload hx hb d_M_width_124 (lv_at hl 1 rfl) ?_
            refine rj_mul (a := (vS 13)) (b := (((pX Wl i) - (pX Wl j)) * ((pX Wl i) - (pX Wl j)) + ((pY Wl i) - (pY Wl j)) * ((pY Wl i) - (pY Wl j)))) hx hb d_M_width_126 rfl rfl ?_
            refine rj_cge (a := (((vS 17) * (vS 17)) * (vS 14))) (b := ((vS 13) * (((pX Wl i) - (pX Wl j)) * ((pX Wl i) - (pX Wl j)) + ((pY Wl i) - (pY Wl j)) * ((pY Wl i) - (pY Wl j))))) (tgt := 145) hx hb d_M_width_127 d_M_width_128 (by decide) rfl rfl (by rw [eS17, eS14]; exact h6.1) (by rw [eS13]; exact h6.2) (fun c127 => ?_) (fun c127 => ?_)
            · skip
              refine lv_iinc (v := iN ((j + 1))) (lv' := [(4, .int (iN ((j + 1)))), (7, .long (jN (((vS 17) * (vS 17))))), (5, .long (jN ((((pX Wl i) - (pX Wl j)) * ((pX Wl i) - (pX Wl j)) + ((pY Wl i) - (pY Wl j)) * ((pY Wl i) - (pY Wl j)))))), (0, .ref mo), (1, .int (iN (z))), (2, .int (iN (fl2))), (3, .int (iN (i)))]) hx hb d_M_width_145 hl (k := 6) rfl (by rw [show (j + 1) = j + (1 : Int) by omega, ← iN_add]; rfl) (by decide) rfl (fun ls hl => ?_)
              refine lv_goto (tgt := 50) hx hb d_M_width_148 (by decide) ?_
              have eN : (vS 13, vS 14, fl2) = wmJ Wl i (j + 1).toNat (vA 13, vA 14, fl) := by
                rw [tn_s k0]; unfold wmJ; rw [← k2, tn_c k0]; unfold lt3
                rw [if_neg (by intro h9; rcases h9 with h9 | h9; (dsimp only at h9; omega); (dsimp only at h9; rw [← eS17, ← eS13, ← eS14] at h9; exact absurd (show _ from h9) (Int.not_lt.mpr c127))), eS13, eS14]
              have hI' : 0 ≤ (j + 1) ∧ (j + 1) ≤ i ∧ (vS 13, vS 14, fl2) = wmJ Wl i (j + 1).toNat (vA 13, vA 14, fl) ∧ (∀ q, q ≠ 13 → q ≠ 14 → q ≠ 17 → vS q = v8 q) := ⟨by omega, by omega, eN, fun q q1 q2 q3 => (hS q q3).trans (hnB q q1 q2 q3)⟩
              exact ih2 ((j + 1), fl2, vS) _ _ _ (by omega) hI' w (lv_sub hl [3, 4, 5, 6, 0] rfl)
            · skip
              refine lv_aload_n hx hb d_M_width_131 rfl (lv_at hl 2 rfl) ?_
              refine lv_lload hx hb d_M_width_132 (lv_at hl 0 rfl) ?_
              refine gk_put X w g.1.1 (show (mSt cI mo A f vS F8) mo = .inr (4, _) from mS_m) rfl in_M ty_M tyok_M nm_M 13 (by decide) lk_M_130 rfl (ty := .long) (by decide +kernel) rfl rfl (Nat.le_of_ble_eq_true rfl) d_M_width_134 (fun H locs w => ?_)
              obtain ⟨v5, hv5⟩ : ∃ q : Nat → Int, q = va_up vS 13 (((vS 17) * (vS 17))) := ⟨_, rfl⟩
              have v5s : v5 13 = ((vS 17) * (vS 17)) := by rw [hv5, va_up_self]
              have v5n : ∀ j, j ≠ 13 → v5 j = vS j := fun j hj => by rw [hv5, va_up_ne _ _ hj]
              have w : gw D (gA L sz) s.heap H locs L (mSt cI mo A f v5 F8) := by rw [hv5, ← mU_m (v := vS)]; exact w
              refine lv_aload_n hx hb d_M_width_137 rfl (lv_at hl 2 rfl) ?_
              refine lv_lload hx hb d_M_width_138 (lv_at hl 1 rfl) ?_
              refine gk_put X w g.1.1 (show (mSt cI mo A f v5 F8) mo = .inr (4, _) from mS_m) rfl in_M ty_M tyok_M nm_M 14 (by decide) lk_M_133 rfl (ty := .long) (by decide +kernel) rfl rfl (Nat.le_of_ble_eq_true rfl) d_M_width_140 (fun H locs w => ?_)
              obtain ⟨v6, hv6⟩ : ∃ q : Nat → Int, q = va_up v5 14 ((((pX Wl i) - (pX Wl j)) * ((pX Wl i) - (pX Wl j)) + ((pY Wl i) - (pY Wl j)) * ((pY Wl i) - (pY Wl j)))) := ⟨_, rfl⟩
              have v6s : v6 14 = (((pX Wl i) - (pX Wl j)) * ((pX Wl i) - (pX Wl j)) + ((pY Wl i) - (pY Wl j)) * ((pY Wl i) - (pY Wl j))) := by rw [hv6, va_up_self]
              have v6n : ∀ j, j ≠ 14 → v6 j = v5 j := fun j hj => by rw [hv6, va_up_ne _ _ hj]
              have w : gw D (gA L sz) s.heap H locs L (mSt cI mo A f v6 F8) := by rw [hv6, ← mU_m (v := v5)]; exact w
              refine lv_iconst (v := iN (1)) hx hb d_M_width_143 (by decide) ?_
              refine lv_istore_n (lv' := [(2, .int (iN (1))), (7, .long (jN (((vS 17) * (vS 17))))), (5, .long (jN ((((pX Wl i) - (pX Wl j)) * ((pX Wl i) - (pX Wl j)) + ((pY Wl i) - (pY Wl j)) * ((pY Wl i) - (pY Wl j)))))), (0, .ref mo), (1, .int (iN (z))), (3, .int (iN (i))), (4, .int (iN (j)))]) hx hb d_M_width_144 rfl hl (by decide) rfl (fun ls hl => ?_)
              refine lv_iinc (v := iN ((j + 1))) (lv' := [(4, .int (iN ((j + 1)))), (2, .int (iN (1))), (7, .long (jN (((vS 17) * (vS 17))))), (5, .long (jN ((((pX Wl i) - (pX Wl j)) * ((pX Wl i) - (pX Wl j)) + ((pY Wl i) - (pY Wl j)) * ((pY Wl i) - (pY Wl j)))))), (0, .ref mo), (1, .int (iN (z))), (3, .int (iN (i)))]) hx hb d_M_width_145 hl (k := 6) rfl (by rw [show (j + 1) = j + (1 : Int) by omega, ← iN_add]; rfl) (by decide) rfl (fun ls hl => ?_)
              refine lv_goto (tgt := 50) hx hb d_M_width_148 (by decide) ?_
              have eN : (v6 13, v6 14, (1 : Int)) = wmJ Wl i (j + 1).toNat (vA 13, vA 14, fl) := by
                rw [tn_s k0]; unfold wmJ; rw [← k2, tn_c k0]; unfold lt3
                rw [if_pos (by first | (left; dsimp only; omega) | (right; dsimp only; rw [← eS17, ← eS13, ← eS14]; exact Int.not_le.mp c127)), v6n 13 (by decide), v5s, v6s, eS17]; rfl
              have hI' : 0 ≤ (j + 1) ∧ (j + 1) ≤ i ∧ (v6 13, v6 14, 1) = wmJ Wl i (j + 1).toNat (vA 13, vA 14, fl) ∧ (∀ q, q ≠ 13 → q ≠ 14 → q ≠ 17 → v6 q = v8 q) := ⟨by omega, by omega, eN, fun q q1 q2 q3 => (((v6n q q2).trans (v5n q q1)).trans (hS q q3)).trans (hnB q q1 q2 q3)⟩
              exact ih2 ((j + 1), 1, v6) _ _ _ (by omega) hI' w (lv_sub hl [4, 5, 1, 6, 0] rfl)
    · skip
      refine lv_bipush (v := iN (-3)) hx hb d_M_width_22 (by decide) ?_
      exact g_iret X w hrt hlk d_M_width_24 ⟨by rw [if_pos hzr, ← eWl, if_pos (by omega)], by unfold crT; rw [← eWl, if_neg (fun q => q.2 (by omega))]; exact ⟨v8, F8, rfl, hI8, h118, h128⟩⟩
  · skip
    refine lv_iconst (v := iN (-1)) hx hb d_M_width_8 (by decide) ?_
    exact g_iret X w hrt hlk d_M_width_9 ⟨by rw [if_neg (bI_0 (by omega))], by unfold crT; rw [if_neg (fun q => bI_0 (by omega) q.1)]; exact ⟨v, F, rfl, hI0, h11, h12⟩⟩
