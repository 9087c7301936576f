/-! THE REFERENCE: its public methods, fourth part -/
def m2J (P : List Pt) (i : Int) : Nat → Int → Int
  | 0, m => m
  | j + 1, m => max (sq P i j) (m2J P i j m)
def m2L (P : List Pt) : Nat → Int
  | 0 => 0
  | n + 1 => m2J P n n (m2L P n)
theorem m2J_b {P : List Pt} (h : pb 300 P) (i : Int) (n : Nat) {m : Int} (hm : 0 ≤ m ∧ m ≤ 720000) : 0 ≤ m2J P i n m ∧ m2J P i n m ≤ 720000 := by
  induction n with
  | zero => exact hm
  | succ n ih => have := sq_b3 h i n; unfold m2J; omega
theorem m2L_b {P : List Pt} (h : pb 300 P) (n : Nat) : 0 ≤ m2L P n ∧ m2L P n ≤ 720000 := by
  induction n with
  | zero => unfold m2L; omega
  | succ n ih => exact m2J_b h n n ih
def n2J (P : List Pt) (i : Int) : Nat → Int → Int
  | 0, m => m
  | j + 1, m => min (sq P i j) (n2J P i j m)
def n2L (P : List Pt) : Nat → Int
  | 0 => sq P 0 1
  | n + 1 => n2J P n n (n2L P n)
theorem n2J_b {P : List Pt} (h : pb 300 P) (i : Int) (n : Nat) {m : Int} (hm : 0 ≤ m ∧ m ≤ 720000) : 0 ≤ n2J P i n m ∧ n2J P i n m ≤ 720000 := by
  induction n with
  | zero => exact hm
  | succ n ih => have := sq_b3 h i n; unfold n2J; omega
theorem n2L_b {P : List Pt} (h : pb 300 P) (n : Nat) : 0 ≤ n2L P n ∧ n2L P n ≤ 720000 := by
  induction n with
  | zero => exact sq_b3 h 0 1
  | succ n ih => exact n2J_b h n n ih
theorem sq_e (P : List Pt) (i j : Int) : (pX P i - pX P j) * (pX P i - pX P j) + (pY P i - pY P j) * (pY P i - pY P j) = sq P i j := rfl

set_option maxHeartbeats 4000000 in
set_option maxRecDepth 100000 in
theorem c_M_wide (l : Launch) {D : va_G} {cI cR : ClassId} {L : List Nat} {f : Nat → va_E} {mo : Nat} {A : Nat → Nat} {v : Nat → Int} {F : Nat → Nat → Int} (g : mg L mo A) {K t1 t2 : Int} {S : Nat → List Pt} (hI0 : mInv v F K S) (h11 : v 11 = t1) (h12 : v 12 = t2) (hok : okS K S) (hhu : hulS K S) {z : Int} (hz : i3 z) : gMi D cI cR l y_M_wide (Cond.code y_M_wide b_M_wide 8 (some .int) :: lw_g) { frames := 4, cells := 0, slots := 0, locals := 102 } [.ref mo, .int (iN (z))] L (mSt cI mo A f v F) (fun r u => r = iN (if (0 ≤ z ∧ z < K) then (if (S z.toNat).length = 0 then -3 else m2L (S z.toNat) (S z.toNat).length) else -1) ∧ mpost L cI mo A f K t1 t2 S u) := by
  intro sz
  refine g_enter (by decide) rfl (Nat.le_of_ble_eq_true rfl) ?_
  intro p e s m below meth cd ls X hrt hlk hnm hl hsz w
  have X : gx p m cd b_M_wide 8 s _ "HullSumsModel" D cI cR := X
  have hx := X.1.1
  have hb := X.1.2.1
  have hl : lv_has ls 8 [(0, .ref mo), (1, .int (iN (z)))] := hl
  have hI1 := hI0
  obtain ⟨hi0, hi1, hi2, hi3, hi4⟩ := hI1
  refine lv_aload_n hx hb d_M_wide_0 rfl (lv_at hl 0 rfl) ?_
  refine lv_iload_n hx hb d_M_wide_1 rfl (lv_at hl 1 rfl) ?_
  refine g_ci w (g_runV (As := [.int (iN (z))]) (rest := []) X w (c_M_is l g (v := v) (F := F) hi0 (by rw [hi1]; unfold i3; omega) (z := z) hz) k_M_is v_M_is lk_M_79 g.1.1 (show mSt cI mo A f v F mo = .inr (4, _) from mS_m) rfl ⟨(Nat.le_of_ble_eq_true rfl), (Nat.le_of_ble_eq_true rfl)⟩ rfl hl.1 rfl (Nat.le_of_ble_eq_true rfl) d_M_wide_2 ⟨(Nat.le_of_ble_eq_true rfl), (Nat.le_of_ble_eq_true rfl)⟩) (fun r u H locs hp w => ?_)
  obtain ⟨hr9, rfl⟩ := hp
  rw [hi1] at hr9
  subst hr9
  have w : gw D (gA L sz) s.heap H locs L (mSt cI mo A f v F) := w
  refine ri_zne (a := (bI (0 ≤ z ∧ z < K))) (tgt := 10) hx hb d_M_wide_5 (by decide) rfl (bI_3 _) (fun c5 => ?_) (fun c5 => ?_)
  · skip
    refine lv_aload_n hx hb d_M_wide_10 rfl (lv_at hl 0 rfl) ?_
    refine lv_iload_n hx hb d_M_wide_11 rfl (lv_at hl 1 rfl) ?_
    have hzr : 0 ≤ z ∧ z < K := bI_n (by omega)
    obtain ⟨Wl, eWl⟩ : ∃ q, q = S z.toNat := ⟨_, rfl⟩
    obtain ⟨Hu, eHu⟩ : ∃ q, q = hullF (S z.toNat) := ⟨_, rfl⟩
    have hoz := hok z.toNat (by omega)
    have hhz : isHL Wl Hu := by rw [eWl, eHu]; exact hhu z.toNat (by omega)
    have hH576 := hhz.2.2.1
    have hHb : pb 600 Hu := by rw [eHu]; exact pb_of (by decide) (pbl_le (by decide) (pbl_hull hoz.2))
    have hHb3 : pb 300 Hu := by rw [eHu]; exact pb_of (by decide) (pbl_hull hoz.2)
    have hWb : pb 300 Wl := by rw [eWl]; exact pb_of (by decide) hoz.2
    have hW24 : Wl.length ≤ 24 := by rw [eWl]; exact hoz.1
    refine g_cv w (g_runV (As := [.int (iN (z))]) (rest := []) X w ((by have h9 := c_M_load (D := D) (cR := cR) (cI := cI) (f := f) l g hI0 (z := z) hzr hoz.1 (pbl_le (by decide) hoz.2) (Hu := Hu) (by rw [← eWl]; exact hhz); rw [← eWl] at h9; exact h9)) k_M_load v_M_load lk_M_87 g.1.1 (show mSt cI mo A f v F mo = .inr (4, _) from mS_m) rfl ⟨(Nat.le_of_ble_eq_true rfl), (Nat.le_of_ble_eq_true rfl)⟩ rfl hl.1 rfl (Nat.le_of_ble_eq_true rfl) d_M_wide_12 ⟨(Nat.le_of_ble_eq_true rfl), (Nat.le_of_ble_eq_true rfl)⟩) (fun u H locs hp w => ?_)
    obtain ⟨v8, F8, rfl, hL8, hn8, hf8⟩ := hp
    have w : gw D (gA L sz) s.heap H locs L (mSt cI mo A f v8 F8) := w
    obtain ⟨h7, h10, hwF, hhF⟩ := id hL8
    have hI8 := mInv_k hI0 (hn8 0 (by decide) (by decide)) (hn8 1 (by decide) (by decide)) hf8
    have h118 := (hn8 11 (by decide) (by decide)).trans h11
    have h128 := (hn8 12 (by decide) (by decide)).trans h12
    refine lv_lconst (v := jN (0)) hx hb d_M_wide_15 (by decide) ?_
    refine lv_lstore_n (lv' := [(2, .long (jN (0))), (0, .ref mo), (1, .int (iN (z)))]) hx hb d_M_wide_16 rfl hl (by decide) rfl (fun ls hl => ?_)
    refine lv_iconst (v := iN (0)) hx hb d_M_wide_17 (by decide) ?_
    refine lv_istore (lv' := [(4, .int (iN (0))), (2, .long (jN (0))), (0, .ref mo), (1, .int (iN (z)))]) hx hb d_M_wide_18 hl (by decide) rfl (fun ls hl => ?_)
    refine g_loop (σ := Int × Int) (fun z9 => ((Wl.length : Int) - z9.1).toNat) (fun z9 => [(0, .ref mo), (1, .int (iN (z))), (2, .long (jN (z9.2))), (4, .int (iN (z9.1)))]) L (fun z9 => (mSt cI mo A f v8 F8)) (fun z9 => 0 ≤ z9.1 ∧ z9.1 ≤ Wl.length ∧ z9.2 = m2L Wl z9.1.toNat) ?_ (0, 0) _ _ _ ⟨by omega, by omega, rfl⟩ w (lv_sub hl [2, 3, 1, 0] rfl)
    intro z9 H locs ls hI w hl ih
    obtain ⟨i, m0⟩ := z9
    have hl : lv_has ls 8 [(0, .ref mo), (1, .int (iN (z))), (2, .long (jN (m0))), (4, .int (iN (i)))] := hl
    have w : gw D (gA L sz) s.heap H locs L ((mSt cI mo A f v8 F8)) := w
    have hI : 0 ≤ i ∧ i ≤ Wl.length ∧ m0 = m2L Wl i.toNat := hI
    obtain ⟨h0, h1, h2⟩ := hI
    have hmb := m2L_b hWb i.toNat
    rw [← h2] at hmb
    refine lv_iload hx hb d_M_wide_20 (lv_at hl 3 rfl) ?_
    refine lv_aload_n hx hb d_M_wide_22 rfl (lv_at hl 0 rfl) ?_
    refine gk_get X w g.1.1 (show (mSt cI mo A f v8 F8) mo = .inr (4, _) from mS_m) rfl in_M 7 (by decide) lk_M_45 rfl d_M_wide_23 ?_
    rw [show v8 7 = (Wl.length : Int) from h7]
    refine ri_cge (a := i) (b := (Wl.length : Int)) (tgt := 102) hx hb d_M_wide_26 (by decide) rfl rfl (by unfold i3; omega) (by unfold i3; omega) (fun c26 => ?_) (fun c26 => ?_)
    · skip
      refine lv_aload_n hx hb d_M_wide_102 rfl (lv_at hl 0 rfl) ?_
      refine gk_get X w g.1.1 (show (mSt cI mo A f v8 F8) mo = .inr (4, _) from mS_m) rfl in_M 7 (by decide) lk_M_45 rfl d_M_wide_103 ?_
      rw [show v8 7 = (Wl.length : Int) from h7]
      refine ri_zne (a := (Wl.length : Int)) (tgt := 114) hx hb d_M_wide_106 (by decide) rfl (by unfold i3; omega) (fun c106 => ?_) (fun c106 => ?_)
      · skip
        refine lv_lload_n hx hb d_M_wide_114 rfl (lv_at hl 2 rfl) ?_
        refine ri_l2i (a := m0) hx hb d_M_wide_115 rfl (by unfold i6; omega) ?_
        exact g_iret X w hrt hlk d_M_wide_116 ⟨by rw [if_pos hzr, ← eWl, if_neg (by omega), h2, show i.toNat = Wl.length by omega], ⟨v8, F8, rfl, hI8, h118, h128⟩⟩
      · skip
        refine lv_bipush (v := iN (-3)) hx hb d_M_wide_109 (by decide) ?_
        refine lv_goto (tgt := 116) hx hb d_M_wide_111 (by decide) ?_
        exact g_iret X w hrt hlk d_M_wide_116 ⟨by rw [if_pos hzr, ← eWl, if_pos (by omega)], ⟨v8, F8, rfl, hI8, h118, h128⟩⟩
    · skip
      refine lv_iconst (v := iN (0)) hx hb d_M_wide_29 (by decide) ?_
      refine lv_istore (lv' := [(5, .int (iN (0))), (0, .ref mo), (1, .int (iN (z))), (2, .long (jN (m0))), (4, .int (iN (i)))]) hx hb d_M_wide_30 hl (by decide) rfl (fun ls hl => ?_)
      refine g_loop (σ := Int × Int) (fun z9 => (i - z9.1).toNat) (fun z9 => [(0, .ref mo), (1, .int (iN (z))), (2, .long (jN (z9.2))), (4, .int (iN (i))), (5, .int (iN (z9.1)))]) L (fun z9 => (mSt cI mo A f v8 F8)) (fun z9 => 0 ≤ z9.1 ∧ z9.1 ≤ i ∧ z9.2 = m2J Wl i z9.1.toNat m0) ?_ (0, m0) _ _ _ ⟨by omega, by omega, rfl⟩ w (lv_sub hl [1, 2, 3, 4, 0] rfl)
      intro z9 H locs ls hI w hl ih2
      obtain ⟨j, m1⟩ := z9
      have hl : lv_has ls 8 [(0, .ref mo), (1, .int (iN (z))), (2, .long (jN (m1))), (4, .int (iN (i))), (5, .int (iN (j)))] := hl
      have w : gw D (gA L sz) s.heap H locs L ((mSt cI mo A f v8 F8)) := w
      have hI : 0 ≤ j ∧ j ≤ i ∧ m1 = m2J Wl i j.toNat m0 := hI
      obtain ⟨k0, k1, k2⟩ := hI
      have hjb := m2J_b hWb i j.toNat hmb
      rw [← k2] at hjb
      have hsb := sq_b3 hWb i j
      refine lv_iload hx hb d_M_wide_32 (lv_at hl 4 rfl) ?_
      refine lv_iload hx hb d_M_wide_34 (lv_at hl 3 rfl) ?_
      refine ri_cge (a := j) (b := i) (tgt := 96) hx hb d_M_wide_36 (by decide) rfl rfl (by unfold i3; omega) (by unfold i3; omega) (fun c36 => ?_) (fun c36 => ?_)
      · skip
        refine lv_iinc (v := iN ((i + 1))) (lv' := [(4, .int (iN ((i + 1)))), (0, .ref mo), (1, .int (iN (z))), (2, .long (jN (m1))), (5, .int (iN (j)))]) hx hb d_M_wide_96 hl (k := 3) rfl (by rw [show (i + 1) = i + (1 : Int) by omega, ← iN_add]; rfl) (by decide) rfl (fun ls hl => ?_)
        refine lv_goto (tgt := 20) hx hb d_M_wide_99 (by decide) ?_
        exact ih ((i + 1), m1) _ _ _ (by omega) ⟨by omega, by omega, by rw [tn_s h0]; unfold m2L; rw [← h2, tn_c h0, k2, show j = i by omega]⟩ w (lv_sub hl [1, 2, 3, 0] rfl)
      · skip
        refine lv_aload_n hx hb d_M_wide_39 rfl (lv_at hl 0 rfl) ?_
        refine gk_get X w g.1.1 (show (mSt cI mo A f v8 F8) mo = .inr (4, _) from mS_m) rfl in_M 5 (by decide) lk_M_19 rfl d_M_wide_40 ?_
        refine lv_iload hx hb d_M_wide_43 (lv_at hl 3 rfl) ?_
        refine gk_iald X w 0 g.1.2.2.2.2.1 (mS_5 g) rfl (vin (by omega) (show (i : Int) < 576 by have h9 : (i : Int) < Wl.length := (by omega); omega) (by decide)) d_M_wide_45 ?_
        rw [vcl (z := i) (by omega) (by have h9 : (i : Int) < Wl.length := (by omega); omega), wld_x hwF (i := i) (by omega) (by omega)]
        refine ri_i2l (a := (pX Wl i)) hx hb d_M_wide_46 rfl (by have := hWb i; have := hWb j; unfold i3; omega) ?_
        refine lv_aload_n hx hb d_M_wide_47 rfl (lv_at hl 0 rfl) ?_
        refine gk_get X w g.1.1 (show (mSt cI mo A f v8 F8) mo = .inr (4, _) from mS_m) rfl in_M 6 (by decide) lk_M_22 rfl d_M_wide_48 ?_
        refine lv_iload hx hb d_M_wide_51 (lv_at hl 3 rfl) ?_
        refine gk_iald X w 0 g.1.2.2.2.2.2.1 (mS_6 g) rfl (vin (by omega) (show (i : Int) < 576 by have h9 : (i : Int) < Wl.length := (by omega); omega) (by decide)) d_M_wide_53 ?_
        rw [vcl (z := i) (by omega) (by have h9 : (i : Int) < Wl.length := (by omega); omega), wld_y hwF (i := i) (by omega) (by omega)]
        refine ri_i2l (a := (pY Wl i)) hx hb d_M_wide_54 rfl (by have := hWb i; have := hWb j; unfold i3; omega) ?_
        refine lv_aload_n hx hb d_M_wide_55 rfl (lv_at hl 0 rfl) ?_
        refine gk_get X w g.1.1 (show (mSt cI mo A f v8 F8) mo = .inr (4, _) from mS_m) rfl in_M 5 (by decide) lk_M_19 rfl d_M_wide_56 ?_
        refine lv_iload hx hb d_M_wide_59 (lv_at hl 4 rfl) ?_
        refine gk_iald X w 0 g.1.2.2.2.2.1 (mS_5 g) rfl (vin (by omega) (show (j : Int) < 576 by have h9 : (j : Int) < Wl.length := (by omega); omega) (by decide)) d_M_wide_61 ?_
        rw [vcl (z := j) (by omega) (by have h9 : (j : Int) < Wl.length := (by omega); omega), wld_x hwF (i := j) (by omega) (by omega)]
        refine ri_i2l (a := (pX Wl j)) hx hb d_M_wide_62 rfl (by have := hWb i; have := hWb j; unfold i3; omega) ?_
        refine lv_aload_n hx hb d_M_wide_63 rfl (lv_at hl 0 rfl) ?_
        refine gk_get X w g.1.1 (show (mSt cI mo A f v8 F8) mo = .inr (4, _) from mS_m) rfl in_M 6 (by decide) lk_M_22 rfl d_M_wide_64 ?_
        refine lv_iload hx hb d_M_wide_67 (lv_at hl 4 rfl) ?_
        refine gk_iald X w 0 g.1.2.2.2.2.2.1 (mS_6 g) rfl (vin (by omega) (show (j : Int) < 576 by have h9 : (j : Int) < Wl.length := (by omega); omega) (by decide)) d_M_wide_69 ?_
        rw [vcl (z := j) (by omega) (by have h9 : (j : Int) < Wl.length := (by omega); omega), wld_y hwF (i := j) (by omega) (by omega)]
        refine ri_i2l (a := (pY Wl j)) hx hb d_M_wide_70 rfl (by have := hWb i; have := hWb j; unfold i3; omega) ?_
        refine g_cl w (g_runS (As := [.long (jN ((pX Wl i))), .long (jN ((pY Wl i))), .long (jN ((pX Wl j))), .long (jN ((pY Wl j)))]) (rest := []) X w (c_M_square l (px := (pX Wl i)) (py := (pY Wl i)) (ax := (pX Wl j)) (ay := (pY Wl j))) k_M_square lk_M_62 st_M_square ⟨(Nat.le_of_ble_eq_true rfl), (Nat.le_of_ble_eq_true rfl)⟩ rfl hl.1 rfl (Nat.le_of_ble_eq_true rfl) d_M_wide_71 ⟨Nat.zero_le _, Nat.zero_le _⟩) (fun r u H locs hp w => ?_)
        obtain ⟨rfl, rfl⟩ := hp
        have w : gw D (gA L sz) s.heap H locs L (mSt cI mo A f v8 F8) := w
        refine lv_lstore (lv' := [(6, .long (jN ((((pX Wl i) - (pX Wl j)) * ((pX Wl i) - (pX Wl j)) + ((pY Wl i) - (pY Wl j)) * ((pY Wl i) - (pY Wl j)))))), (0, .ref mo), (1, .int (iN (z))), (2, .long (jN (m1))), (4, .int (iN (i))), (5, .int (iN (j)))]) hx hb d_M_wide_74 hl (by decide) rfl (fun ls hl => ?_)
        refine g_joinw (D := D) (A := gA L sz) (H0 := s.heap) (L := L) (f := (mSt cI mo A f v8 F8)) (g1 := F0 m 89 ls [.long (jN ((max (sq Wl i j) m1)))]) (fun H locs w => ?_) (fun K1 => ?_)
        · skip
          refine lv_lstore_n (lv' := [(2, .long (jN ((max (sq Wl i j) m1)))), (6, .long (jN ((((pX Wl i) - (pX Wl j)) * ((pX Wl i) - (pX Wl j)) + ((pY Wl i) - (pY Wl j)) * ((pY Wl i) - (pY Wl j)))))), (0, .ref mo), (1, .int (iN (z))), (4, .int (iN (i))), (5, .int (iN (j)))]) hx hb d_M_wide_89 rfl hl (by decide) rfl (fun ls hl => ?_)
          refine lv_iinc (v := iN ((j + 1))) (lv' := [(5, .int (iN ((j + 1)))), (2, .long (jN ((max (sq Wl i j) m1)))), (6, .long (jN ((((pX Wl i) - (pX Wl j)) * ((pX Wl i) - (pX Wl j)) + ((pY Wl i) - (pY Wl j)) * ((pY Wl i) - (pY Wl j)))))), (0, .ref mo), (1, .int (iN (z))), (4, .int (iN (i)))]) hx hb d_M_wide_90 hl (k := 5) rfl (by rw [show (j + 1) = j + (1 : Int) by omega, ← iN_add]; rfl) (by decide) rfl (fun ls hl => ?_)
          refine lv_goto (tgt := 32) hx hb d_M_wide_93 (by decide) ?_
          exact ih2 ((j + 1), (max (sq Wl i j) m1)) _ _ _ (by omega) ⟨by omega, by omega, by rw [tn_s k0]; unfold m2J; rw [← k2, tn_c k0]⟩ w (lv_sub hl [3, 4, 1, 5, 0] rfl)
        · skip
          refine lv_lload hx hb d_M_wide_76 (lv_at hl 0 rfl) ?_
          refine lv_lload_n hx hb d_M_wide_78 rfl (lv_at hl 3 rfl) ?_
          refine rj_cle (a := (((pX Wl i) - (pX Wl j)) * ((pX Wl i) - (pX Wl j)) + ((pY Wl i) - (pY Wl j)) * ((pY Wl i) - (pY Wl j)))) (b := m1) (tgt := 88) hx hb d_M_wide_79 d_M_wide_80 (by decide) rfl rfl (by unfold sq at hsb; unfold i6; omega) (by unfold i6; omega) (fun c79 => ?_) (fun c79 => ?_)
          · skip
            refine lv_lload_n hx hb d_M_wide_88 rfl (lv_at hl 3 rfl) ?_
            exact W.eq (congrArg (fun z : Int => F0 m 89 ls [.long (jN z)]) (show m1 = (max (sq Wl i j) m1) from (by show _ = max ((pX Wl i - pX Wl j) * (pX Wl i - pX Wl j) + (pY Wl i - pY Wl j) * (pY Wl i - pY Wl j)) m1; omega))) (K1 _ _ w)
          · skip
            refine lv_lload hx hb d_M_wide_83 (lv_at hl 0 rfl) ?_
            refine lv_goto (tgt := 89) hx hb d_M_wide_85 (by decide) ?_
            exact W.eq (congrArg (fun z : Int => F0 m 89 ls [.long (jN z)]) (show (((pX Wl i) - (pX Wl j)) * ((pX Wl i) - (pX Wl j)) + ((pY Wl i) - (pY Wl j)) * ((pY Wl i) - (pY Wl j))) = (max (sq Wl i j) m1) from (by show _ = max ((pX Wl i - pX Wl j) * (pX Wl i - pX Wl j) + (pY Wl i - pY Wl j) * (pY Wl i - pY Wl j)) m1; omega))) (K1 _ _ w)
  · skip
    refine lv_iconst (v := iN (-1)) hx hb d_M_wide_8 (by decide) ?_
    exact g_iret X w hrt hlk d_M_wide_9 ⟨by rw [if_neg (bI_0 (by omega))], ⟨v, F, rfl, hI0, h11, h12⟩⟩
set_option maxHeartbeats 4000000 in
set_option maxRecDepth 100000 in
theorem c_M_nearest (l : Launch) {D : va_G} {cI cR : ClassId} {L : List Nat} {f : Nat → va_E} {mo : Nat} {A : Nat → Nat} {v : Nat → Int} {F : Nat → Nat → Int} (g : mg L mo A) {K t1 t2 : Int} {S : Nat → List Pt} (hI0 : mInv v F K S) (h11 : v 11 = t1) (h12 : v 12 = t2) (hok : okS K S) (hhu : hulS K S) {z : Int} (hz : i3 z) : gMi D cI cR l y_M_nearest (Cond.code y_M_nearest b_M_nearest 8 (some .int) :: lw_g) { frames := 4, cells := 0, slots := 0, locals := 102 } [.ref mo, .int (iN (z))] L (mSt cI mo A f v F) (fun r u => r = iN (if (0 ≤ z ∧ z < K) then (if (S z.toNat).length < 2 then -3 else n2L (S z.toNat) (S z.toNat).length) else -1) ∧ mpost L cI mo A f K t1 t2 S u) := by
  intro sz
  refine g_enter (by decide) rfl (Nat.le_of_ble_eq_true rfl) ?_
  intro p e s m below meth cd ls X hrt hlk hnm hl hsz w
  have X : gx p m cd b_M_nearest 8 s _ "HullSumsModel" D cI cR := X
  have hx := X.1.1
  have hb := X.1.2.1
  have hl : lv_has ls 8 [(0, .ref mo), (1, .int (iN (z)))] := hl
  have hI1 := hI0
  obtain ⟨hi0, hi1, hi2, hi3, hi4⟩ := hI1
  refine lv_aload_n hx hb d_M_nearest_0 rfl (lv_at hl 0 rfl) ?_
  refine lv_iload_n hx hb d_M_nearest_1 rfl (lv_at hl 1 rfl) ?_
  refine g_ci w (g_runV (As := [.int (iN (z))]) (rest := []) X w (c_M_is l g (v := v) (F := F) hi0 (by rw [hi1]; unfold i3; omega) (z := z) hz) k_M_is v_M_is lk_M_79 g.1.1 (show mSt cI mo A f v F mo = .inr (4, _) from mS_m) rfl ⟨(Nat.le_of_ble_eq_true rfl), (Nat.le_of_ble_eq_true rfl)⟩ rfl hl.1 rfl (Nat.le_of_ble_eq_true rfl) d_M_nearest_2 ⟨(Nat.le_of_ble_eq_true rfl), (Nat.le_of_ble_eq_true rfl)⟩) (fun r u H locs hp w => ?_)
  obtain ⟨hr9, rfl⟩ := hp
  rw [hi1] at hr9
  subst hr9
  have w : gw D (gA L sz) s.heap H locs L (mSt cI mo A f v F) := w
  refine ri_zne (a := (bI (0 ≤ z ∧ z < K))) (tgt := 10) hx hb d_M_nearest_5 (by decide) rfl (bI_3 _) (fun c5 => ?_) (fun c5 => ?_)
  · skip
    refine lv_aload_n hx hb d_M_nearest_10 rfl (lv_at hl 0 rfl) ?_
    refine lv_iload_n hx hb d_M_nearest_11 rfl (lv_at hl 1 rfl) ?_
    have hzr : 0 ≤ z ∧ z < K := bI_n (by omega)
    obtain ⟨Wl, eWl⟩ : ∃ q, q = S z.toNat := ⟨_, rfl⟩
    obtain ⟨Hu, eHu⟩ : ∃ q, q = hullF (S z.toNat) := ⟨_, rfl⟩
    have hoz := hok z.toNat (by omega)
    have hhz : isHL Wl Hu := by rw [eWl, eHu]; exact hhu z.toNat (by omega)
    have hH576 := hhz.2.2.1
    have hHb : pb 600 Hu := by rw [eHu]; exact pb_of (by decide) (pbl_le (by decide) (pbl_hull hoz.2))
    have hHb3 : pb 300 Hu := by rw [eHu]; exact pb_of (by decide) (pbl_hull hoz.2)
    have hWb : pb 300 Wl := by rw [eWl]; exact pb_of (by decide) hoz.2
    have hW24 : Wl.length ≤ 24 := by rw [eWl]; exact hoz.1
    refine g_cv w (g_runV (As := [.int (iN (z))]) (rest := []) X w ((by have h9 := c_M_load (D := D) (cR := cR) (cI := cI) (f := f) l g hI0 (z := z) hzr hoz.1 (pbl_le (by decide) hoz.2) (Hu := Hu) (by rw [← eWl]; exact hhz); rw [← eWl] at h9; exact h9)) k_M_load v_M_load lk_M_87 g.1.1 (show mSt cI mo A f v F mo = .inr (4, _) from mS_m) rfl ⟨(Nat.le_of_ble_eq_true rfl), (Nat.le_of_ble_eq_true rfl)⟩ rfl hl.1 rfl (Nat.le_of_ble_eq_true rfl) d_M_nearest_12 ⟨(Nat.le_of_ble_eq_true rfl), (Nat.le_of_ble_eq_true rfl)⟩) (fun u H locs hp w => ?_)
    obtain ⟨v8, F8, rfl, hL8, hn8, hf8⟩ := hp
    have w : gw D (gA L sz) s.heap H locs L (mSt cI mo A f v8 F8) := w
    obtain ⟨h7, h10, hwF, hhF⟩ := id hL8
    have hI8 := mInv_k hI0 (hn8 0 (by decide) (by decide)) (hn8 1 (by decide) (by decide)) hf8
    have h118 := (hn8 11 (by decide) (by decide)).trans h11
    have h128 := (hn8 12 (by decide) (by decide)).trans h12
    refine lv_aload_n hx hb d_M_nearest_15 rfl (lv_at hl 0 rfl) ?_
    refine gk_get X w g.1.1 (show (mSt cI mo A f v8 F8) mo = .inr (4, _) from mS_m) rfl in_M 7 (by decide) lk_M_45 rfl d_M_nearest_16 ?_
    rw [show v8 7 = (Wl.length : Int) from h7]
    refine lv_iconst (v := iN (2)) hx hb d_M_nearest_19 (by decide) ?_
    refine ri_cge (a := (Wl.length : Int)) (b := 2) (tgt := 26) hx hb d_M_nearest_20 (by decide) rfl rfl (by unfold i3; omega) (by unfold i3; omega) (fun c20 => ?_) (fun c20 => ?_)
    · skip
      refine lv_aload_n hx hb d_M_nearest_26 rfl (lv_at hl 0 rfl) ?_
      refine gk_get X w g.1.1 (show (mSt cI mo A f v8 F8) mo = .inr (4, _) from mS_m) rfl in_M 5 (by decide) lk_M_19 rfl d_M_nearest_27 ?_
      refine lv_iconst (v := iN (0)) hx hb d_M_nearest_30 (by decide) ?_
      refine gk_iald X w 0 g.1.2.2.2.2.1 (mS_5 g) rfl (vin (by omega) (show (0 : Int) < 576 by have h9 : (0 : Int) < Wl.length := (by omega); omega) (by decide)) d_M_nearest_31 ?_
      rw [vcl (z := 0) (by omega) (by have h9 : (0 : Int) < Wl.length := (by omega); omega), wld_x hwF (i := 0) (by omega) (by omega)]
      refine ri_i2l (a := (pX Wl 0)) hx hb d_M_nearest_32 rfl (by have := hWb 0; have := hWb 1; unfold i3; omega) ?_
      refine lv_aload_n hx hb d_M_nearest_33 rfl (lv_at hl 0 rfl) ?_
      refine gk_get X w g.1.1 (show (mSt cI mo A f v8 F8) mo = .inr (4, _) from mS_m) rfl in_M 6 (by decide) lk_M_22 rfl d_M_nearest_34 ?_
      refine lv_iconst (v := iN (0)) hx hb d_M_nearest_37 (by decide) ?_
      refine gk_iald X w 0 g.1.2.2.2.2.2.1 (mS_6 g) rfl (vin (by omega) (show (0 : Int) < 576 by have h9 : (0 : Int) < Wl.length := (by omega); omega) (by decide)) d_M_nearest_38 ?_
      rw [vcl (z := 0) (by omega) (by have h9 : (0 : Int) < Wl.length := (by omega); omega), wld_y hwF (i := 0) (by omega) (by omega)]
      refine ri_i2l (a := (pY Wl 0)) hx hb d_M_nearest_39 rfl (by have := hWb 0; have := hWb 1; unfold i3; omega) ?_
      refine lv_aload_n hx hb d_M_nearest_40 rfl (lv_at hl 0 rfl) ?_
      refine gk_get X w g.1.1 (show (mSt cI mo A f v8 F8) mo = .inr (4, _) from mS_m) rfl in_M 5 (by decide) lk_M_19 rfl d_M_nearest_41 ?_
      refine lv_iconst (v := iN (1)) hx hb d_M_nearest_44 (by decide) ?_
      refine gk_iald X w 0 g.1.2.2.2.2.1 (mS_5 g) rfl (vin (by omega) (show (1 : Int) < 576 by have h9 : (1 : Int) < Wl.length := (by omega); omega) (by decide)) d_M_nearest_45 ?_
      rw [vcl (z := 1) (by omega) (by have h9 : (1 : Int) < Wl.length := (by omega); omega), wld_x hwF (i := 1) (by omega) (by omega)]
      refine ri_i2l (a := (pX Wl 1)) hx hb d_M_nearest_46 rfl (by have := hWb 0; have := hWb 1; unfold i3; omega) ?_
      refine lv_aload_n hx hb d_M_nearest_47 rfl (lv_at hl 0 rfl) ?_
      refine gk_get X w g.1.1 (show (mSt cI mo A f v8 F8) mo = .inr (4, _) from mS_m) rfl in_M 6 (by decide) lk_M_22 rfl d_M_nearest_48 ?_
      refine lv_iconst (v := iN (1)) hx hb d_M_nearest_51 (by decide) ?_
      refine gk_iald X w 0 g.1.2.2.2.2.2.1 (mS_6 g) rfl (vin (by omega) (show (1 : Int) < 576 by have h9 : (1 : Int) < Wl.length := (by omega); omega) (by decide)) d_M_nearest_52 ?_
      rw [vcl (z := 1) (by omega) (by have h9 : (1 : Int) < Wl.length := (by omega); omega), wld_y hwF (i := 1) (by omega) (by omega)]
      refine ri_i2l (a := (pY Wl 1)) hx hb d_M_nearest_53 rfl (by have := hWb 0; have := hWb 1; unfold i3; omega) ?_
      refine g_cl w (g_runS (As := [.long (jN ((pX Wl 0))), .long (jN ((pY Wl 0))), .long (jN ((pX Wl 1))), .long (jN ((pY Wl 1)))]) (rest := []) X w (c_M_square l (px := (pX Wl 0)) (py := (pY Wl 0)) (ax := (pX Wl 1)) (ay := (pY Wl 1))) k_M_square lk_M_62 st_M_square ⟨(Nat.le_of_ble_eq_true rfl), (Nat.le_of_ble_eq_true rfl)⟩ rfl hl.1 rfl (Nat.le_of_ble_eq_true rfl) d_M_nearest_54 ⟨Nat.zero_le _, Nat.zero_le _⟩) (fun r u H locs hp w => ?_)
      obtain ⟨rfl, rfl⟩ := hp
      have w : gw D (gA L sz) s.heap H locs L (mSt cI mo A f v8 F8) := w
      refine lv_lstore_n (lv' := [(2, .long (jN ((((pX Wl 0) - (pX Wl 1)) * ((pX Wl 0) - (pX Wl 1)) + ((pY Wl 0) - (pY Wl 1)) * ((pY Wl 0) - (pY Wl 1)))))), (0, .ref mo), (1, .int (iN (z)))]) hx hb d_M_nearest_57 rfl hl (by decide) rfl (fun ls hl => ?_)
      refine lv_iconst (v := iN (0)) hx hb d_M_nearest_58 (by decide) ?_
      refine lv_istore (lv' := [(4, .int (iN (0))), (2, .long (jN ((((pX Wl 0) - (pX Wl 1)) * ((pX Wl 0) - (pX Wl 1)) + ((pY Wl 0) - (pY Wl 1)) * ((pY Wl 0) - (pY Wl 1)))))), (0, .ref mo), (1, .int (iN (z)))]) hx hb d_M_nearest_59 hl (by decide) rfl (fun ls hl => ?_)
      refine g_loop (σ := Int × Int) (fun z9 => ((Wl.length : Int) - z9.1).toNat) (fun z9 => [(0, .ref mo), (1, .int (iN (z))), (2, .long (jN (z9.2))), (4, .int (iN (z9.1)))]) L (fun z9 => (mSt cI mo A f v8 F8)) (fun z9 => 0 ≤ z9.1 ∧ z9.1 ≤ Wl.length ∧ z9.2 = n2L Wl z9.1.toNat) ?_ (0, (sq Wl 0 1)) _ _ _ ⟨by omega, by omega, rfl⟩ w (lv_sub hl [2, 3, 1, 0] rfl)
      intro z9 H locs ls hI w hl ih
      obtain ⟨i, m0⟩ := z9
      have hl : lv_has ls 8 [(0, .ref mo), (1, .int (iN (z))), (2, .long (jN (m0))), (4, .int (iN (i)))] := hl
      have w : gw D (gA L sz) s.heap H locs L ((mSt cI mo A f v8 F8)) := w
      have hI : 0 ≤ i ∧ i ≤ Wl.length ∧ m0 = n2L Wl i.toNat := hI
      obtain ⟨h0, h1, h2⟩ := hI
      have hmb := n2L_b hWb i.toNat
      rw [← h2] at hmb
      refine lv_iload hx hb d_M_nearest_61 (lv_at hl 3 rfl) ?_
      refine lv_aload_n hx hb d_M_nearest_63 rfl (lv_at hl 0 rfl) ?_
      refine gk_get X w g.1.1 (show (mSt cI mo A f v8 F8) mo = .inr (4, _) from mS_m) rfl in_M 7 (by decide) lk_M_45 rfl d_M_nearest_64 ?_
      rw [show v8 7 = (Wl.length : Int) from h7]
      refine ri_cge (a := i) (b := (Wl.length : Int)) (tgt := 143) hx hb d_M_nearest_67 (by decide) rfl rfl (by unfold i3; omega) (by unfold i3; omega) (fun c67 => ?_) (fun c67 => ?_)
      · skip
        refine lv_lload_n hx hb d_M_nearest_143 rfl (lv_at hl 2 rfl) ?_
        refine ri_l2i (a := m0) hx hb d_M_nearest_144 rfl (by unfold i6; omega) ?_
        exact g_iret X w hrt hlk d_M_nearest_145 ⟨by rw [if_pos hzr, ← eWl, if_neg (by omega), h2, show i.toNat = Wl.length by omega], ⟨v8, F8, rfl, hI8, h118, h128⟩⟩
      · skip
        refine lv_iconst (v := iN (0)) hx hb d_M_nearest_70 (by decide) ?_
        refine lv_istore (lv' := [(5, .int (iN (0))), (0, .ref mo), (1, .int (iN (z))), (2, .long (jN (m0))), (4, .int (iN (i)))]) hx hb d_M_nearest_71 hl (by decide) rfl (fun ls hl => ?_)
        refine g_loop (σ := Int × Int) (fun z9 => (i - z9.1).toNat) (fun z9 => [(0, .ref mo), (1, .int (iN (z))), (2, .long (jN (z9.2))), (4, .int (iN (i))), (5, .int (iN (z9.1)))]) L (fun z9 => (mSt cI mo A f v8 F8)) (fun z9 => 0 ≤ z9.1 ∧ z9.1 ≤ i ∧ z9.2 = n2J Wl i z9.1.toNat m0) ?_ (0, m0) _ _ _ ⟨by omega, by omega, rfl⟩ w (lv_sub hl [1, 2, 3, 4, 0] rfl)
        intro z9 H locs ls hI w hl ih2
        obtain ⟨j, m1⟩ := z9
        have hl : lv_has ls 8 [(0, .ref mo), (1, .int (iN (z))), (2, .long (jN (m1))), (4, .int (iN (i))), (5, .int (iN (j)))] := hl
        have w : gw D (gA L sz) s.heap H locs L ((mSt cI mo A f v8 F8)) := w
        have hI : 0 ≤ j ∧ j ≤ i ∧ m1 = n2J Wl i j.toNat m0 := hI
        obtain ⟨k0, k1, k2⟩ := hI
        have hjb := n2J_b hWb i j.toNat hmb
        rw [← k2] at hjb
        have hsb := sq_b3 hWb i j
        refine lv_iload hx hb d_M_nearest_73 (lv_at hl 4 rfl) ?_
        refine lv_iload hx hb d_M_nearest_75 (lv_at hl 3 rfl) ?_
        refine ri_cge (a := j) (b := i) (tgt := 137) hx hb d_M_nearest_77 (by decide) rfl rfl (by unfold i3; omega) (by unfold i3; omega) (fun c77 => ?_) (fun c77 => ?_)
        · skip
          refine lv_iinc (v := iN ((i + 1))) (lv' := [(4, .int (iN ((i + 1)))), (0, .ref mo), (1, .int (iN (z))), (2, .long (jN (m1))), (5, .int (iN (j)))]) hx hb d_M_nearest_137 hl (k := 3) rfl (by rw [show (i + 1) = i + (1 : Int) by omega, ← iN_add]; rfl) (by decide) rfl (fun ls hl => ?_)
          refine lv_goto (tgt := 61) hx hb d_M_nearest_140 (by decide) ?_
          exact ih ((i + 1), m1) _ _ _ (by omega) ⟨by omega, by omega, by rw [tn_s h0]; unfold n2L; rw [← h2, tn_c h0, k2, show j = i by omega]⟩ w (lv_sub hl [1, 2, 3, 0] rfl)
        · skip
          refine lv_aload_n hx hb d_M_nearest_80 rfl (lv_at hl 0 rfl) ?_
          refine gk_get X w g.1.1 (show (mSt cI mo A f v8 F8) mo = .inr (4, _) from mS_m) rfl in_M 5 (by decide) lk_M_19 rfl d_M_nearest_81 ?_
          refine lv_iload hx hb d_M_nearest_84 (lv_at hl 3 rfl) ?_
          refine gk_iald X w 0 g.1.2.2.2.2.1 (mS_5 g) rfl (vin (by omega) (show (i : Int) < 576 by have h9 : (i : Int) < Wl.length := (by omega); omega) (by decide)) d_M_nearest_86 ?_
          rw [vcl (z := i) (by omega) (by have h9 : (i : Int) < Wl.length := (by omega); omega), wld_x hwF (i := i) (by omega) (by omega)]
          refine ri_i2l (a := (pX Wl i)) hx hb d_M_nearest_87 rfl (by have := hWb i; have := hWb j; unfold i3; omega) ?_
          refine lv_aload_n hx hb d_M_nearest_88 rfl (lv_at hl 0 rfl) ?_
          refine gk_get X w g.1.1 (show (mSt cI mo A f v8 F8) mo = .inr (4, _) from mS_m) rfl in_M 6 (by decide) lk_M_22 rfl d_M_nearest_89 ?_
          refine lv_iload hx hb d_M_nearest_92 (lv_at hl 3 rfl) ?_
          refine gk_iald X w 0 g.1.2.2.2.2.2.1 (mS_6 g) rfl (vin (by omega) (show (i : Int) < 576 by have h9 : (i : Int) < Wl.length := (by omega); omega) (by decide)) d_M_nearest_94 ?_
          rw [vcl (z := i) (by omega) (by have h9 : (i : Int) < Wl.length := (by omega); omega), wld_y hwF (i := i) (by omega) (by omega)]
          refine ri_i2l (a := (pY Wl i)) hx hb d_M_nearest_95 rfl (by have := hWb i; have := hWb j; unfold i3; omega) ?_
          refine lv_aload_n hx hb d_M_nearest_96 rfl (lv_at hl 0 rfl) ?_
          refine gk_get X w g.1.1 (show (mSt cI mo A f v8 F8) mo = .inr (4, _) from mS_m) rfl in_M 5 (by decide) lk_M_19 rfl d_M_nearest_97 ?_
          refine lv_iload hx hb d_M_nearest_100 (lv_at hl 4 rfl) ?_
          refine gk_iald X w 0 g.1.2.2.2.2.1 (mS_5 g) rfl (vin (by omega) (show (j : Int) < 576 by have h9 : (j : Int) < Wl.length := (by omega); omega) (by decide)) d_M_nearest_102 ?_
          rw [vcl (z := j) (by omega) (by have h9 : (j : Int) < Wl.length := (by omega); omega), wld_x hwF (i := j) (by omega) (by omega)]
          refine ri_i2l (a := (pX Wl j)) hx hb d_M_nearest_103 rfl (by have := hWb i; have := hWb j; unfold i3; omega) ?_
          refine lv_aload_n hx hb d_M_nearest_104 rfl (lv_at hl 0 rfl) ?_
          refine gk_get X w g.1.1 (show (mSt cI mo A f v8 F8) mo = .inr (4, _) from mS_m) rfl in_M 6 (by decide) lk_M_22 rfl d_M_nearest_105 ?_
          refine lv_iload hx hb d_M_nearest_108 (lv_at hl 4 rfl) ?_
          refine gk_iald X w 0 g.1.2.2.2.2.2.1 (mS_6 g) rfl (vin (by omega) (show (j : Int) < 576 by have h9 : (j : Int) < Wl.length := (by omega); omega) (by decide)) d_M_nearest_110 ?_
          rw [vcl (z := j) (by omega) (by have h9 : (j : Int) < Wl.length := (by omega); omega), wld_y hwF (i := j) (by omega) (by omega)]
          refine ri_i2l (a := (pY Wl j)) hx hb d_M_nearest_111 rfl (by have := hWb i; have := hWb j; unfold i3; omega) ?_
          refine g_cl w (g_runS (As := [.long (jN ((pX Wl i))), .long (jN ((pY Wl i))), .long (jN ((pX Wl j))), .long (jN ((pY Wl j)))]) (rest := []) X w (c_M_square l (px := (pX Wl i)) (py := (pY Wl i)) (ax := (pX Wl j)) (ay := (pY Wl j))) k_M_square lk_M_62 st_M_square ⟨(Nat.le_of_ble_eq_true rfl), (Nat.le_of_ble_eq_true rfl)⟩ rfl hl.1 rfl (Nat.le_of_ble_eq_true rfl) d_M_nearest_112 ⟨Nat.zero_le _, Nat.zero_le _⟩) (fun r u H locs hp w => ?_)
          obtain ⟨rfl, rfl⟩ := hp
          have w : gw D (gA L sz) s.heap H locs L (mSt cI mo A f v8 F8) := w
          refine lv_lstore (lv' := [(6, .long (jN ((((pX Wl i) - (pX Wl j)) * ((pX Wl i) - (pX Wl j)) + ((pY Wl i) - (pY Wl j)) * ((pY Wl i) - (pY Wl j)))))), (0, .ref mo), (1, .int (iN (z))), (2, .long (jN (m1))), (4, .int (iN (i))), (5, .int (iN (j)))]) hx hb d_M_nearest_115 hl (by decide) rfl (fun ls hl => ?_)
          refine g_joinw (D := D) (A := gA L sz) (H0 := s.heap) (L := L) (f := (mSt cI mo A f v8 F8)) (g1 := F0 m 130 ls [.long (jN ((min (sq Wl i j) m1)))]) (fun H locs w => ?_) (fun K1 => ?_)
          · skip
            refine lv_lstore_n (lv' := [(2, .long (jN ((min (sq Wl i j) m1)))), (6, .long (jN ((((pX Wl i) - (pX Wl j)) * ((pX Wl i) - (pX Wl j)) + ((pY Wl i) - (pY Wl j)) * ((pY Wl i) - (pY Wl j)))))), (0, .ref mo), (1, .int (iN (z))), (4, .int (iN (i))), (5, .int (iN (j)))]) hx hb d_M_nearest_130 rfl hl (by decide) rfl (fun ls hl => ?_)
            refine lv_iinc (v := iN ((j + 1))) (lv' := [(5, .int (iN ((j + 1)))), (2, .long (jN ((min (sq Wl i j) m1)))), (6, .long (jN ((((pX Wl i) - (pX Wl j)) * ((pX Wl i) - (pX Wl j)) + ((pY Wl i) - (pY Wl j)) * ((pY Wl i) - (pY Wl j)))))), (0, .ref mo), (1, .int (iN (z))), (4, .int (iN (i)))]) hx hb d_M_nearest_131 hl (k := 5) rfl (by rw [show (j + 1) = j + (1 : Int) by omega, ← iN_add]; rfl) (by decide) rfl (fun ls hl => ?_)
            refine lv_goto (tgt := 73) hx hb d_M_nearest_134 (by decide) ?_
            exact ih2 ((j + 1), (min (sq Wl i j) m1)) _ _ _ (by omega) ⟨by omega, by omega, by rw [tn_s k0]; unfold n2J; rw [← k2, tn_c k0]⟩ w (lv_sub hl [3, 4, 1, 5, 0] rfl)
          · skip
            refine lv_lload hx hb d_M_nearest_117 (lv_at hl 0 rfl) ?_
            refine lv_lload_n hx hb d_M_nearest_119 rfl (lv_at hl 3 rfl) ?_
            refine rj_cge (a := (((pX Wl i) - (pX Wl j)) * ((pX Wl i) - (pX Wl j)) + ((pY Wl i) - (pY Wl j)) * ((pY Wl i) - (pY Wl j)))) (b := m1) (tgt := 129) hx hb d_M_nearest_120 d_M_nearest_121 (by decide) rfl rfl (by unfold sq at hsb; unfold i6; omega) (by unfold i6; omega) (fun c120 => ?_) (fun c120 => ?_)
            · skip
              refine lv_lload_n hx hb d_M_nearest_129 rfl (lv_at hl 3 rfl) ?_
              exact W.eq (congrArg (fun z : Int => F0 m 130 ls [.long (jN z)]) (show m1 = (min (sq Wl i j) m1) from (by show _ = min ((pX Wl i - pX Wl j) * (pX Wl i - pX Wl j) + (pY Wl i - pY Wl j) * (pY Wl i - pY Wl j)) m1; omega))) (K1 _ _ w)
            · skip
              refine lv_lload hx hb d_M_nearest_124 (lv_at hl 0 rfl) ?_
              refine lv_goto (tgt := 130) hx hb d_M_nearest_126 (by decide) ?_
              exact W.eq (congrArg (fun z : Int => F0 m 130 ls [.long (jN z)]) (show (((pX Wl i) - (pX Wl j)) * ((pX Wl i) - (pX Wl j)) + ((pY Wl i) - (pY Wl j)) * ((pY Wl i) - (pY Wl j))) = (min (sq Wl i j) m1) from (by show _ = min ((pX Wl i - pX Wl j) * (pX Wl i - pX Wl j) + (pY Wl i - pY Wl j) * (pY Wl i - pY Wl j)) m1; omega))) (K1 _ _ w)
    · skip
      refine lv_bipush (v := iN (-3)) hx hb d_M_nearest_23 (by decide) ?_
      exact g_iret X w hrt hlk d_M_nearest_25 ⟨by rw [if_pos hzr, ← eWl, if_pos (by omega)], ⟨v8, F8, rfl, hI8, h118, h128⟩⟩
  · skip
    refine lv_iconst (v := iN (-1)) hx hb d_M_nearest_8 (by decide) ?_
    exact g_iret X w hrt hlk d_M_nearest_9 ⟨by rw [if_neg (bI_0 (by omega))], ⟨v, F, rfl, hI0, h11, h12⟩⟩
set_option maxHeartbeats 4000000 in
set_option maxRecDepth 100000 in
theorem c_M_mixed (l : Launch) {D : va_G} {cI cR : ClassId} {L : List Nat} {f : Nat → va_E} {mo : Nat} {A : Nat → Nat} {v : Nat → Int} {F : Nat → Nat → Int} (g : mg L mo A) {K t1 t2 : Int} {S : Nat → List Pt} (hI0 : mInv v F K S) (h11 : v 11 = t1) (h12 : v 12 = t2) (hok : okS K S) (hhu : hulS K S) {z : Int} (hz : i3 z) {z2 : Int} (hz2 : i3 z2) (hsu : sumS K S 1) : gMi D cI cR l y_M_mixed (Cond.code y_M_mixed b_M_mixed 6 (some .int) :: lw_g) { frames := 4, cells := 0, slots := 0, locals := 105 } [.ref mo, .int (iN (z)), .int (iN (z2))] L (mSt cI mo A f v F) (fun r u => r = iN (if (flA K S z z2 = 0) then ar2 (sumH (S z.toNat) (S z2.toNat) 1) (sumH (S z.toNat) (S z2.toNat) 1).length - ar2 (hullF (S z.toNat)) (hullF (S z.toNat)).length - ar2 (hullF (S z2.toNat)) (hullF (S z2.toNat)).length else flA K S z z2) ∧ mpost L cI mo A f K t1 t2 S u) := by
  intro sz
  refine g_enter (by decide) rfl (Nat.le_of_ble_eq_true rfl) ?_
  intro p e s m below meth cd ls X hrt hlk hnm hl hsz w
  have X : gx p m cd b_M_mixed 6 s _ "HullSumsModel" D cI cR := X
  have hx := X.1.1
  have hb := X.1.2.1
  have hl : lv_has ls 6 [(0, .ref mo), (1, .int (iN (z))), (2, .int (iN (z2)))] := hl
  have hI1 := hI0
  obtain ⟨hi0, hi1, hi2, hi3, hi4⟩ := hI1
  refine lv_aload_n hx hb d_M_mixed_0 rfl (lv_at hl 0 rfl) ?_
  refine lv_iload_n hx hb d_M_mixed_1 rfl (lv_at hl 1 rfl) ?_
  refine lv_iload_n hx hb d_M_mixed_2 rfl (lv_at hl 2 rfl) ?_
  refine g_ci w (g_runV (As := [.int (iN (z)), .int (iN (z2))]) (rest := []) X w (c_M_wrong l g hI0 h11 h12 hok hhu hz hz2) k_M_wrong v_M_wrong lk_M_177 g.1.1 (show mSt cI mo A f v F mo = .inr (4, _) from mS_m) rfl ⟨(Nat.le_of_ble_eq_true rfl), (Nat.le_of_ble_eq_true rfl)⟩ rfl hl.1 rfl (Nat.le_of_ble_eq_true rfl) d_M_mixed_3 ⟨(Nat.le_of_ble_eq_true rfl), (Nat.le_of_ble_eq_true rfl)⟩) (fun r u H locs hp w => ?_)
  obtain ⟨rfl, rfl⟩ := hp
  have w : gw D (gA L sz) s.heap H locs L (mSt cI mo A f v F) := w
  have hfb := flA_b K S z z2
  refine lv_istore_n (lv' := [(3, .int (iN ((flA K S z z2)))), (0, .ref mo), (1, .int (iN (z))), (2, .int (iN (z2)))]) hx hb d_M_mixed_6 rfl hl (by decide) rfl (fun ls hl => ?_)
  refine lv_iload_n hx hb d_M_mixed_7 rfl (lv_at hl 0 rfl) ?_
  refine ri_zge (a := (flA K S z z2)) (tgt := 13) hx hb d_M_mixed_8 (by decide) rfl (by unfold i3; omega) (fun c8 => ?_) (fun c8 => ?_)
  · skip
    refine lv_aload_n hx hb d_M_mixed_13 rfl (lv_at hl 1 rfl) ?_
    refine lv_iload_n hx hb d_M_mixed_14 rfl (lv_at hl 2 rfl) ?_
    refine lv_iload_n hx hb d_M_mixed_15 rfl (lv_at hl 3 rfl) ?_
    refine lv_iconst (v := iN (1)) hx hb d_M_mixed_16 (by decide) ?_
    have hf0 : flA K S z z2 = 0 := by omega
    obtain ⟨⟨hzr, hyr⟩, hne1, hne2⟩ := flA_0 hf0
    obtain ⟨Wl, eWl⟩ : ∃ q, q = allS (S z.toNat) (S z2.toNat) 1 := ⟨_, rfl⟩
    obtain ⟨Hu, eHu⟩ : ∃ q, q = sumH (S z.toNat) (S z2.toNat) 1 := ⟨_, rfl⟩
    obtain ⟨ho1, hp1⟩ := hok z.toNat (by omega)
    obtain ⟨ho2, hp2⟩ := hok z2.toNat (by omega)
    obtain ⟨hhz, hhb⟩ := hsu z.toNat z2.toNat (by omega) (by omega) hne1 hne2
    rw [← eWl, ← eHu] at hhz
    rw [← eHu] at hhb
    have hH576 := hhz.2.2.1
    have hHb : pb 600 Hu := pb_of (by decide) hhb
    have hWpl : pbl 600 Wl := by rw [eWl]; exact allS_b (Or.inl rfl) hp1 hp2
    have hWb : pb 600 Wl := pb_of (by decide) hWpl
    have hW576 : Wl.length ≤ 576 := by rw [eWl]; unfold allS; rw [flat_len]; exact Nat.mul_le_mul ho1 ho2
    refine g_cv w (g_runV (As := [.int (iN (z)), .int (iN (z2)), .int (iN (1))]) (rest := []) X w ((by have h9 := c_M_loadBoth (D := D) (cR := cR) (cI := cI) (f := f) l g hI0 (z := z) (z2 := z2) (sg := 1) hzr hyr ho1 ho2 (by rw [← eWl]; exact hWpl) (Hu := Hu) (by rw [← eWl]; exact hhz); rw [← eWl] at h9; exact h9)) k_M_loadBoth v_M_loadBoth lk_M_181 g.1.1 (show mSt cI mo A f v F mo = .inr (4, _) from mS_m) rfl ⟨(Nat.le_of_ble_eq_true rfl), (Nat.le_of_ble_eq_true rfl)⟩ rfl hl.1 rfl (Nat.le_of_ble_eq_true rfl) d_M_mixed_17 ⟨(Nat.le_of_ble_eq_true rfl), (Nat.le_of_ble_eq_true rfl)⟩) (fun u H locs hp w => ?_)
    obtain ⟨v8, F8, rfl, hL8, hn8, hf8⟩ := hp
    have w : gw D (gA L sz) s.heap H locs L (mSt cI mo A f v8 F8) := w
    obtain ⟨h7, h10, hwF, hhF⟩ := id hL8
    have hI8 := mInv_k hI0 (hn8 0 (by decide) (by decide)) (hn8 1 (by decide) (by decide)) hf8
    have h118 := (hn8 11 (by decide) (by decide)).trans h11
    have h128 := (hn8 12 (by decide) (by decide)).trans h12
    refine lv_aload_n hx hb d_M_mixed_20 rfl (lv_at hl 1 rfl) ?_
    refine g_cl w (g_runV (As := []) (rest := []) X w (c_M_areaOf l g (v := v8) (F := F8) hL8 hH576 hHb) k_M_areaOf v_M_areaOf lk_M_95 g.1.1 (show (mSt cI mo A f v8 F8) mo = .inr (4, _) from mS_m) rfl ⟨(Nat.le_of_ble_eq_true rfl), (Nat.le_of_ble_eq_true rfl)⟩ rfl hl.1 rfl (Nat.le_of_ble_eq_true rfl) d_M_mixed_21 ⟨Nat.zero_le _, Nat.zero_le _⟩) (fun r u H locs hp w => ?_)
    obtain ⟨rfl, rfl⟩ := hp
    have w : gw D (gA L sz) s.heap H locs L (mSt cI mo A f v8 F8) := w
    refine lv_lstore (lv' := [(4, .long (jN ((ar2 Hu Hu.length)))), (3, .int (iN ((flA K S z z2)))), (0, .ref mo), (1, .int (iN (z))), (2, .int (iN (z2)))]) hx hb d_M_mixed_24 hl (by decide) rfl (fun ls hl => ?_)
    refine lv_aload_n hx hb d_M_mixed_26 rfl (lv_at hl 2 rfl) ?_
    refine lv_iload_n hx hb d_M_mixed_27 rfl (lv_at hl 3 rfl) ?_
    have hhqQ1 : isHL (S z.toNat) (hullF (S z.toNat)) := hhu z.toNat (by omega)
    have hbqQ1 : pb 600 (hullF (S z.toNat)) := pb_of (by decide) (pbl_le (by decide) (pbl_hull hp1))
    refine g_cv w (g_runV (As := [.int (iN (z))]) (rest := []) X w (c_M_load l g hI8 (z := z) hzr ho1 (pbl_le (by decide) hp1) (Hu := hullF (S z.toNat)) hhqQ1) k_M_load v_M_load lk_M_87 g.1.1 (show (mSt cI mo A f v8 F8) mo = .inr (4, _) from mS_m) rfl ⟨(Nat.le_of_ble_eq_true rfl), (Nat.le_of_ble_eq_true rfl)⟩ rfl hl.1 rfl (Nat.le_of_ble_eq_true rfl) d_M_mixed_28 ⟨(Nat.le_of_ble_eq_true rfl), (Nat.le_of_ble_eq_true rfl)⟩) (fun u H locs hp w => ?_)
    obtain ⟨vQ1, FQ1, rfl, hLQ1, hnQ1, hfQ1⟩ := hp
    have w : gw D (gA L sz) s.heap H locs L (mSt cI mo A f vQ1 FQ1) := w
    have hI8 := mInv_k hI8 (hnQ1 0 (by decide) (by decide)) (hnQ1 1 (by decide) (by decide)) hfQ1
    have h118 := (hnQ1 11 (by decide) (by decide)).trans h118
    have h128 := (hnQ1 12 (by decide) (by decide)).trans h128
    refine lv_lload hx hb d_M_mixed_31 (lv_at hl 0 rfl) ?_
    refine lv_aload_n hx hb d_M_mixed_33 rfl (lv_at hl 2 rfl) ?_
    refine g_cl w (g_runV (As := []) (rest := [.long (jN ((ar2 Hu Hu.length)))]) X w (c_M_areaOf l g (v := vQ1) (F := FQ1) hLQ1 hhqQ1.2.2.1 hbqQ1) k_M_areaOf v_M_areaOf lk_M_95 g.1.1 (show (mSt cI mo A f vQ1 FQ1) mo = .inr (4, _) from mS_m) rfl ⟨(Nat.le_of_ble_eq_true rfl), (Nat.le_of_ble_eq_true rfl)⟩ rfl hl.1 rfl (Nat.le_of_ble_eq_true rfl) d_M_mixed_34 ⟨Nat.zero_le _, Nat.zero_le _⟩) (fun r u H locs hp w => ?_)
    obtain ⟨rfl, rfl⟩ := hp
    have w : gw D (gA L sz) s.heap H locs L (mSt cI mo A f vQ1 FQ1) := w
    refine rj_sub (a := (ar2 Hu Hu.length)) (b := (ar2 (hullF (S z.toNat)) (hullF (S z.toNat)).length)) hx hb d_M_mixed_37 rfl rfl ?_
    refine lv_lstore (lv' := [(4, .long (jN (((ar2 Hu Hu.length) - (ar2 (hullF (S z.toNat)) (hullF (S z.toNat)).length))))), (3, .int (iN ((flA K S z z2)))), (0, .ref mo), (1, .int (iN (z))), (2, .int (iN (z2)))]) hx hb d_M_mixed_38 hl (by decide) rfl (fun ls hl => ?_)
    refine lv_aload_n hx hb d_M_mixed_40 rfl (lv_at hl 2 rfl) ?_
    refine lv_iload_n hx hb d_M_mixed_41 rfl (lv_at hl 4 rfl) ?_
    have hhqQ2 : isHL (S z2.toNat) (hullF (S z2.toNat)) := hhu z2.toNat (by omega)
    have hbqQ2 : pb 600 (hullF (S z2.toNat)) := pb_of (by decide) (pbl_le (by decide) (pbl_hull hp2))
    refine g_cv w (g_runV (As := [.int (iN (z2))]) (rest := []) X w (c_M_load l g hI8 (z := z2) hyr ho2 (pbl_le (by decide) hp2) (Hu := hullF (S z2.toNat)) hhqQ2) k_M_load v_M_load lk_M_87 g.1.1 (show (mSt cI mo A f vQ1 FQ1) mo = .inr (4, _) from mS_m) rfl ⟨(Nat.le_of_ble_eq_true rfl), (Nat.le_of_ble_eq_true rfl)⟩ rfl hl.1 rfl (Nat.le_of_ble_eq_true rfl) d_M_mixed_42 ⟨(Nat.le_of_ble_eq_true rfl), (Nat.le_of_ble_eq_true rfl)⟩) (fun u H locs hp w => ?_)
    obtain ⟨vQ2, FQ2, rfl, hLQ2, hnQ2, hfQ2⟩ := hp
    have w : gw D (gA L sz) s.heap H locs L (mSt cI mo A f vQ2 FQ2) := w
    have hI8 := mInv_k hI8 (hnQ2 0 (by decide) (by decide)) (hnQ2 1 (by decide) (by decide)) hfQ2
    have h118 := (hnQ2 11 (by decide) (by decide)).trans h118
    have h128 := (hnQ2 12 (by decide) (by decide)).trans h128
    refine lv_lload hx hb d_M_mixed_45 (lv_at hl 0 rfl) ?_
    refine lv_aload_n hx hb d_M_mixed_47 rfl (lv_at hl 2 rfl) ?_
    refine g_cl w (g_runV (As := []) (rest := [.long (jN (((ar2 Hu Hu.length) - (ar2 (hullF (S z.toNat)) (hullF (S z.toNat)).length))))]) X w (c_M_areaOf l g (v := vQ2) (F := FQ2) hLQ2 hhqQ2.2.2.1 hbqQ2) k_M_areaOf v_M_areaOf lk_M_95 g.1.1 (show (mSt cI mo A f vQ2 FQ2) mo = .inr (4, _) from mS_m) rfl ⟨(Nat.le_of_ble_eq_true rfl), (Nat.le_of_ble_eq_true rfl)⟩ rfl hl.1 rfl (Nat.le_of_ble_eq_true rfl) d_M_mixed_48 ⟨Nat.zero_le _, Nat.zero_le _⟩) (fun r u H locs hp w => ?_)
    obtain ⟨rfl, rfl⟩ := hp
    have w : gw D (gA L sz) s.heap H locs L (mSt cI mo A f vQ2 FQ2) := w
    refine rj_sub (a := ((ar2 Hu Hu.length) - (ar2 (hullF (S z.toNat)) (hullF (S z.toNat)).length))) (b := (ar2 (hullF (S z2.toNat)) (hullF (S z2.toNat)).length)) hx hb d_M_mixed_51 rfl rfl ?_
    have q1 := ar2_b hHb Hu.length
    have q2 := ar2_b (pb_of (by decide) (pbl_le (by decide) (pbl_hull hp1)) : pb 600 (hullF (S z.toNat))) (hullF (S z.toNat)).length
    have q3 := ar2_b (pb_of (by decide) (pbl_le (by decide) (pbl_hull hp2)) : pb 600 (hullF (S z2.toNat))) (hullF (S z2.toNat)).length
    have q4 := (hhu z.toNat (by omega)).2.2.1
    have q5 := (hhu z2.toNat (by omega)).2.2.1
    refine ri_l2i (a := (((ar2 Hu Hu.length) - (ar2 (hullF (S z.toNat)) (hullF (S z.toNat)).length)) - (ar2 (hullF (S z2.toNat)) (hullF (S z2.toNat)).length))) hx hb d_M_mixed_52 rfl (by unfold i6; omega) ?_
    exact g_iret X w hrt hlk d_M_mixed_53 ⟨by rw [if_pos hf0, ← eHu], ⟨vQ2, FQ2, rfl, hI8, h118, h128⟩⟩
  · skip
    refine lv_iload_n hx hb d_M_mixed_11 rfl (lv_at hl 0 rfl) ?_
    exact g_iret X w hrt hlk d_M_mixed_12 ⟨by rw [if_neg (by omega)], ⟨v, F, rfl, hI0, h11, h12⟩⟩
