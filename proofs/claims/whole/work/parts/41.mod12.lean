/-! THE REFERENCE: its public methods, fifth part -/
set_option maxHeartbeats 4000000 in
set_option maxRecDepth 100000 in
theorem c_M_within (l : Launch) {D : va_G} {cI cR : ClassId} {L : List Nat} {f : Nat → va_E} {mo : Nat} {A : Nat → Nat} {v : Nat → Int} {F : Nat → Nat → Int} (g : mg L mo A) {K t1 t2 : Int} {S : Nat → List Pt} (hI0 : mInv v F K S) (h11 : v 11 = t1) (h12 : v 12 = t2) (hok : okS K S) (hhu : hulS K S) {z : Int} (hz : i3 z) {z2 : Int} (hz2 : i3 z2) : gMi D cI cR l y_M_within (Cond.code y_M_within b_M_within 5 (some .int) :: lw_g) { frames := 4, cells := 0, slots := 0, locals := 102 } [.ref mo, .int (iN (z)), .int (iN (z2))] L (mSt cI mo A f v F) (fun r u => r = iN (if (0 ≤ z ∧ z < K) ∧ (0 ≤ z2 ∧ z2 < K) then bI (∀ i9 : Int, 0 ≤ i9 → i9 < (S z.toNat).length → 0 < plM (hullF (S z2.toNat)) (pX (S z.toNat) i9) (pY (S z.toNat) i9)) else -1) ∧ mpost L cI mo A f K t1 t2 S u) := by
  intro sz
  refine g_enter (by decide) rfl (Nat.le_of_ble_eq_true rfl) ?_
  intro p e s m below meth cd ls X hrt hlk hnm hl hsz w
  have X : gx p m cd b_M_within 5 s _ "HullSumsModel" D cI cR := X
  have hx := X.1.1
  have hb := X.1.2.1
  have hl : lv_has ls 5 [(0, .ref mo), (1, .int (iN (z))), (2, .int (iN (z2)))] := hl
  have hI1 := hI0
  obtain ⟨hi0, hi1, hi2, hi3, hi4⟩ := hI1
  refine lv_aload_n hx hb d_M_within_0 rfl (lv_at hl 0 rfl) ?_
  refine lv_iload_n hx hb d_M_within_1 rfl (lv_at hl 1 rfl) ?_
  refine g_ci w (g_runV (As := [.int (iN (z))]) (rest := []) X w (c_M_is l g (v := v) (F := F) hi0 (by rw [hi1]; unfold i3; omega) (z := z) hz) k_M_is v_M_is lk_M_79 g.1.1 (show mSt cI mo A f v F mo = .inr (4, _) from mS_m) rfl ⟨(Nat.le_of_ble_eq_true rfl), (Nat.le_of_ble_eq_true rfl)⟩ rfl hl.1 rfl (Nat.le_of_ble_eq_true rfl) d_M_within_2 ⟨(Nat.le_of_ble_eq_true rfl), (Nat.le_of_ble_eq_true rfl)⟩) (fun r u H locs hp w => ?_)
  obtain ⟨hr9, rfl⟩ := hp
  rw [hi1] at hr9
  subst hr9
  have w : gw D (gA L sz) s.heap H locs L (mSt cI mo A f v F) := w
  refine ri_zeq (a := (bI (0 ≤ z ∧ z < K))) (tgt := 16) hx hb d_M_within_5 (by decide) rfl (bI_3 _) (fun c5 => ?_) (fun c5 => ?_)
  · skip
    refine lv_iconst (v := iN (-1)) hx hb d_M_within_16 (by decide) ?_
    exact g_iret X w hrt hlk d_M_within_17 ⟨by rw [if_neg (fun q => by first | exact bI_0 c5 q.1 | exact bI_0 (by omega) q.2)], ⟨v, F, rfl, hI0, h11, h12⟩⟩
  · skip
    refine lv_aload_n hx hb d_M_within_8 rfl (lv_at hl 0 rfl) ?_
    refine lv_iload_n hx hb d_M_within_9 rfl (lv_at hl 2 rfl) ?_
    refine g_ci w (g_runV (As := [.int (iN (z2))]) (rest := []) X w (c_M_is l g (v := v) (F := F) hi0 (by rw [hi1]; unfold i3; omega) (z := z2) hz2) k_M_is v_M_is lk_M_79 g.1.1 (show mSt cI mo A f v F mo = .inr (4, _) from mS_m) rfl ⟨(Nat.le_of_ble_eq_true rfl), (Nat.le_of_ble_eq_true rfl)⟩ rfl hl.1 rfl (Nat.le_of_ble_eq_true rfl) d_M_within_10 ⟨(Nat.le_of_ble_eq_true rfl), (Nat.le_of_ble_eq_true rfl)⟩) (fun r u H locs hp w => ?_)
    obtain ⟨hr9, rfl⟩ := hp
    rw [hi1] at hr9
    subst hr9
    have w : gw D (gA L sz) s.heap H locs L (mSt cI mo A f v F) := w
    refine ri_zne (a := (bI (0 ≤ z2 ∧ z2 < K))) (tgt := 18) hx hb d_M_within_13 (by decide) rfl (bI_3 _) (fun c13 => ?_) (fun c13 => ?_)
    · skip
      refine lv_aload_n hx hb d_M_within_18 rfl (lv_at hl 0 rfl) ?_
      refine lv_iload_n hx hb d_M_within_19 rfl (lv_at hl 2 rfl) ?_
      have hzr : 0 ≤ z ∧ z < K := bI_n c5
      have hyr : 0 ≤ z2 ∧ z2 < K := bI_n c13
      obtain ⟨Wl, eWl⟩ : ∃ q, q = S z2.toNat := ⟨_, rfl⟩
      obtain ⟨Hu, eHu⟩ : ∃ q, q = hullF (S z2.toNat) := ⟨_, rfl⟩
      have hoz := hok z2.toNat (by omega)
      obtain ⟨hoa, hpa⟩ := hok z.toNat (by omega)
      have hhz : isHL Wl Hu := by rw [eWl, eHu]; exact hhu z2.toNat (by omega)
      have hH576 := hhz.2.2.1
      have hHb : pb 600 Hu := by rw [eHu]; exact pb_of (by decide) (pbl_le (by decide) (pbl_hull hoz.2))
      refine g_cv w (g_runV (As := [.int (iN (z2))]) (rest := []) X w ((by have h9 := c_M_load (D := D) (cR := cR) (cI := cI) (f := f) l g hI0 (z := z2) hyr hoz.1 (pbl_le (by decide) hoz.2) (Hu := Hu) (by rw [← eWl]; exact hhz); rw [← eWl] at h9; exact h9)) k_M_load v_M_load lk_M_87 g.1.1 (show mSt cI mo A f v F mo = .inr (4, _) from mS_m) rfl ⟨(Nat.le_of_ble_eq_true rfl), (Nat.le_of_ble_eq_true rfl)⟩ rfl hl.1 rfl (Nat.le_of_ble_eq_true rfl) d_M_within_20 ⟨(Nat.le_of_ble_eq_true rfl), (Nat.le_of_ble_eq_true rfl)⟩) (fun u H locs hp w => ?_)
      obtain ⟨v8, F8, rfl, hL8, hn8, hf8⟩ := hp
      have w : gw D (gA L sz) s.heap H locs L (mSt cI mo A f v8 F8) := w
      obtain ⟨h7, h10, hwF, hhF⟩ := id hL8
      have hI8 := mInv_k hI0 (hn8 0 (by decide) (by decide)) (hn8 1 (by decide) (by decide)) hf8
      have h118 := (hn8 11 (by decide) (by decide)).trans h11
      have h128 := (hn8 12 (by decide) (by decide)).trans h12
      refine lv_iconst (v := iN (1)) hx hb d_M_within_23 (by decide) ?_
      refine lv_istore_n (lv' := [(3, .int (iN (1))), (0, .ref mo), (1, .int (iN (z))), (2, .int (iN (z2)))]) hx hb d_M_within_24 rfl hl (by decide) rfl (fun ls hl => ?_)
      obtain ⟨hz4, hzq⟩ := hi4 z.toNat (by omega)
      have e84 : F8 4 = F 4 := hf8 4 (by decide)
      have e82 : F8 2 = F 2 := hf8 2 (by decide)
      have e83 : F8 3 = F 3 := hf8 3 (by decide)
      refine lv_iconst (v := iN (0)) hx hb d_M_within_25 (by decide) ?_
      refine lv_istore (lv' := [(4, .int (iN (0))), (3, .int (iN (1))), (0, .ref mo), (1, .int (iN (z))), (2, .int (iN (z2)))]) hx hb d_M_within_26 hl (by decide) rfl (fun ls hl => ?_)
      have hal : (1 : Int) = bI (∀ i9 : Int, 0 ≤ i9 → i9 < 0 → 0 < plM Hu (pX (S z.toNat) i9) (pY (S z.toNat) i9)) := (bI_t (fun _ q0 q1 => by omega)).symm
      rw [hal] at hl
      refine g_loop (σ := Int) (fun z9 => ((S z.toNat).length - z9).toNat) (fun z9 => [(0, .ref mo), (1, .int (iN (z))), (2, .int (iN (z2))), (3, .int (iN (bI (∀ i9 : Int, 0 ≤ i9 → i9 < z9 → 0 < plM Hu (pX (S z.toNat) i9) (pY (S z.toNat) i9))))), (4, .int (iN (z9)))]) L (fun z9 => (mSt cI mo A f v8 F8)) (fun z9 => 0 ≤ z9 ∧ z9 ≤ (S z.toNat).length) ?_ 0 _ _ _ ⟨by omega, by omega⟩ w (lv_sub hl [2, 3, 4, 1, 0] rfl)
      intro k H locs ls hI w hl ih
      have hl : lv_has ls 5 [(0, .ref mo), (1, .int (iN (z))), (2, .int (iN (z2))), (3, .int (iN (bI (∀ i9 : Int, 0 ≤ i9 → i9 < k → 0 < plM Hu (pX (S z.toNat) i9) (pY (S z.toNat) i9))))), (4, .int (iN (k)))] := hl
      have w : gw D (gA L sz) s.heap H locs L ((mSt cI mo A f v8 F8)) := w
      have hI : 0 ≤ k ∧ k ≤ (S z.toNat).length := hI
      obtain ⟨h0, h1⟩ := hI
      refine lv_iload hx hb d_M_within_28 (lv_at hl 4 rfl) ?_
      refine lv_aload_n hx hb d_M_within_30 rfl (lv_at hl 0 rfl) ?_
      refine gk_get X w g.1.1 (show (mSt cI mo A f v8 F8) mo = .inr (4, _) from mS_m) rfl in_M 4 (by decide) lk_M_16 rfl d_M_within_31 ?_
      refine lv_iload_n hx hb d_M_within_34 rfl (lv_at hl 1 rfl) ?_
      refine gk_iald X w 0 g.1.2.2.2.1 (mS_4 g) rfl (vin (by omega) (by omega) (by decide)) d_M_within_35 ?_
      rw [vclN 8 (by omega) (by omega) (by decide)]
      refine ri_cge (a := k) (b := (F8 4 z.toNat)) (tgt := 88) hx hb d_M_within_36 (by decide) rfl rfl (by unfold i3; omega) (by rw [e84, hz4]; unfold i3; omega) (fun c36 => ?_) (fun c36 => ?_)
      · skip
        rw [e84, hz4] at c36
        refine lv_iload_n hx hb d_M_within_88 rfl (lv_at hl 3 rfl) ?_
        refine ri_zeq (a := bI (∀ i9 : Int, 0 ≤ i9 → i9 < k → 0 < plM Hu (pX (S z.toNat) i9) (pY (S z.toNat) i9))) (tgt := 96) hx hb d_M_within_89 (by decide) rfl (bI_3 _) (fun c89 => ?_) (fun c89 => ?_)
        · skip
          refine lv_iconst (v := iN (0)) hx hb d_M_within_96 (by decide) ?_
          exact g_iret X w hrt hlk d_M_within_97 ⟨by rw [if_pos ⟨hzr, hyr⟩, ← eHu, ← show k = (S z.toNat).length by omega]; rw [c89], ⟨v8, F8, rfl, hI8, h118, h128⟩⟩
        · skip
          refine lv_iconst (v := iN (1)) hx hb d_M_within_92 (by decide) ?_
          refine lv_goto (tgt := 97) hx hb d_M_within_93 (by decide) ?_
          exact g_iret X w hrt hlk d_M_within_97 ⟨by rw [if_pos ⟨hzr, hyr⟩, ← eHu, ← show k = (S z.toNat).length by omega]; rw [bI_t (bI_n c89)], ⟨v8, F8, rfl, hI8, h118, h128⟩⟩
      · skip
        rw [e84, hz4] at c36
        obtain ⟨kk, qk, ekk, hqk, exk, eyk⟩ := px_get (P := (S z.toNat)) (i := k) h0 (by omega)
        have hkq := hzq kk qk hqk
        have eix : ((24 * z) + k).toNat = 24 * z.toNat + kk := by omega
        have hqb := hpa qk (List.mem_of_getElem? hqk)
        have ePL : (plM Hu (F8 2 ((24 * z) + k).toNat) (F8 3 ((24 * z) + k).toNat)) = plM Hu (pX (S z.toNat) k) (pY (S z.toNat) k) := by rw [e82, e83, eix, hkq.1, hkq.2, exk, eyk]
        refine g_joinw (D := D) (A := gA L sz) (H0 := s.heap) (L := L) (f := (mSt cI mo A f v8 F8)) (g1 := F0 m 81 ls [.int (iN ((bI (∀ i9 : Int, 0 ≤ i9 → i9 < (k + 1) → 0 < plM Hu (pX (S z.toNat) i9) (pY (S z.toNat) i9)))))]) (fun H locs w => ?_) (fun K1 => ?_)
        · skip
          refine lv_istore_n (lv' := [(3, .int (iN ((bI (∀ i9 : Int, 0 ≤ i9 → i9 < (k + 1) → 0 < plM Hu (pX (S z.toNat) i9) (pY (S z.toNat) i9)))))), (0, .ref mo), (1, .int (iN (z))), (2, .int (iN (z2))), (4, .int (iN (k)))]) hx hb d_M_within_81 rfl hl (by decide) rfl (fun ls hl => ?_)
          refine lv_iinc (v := iN ((k + 1))) (lv' := [(4, .int (iN ((k + 1)))), (3, .int (iN ((bI (∀ i9 : Int, 0 ≤ i9 → i9 < (k + 1) → 0 < plM Hu (pX (S z.toNat) i9) (pY (S z.toNat) i9)))))), (0, .ref mo), (1, .int (iN (z))), (2, .int (iN (z2)))]) hx hb d_M_within_82 hl (k := 4) rfl (by rw [show (k + 1) = k + (1 : Int) by omega, ← iN_add]; rfl) (by decide) rfl (fun ls hl => ?_)
          refine lv_goto (tgt := 28) hx hb d_M_within_85 (by decide) ?_
          exact ih (k + 1) _ _ _ (by omega) ⟨by omega, by omega⟩ w (lv_sub hl [2, 3, 4, 1, 0] rfl)
        · skip
          refine lv_iload_n hx hb d_M_within_39 rfl (lv_at hl 3 rfl) ?_
          refine ri_zeq (a := bI (∀ i9 : Int, 0 ≤ i9 → i9 < k → 0 < plM Hu (pX (S z.toNat) i9) (pY (S z.toNat) i9))) (tgt := 80) hx hb d_M_within_40 (by decide) rfl (bI_3 _) (fun c40 => ?_) (fun c40 => ?_)
          · skip
            refine lv_iconst (v := iN (0)) hx hb d_M_within_80 (by decide) ?_
            exact W.eq (congrArg (fun z : Int => F0 m 81 ls [.int (iN z)]) (show 0 = (bI (∀ i9 : Int, 0 ≤ i9 → i9 < (k + 1) → 0 < plM Hu (pX (S z.toNat) i9) (pY (S z.toNat) i9))) from (bI_f (fun z9 => by first | exact bI_0 c40 (fun i9 q0 q1 => z9 i9 q0 (by omega)) | (have h9 := z9 k h0 (by omega); rw [← ePL] at h9; omega))).symm)) (K1 _ _ w)
          · skip
            refine lv_aload_n hx hb d_M_within_43 rfl (lv_at hl 0 rfl) ?_
            refine lv_aload_n hx hb d_M_within_44 rfl (lv_at hl 0 rfl) ?_
            refine gk_get X w g.1.1 (show (mSt cI mo A f v8 F8) mo = .inr (4, _) from mS_m) rfl in_M 2 (by decide) lk_M_7 rfl d_M_within_45 ?_
            refine lv_bipush (v := iN (24)) hx hb d_M_within_48 (by decide) ?_
            refine lv_iload_n hx hb d_M_within_50 rfl (lv_at hl 1 rfl) ?_
            refine ri_mul (a := 24) (b := z) hx hb d_M_within_51 rfl rfl ?_
            refine lv_iload hx hb d_M_within_52 (lv_at hl 4 rfl) ?_
            refine ri_add (a := (24 * z)) (b := k) hx hb d_M_within_54 rfl rfl ?_
            refine gk_iald X w 0 g.1.2.1 (mS_2 g) rfl (vin (by omega) (by omega) (by decide)) d_M_within_55 ?_
            rw [vclN 192 (by omega) (by omega) (by decide)]
            refine ri_i2l (a := (F8 2 ((24 * z) + k).toNat)) hx hb d_M_within_56 rfl (by rw [e82, eix, hkq.1]; unfold bq at hqb; unfold i3; omega) ?_
            refine lv_aload_n hx hb d_M_within_57 rfl (lv_at hl 0 rfl) ?_
            refine gk_get X w g.1.1 (show (mSt cI mo A f v8 F8) mo = .inr (4, _) from mS_m) rfl in_M 3 (by decide) lk_M_13 rfl d_M_within_58 ?_
            refine lv_bipush (v := iN (24)) hx hb d_M_within_61 (by decide) ?_
            refine lv_iload_n hx hb d_M_within_63 rfl (lv_at hl 1 rfl) ?_
            refine ri_mul (a := 24) (b := z) hx hb d_M_within_64 rfl rfl ?_
            refine lv_iload hx hb d_M_within_65 (lv_at hl 4 rfl) ?_
            refine ri_add (a := (24 * z)) (b := k) hx hb d_M_within_67 rfl rfl ?_
            refine gk_iald X w 0 g.1.2.2.1 (mS_3 g) rfl (vin (by omega) (by omega) (by decide)) d_M_within_68 ?_
            rw [vclN 192 (by omega) (by omega) (by decide)]
            refine ri_i2l (a := (F8 3 ((24 * z) + k).toNat)) hx hb d_M_within_69 rfl (by rw [e83, eix, hkq.2]; unfold bq at hqb; unfold i3; omega) ?_
            refine g_ci w (g_runV (As := [.long (jN ((F8 2 ((24 * z) + k).toNat))), .long (jN ((F8 3 ((24 * z) + k).toNat)))]) (rest := []) X w (c_M_placeOf l g (v := v8) (F := F8) hL8 hH576 hHb (x := (F8 2 ((24 * z) + k).toNat)) (y := (F8 3 ((24 * z) + k).toNat)) (by rw [e82, eix, hkq.1]; unfold bq at hqb; omega) (by rw [e83, eix, hkq.2]; unfold bq at hqb; omega)) k_M_placeOf v_M_placeOf lk_M_91 g.1.1 (show (mSt cI mo A f v8 F8) mo = .inr (4, _) from mS_m) rfl ⟨(Nat.le_of_ble_eq_true rfl), (Nat.le_of_ble_eq_true rfl)⟩ rfl hl.1 rfl (Nat.le_of_ble_eq_true rfl) d_M_within_70 ⟨Nat.zero_le _, Nat.zero_le _⟩) (fun r u H locs hp w => ?_)
            obtain ⟨rfl, rfl⟩ := hp
            have w : gw D (gA L sz) s.heap H locs L (mSt cI mo A f v8 F8) := w
            refine ri_zle (a := (plM Hu (F8 2 ((24 * z) + k).toNat) (F8 3 ((24 * z) + k).toNat))) (tgt := 80) hx hb d_M_within_73 (by decide) rfl (by have := plM_b Hu (F8 2 ((24 * z) + k).toNat) (F8 3 ((24 * z) + k).toNat); unfold i3; omega) (fun c73 => ?_) (fun c73 => ?_)
            · skip
              refine lv_iconst (v := iN (0)) hx hb d_M_within_80 (by decide) ?_
              exact W.eq (congrArg (fun z : Int => F0 m 81 ls [.int (iN z)]) (show 0 = (bI (∀ i9 : Int, 0 ≤ i9 → i9 < (k + 1) → 0 < plM Hu (pX (S z.toNat) i9) (pY (S z.toNat) i9))) from (bI_f (fun z9 => by first | exact bI_0 c40 (fun i9 q0 q1 => z9 i9 q0 (by omega)) | (have h9 := z9 k h0 (by omega); rw [← ePL] at h9; omega))).symm)) (K1 _ _ w)
            · skip
              refine lv_iconst (v := iN (1)) hx hb d_M_within_76 (by decide) ?_
              refine lv_goto (tgt := 81) hx hb d_M_within_77 (by decide) ?_
              exact W.eq (congrArg (fun z : Int => F0 m 81 ls [.int (iN z)]) (show 1 = (bI (∀ i9 : Int, 0 ≤ i9 → i9 < (k + 1) → 0 < plM Hu (pX (S z.toNat) i9) (pY (S z.toNat) i9))) from (bI_t (fun i9 q0 q1 => by by_cases e9 : i9 = k; (subst e9; rw [← ePL]; omega); exact bI_n c40 i9 q0 (by omega))).symm)) (K1 _ _ w)
    · skip
      refine lv_iconst (v := iN (-1)) hx hb d_M_within_16 (by decide) ?_
      exact g_iret X w hrt hlk d_M_within_17 ⟨by rw [if_neg (fun q => by first | exact bI_0 c5 q.1 | exact bI_0 (by omega) q.2)], ⟨v, F, rfl, hI0, h11, h12⟩⟩
def mxL (W : List Pt) (dx dy : Int) : Nat → Int
  | 0 => dx * pX W 0 + dy * pY W 0
  | n + 1 => max (dx * pX W (n + 1) + dy * pY W (n + 1)) (mxL W dx dy n)
theorem mxL_b {W : List Pt} (h : pb 300 W) {dx dy : Int} (hx : -100 ≤ dx ∧ dx ≤ 100) (hy : -100 ≤ dy ∧ dy ≤ 100) (n : Nat) : -60000 ≤ mxL W dx dy n ∧ mxL W dx dy n ≤ 60000 := by
  induction n with
  | zero => exact dot_b h hx hy 0
  | succ n ih => have := dot_b h hx hy ((n : Int) + 1); unfold mxL; omega
noncomputable def cnL (H : List Pt) (dx dy m : Int) : Nat → Int
  | 0 => 0
  | n + 1 => cnL H dx dy m n + bI (dx * pX H n + dy * pY H n = m)
theorem cnL_b (H : List Pt) (dx dy m : Int) (n : Nat) : 0 ≤ cnL H dx dy m n ∧ cnL H dx dy m n ≤ n := by
  induction n with
  | zero => unfold cnL; omega
  | succ n ih => have := bI_01 (dx * pX H n + dy * pY H n = m); unfold cnL; omega
set_option maxHeartbeats 4000000 in
set_option maxRecDepth 100000 in
theorem c_M_supports (l : Launch) {D : va_G} {cI cR : ClassId} {L : List Nat} {f : Nat → va_E} {mo : Nat} {A : Nat → Nat} {v : Nat → Int} {F : Nat → Nat → Int} (g : mg L mo A) {K t1 t2 : Int} {S : Nat → List Pt} (hI0 : mInv v F K S) (h11 : v 11 = t1) (h12 : v 12 = t2) (hok : okS K S) (hhu : hulS K S) {z : Int} (hz : i3 z) {x y : Int} (hx3 : i3 x) (hy3 : i3 y) : gMi D cI cR l y_M_supports (Cond.code y_M_supports b_M_supports 7 (some .int) :: lw_g) { frames := 4, cells := 0, slots := 0, locals := 102 } [.ref mo, .int (iN (z)), .int (iN (x)), .int (iN (y))] L (mSt cI mo A f v F) (fun r u => r = iN (if (0 ≤ z ∧ z < K) then (if (-100 ≤ x ∧ x ≤ 100) ∧ (-100 ≤ y ∧ y ≤ 100) then (if (S z.toNat).length = 0 then -3 else 1) else -2) else -1) ∧ crT ((0 ≤ z ∧ z < K) ∧ ((-100 ≤ x ∧ x ≤ 100) ∧ (-100 ≤ y ∧ y ≤ 100)) ∧ (S z.toNat).length ≠ 0) (mxL (S z.toNat) x y ((S z.toNat).length - 1)) (cnL (hullF (S z.toNat)) x y (mxL (S z.toNat) x y ((S z.toNat).length - 1)) (hullF (S z.toNat)).length) t1 t2 (fun p q => mpost L cI mo A f K p q S u)) := by
  intro sz
  refine g_enter (by decide) rfl (Nat.le_of_ble_eq_true rfl) ?_
  intro p e s m below meth cd ls X hrt hlk hnm hl hsz w
  have X : gx p m cd b_M_supports 7 s _ "HullSumsModel" D cI cR := X
  have hx := X.1.1
  have hb := X.1.2.1
  have hl : lv_has ls 7 [(0, .ref mo), (1, .int (iN (z))), (2, .int (iN (x))), (3, .int (iN (y)))] := hl
  have hI1 := hI0
  obtain ⟨hi0, hi1, hi2, hi3, hi4⟩ := hI1
  refine lv_aload_n hx hb d_M_supports_0 rfl (lv_at hl 0 rfl) ?_
  refine lv_iload_n hx hb d_M_supports_1 rfl (lv_at hl 1 rfl) ?_
  refine g_ci w (g_runV (As := [.int (iN (z))]) (rest := []) X w (c_M_is l g (v := v) (F := F) hi0 (by rw [hi1]; unfold i3; omega) (z := z) hz) k_M_is v_M_is lk_M_79 g.1.1 (show mSt cI mo A f v F mo = .inr (4, _) from mS_m) rfl ⟨(Nat.le_of_ble_eq_true rfl), (Nat.le_of_ble_eq_true rfl)⟩ rfl hl.1 rfl (Nat.le_of_ble_eq_true rfl) d_M_supports_2 ⟨(Nat.le_of_ble_eq_true rfl), (Nat.le_of_ble_eq_true rfl)⟩) (fun r u H locs hp w => ?_)
  obtain ⟨hr9, rfl⟩ := hp
  rw [hi1] at hr9
  subst hr9
  have w : gw D (gA L sz) s.heap H locs L (mSt cI mo A f v F) := w
  refine ri_zne (a := (bI (0 ≤ z ∧ z < K))) (tgt := 10) hx hb d_M_supports_5 (by decide) rfl (bI_3 _) (fun c5 => ?_) (fun c5 => ?_)
  · skip
    refine lv_iload_n hx hb d_M_supports_10 rfl (lv_at hl 2 rfl) ?_
    refine lv_bipush (v := iN (-100)) hx hb d_M_supports_11 (by decide) ?_
    refine lv_bipush (v := iN (100)) hx hb d_M_supports_13 (by decide) ?_
    refine g_ci w (g_runS (As := [.int (iN (x)), .int (iN (-100)), .int (iN (100))]) (rest := []) X w (c_M_in l (z := x) (x := -100) (y := 100) hx3 (by unfold i3; omega) (by unfold i3; omega)) k_M_in lk_M_83 st_M_in ⟨(Nat.le_of_ble_eq_true rfl), (Nat.le_of_ble_eq_true rfl)⟩ rfl hl.1 rfl (Nat.le_of_ble_eq_true rfl) d_M_supports_15 ⟨Nat.zero_le _, Nat.zero_le _⟩) (fun r u H locs hp w => ?_)
    obtain ⟨rfl, rfl⟩ := hp
    have w : gw D (gA L sz) s.heap H locs L (mSt cI mo A f v F) := w
    refine ri_zeq (a := (bI (-100 ≤ x ∧ x ≤ 100))) (tgt := 32) hx hb d_M_supports_18 (by decide) rfl (bI_3 _) (fun c18 => ?_) (fun c18 => ?_)
    · skip
      refine lv_bipush (v := iN (-2)) hx hb d_M_supports_32 (by decide) ?_
      exact g_iret X w hrt hlk d_M_supports_34 ⟨by rw [if_pos (bI_n c5), if_neg (fun q => by first | exact bI_0 c18 q.1 | exact bI_0 (by omega) q.2)], by unfold crT; rw [if_neg (fun q => by first | exact bI_0 c18 q.2.1.1 | exact bI_0 (by omega) q.2.1.2)]; exact ⟨v, F, rfl, hI0, h11, h12⟩⟩
    · skip
      refine lv_iload_n hx hb d_M_supports_21 rfl (lv_at hl 3 rfl) ?_
      refine lv_bipush (v := iN (-100)) hx hb d_M_supports_22 (by decide) ?_
      refine lv_bipush (v := iN (100)) hx hb d_M_supports_24 (by decide) ?_
      refine g_ci w (g_runS (As := [.int (iN (y)), .int (iN (-100)), .int (iN (100))]) (rest := []) X w (c_M_in l (z := y) (x := -100) (y := 100) hy3 (by unfold i3; omega) (by unfold i3; omega)) k_M_in lk_M_83 st_M_in ⟨(Nat.le_of_ble_eq_true rfl), (Nat.le_of_ble_eq_true rfl)⟩ rfl hl.1 rfl (Nat.le_of_ble_eq_true rfl) d_M_supports_26 ⟨Nat.zero_le _, Nat.zero_le _⟩) (fun r u H locs hp w => ?_)
      obtain ⟨rfl, rfl⟩ := hp
      have w : gw D (gA L sz) s.heap H locs L (mSt cI mo A f v F) := w
      refine ri_zne (a := (bI (-100 ≤ y ∧ y ≤ 100))) (tgt := 35) hx hb d_M_supports_29 (by decide) rfl (bI_3 _) (fun c29 => ?_) (fun c29 => ?_)
      · skip
        refine lv_aload_n hx hb d_M_supports_35 rfl (lv_at hl 0 rfl) ?_
        refine lv_iload_n hx hb d_M_supports_36 rfl (lv_at hl 1 rfl) ?_
        have hzr : 0 ≤ z ∧ z < K := bI_n (by omega)
        obtain ⟨Wl, eWl⟩ : ∃ q, q = S z.toNat := ⟨_, rfl⟩
        obtain ⟨Hu, eHu⟩ : ∃ q, q = hullF (S z.toNat) := ⟨_, rfl⟩
        have hoz := hok z.toNat (by omega)
        have hhz : isHL Wl Hu := by rw [eWl, eHu]; exact hhu z.toNat (by omega)
        have hH576 := hhz.2.2.1
        have hHb : pb 600 Hu := by rw [eHu]; exact pb_of (by decide) (pbl_le (by decide) (pbl_hull hoz.2))
        have hHb3 : pb 300 Hu := by rw [eHu]; exact pb_of (by decide) (pbl_hull hoz.2)
        have hWb : pb 300 Wl := by rw [eWl]; exact pb_of (by decide) hoz.2
        have hW24 : Wl.length ≤ 24 := by rw [eWl]; exact hoz.1
        refine g_cv w (g_runV (As := [.int (iN (z))]) (rest := []) X w ((by have h9 := c_M_load (D := D) (cR := cR) (cI := cI) (f := f) l g hI0 (z := z) hzr hoz.1 (pbl_le (by decide) hoz.2) (Hu := Hu) (by rw [← eWl]; exact hhz); rw [← eWl] at h9; exact h9)) k_M_load v_M_load lk_M_87 g.1.1 (show mSt cI mo A f v F mo = .inr (4, _) from mS_m) rfl ⟨(Nat.le_of_ble_eq_true rfl), (Nat.le_of_ble_eq_true rfl)⟩ rfl hl.1 rfl (Nat.le_of_ble_eq_true rfl) d_M_supports_37 ⟨(Nat.le_of_ble_eq_true rfl), (Nat.le_of_ble_eq_true rfl)⟩) (fun u H locs hp w => ?_)
        obtain ⟨v8, F8, rfl, hL8, hn8, hf8⟩ := hp
        have w : gw D (gA L sz) s.heap H locs L (mSt cI mo A f v8 F8) := w
        obtain ⟨h7, h10, hwF, hhF⟩ := id hL8
        have hI8 := mInv_k hI0 (hn8 0 (by decide) (by decide)) (hn8 1 (by decide) (by decide)) hf8
        have h118 := (hn8 11 (by decide) (by decide)).trans h11
        have h128 := (hn8 12 (by decide) (by decide)).trans h12
        refine lv_aload_n hx hb d_M_supports_40 rfl (lv_at hl 0 rfl) ?_
        refine gk_get X w g.1.1 (show (mSt cI mo A f v8 F8) mo = .inr (4, _) from mS_m) rfl in_M 10 (by decide) lk_M_51 rfl d_M_supports_41 ?_
        rw [show v8 10 = (Hu.length : Int) from h10]
        refine ri_zne (a := (Hu.length : Int)) (tgt := 50) hx hb d_M_supports_44 (by decide) rfl (by unfold i3; omega) (fun c44 => ?_) (fun c44 => ?_)
        · skip
          have hWl : 0 < Wl.length := by by_cases e9 : Wl.length = 0; (have := hhz.1 e9; rw [this] at c44; simp at c44); omega
          refine lv_iload_n hx hb d_M_supports_50 rfl (lv_at hl 2 rfl) ?_
          refine lv_aload_n hx hb d_M_supports_51 rfl (lv_at hl 0 rfl) ?_
          refine gk_get X w g.1.1 (show (mSt cI mo A f v8 F8) mo = .inr (4, _) from mS_m) rfl in_M 5 (by decide) lk_M_19 rfl d_M_supports_52 ?_
          refine lv_iconst (v := iN (0)) hx hb d_M_supports_55 (by decide) ?_
          refine gk_iald X w 0 g.1.2.2.2.2.1 (mS_5 g) rfl (vin (by omega) (show (0 : Int) < 576 by have h9 : (0 : Int) < Wl.length := (by omega); omega) (by decide)) d_M_supports_56 ?_
          rw [vcl (z := 0) (by omega) (by have h9 : (0 : Int) < Wl.length := (by omega); omega), wld_x hwF (i := 0) (by omega) (by omega)]
          refine ri_mul (a := x) (b := (pX Wl 0)) hx hb d_M_supports_57 rfl rfl ?_
          refine lv_iload_n hx hb d_M_supports_58 rfl (lv_at hl 3 rfl) ?_
          refine lv_aload_n hx hb d_M_supports_59 rfl (lv_at hl 0 rfl) ?_
          refine gk_get X w g.1.1 (show (mSt cI mo A f v8 F8) mo = .inr (4, _) from mS_m) rfl in_M 6 (by decide) lk_M_22 rfl d_M_supports_60 ?_
          refine lv_iconst (v := iN (0)) hx hb d_M_supports_63 (by decide) ?_
          refine gk_iald X w 0 g.1.2.2.2.2.2.1 (mS_6 g) rfl (vin (by omega) (show (0 : Int) < 576 by have h9 : (0 : Int) < Wl.length := (by omega); omega) (by decide)) d_M_supports_64 ?_
          rw [vcl (z := 0) (by omega) (by have h9 : (0 : Int) < Wl.length := (by omega); omega), wld_y hwF (i := 0) (by omega) (by omega)]
          refine ri_mul (a := y) (b := (pY Wl 0)) hx hb d_M_supports_65 rfl rfl ?_
          refine ri_add (a := (x * (pX Wl 0))) (b := (y * (pY Wl 0))) hx hb d_M_supports_66 rfl rfl ?_
          refine lv_istore (lv' := [(4, .int (iN (((x * (pX Wl 0)) + (y * (pY Wl 0)))))), (0, .ref mo), (1, .int (iN (z))), (2, .int (iN (x))), (3, .int (iN (y)))]) hx hb d_M_supports_67 hl (by decide) rfl (fun ls hl => ?_)
          refine lv_iconst (v := iN (1)) hx hb d_M_supports_69 (by decide) ?_
          refine lv_istore (lv' := [(5, .int (iN (1))), (4, .int (iN (((x * (pX Wl 0)) + (y * (pY Wl 0)))))), (0, .ref mo), (1, .int (iN (z))), (2, .int (iN (x))), (3, .int (iN (y)))]) hx hb d_M_supports_70 hl (by decide) rfl (fun ls hl => ?_)
          refine g_loop (σ := Int × Int) (fun z9 => ((Wl.length : Int) - z9.1).toNat) (fun z9 => [(0, .ref mo), (1, .int (iN (z))), (2, .int (iN (x))), (3, .int (iN (y))), (4, .int (iN (z9.2))), (5, .int (iN (z9.1)))]) L (fun z9 => (mSt cI mo A f v8 F8)) (fun z9 => 1 ≤ z9.1 ∧ z9.1 ≤ Wl.length ∧ z9.2 = mxL Wl x y (z9.1 - 1).toNat) ?_ (1, ((x * (pX Wl 0)) + (y * (pY Wl 0)))) _ _ _ ⟨by omega, by omega, rfl⟩ w (lv_sub hl [2, 3, 4, 5, 1, 0] rfl)
          intro z9 H locs ls hI w hl ih
          obtain ⟨k, m0⟩ := z9
          have hl : lv_has ls 7 [(0, .ref mo), (1, .int (iN (z))), (2, .int (iN (x))), (3, .int (iN (y))), (4, .int (iN (m0))), (5, .int (iN (k)))] := hl
          have w : gw D (gA L sz) s.heap H locs L ((mSt cI mo A f v8 F8)) := w
          have hI : 1 ≤ k ∧ k ≤ Wl.length ∧ m0 = mxL Wl x y (k - 1).toNat := hI
          obtain ⟨h0, h1, h2⟩ := hI
          have hmb := mxL_b hWb (bI_n c18) (bI_n c29) (k - 1).toNat
          rw [← h2] at hmb
          refine lv_iload hx hb d_M_supports_72 (lv_at hl 5 rfl) ?_
          refine lv_aload_n hx hb d_M_supports_74 rfl (lv_at hl 0 rfl) ?_
          refine gk_get X w g.1.1 (show (mSt cI mo A f v8 F8) mo = .inr (4, _) from mS_m) rfl in_M 7 (by decide) lk_M_45 rfl d_M_supports_75 ?_
          rw [show v8 7 = (Wl.length : Int) from h7]
          refine ri_cge (a := k) (b := (Wl.length : Int)) (tgt := 124) hx hb d_M_supports_78 (by decide) rfl rfl (by unfold i3; omega) (by unfold i3; omega) (fun c78 => ?_) (fun c78 => ?_)
          · skip
            refine lv_iconst (v := iN (0)) hx hb d_M_supports_124 (by decide) ?_
            refine lv_istore (lv' := [(5, .int (iN (0))), (0, .ref mo), (1, .int (iN (z))), (2, .int (iN (x))), (3, .int (iN (y))), (4, .int (iN (m0)))]) hx hb d_M_supports_125 hl (by decide) rfl (fun ls hl => ?_)
            refine lv_iconst (v := iN (0)) hx hb d_M_supports_127 (by decide) ?_
            refine lv_istore (lv' := [(6, .int (iN (0))), (5, .int (iN (0))), (0, .ref mo), (1, .int (iN (z))), (2, .int (iN (x))), (3, .int (iN (y))), (4, .int (iN (m0)))]) hx hb d_M_supports_128 hl (by decide) rfl (fun ls hl => ?_)
            refine g_loop (σ := Int × Int) (fun z9 => ((Hu.length : Int) - z9.1).toNat) (fun z9 => [(0, .ref mo), (1, .int (iN (z))), (2, .int (iN (x))), (3, .int (iN (y))), (4, .int (iN (m0))), (5, .int (iN (z9.2))), (6, .int (iN (z9.1)))]) L (fun z9 => (mSt cI mo A f v8 F8)) (fun z9 => 0 ≤ z9.1 ∧ z9.1 ≤ Hu.length ∧ z9.2 = cnL Hu x y m0 z9.1.toNat) ?_ (0, 0) _ _ _ ⟨by omega, by omega, rfl⟩ w (lv_sub hl [2, 3, 4, 5, 6, 1, 0] rfl)
            intro z9 H locs ls hI w hl ih2
            obtain ⟨i, cn⟩ := z9
            have hl : lv_has ls 7 [(0, .ref mo), (1, .int (iN (z))), (2, .int (iN (x))), (3, .int (iN (y))), (4, .int (iN (m0))), (5, .int (iN (cn))), (6, .int (iN (i)))] := hl
            have w : gw D (gA L sz) s.heap H locs L ((mSt cI mo A f v8 F8)) := w
            have hI : 0 ≤ i ∧ i ≤ Hu.length ∧ cn = cnL Hu x y m0 i.toNat := hI
            obtain ⟨k0, k1, k2⟩ := hI
            have hcb := cnL_b Hu x y m0 i.toNat
            rw [← k2] at hcb
            refine lv_iload hx hb d_M_supports_130 (lv_at hl 6 rfl) ?_
            refine lv_aload_n hx hb d_M_supports_132 rfl (lv_at hl 0 rfl) ?_
            refine gk_get X w g.1.1 (show (mSt cI mo A f v8 F8) mo = .inr (4, _) from mS_m) rfl in_M 10 (by decide) lk_M_51 rfl d_M_supports_133 ?_
            rw [show v8 10 = (Hu.length : Int) from h10]
            refine ri_cge (a := i) (b := (Hu.length : Int)) (tgt := 179) hx hb d_M_supports_136 (by decide) rfl rfl (by unfold i3; omega) (by unfold i3; omega) (fun c136 => ?_) (fun c136 => ?_)
            · skip
              refine lv_aload_n hx hb d_M_supports_179 rfl (lv_at hl 0 rfl) ?_
              refine lv_iload hx hb d_M_supports_180 (lv_at hl 4 rfl) ?_
              refine ri_i2l (a := m0) hx hb d_M_supports_182 rfl (by unfold i3; omega) ?_
              refine gk_put X w g.1.1 (show (mSt cI mo A f v8 F8) mo = .inr (4, _) from mS_m) rfl in_M ty_M tyok_M nm_M 11 (by decide) lk_M_42 rfl (ty := .long) (by decide +kernel) rfl rfl (Nat.le_of_ble_eq_true rfl) d_M_supports_183 (fun H locs w => ?_)
              obtain ⟨v1, hv1⟩ : ∃ q : Nat → Int, q = va_up v8 11 (m0) := ⟨_, rfl⟩
              have v1s : v1 11 = m0 := by rw [hv1, va_up_self]
              have v1n : ∀ j, j ≠ 11 → v1 j = v8 j := fun j hj => by rw [hv1, va_up_ne _ _ hj]
              have w : gw D (gA L sz) s.heap H locs L (mSt cI mo A f v1 F8) := by rw [hv1, ← mU_m (v := v8)]; exact w
              refine lv_aload_n hx hb d_M_supports_186 rfl (lv_at hl 0 rfl) ?_
              refine lv_iload hx hb d_M_supports_187 (lv_at hl 5 rfl) ?_
              refine ri_i2l (a := cn) hx hb d_M_supports_189 rfl (by unfold i3; omega) ?_
              refine gk_put X w g.1.1 (show (mSt cI mo A f v1 F8) mo = .inr (4, _) from mS_m) rfl in_M ty_M tyok_M nm_M 12 (by decide) lk_M_31 rfl (ty := .long) (by decide +kernel) rfl rfl (Nat.le_of_ble_eq_true rfl) d_M_supports_190 (fun H locs w => ?_)
              obtain ⟨v2, hv2⟩ : ∃ q : Nat → Int, q = va_up v1 12 (cn) := ⟨_, rfl⟩
              have v2s : v2 12 = cn := by rw [hv2, va_up_self]
              have v2n : ∀ j, j ≠ 12 → v2 j = v1 j := fun j hj => by rw [hv2, va_up_ne _ _ hj]
              have w : gw D (gA L sz) s.heap H locs L (mSt cI mo A f v2 F8) := by rw [hv2, ← mU_m (v := v1)]; exact w
              refine lv_iconst (v := iN (1)) hx hb d_M_supports_193 (by decide) ?_
              exact g_iret X w hrt hlk d_M_supports_194 ⟨by rw [if_pos hzr, if_pos ⟨bI_n c18, bI_n c29⟩, ← eWl, if_neg (by omega)], by unfold crT; rw [← eHu, ← eWl, if_pos ⟨hzr, ⟨bI_n c18, bI_n c29⟩, by omega⟩, show Wl.length - 1 = (k - 1).toNat by omega, ← h2, show Hu.length = i.toNat by omega, ← k2]; exact ⟨v2, F8, rfl, mInv_k hI8 ((v2n 0 (by decide)).trans (v1n 0 (by decide))) ((v2n 1 (by decide)).trans (v1n 1 (by decide))) (fun _ _ => rfl), (v2n 11 (by decide)).trans v1s, v2s⟩⟩
            · skip
              refine lv_iload hx hb d_M_supports_139 (lv_at hl 5 rfl) ?_
              refine g_joinw (D := D) (A := gA L sz) (H0 := s.heap) (L := L) (f := (mSt cI mo A f v8 F8)) (g1 := F0 m 170 ls [.int (iN ((bI (x * pX Hu i + y * pY Hu i = m0)))), .int (iN (cn))]) (fun H locs w => ?_) (fun K3 => ?_)
              · skip
                refine ri_add (a := cn) (b := (bI (x * pX Hu i + y * pY Hu i = m0))) hx hb d_M_supports_170 rfl rfl ?_
                refine lv_istore (lv' := [(5, .int (iN ((cn + (bI (x * pX Hu i + y * pY Hu i = m0)))))), (0, .ref mo), (1, .int (iN (z))), (2, .int (iN (x))), (3, .int (iN (y))), (4, .int (iN (m0))), (6, .int (iN (i)))]) hx hb d_M_supports_171 hl (by decide) rfl (fun ls hl => ?_)
                refine lv_iinc (v := iN ((i + 1))) (lv' := [(6, .int (iN ((i + 1)))), (5, .int (iN ((cn + (bI (x * pX Hu i + y * pY Hu i = m0)))))), (0, .ref mo), (1, .int (iN (z))), (2, .int (iN (x))), (3, .int (iN (y))), (4, .int (iN (m0)))]) hx hb d_M_supports_173 hl (k := 6) rfl (by rw [show (i + 1) = i + (1 : Int) by omega, ← iN_add]; rfl) (by decide) rfl (fun ls hl => ?_)
                refine lv_goto (tgt := 130) hx hb d_M_supports_176 (by decide) ?_
                exact ih2 ((i + 1), (cn + (bI (x * pX Hu i + y * pY Hu i = m0)))) _ _ _ (by omega) ⟨by omega, by omega, by rw [tn_s k0]; unfold cnL; rw [← k2, tn_c k0]⟩ w (lv_sub hl [2, 3, 4, 5, 6, 1, 0] rfl)
              · skip
                refine lv_iload_n hx hb d_M_supports_141 rfl (lv_at hl 2 rfl) ?_
                refine lv_aload_n hx hb d_M_supports_142 rfl (lv_at hl 0 rfl) ?_
                refine gk_get X w g.1.1 (show (mSt cI mo A f v8 F8) mo = .inr (4, _) from mS_m) rfl in_M 8 (by decide) lk_M_25 rfl d_M_supports_143 ?_
                refine lv_iload hx hb d_M_supports_146 (lv_at hl 6 rfl) ?_
                refine gk_iald X w 0 g.1.2.2.2.2.2.2.1 (mS_8 g) rfl (vin (by omega) (show (i : Int) < 576 by have h9 : (i : Int) < Hu.length := (by omega); omega) (by decide)) d_M_supports_148 ?_
                rw [vcl (z := i) (by omega) (by have h9 : (i : Int) < Hu.length := (by omega); omega), hld_x hhF (i := i) (by omega) (by omega)]
                refine ri_mul (a := x) (b := (pX Hu i)) hx hb d_M_supports_149 rfl rfl ?_
                refine lv_iload_n hx hb d_M_supports_150 rfl (lv_at hl 3 rfl) ?_
                refine lv_aload_n hx hb d_M_supports_151 rfl (lv_at hl 0 rfl) ?_
                refine gk_get X w g.1.1 (show (mSt cI mo A f v8 F8) mo = .inr (4, _) from mS_m) rfl in_M 9 (by decide) lk_M_28 rfl d_M_supports_152 ?_
                refine lv_iload hx hb d_M_supports_155 (lv_at hl 6 rfl) ?_
                refine gk_iald X w 0 g.1.2.2.2.2.2.2.2 (mS_9 g) rfl (vin (by omega) (show (i : Int) < 576 by have h9 : (i : Int) < Hu.length := (by omega); omega) (by decide)) d_M_supports_157 ?_
                rw [vcl (z := i) (by omega) (by have h9 : (i : Int) < Hu.length := (by omega); omega), hld_y hhF (i := i) (by omega) (by omega)]
                refine ri_mul (a := y) (b := (pY Hu i)) hx hb d_M_supports_158 rfl rfl ?_
                refine ri_add (a := (x * (pX Hu i))) (b := (y * (pY Hu i))) hx hb d_M_supports_159 rfl rfl ?_
                refine lv_iload hx hb d_M_supports_160 (lv_at hl 4 rfl) ?_
                refine ri_cne (a := ((x * (pX Hu i)) + (y * (pY Hu i)))) (b := m0) (tgt := 169) hx hb d_M_supports_162 (by decide) rfl rfl (by have := dot_b hHb3 (bI_n c18) (bI_n c29) i; unfold i3; omega) (by unfold i3; omega) (fun c162 => ?_) (fun c162 => ?_)
                · skip
                  refine lv_iconst (v := iN (0)) hx hb d_M_supports_169 (by decide) ?_
                  exact W.eq (congrArg (fun z : Int => F0 m 170 ls [.int (iN z), .int (iN (cn))]) (show 0 = (bI (x * pX Hu i + y * pY Hu i = m0)) from (bI_f (by omega)).symm)) (K3 _ _ w)
                · skip
                  refine lv_iconst (v := iN (1)) hx hb d_M_supports_165 (by decide) ?_
                  refine lv_goto (tgt := 170) hx hb d_M_supports_166 (by decide) ?_
                  exact W.eq (congrArg (fun z : Int => F0 m 170 ls [.int (iN z), .int (iN (cn))]) (show 1 = (bI (x * pX Hu i + y * pY Hu i = m0)) from (bI_t (by omega)).symm)) (K3 _ _ w)
          · skip
            refine lv_iload_n hx hb d_M_supports_81 rfl (lv_at hl 2 rfl) ?_
            refine lv_aload_n hx hb d_M_supports_82 rfl (lv_at hl 0 rfl) ?_
            refine gk_get X w g.1.1 (show (mSt cI mo A f v8 F8) mo = .inr (4, _) from mS_m) rfl in_M 5 (by decide) lk_M_19 rfl d_M_supports_83 ?_
            refine lv_iload hx hb d_M_supports_86 (lv_at hl 5 rfl) ?_
            refine gk_iald X w 0 g.1.2.2.2.2.1 (mS_5 g) rfl (vin (by omega) (show (k : Int) < 576 by have h9 : (k : Int) < Wl.length := (by omega); omega) (by decide)) d_M_supports_88 ?_
            rw [vcl (z := k) (by omega) (by have h9 : (k : Int) < Wl.length := (by omega); omega), wld_x hwF (i := k) (by omega) (by omega)]
            refine ri_mul (a := x) (b := (pX Wl k)) hx hb d_M_supports_89 rfl rfl ?_
            refine lv_iload_n hx hb d_M_supports_90 rfl (lv_at hl 3 rfl) ?_
            refine lv_aload_n hx hb d_M_supports_91 rfl (lv_at hl 0 rfl) ?_
            refine gk_get X w g.1.1 (show (mSt cI mo A f v8 F8) mo = .inr (4, _) from mS_m) rfl in_M 6 (by decide) lk_M_22 rfl d_M_supports_92 ?_
            refine lv_iload hx hb d_M_supports_95 (lv_at hl 5 rfl) ?_
            refine gk_iald X w 0 g.1.2.2.2.2.2.1 (mS_6 g) rfl (vin (by omega) (show (k : Int) < 576 by have h9 : (k : Int) < Wl.length := (by omega); omega) (by decide)) d_M_supports_97 ?_
            rw [vcl (z := k) (by omega) (by have h9 : (k : Int) < Wl.length := (by omega); omega), wld_y hwF (i := k) (by omega) (by omega)]
            refine ri_mul (a := y) (b := (pY Wl k)) hx hb d_M_supports_98 rfl rfl ?_
            refine ri_add (a := (x * (pX Wl k))) (b := (y * (pY Wl k))) hx hb d_M_supports_99 rfl rfl ?_
            refine lv_istore (lv' := [(6, .int (iN (((x * (pX Wl k)) + (y * (pY Wl k)))))), (0, .ref mo), (1, .int (iN (z))), (2, .int (iN (x))), (3, .int (iN (y))), (4, .int (iN (m0))), (5, .int (iN (k)))]) hx hb d_M_supports_100 hl (by decide) rfl (fun ls hl => ?_)
            refine g_joinw (D := D) (A := gA L sz) (H0 := s.heap) (L := L) (f := (mSt cI mo A f v8 F8)) (g1 := F0 m 116 ls [.int (iN ((max ((x * (pX Wl k)) + (y * (pY Wl k))) m0)))]) (fun H locs w => ?_) (fun K4 => ?_)
            · skip
              refine lv_istore (lv' := [(4, .int (iN ((max ((x * (pX Wl k)) + (y * (pY Wl k))) m0)))), (6, .int (iN (((x * (pX Wl k)) + (y * (pY Wl k)))))), (0, .ref mo), (1, .int (iN (z))), (2, .int (iN (x))), (3, .int (iN (y))), (5, .int (iN (k)))]) hx hb d_M_supports_116 hl (by decide) rfl (fun ls hl => ?_)
              refine lv_iinc (v := iN ((k + 1))) (lv' := [(5, .int (iN ((k + 1)))), (4, .int (iN ((max ((x * (pX Wl k)) + (y * (pY Wl k))) m0)))), (6, .int (iN (((x * (pX Wl k)) + (y * (pY Wl k)))))), (0, .ref mo), (1, .int (iN (z))), (2, .int (iN (x))), (3, .int (iN (y)))]) hx hb d_M_supports_118 hl (k := 6) rfl (by rw [show (k + 1) = k + (1 : Int) by omega, ← iN_add]; rfl) (by decide) rfl (fun ls hl => ?_)
              refine lv_goto (tgt := 72) hx hb d_M_supports_121 (by decide) ?_
              exact ih ((k + 1), (max ((x * (pX Wl k)) + (y * (pY Wl k))) m0)) _ _ _ (by omega) ⟨by omega, by omega, by rw [show (k + 1 - 1).toNat = (k - 1).toNat + 1 by omega]; unfold mxL; rw [← h2, tn_c (show 0 ≤ k - 1 by omega), show k - 1 + 1 = k by omega]⟩ w (lv_sub hl [3, 4, 5, 6, 1, 0] rfl)
            · skip
              refine lv_iload hx hb d_M_supports_102 (lv_at hl 0 rfl) ?_
              refine lv_iload hx hb d_M_supports_104 (lv_at hl 5 rfl) ?_
              refine ri_cle (a := ((x * (pX Wl k)) + (y * (pY Wl k)))) (b := m0) (tgt := 114) hx hb d_M_supports_106 (by decide) rfl rfl (by have := dot_b hWb (bI_n c18) (bI_n c29) k; unfold i3; omega) (by unfold i3; omega) (fun c106 => ?_) (fun c106 => ?_)
              · skip
                refine lv_iload hx hb d_M_supports_114 (lv_at hl 5 rfl) ?_
                exact W.eq (congrArg (fun z : Int => F0 m 116 ls [.int (iN z)]) (show m0 = (max ((x * (pX Wl k)) + (y * (pY Wl k))) m0) from (by omega))) (K4 _ _ w)
              · skip
                refine lv_iload hx hb d_M_supports_109 (lv_at hl 0 rfl) ?_
                refine lv_goto (tgt := 116) hx hb d_M_supports_111 (by decide) ?_
                exact W.eq (congrArg (fun z : Int => F0 m 116 ls [.int (iN z)]) (show ((x * (pX Wl k)) + (y * (pY Wl k))) = (max ((x * (pX Wl k)) + (y * (pY Wl k))) m0) from (by omega))) (K4 _ _ w)
        · skip
          refine lv_bipush (v := iN (-3)) hx hb d_M_supports_47 (by decide) ?_
          have hW0 : Wl.length = 0 := by by_cases e9 : Wl.length = 0; exact e9; have := hhz.2.1 (by omega); have := List.length_pos_iff.mpr this; omega
          exact g_iret X w hrt hlk d_M_supports_49 ⟨by rw [if_pos hzr, if_pos ⟨bI_n c18, bI_n c29⟩, ← eWl, if_pos hW0], by unfold crT; rw [← eWl, if_neg (fun q => q.2.2 hW0)]; exact ⟨v8, F8, rfl, hI8, h118, h128⟩⟩
      · skip
        refine lv_bipush (v := iN (-2)) hx hb d_M_supports_32 (by decide) ?_
        exact g_iret X w hrt hlk d_M_supports_34 ⟨by rw [if_pos (bI_n c5), if_neg (fun q => by first | exact bI_0 c18 q.1 | exact bI_0 (by omega) q.2)], by unfold crT; rw [if_neg (fun q => by first | exact bI_0 c18 q.2.1.1 | exact bI_0 (by omega) q.2.1.2)]; exact ⟨v, F, rfl, hI0, h11, h12⟩⟩
  · skip
    refine lv_iconst (v := iN (-1)) hx hb d_M_supports_8 (by decide) ?_
    exact g_iret X w hrt hlk d_M_supports_9 ⟨by rw [if_neg (bI_0 (by omega))], by unfold crT; rw [if_neg (fun q => bI_0 (by omega) q.1)]; exact ⟨v, F, rfl, hI0, h11, h12⟩⟩
