/-! THE REFERENCE: its public methods, third part: two sets, and what is kept -/
/-- the hull of all sums, as the class makes it -/
noncomputable def sumH (A B : List Pt) (sg : Int) : List Pt := sumF (hullF A) (hullF (B.map (sgm sg)))
def sumS (K : Int) (S : Nat → List Pt) (sg : Int) : Prop := ∀ a b : Nat, (a : Int) < K → (b : Int) < K → (S a).length ≠ 0 → (S b).length ≠ 0 → isHL (allS (S a) (S b) sg) (sumH (S a) (S b) sg) ∧ pbl 600 (sumH (S a) (S b) sg)
theorem allS_b {A B : List Pt} {sg : Int} (hs : sg = 1 ∨ sg = -1) (hA : pbl 300 A) (hB : pbl 300 B) : pbl 600 (allS A B sg) := by
  intro q hq
  unfold allS at hq
  obtain ⟨a, ha, hq⟩ := List.mem_flatMap.mp hq
  obtain ⟨b, hb, rfl⟩ := List.mem_map.mp hq
  have h1 := hA a ha; have h2 := hB b hb
  have q1 := sg_b hs (z := b.1) (B := 300) ⟨h2.1, h2.2.1⟩
  have q2 := sg_b hs (z := b.2) (B := 300) ⟨h2.2.2.1, h2.2.2.2⟩
  unfold bq sumP at *; dsimp only; omega
theorem flA_0 {K : Int} {S : Nat → List Pt} {z z2 : Int} (h : flA K S z z2 = 0) : ((0 ≤ z ∧ z < K) ∧ (0 ≤ z2 ∧ z2 < K)) ∧ (S z.toNat).length ≠ 0 ∧ (S z2.toNat).length ≠ 0 := by
  by_cases q : (0 ≤ z ∧ z < K) ∧ (0 ≤ z2 ∧ z2 < K)
  · refine ⟨q, ?_⟩
    unfold flA at h; rw [if_pos q] at h
    split at h <;> omega
  · unfold flA at h; rw [if_neg q] at h; omega
theorem flA_b (K : Int) (S : Nat → List Pt) (z z2 : Int) : flA K S z z2 = 0 ∨ flA K S z z2 = -1 ∨ flA K S z z2 = -3 := by
  unfold flA; split
  · split <;> omega
  · omega

theorem plM_b (H : List Pt) (x y : Int) : 0 ≤ plM H x y ∧ plM H x y ≤ 2 := by
  unfold plM; split
  · omega
  · split <;> omega
set_option maxHeartbeats 4000000 in
set_option maxRecDepth 100000 in
theorem c_M_meets (l : Launch) {D : va_G} {cI cR : ClassId} {L : List Nat} {f : Nat → va_E} {mo : Nat} {A : Nat → Nat} {v : Nat → Int} {F : Nat → Nat → Int} (g : mg L mo A) {K t1 t2 : Int} {S : Nat → List Pt} (hI0 : mInv v F K S) (h11 : v 11 = t1) (h12 : v 12 = t2) (hok : okS K S) (hhu : hulS K S) {z : Int} (hz : i3 z) {z2 : Int} (hz2 : i3 z2) (hsu : sumS K S (-1)) : gMi D cI cR l y_M_meets (Cond.code y_M_meets b_M_meets 4 (some .int) :: lw_g) { frames := 4, cells := 0, slots := 0, locals := 105 } [.ref mo, .int (iN (z)), .int (iN (z2))] L (mSt cI mo A f v F) (fun r u => r = iN (if (flA K S z z2 = 0) then (if 0 < plM (sumH (S z.toNat) (S z2.toNat) (-1)) 0 0 then 1 else 0) else flA K S z z2) ∧ mpost L cI mo A f K t1 t2 S u) := by
  intro sz
  refine g_enter (by decide) rfl (Nat.le_of_ble_eq_true rfl) ?_
  intro p e s m below meth cd ls X hrt hlk hnm hl hsz w
  have X : gx p m cd b_M_meets 4 s _ "HullSumsModel" D cI cR := X
  have hx := X.1.1
  have hb := X.1.2.1
  have hl : lv_has ls 4 [(0, .ref mo), (1, .int (iN (z))), (2, .int (iN (z2)))] := hl
  have hI1 := hI0
  obtain ⟨hi0, hi1, hi2, hi3, hi4⟩ := hI1
  refine lv_aload_n hx hb d_M_meets_0 rfl (lv_at hl 0 rfl) ?_
  refine lv_iload_n hx hb d_M_meets_1 rfl (lv_at hl 1 rfl) ?_
  refine lv_iload_n hx hb d_M_meets_2 rfl (lv_at hl 2 rfl) ?_
  refine g_ci w (g_runV (As := [.int (iN (z)), .int (iN (z2))]) (rest := []) X w (c_M_wrong l g hI0 h11 h12 hok hhu hz hz2) k_M_wrong v_M_wrong lk_M_177 g.1.1 (show mSt cI mo A f v F mo = .inr (4, _) from mS_m) rfl ⟨(Nat.le_of_ble_eq_true rfl), (Nat.le_of_ble_eq_true rfl)⟩ rfl hl.1 rfl (Nat.le_of_ble_eq_true rfl) d_M_meets_3 ⟨(Nat.le_of_ble_eq_true rfl), (Nat.le_of_ble_eq_true rfl)⟩) (fun r u H locs hp w => ?_)
  obtain ⟨rfl, rfl⟩ := hp
  have w : gw D (gA L sz) s.heap H locs L (mSt cI mo A f v F) := w
  have hfb := flA_b K S z z2
  refine lv_istore_n (lv' := [(3, .int (iN ((flA K S z z2)))), (0, .ref mo), (1, .int (iN (z))), (2, .int (iN (z2)))]) hx hb d_M_meets_6 rfl hl (by decide) rfl (fun ls hl => ?_)
  refine lv_iload_n hx hb d_M_meets_7 rfl (lv_at hl 0 rfl) ?_
  refine ri_zge (a := (flA K S z z2)) (tgt := 13) hx hb d_M_meets_8 (by decide) rfl (by unfold i3; omega) (fun c8 => ?_) (fun c8 => ?_)
  · skip
    refine lv_aload_n hx hb d_M_meets_13 rfl (lv_at hl 1 rfl) ?_
    refine lv_iload_n hx hb d_M_meets_14 rfl (lv_at hl 2 rfl) ?_
    refine lv_iload_n hx hb d_M_meets_15 rfl (lv_at hl 3 rfl) ?_
    refine lv_iconst (v := iN (-1)) hx hb d_M_meets_16 (by decide) ?_
    have hf0 : flA K S z z2 = 0 := by omega
    obtain ⟨⟨hzr, hyr⟩, hne1, hne2⟩ := flA_0 hf0
    obtain ⟨Wl, eWl⟩ : ∃ q, q = allS (S z.toNat) (S z2.toNat) (-1) := ⟨_, rfl⟩
    obtain ⟨Hu, eHu⟩ : ∃ q, q = sumH (S z.toNat) (S z2.toNat) (-1) := ⟨_, rfl⟩
    obtain ⟨ho1, hp1⟩ := hok z.toNat (by omega)
    obtain ⟨ho2, hp2⟩ := hok z2.toNat (by omega)
    obtain ⟨hhz, hhb⟩ := hsu z.toNat z2.toNat (by omega) (by omega) hne1 hne2
    rw [← eWl, ← eHu] at hhz
    rw [← eHu] at hhb
    have hH576 := hhz.2.2.1
    have hHb : pb 600 Hu := pb_of (by decide) hhb
    have hWpl : pbl 600 Wl := by rw [eWl]; exact allS_b (Or.inr rfl) hp1 hp2
    have hWb : pb 600 Wl := pb_of (by decide) hWpl
    have hW576 : Wl.length ≤ 576 := by rw [eWl]; unfold allS; rw [flat_len]; exact Nat.mul_le_mul ho1 ho2
    refine g_cv w (g_runV (As := [.int (iN (z)), .int (iN (z2)), .int (iN (-1))]) (rest := []) X w ((by have h9 := c_M_loadBoth (D := D) (cR := cR) (cI := cI) (f := f) l g hI0 (z := z) (z2 := z2) (sg := (-1)) hzr hyr ho1 ho2 (by rw [← eWl]; exact hWpl) (Hu := Hu) (by rw [← eWl]; exact hhz); rw [← eWl] at h9; exact h9)) k_M_loadBoth v_M_loadBoth lk_M_181 g.1.1 (show mSt cI mo A f v F mo = .inr (4, _) from mS_m) rfl ⟨(Nat.le_of_ble_eq_true rfl), (Nat.le_of_ble_eq_true rfl)⟩ rfl hl.1 rfl (Nat.le_of_ble_eq_true rfl) d_M_meets_17 ⟨(Nat.le_of_ble_eq_true rfl), (Nat.le_of_ble_eq_true rfl)⟩) (fun u H locs hp w => ?_)
    obtain ⟨v8, F8, rfl, hL8, hn8, hf8⟩ := hp
    have w : gw D (gA L sz) s.heap H locs L (mSt cI mo A f v8 F8) := w
    obtain ⟨h7, h10, hwF, hhF⟩ := id hL8
    have hI8 := mInv_k hI0 (hn8 0 (by decide) (by decide)) (hn8 1 (by decide) (by decide)) hf8
    have h118 := (hn8 11 (by decide) (by decide)).trans h11
    have h128 := (hn8 12 (by decide) (by decide)).trans h12
    refine lv_aload_n hx hb d_M_meets_20 rfl (lv_at hl 1 rfl) ?_
    refine lv_lconst (v := jN (0)) hx hb d_M_meets_21 (by decide) ?_
    refine lv_lconst (v := jN (0)) hx hb d_M_meets_22 (by decide) ?_
    refine g_ci w (g_runV (As := [.long (jN (0)), .long (jN (0))]) (rest := []) X w (c_M_placeOf l g (v := v8) (F := F8) hL8 hH576 hHb (x := 0) (y := 0) (by omega) (by omega)) k_M_placeOf v_M_placeOf lk_M_91 g.1.1 (show (mSt cI mo A f v8 F8) mo = .inr (4, _) from mS_m) rfl ⟨(Nat.le_of_ble_eq_true rfl), (Nat.le_of_ble_eq_true rfl)⟩ rfl hl.1 rfl (Nat.le_of_ble_eq_true rfl) d_M_meets_23 ⟨Nat.zero_le _, Nat.zero_le _⟩) (fun r u H locs hp w => ?_)
    obtain ⟨rfl, rfl⟩ := hp
    have w : gw D (gA L sz) s.heap H locs L (mSt cI mo A f v8 F8) := w
    refine ri_zle (a := (plM Hu 0 0)) (tgt := 33) hx hb d_M_meets_26 (by decide) rfl (by have := plM_b Hu 0 0; unfold i3; omega) (fun c26 => ?_) (fun c26 => ?_)
    · skip
      refine lv_iconst (v := iN (0)) hx hb d_M_meets_33 (by decide) ?_
      exact g_iret X w hrt hlk d_M_meets_34 ⟨by rw [if_pos hf0, ← eHu, if_neg (by omega)], ⟨v8, F8, rfl, hI8, h118, h128⟩⟩
    · skip
      refine lv_iconst (v := iN (1)) hx hb d_M_meets_29 (by decide) ?_
      refine lv_goto (tgt := 34) hx hb d_M_meets_30 (by decide) ?_
      exact g_iret X w hrt hlk d_M_meets_34 ⟨by rw [if_pos hf0, ← eHu, if_pos (by omega)], ⟨v8, F8, rfl, hI8, h118, h128⟩⟩
  · skip
    refine lv_iload_n hx hb d_M_meets_11 rfl (lv_at hl 0 rfl) ?_
    exact g_iret X w hrt hlk d_M_meets_12 ⟨by rw [if_neg (by omega)], ⟨v, F, rfl, hI0, h11, h12⟩⟩
def kpost (L : List Nat) (cI : ClassId) (mo : Nat) (A : Nat → Nat) (f : Nat → va_E) (K t1 t2 : Int) (S : Nat → List Pt) (C : List Pt) (r : Int32) (u : List Nat × (Nat → va_E)) : Prop :=
  ((8 ≤ K ∨ 24 < C.length) ∧ r = iN (-5) ∧ mpost L cI mo A f K t1 t2 S u) ∨ (K < 8 ∧ C.length ≤ 24 ∧ r = iN K ∧ mpost L cI mo A f (K + 1) t1 t2 (supd S K.toNat C) u)
theorem mInv_keep {v v' : Nat → Int} {F F' : Nat → Nat → Int} {K : Int} {S : Nat → List Pt} {C : List Pt} (h : mInv v F K S) (hok : okS K S) (h0 : v' 0 = v 0) (h1 : v' 1 = K + 1) (hK : K < 8) (hC : C.length ≤ 24) (e4 : F' 4 = va_up (F 4) K.toNat C.length) (e2 : ∀ i, i < 24 * K.toNat → F' 2 i = F 2 i ∧ F' 3 i = F 3 i) (e3 : ∀ j q, C[j]? = some q → F' 2 (24 * K.toNat + j) = q.1 ∧ F' 3 (24 * K.toNat + j) = q.2) : mInv v' F' (K + 1) (supd S K.toNat C) := by
  obtain ⟨a, b, c, d, e⟩ := h
  refine ⟨by rw [h0]; exact a, h1, by omega, by omega, fun i hi => ?_⟩
  by_cases ei : i = K.toNat
  · subst ei
    rw [su_s, e4, va_up_self]
    exact ⟨rfl, e3⟩
  · obtain ⟨i4, iq⟩ := e i (by omega)
    rw [su_n ei, e4, va_up_ne _ _ ei]
    refine ⟨i4, fun j q hq => ?_⟩
    have hj : j < (S i).length := (List.getElem?_eq_some_iff.mp hq).1
    have := (hok i (by omega)).1
    have h9 := e2 (24 * i + j) (by omega)
    rw [h9.1, h9.2]
    exact iq j q hq
set_option maxHeartbeats 4000000 in
set_option maxRecDepth 100000 in
theorem c_M_keep (l : Launch) {D : va_G} {cI cR : ClassId} {L : List Nat} {f : Nat → va_E} {mo : Nat} {A : Nat → Nat} {v : Nat → Int} {F : Nat → Nat → Int} (g : mg L mo A) {K t1 t2 : Int} {S : Nat → List Pt} (hI0 : mInv v F K S) (h11 : v 11 = t1) (h12 : v 12 = t2) (hok : okS K S) {Wl Hu : List Pt} (hL : mLd v F Wl Hu) (hH576 : Hu.length ≤ 576) (hHb : pb 600 Hu) : gMi D cI cR l y_M_keep (Cond.code y_M_keep b_M_keep 2 (some .int) :: lw_g) { frames := 0, cells := 0, slots := 0, locals := 0 } [.ref mo] L (mSt cI mo A f v F) (fun r u => kpost L cI mo A f K t1 t2 S Hu r u) := by
  intro sz
  refine g_enter (by decide) rfl (Nat.le_of_ble_eq_true rfl) ?_
  intro p e s m below meth cd ls X hrt hlk hnm hl hsz w
  have X : gx p m cd b_M_keep 2 s _ "HullSumsModel" D cI cR := X
  have hx := X.1.1
  have hb := X.1.2.1
  have hl : lv_has ls 2 [(0, .ref mo)] := hl
  have hI1 := hI0
  obtain ⟨hi0, hi1, hi2, hi3, hi4⟩ := hI1
  obtain ⟨h7, h10, hwF, hhF⟩ := hL
  refine lv_aload_n hx hb d_M_keep_0 rfl (lv_at hl 0 rfl) ?_
  refine gk_get X w g.1.1 (show (mSt cI mo A f v F) mo = .inr (4, _) from mS_m) rfl in_M 1 (by decide) lk_M_39 rfl d_M_keep_1 ?_
  rw [show v 1 = K from hi1]
  refine lv_bipush (v := iN (8)) hx hb d_M_keep_4 (by decide) ?_
  refine ri_ceq (a := K) (b := 8) (tgt := 18) hx hb d_M_keep_6 (by decide) rfl rfl (by unfold i3; omega) (by unfold i3; omega) (fun c6 => ?_) (fun c6 => ?_)
  · skip
    refine lv_bipush (v := iN (-5)) hx hb d_M_keep_18 (by decide) ?_
    exact g_iret X w hrt hlk d_M_keep_20 (Or.inl ⟨by omega, rfl, v, F, rfl, hI0, h11, h12⟩)
  · skip
    refine lv_aload_n hx hb d_M_keep_9 rfl (lv_at hl 0 rfl) ?_
    refine gk_get X w g.1.1 (show (mSt cI mo A f v F) mo = .inr (4, _) from mS_m) rfl in_M 10 (by decide) lk_M_51 rfl d_M_keep_10 ?_
    rw [show v 10 = (Hu.length : Int) from h10]
    refine lv_bipush (v := iN (24)) hx hb d_M_keep_13 (by decide) ?_
    refine ri_cle (a := (Hu.length : Int)) (b := 24) (tgt := 21) hx hb d_M_keep_15 (by decide) rfl rfl (by unfold i3; omega) (by unfold i3; omega) (fun c15 => ?_) (fun c15 => ?_)
    · skip
      refine lv_iconst (v := iN (0)) hx hb d_M_keep_21 (by decide) ?_
      refine lv_istore_n (lv' := [(1, .int (iN (0))), (0, .ref mo)]) hx hb d_M_keep_22 rfl hl (by decide) rfl (fun ls hl => ?_)
      refine g_loop (σ := Int × (Nat → Nat → Int)) (fun z9 => (Hu.length - z9.1).toNat) (fun z9 => [(0, .ref mo), (1, .int (iN (z9.1)))]) L (fun z9 => (mSt cI mo A f v z9.2)) (fun z9 => 0 ≤ z9.1 ∧ z9.1 ≤ Hu.length ∧ (∀ j, j ≠ 2 → j ≠ 3 → z9.2 j = F j) ∧ (∀ q9, q9 < 24 * K.toNat → z9.2 2 q9 = F 2 q9 ∧ z9.2 3 q9 = F 3 q9) ∧ (∀ (j9 : Nat) (q9 : Pt), (j9 : Int) < z9.1 → Hu[j9]? = some q9 → z9.2 2 (24 * K.toNat + j9) = q9.1 ∧ z9.2 3 (24 * K.toNat + j9) = q9.2)) ?_ (0, F) _ _ _ ⟨by (try dsimp only); omega, by (try dsimp only); omega, fun _ _ _ => rfl, fun _ _ => ⟨rfl, rfl⟩, fun j9 q9 h9 => by (try dsimp only at h9); omega⟩ w (lv_sub hl [1, 0] rfl)
      intro z9 H locs ls hI w hl ih
      obtain ⟨i, F9⟩ := z9
      have hl : lv_has ls 2 [(0, .ref mo), (1, .int (iN (i)))] := hl
      have w : gw D (gA L sz) s.heap H locs L ((mSt cI mo A f v F9)) := w
      have hI : 0 ≤ i ∧ i ≤ Hu.length ∧ (∀ j, j ≠ 2 → j ≠ 3 → F9 j = F j) ∧ (∀ q9, q9 < 24 * K.toNat → F9 2 q9 = F 2 q9 ∧ F9 3 q9 = F 3 q9) ∧ (∀ (j9 : Nat) (q9 : Pt), (j9 : Int) < i → Hu[j9]? = some q9 → F9 2 (24 * K.toNat + j9) = q9.1 ∧ F9 3 (24 * K.toNat + j9) = q9.2) := hI
      obtain ⟨h0, h1, hF9, hG9, hH9⟩ := hI
      have hhF : hld F9 Hu Hu.length := fun j q a b => by rw [hF9 8 (by decide) (by decide), hF9 9 (by decide) (by decide)]; exact hhF j q a b
      refine lv_iload_n hx hb d_M_keep_23 rfl (lv_at hl 1 rfl) ?_
      refine lv_aload_n hx hb d_M_keep_24 rfl (lv_at hl 0 rfl) ?_
      refine gk_get X w g.1.1 (show (mSt cI mo A f v F9) mo = .inr (4, _) from mS_m) rfl in_M 10 (by decide) lk_M_51 rfl d_M_keep_25 ?_
      rw [show v 10 = (Hu.length : Int) from h10]
      refine ri_cge (a := i) (b := (Hu.length : Int)) (tgt := 77) hx hb d_M_keep_28 (by decide) rfl rfl (by unfold i3; omega) (by unfold i3; omega) (fun c28 => ?_) (fun c28 => ?_)
      · skip
        refine lv_aload_n hx hb d_M_keep_77 rfl (lv_at hl 0 rfl) ?_
        refine gk_get X w g.1.1 (show (mSt cI mo A f v F9) mo = .inr (4, _) from mS_m) rfl in_M 4 (by decide) lk_M_16 rfl d_M_keep_78 ?_
        refine lv_aload_n hx hb d_M_keep_81 rfl (lv_at hl 0 rfl) ?_
        refine gk_get X w g.1.1 (show (mSt cI mo A f v F9) mo = .inr (4, _) from mS_m) rfl in_M 1 (by decide) lk_M_39 rfl d_M_keep_82 ?_
        rw [show v 1 = K from hi1]
        refine lv_aload_n hx hb d_M_keep_85 rfl (lv_at hl 0 rfl) ?_
        refine gk_get X w g.1.1 (show (mSt cI mo A f v F9) mo = .inr (4, _) from mS_m) rfl in_M 10 (by decide) lk_M_51 rfl d_M_keep_86 ?_
        rw [show v 10 = (Hu.length : Int) from h10]
        refine gk_iast X w 0 g.1.2.2.2.1 (mS_4 g) rfl (vin (by omega) (by omega) (by decide)) d_M_keep_89 (fun H locs w => ?_)
        rw [vclN 8 (by omega) (by omega) (by decide), upd_iN] at w
        obtain ⟨F1, hF1⟩ : ∃ q : Nat → Nat → Int, q = (va_up F9 4 (va_up (F9 4) K.toNat (Hu.length : Int))) := ⟨_, rfl⟩
        have w : gw D (gA L sz) s.heap H locs L (mSt cI mo A f v F1) := by rw [hF1, ← mU_4 (F := F9) g]; exact w
        refine lv_aload_n hx hb d_M_keep_90 rfl (lv_at hl 0 rfl) ?_
        refine lv_dup hx hb d_M_keep_91 rfl ?_
        refine gk_get X w g.1.1 (show (mSt cI mo A f v F1) mo = .inr (4, _) from mS_m) rfl in_M 1 (by decide) lk_M_39 rfl d_M_keep_92 ?_
        rw [show v 1 = K from hi1]
        refine lv_iconst (v := iN (1)) hx hb d_M_keep_95 (by decide) ?_
        refine ri_add (a := K) (b := 1) hx hb d_M_keep_96 rfl rfl ?_
        refine gk_put X w g.1.1 (show (mSt cI mo A f v F1) mo = .inr (4, _) from mS_m) rfl in_M ty_M tyok_M nm_M 1 (by decide) lk_M_39 rfl (ty := .int) (by decide +kernel) rfl rfl (Nat.le_of_ble_eq_true rfl) d_M_keep_97 (fun H locs w => ?_)
        obtain ⟨v2, hv2⟩ : ∃ q : Nat → Int, q = va_up v 1 ((K + 1)) := ⟨_, rfl⟩
        have v2s : v2 1 = (K + 1) := by rw [hv2, va_up_self]
        have v2n : ∀ j, j ≠ 1 → v2 j = v j := fun j hj => by rw [hv2, va_up_ne _ _ hj]
        have w : gw D (gA L sz) s.heap H locs L (mSt cI mo A f v2 F1) := by rw [hv2, ← mU_m (v := v)]; exact w
        refine lv_aload_n hx hb d_M_keep_100 rfl (lv_at hl 0 rfl) ?_
        refine gk_get X w g.1.1 (show (mSt cI mo A f v2 F1) mo = .inr (4, _) from mS_m) rfl in_M 1 (by decide) lk_M_39 rfl d_M_keep_101 ?_
        rw [show v2 1 = (K + 1) from (v2s)]
        refine lv_iconst (v := iN (1)) hx hb d_M_keep_104 (by decide) ?_
        refine ri_sub (a := (K + 1)) (b := 1) hx hb d_M_keep_105 rfl rfl ?_
        have e4 : F1 4 = va_up (F 4) K.toNat (Hu.length : Int) := by rw [hF1, va_up_self, hF9 4 (by decide) (by decide)]
        have e2 : F1 2 = F9 2 := by rw [hF1, va_up_ne _ _ (by decide)]
        have e3 : F1 3 = F9 3 := by rw [hF1, va_up_ne _ _ (by decide)]
        exact g_iret X w hrt hlk d_M_keep_106 (Or.inr ⟨by omega, by omega, by congr 1; omega, v2, F1, rfl, mInv_keep hI0 hok (v2n 0 (by decide)) (by rw [v2s]) (by omega) (by omega) e4 (fun i hi => by rw [e2, e3]; exact hG9 i hi) (fun j q hq => by rw [e2, e3]; exact hH9 j q (by have := (List.getElem?_eq_some_iff.mp hq).1; omega) hq), (v2n 11 (by decide)).trans h11, (v2n 12 (by decide)).trans h12⟩)
      · skip
        refine lv_aload_n hx hb d_M_keep_31 rfl (lv_at hl 0 rfl) ?_
        refine gk_get X w g.1.1 (show (mSt cI mo A f v F9) mo = .inr (4, _) from mS_m) rfl in_M 2 (by decide) lk_M_7 rfl d_M_keep_32 ?_
        refine lv_bipush (v := iN (24)) hx hb d_M_keep_35 (by decide) ?_
        refine lv_aload_n hx hb d_M_keep_37 rfl (lv_at hl 0 rfl) ?_
        refine gk_get X w g.1.1 (show (mSt cI mo A f v F9) mo = .inr (4, _) from mS_m) rfl in_M 1 (by decide) lk_M_39 rfl d_M_keep_38 ?_
        rw [show v 1 = K from hi1]
        refine ri_mul (a := 24) (b := K) hx hb d_M_keep_41 rfl rfl ?_
        refine lv_iload_n hx hb d_M_keep_42 rfl (lv_at hl 1 rfl) ?_
        refine ri_add (a := (24 * K)) (b := i) hx hb d_M_keep_43 rfl rfl ?_
        refine lv_aload_n hx hb d_M_keep_44 rfl (lv_at hl 0 rfl) ?_
        refine gk_get X w g.1.1 (show (mSt cI mo A f v F9) mo = .inr (4, _) from mS_m) rfl in_M 8 (by decide) lk_M_25 rfl d_M_keep_45 ?_
        refine lv_iload_n hx hb d_M_keep_48 rfl (lv_at hl 1 rfl) ?_
        refine gk_iald X w 0 g.1.2.2.2.2.2.2.1 (mS_8 g) rfl (vin (by omega) (show (i : Int) < 576 by have h9 : (i : Int) < Hu.length := (by omega); omega) (by decide)) d_M_keep_49 ?_
        rw [vcl (z := i) (by omega) (by have h9 : (i : Int) < Hu.length := (by omega); omega), hld_x hhF (i := i) (by omega) (by omega)]
        refine gk_iast X w 0 g.1.2.1 (mS_2 g) rfl (vin (by omega) (by omega) (by decide)) d_M_keep_50 (fun H locs w => ?_)
        rw [vclN 192 (by omega) (by omega) (by decide), upd_iN] at w
        obtain ⟨F3, hF3⟩ : ∃ q : Nat → Nat → Int, q = (va_up F9 2 (va_up (F9 2) ((24 * K) + i).toNat (pX Hu i))) := ⟨_, rfl⟩
        have w : gw D (gA L sz) s.heap H locs L (mSt cI mo A f v F3) := by rw [hF3, ← mU_2 (F := F9) g]; exact w
        have hhF : hld F3 Hu Hu.length := fun j q a b => by rw [hF3, va_up_ne _ _ (by decide), va_up_ne _ _ (by decide)]; exact hhF j q a b
        refine lv_aload_n hx hb d_M_keep_51 rfl (lv_at hl 0 rfl) ?_
        refine gk_get X w g.1.1 (show (mSt cI mo A f v F3) mo = .inr (4, _) from mS_m) rfl in_M 3 (by decide) lk_M_13 rfl d_M_keep_52 ?_
        refine lv_bipush (v := iN (24)) hx hb d_M_keep_55 (by decide) ?_
        refine lv_aload_n hx hb d_M_keep_57 rfl (lv_at hl 0 rfl) ?_
        refine gk_get X w g.1.1 (show (mSt cI mo A f v F3) mo = .inr (4, _) from mS_m) rfl in_M 1 (by decide) lk_M_39 rfl d_M_keep_58 ?_
        rw [show v 1 = K from hi1]
        refine ri_mul (a := 24) (b := K) hx hb d_M_keep_61 rfl rfl ?_
        refine lv_iload_n hx hb d_M_keep_62 rfl (lv_at hl 1 rfl) ?_
        refine ri_add (a := (24 * K)) (b := i) hx hb d_M_keep_63 rfl rfl ?_
        refine lv_aload_n hx hb d_M_keep_64 rfl (lv_at hl 0 rfl) ?_
        refine gk_get X w g.1.1 (show (mSt cI mo A f v F3) mo = .inr (4, _) from mS_m) rfl in_M 9 (by decide) lk_M_28 rfl d_M_keep_65 ?_
        refine lv_iload_n hx hb d_M_keep_68 rfl (lv_at hl 1 rfl) ?_
        refine gk_iald X w 0 g.1.2.2.2.2.2.2.2 (mS_9 g) rfl (vin (by omega) (show (i : Int) < 576 by have h9 : (i : Int) < Hu.length := (by omega); omega) (by decide)) d_M_keep_69 ?_
        rw [vcl (z := i) (by omega) (by have h9 : (i : Int) < Hu.length := (by omega); omega), hld_y hhF (i := i) (by omega) (by omega)]
        refine gk_iast X w 0 g.1.2.2.1 (mS_3 g) rfl (vin (by omega) (by omega) (by decide)) d_M_keep_70 (fun H locs w => ?_)
        rw [vclN 192 (by omega) (by omega) (by decide), upd_iN] at w
        obtain ⟨F4, hF4⟩ : ∃ q : Nat → Nat → Int, q = (va_up F3 3 (va_up (F3 3) ((24 * K) + i).toNat (pY Hu i))) := ⟨_, rfl⟩
        have w : gw D (gA L sz) s.heap H locs L (mSt cI mo A f v F4) := by rw [hF4, ← mU_3 (F := F3) g]; exact w
        refine lv_iinc (v := iN ((i + 1))) (lv' := [(1, .int (iN ((i + 1)))), (0, .ref mo)]) hx hb d_M_keep_71 hl (k := 1) rfl (by rw [show (i + 1) = i + (1 : Int) by omega, ← iN_add]; rfl) (by decide) rfl (fun ls hl => ?_)
        refine lv_goto (tgt := 23) hx hb d_M_keep_74 (by decide) ?_
        have eix : ((24 * K) + i).toNat = 24 * K.toNat + i.toNat := by omega
        have e2 : F4 2 = va_up (F9 2) (24 * K.toNat + i.toNat) (pX Hu i) := by rw [hF4, va_up_ne _ _ (by decide), hF3, va_up_self, eix]
        have e3 : F4 3 = va_up (F9 3) (24 * K.toNat + i.toNat) (pY Hu i) := by rw [hF4, va_up_self, hF3, va_up_ne _ _ (by decide), eix]
        have k1 : ∀ j, j ≠ 2 → j ≠ 3 → F4 j = F j := fun j q1 q2 => by rw [hF4, va_up_ne _ _ q2, hF3, va_up_ne _ _ q1]; exact hF9 j q1 q2
        have k2 : ∀ q9, q9 < 24 * K.toNat → F4 2 q9 = F 2 q9 ∧ F4 3 q9 = F 3 q9 := fun q9 h9 => by rw [e2, e3, va_up_ne _ _ (by omega), va_up_ne _ _ (by omega)]; exact hG9 q9 h9
        obtain ⟨ki, qi, eki, hqi, exi, eyi⟩ := px_get (P := Hu) (i := i) h0 (by omega)
        have k3 : ∀ (j9 : Nat) (q9 : Pt), (j9 : Int) < i + 1 → Hu[j9]? = some q9 → F4 2 (24 * K.toNat + j9) = q9.1 ∧ F4 3 (24 * K.toNat + j9) = q9.2 := by
          intro j9 q9 hj hq
          rw [e2, e3]
          by_cases e9 : j9 = i.toNat
          · subst e9; rw [va_up_self, va_up_self]; rw [show i.toNat = ki by omega, hqi] at hq; cases hq; exact ⟨exi, eyi⟩
          · rw [va_up_ne _ _ (by omega), va_up_ne _ _ (by omega)]; exact hH9 j9 q9 (by omega) hq
        have hI' : 0 ≤ (i + 1) ∧ (i + 1) ≤ Hu.length ∧ (∀ j, j ≠ 2 → j ≠ 3 → F4 j = F j) ∧ (∀ q9, q9 < 24 * K.toNat → F4 2 q9 = F 2 q9 ∧ F4 3 q9 = F 3 q9) ∧ (∀ (j9 : Nat) (q9 : Pt), (j9 : Int) < (i + 1) → Hu[j9]? = some q9 → F4 2 (24 * K.toNat + j9) = q9.1 ∧ F4 3 (24 * K.toNat + j9) = q9.2) := ⟨by omega, by omega, k1, k2, k3⟩
        exact ih ((i + 1), F4) _ _ _ (by omega) hI' w (lv_sub hl [1, 0] rfl)
    · skip
      refine lv_bipush (v := iN (-5)) hx hb d_M_keep_18 (by decide) ?_
      exact g_iret X w hrt hlk d_M_keep_20 (Or.inl ⟨by omega, rfl, v, F, rfl, hI0, h11, h12⟩)
def within3 (W : List Pt) (n : Int) : Prop := ∀ i : Int, 0 ≤ i → i < n → (-300 ≤ pX W i ∧ pX W i ≤ 300) ∧ (-300 ≤ pY W i ∧ pY W i ≤ 300)
set_option maxHeartbeats 4000000 in
set_option maxRecDepth 100000 in
theorem c_M_sum (l : Launch) {D : va_G} {cI cR : ClassId} {L : List Nat} {f : Nat → va_E} {mo : Nat} {A : Nat → Nat} {v : Nat → Int} {F : Nat → Nat → Int} (g : mg L mo A) {K t1 t2 : Int} {S : Nat → List Pt} (hI0 : mInv v F K S) (h11 : v 11 = t1) (h12 : v 12 = t2) (hok : okS K S) (hhu : hulS K S) {z : Int} (hz : i3 z) {z2 : Int} (hz2 : i3 z2) (hsu : sumS K S 1) : gMi D cI cR l y_M_sum (Cond.code y_M_sum b_M_sum 5 (some .int) :: lw_g) { frames := 4, cells := 0, slots := 0, locals := 105 } [.ref mo, .int (iN (z)), .int (iN (z2))] L (mSt cI mo A f v F) (fun r u => (flA K S z z2 ≠ 0 ∧ r = iN (flA K S z z2) ∧ mpost L cI mo A f K t1 t2 S u) ∨ (flA K S z z2 = 0 ∧ ¬ within3 (allS (S z.toNat) (S z2.toNat) 1) (allS (S z.toNat) (S z2.toNat) 1).length ∧ r = iN (-6) ∧ mpost L cI mo A f K t1 t2 S u) ∨ (flA K S z z2 = 0 ∧ within3 (allS (S z.toNat) (S z2.toNat) 1) (allS (S z.toNat) (S z2.toNat) 1).length ∧ kpost L cI mo A f K t1 t2 S (sumH (S z.toNat) (S z2.toNat) 1) r u)) := by
  intro sz
  refine g_enter (by decide) rfl (Nat.le_of_ble_eq_true rfl) ?_
  intro p e s m below meth cd ls X hrt hlk hnm hl hsz w
  have X : gx p m cd b_M_sum 5 s _ "HullSumsModel" D cI cR := X
  have hx := X.1.1
  have hb := X.1.2.1
  have hl : lv_has ls 5 [(0, .ref mo), (1, .int (iN (z))), (2, .int (iN (z2)))] := hl
  have hI1 := hI0
  obtain ⟨hi0, hi1, hi2, hi3, hi4⟩ := hI1
  refine lv_aload_n hx hb d_M_sum_0 rfl (lv_at hl 0 rfl) ?_
  refine lv_iload_n hx hb d_M_sum_1 rfl (lv_at hl 1 rfl) ?_
  refine lv_iload_n hx hb d_M_sum_2 rfl (lv_at hl 2 rfl) ?_
  refine g_ci w (g_runV (As := [.int (iN (z)), .int (iN (z2))]) (rest := []) X w (c_M_wrong l g hI0 h11 h12 hok hhu hz hz2) k_M_wrong v_M_wrong lk_M_177 g.1.1 (show mSt cI mo A f v F mo = .inr (4, _) from mS_m) rfl ⟨(Nat.le_of_ble_eq_true rfl), (Nat.le_of_ble_eq_true rfl)⟩ rfl hl.1 rfl (Nat.le_of_ble_eq_true rfl) d_M_sum_3 ⟨(Nat.le_of_ble_eq_true rfl), (Nat.le_of_ble_eq_true rfl)⟩) (fun r u H locs hp w => ?_)
  obtain ⟨rfl, rfl⟩ := hp
  have w : gw D (gA L sz) s.heap H locs L (mSt cI mo A f v F) := w
  have hfb := flA_b K S z z2
  refine lv_istore_n (lv' := [(3, .int (iN ((flA K S z z2)))), (0, .ref mo), (1, .int (iN (z))), (2, .int (iN (z2)))]) hx hb d_M_sum_6 rfl hl (by decide) rfl (fun ls hl => ?_)
  refine lv_iload_n hx hb d_M_sum_7 rfl (lv_at hl 0 rfl) ?_
  refine ri_zge (a := (flA K S z z2)) (tgt := 13) hx hb d_M_sum_8 (by decide) rfl (by unfold i3; omega) (fun c8 => ?_) (fun c8 => ?_)
  · skip
    refine lv_aload_n hx hb d_M_sum_13 rfl (lv_at hl 1 rfl) ?_
    refine lv_iload_n hx hb d_M_sum_14 rfl (lv_at hl 2 rfl) ?_
    refine lv_iload_n hx hb d_M_sum_15 rfl (lv_at hl 3 rfl) ?_
    refine lv_iconst (v := iN (1)) hx hb d_M_sum_16 (by decide) ?_
    have hf0 : flA K S z z2 = 0 := by omega
    obtain ⟨⟨hzr, hyr⟩, hne1, hne2⟩ := flA_0 hf0
    obtain ⟨Wl, eWl⟩ : ∃ q, q = allS (S z.toNat) (S z2.toNat) 1 := ⟨_, rfl⟩
    obtain ⟨Hu, eHu⟩ : ∃ q, q = sumH (S z.toNat) (S z2.toNat) 1 := ⟨_, rfl⟩
    obtain ⟨ho1, hp1⟩ := hok z.toNat (by omega)
    obtain ⟨ho2, hp2⟩ := hok z2.toNat (by omega)
    obtain ⟨hhz, hhb⟩ := hsu z.toNat z2.toNat (by omega) (by omega) hne1 hne2
    rw [← eWl, ← eHu] at hhz
    rw [← eHu] at hhb
    have hH576 := hhz.2.2.1
    have hHb : pb 600 Hu := pb_of (by decide) hhb
    have hWpl : pbl 600 Wl := by rw [eWl]; exact allS_b (Or.inl rfl) hp1 hp2
    have hWb : pb 600 Wl := pb_of (by decide) hWpl
    have hW576 : Wl.length ≤ 576 := by rw [eWl]; unfold allS; rw [flat_len]; exact Nat.mul_le_mul ho1 ho2
    refine g_cv w (g_runV (As := [.int (iN (z)), .int (iN (z2)), .int (iN (1))]) (rest := []) X w ((by have h9 := c_M_loadBoth (D := D) (cR := cR) (cI := cI) (f := f) l g hI0 (z := z) (z2 := z2) (sg := 1) hzr hyr ho1 ho2 (by rw [← eWl]; exact hWpl) (Hu := Hu) (by rw [← eWl]; exact hhz); rw [← eWl] at h9; exact h9)) k_M_loadBoth v_M_loadBoth lk_M_181 g.1.1 (show mSt cI mo A f v F mo = .inr (4, _) from mS_m) rfl ⟨(Nat.le_of_ble_eq_true rfl), (Nat.le_of_ble_eq_true rfl)⟩ rfl hl.1 rfl (Nat.le_of_ble_eq_true rfl) d_M_sum_17 ⟨(Nat.le_of_ble_eq_true rfl), (Nat.le_of_ble_eq_true rfl)⟩) (fun u H locs hp w => ?_)
    obtain ⟨v8, F8, rfl, hL8, hn8, hf8⟩ := hp
    have w : gw D (gA L sz) s.heap H locs L (mSt cI mo A f v8 F8) := w
    obtain ⟨h7, h10, hwF, hhF⟩ := id hL8
    have hI8 := mInv_k hI0 (hn8 0 (by decide) (by decide)) (hn8 1 (by decide) (by decide)) hf8
    have h118 := (hn8 11 (by decide) (by decide)).trans h11
    have h128 := (hn8 12 (by decide) (by decide)).trans h12
    refine lv_iconst (v := iN (0)) hx hb d_M_sum_20 (by decide) ?_
    refine lv_istore (lv' := [(4, .int (iN (0))), (3, .int (iN ((flA K S z z2)))), (0, .ref mo), (1, .int (iN (z))), (2, .int (iN (z2)))]) hx hb d_M_sum_21 hl (by decide) rfl (fun ls hl => ?_)
    refine g_loop (σ := Int) (fun z9 => (Wl.length - z9).toNat) (fun z9 => [(0, .ref mo), (1, .int (iN (z))), (2, .int (iN (z2))), (3, .int (iN ((flA K S z z2)))), (4, .int (iN (z9)))]) L (fun z9 => (mSt cI mo A f v8 F8)) (fun z9 => 0 ≤ z9 ∧ z9 ≤ Wl.length ∧ within3 Wl z9) ?_ 0 _ _ _ ⟨by omega, by omega, fun _ q0 q1 => by omega⟩ w (lv_sub hl [2, 3, 4, 1, 0] rfl)
    intro k H locs ls hI w hl ih
    have hl : lv_has ls 5 [(0, .ref mo), (1, .int (iN (z))), (2, .int (iN (z2))), (3, .int (iN ((flA K S z z2)))), (4, .int (iN (k)))] := hl
    have w : gw D (gA L sz) s.heap H locs L ((mSt cI mo A f v8 F8)) := w
    have hI : 0 ≤ k ∧ k ≤ Wl.length ∧ within3 Wl k := hI
    obtain ⟨h0, h1, h2⟩ := hI
    refine lv_iload hx hb d_M_sum_23 (lv_at hl 4 rfl) ?_
    refine lv_aload_n hx hb d_M_sum_25 rfl (lv_at hl 0 rfl) ?_
    refine gk_get X w g.1.1 (show (mSt cI mo A f v8 F8) mo = .inr (4, _) from mS_m) rfl in_M 7 (by decide) lk_M_45 rfl d_M_sum_26 ?_
    rw [show v8 7 = (Wl.length : Int) from h7]
    refine ri_cge (a := k) (b := (Wl.length : Int)) (tgt := 79) hx hb d_M_sum_29 (by decide) rfl rfl (by unfold i3; omega) (by unfold i3; omega) (fun c29 => ?_) (fun c29 => ?_)
    · skip
      refine lv_aload_n hx hb d_M_sum_79 rfl (lv_at hl 0 rfl) ?_
      refine g_ci w (g_runV (As := []) (rest := []) X w (c_M_keep l g hI8 h118 h128 hok hL8 hH576 hHb) k_M_keep v_M_keep lk_M_185 g.1.1 (show (mSt cI mo A f v8 F8) mo = .inr (4, _) from mS_m) rfl ⟨(Nat.le_of_ble_eq_true rfl), (Nat.le_of_ble_eq_true rfl)⟩ rfl hl.1 rfl (Nat.le_of_ble_eq_true rfl) d_M_sum_80 ⟨(Nat.le_of_ble_eq_true rfl), (Nat.le_of_ble_eq_true rfl)⟩) (fun r u H locs hp w => ?_)
      obtain ⟨U9, G9⟩ := u
      have hUL : U9 = L := by rcases hp with ⟨_, _, v7, F7, e, _⟩ | ⟨_, _, _, v7, F7, e, _⟩ <;> exact congrArg Prod.fst e
      subst hUL
      exact g_iret X w hrt hlk d_M_sum_83 (Or.inr (Or.inr ⟨hf0, by rw [← eWl, show (Wl.length : Int) = k by omega]; exact h2, by rw [← eHu]; exact hp⟩))
    · skip
      refine lv_aload_n hx hb d_M_sum_32 rfl (lv_at hl 0 rfl) ?_
      refine gk_get X w g.1.1 (show (mSt cI mo A f v8 F8) mo = .inr (4, _) from mS_m) rfl in_M 5 (by decide) lk_M_19 rfl d_M_sum_33 ?_
      refine lv_iload hx hb d_M_sum_36 (lv_at hl 4 rfl) ?_
      refine gk_iald X w 0 g.1.2.2.2.2.1 (mS_5 g) rfl (vin (by omega) (show (k : Int) < 576 by have h9 : (k : Int) < Wl.length := (by omega); omega) (by decide)) d_M_sum_38 ?_
      rw [vcl (z := k) (by omega) (by have h9 : (k : Int) < Wl.length := (by omega); omega), wld_x hwF (i := k) (by omega) (by omega)]
      refine lv_sipush (v := iN (-300)) hx hb d_M_sum_39 (by decide) ?_
      refine lv_sipush (v := iN (300)) hx hb d_M_sum_42 (by decide) ?_
      refine g_ci w (g_runS (As := [.int (iN ((pX Wl k))), .int (iN (-300)), .int (iN (300))]) (rest := []) X w (c_M_in l (z := (pX Wl k)) (x := -300) (y := 300) (by have := hWb k; unfold i3; omega) (by unfold i3; omega) (by unfold i3; omega)) k_M_in lk_M_83 st_M_in ⟨(Nat.le_of_ble_eq_true rfl), (Nat.le_of_ble_eq_true rfl)⟩ rfl hl.1 rfl (Nat.le_of_ble_eq_true rfl) d_M_sum_45 ⟨Nat.zero_le _, Nat.zero_le _⟩) (fun r u H locs hp w => ?_)
      obtain ⟨rfl, rfl⟩ := hp
      have w : gw D (gA L sz) s.heap H locs L (mSt cI mo A f v8 F8) := w
      refine ri_zeq (a := (bI (-300 ≤ (pX Wl k) ∧ (pX Wl k) ≤ 300))) (tgt := 70) hx hb d_M_sum_48 (by decide) rfl (bI_3 _) (fun c48 => ?_) (fun c48 => ?_)
      · skip
        refine lv_bipush (v := iN (-6)) hx hb d_M_sum_70 (by decide) ?_
        exact g_iret X w hrt hlk d_M_sum_72 (Or.inr (Or.inl ⟨hf0, fun q => by have q9 := q k h0 (by rw [← eWl]; omega); rw [← eWl] at q9; first | exact bI_0 c48 q9.1 | exact bI_0 (by omega) q9.2, rfl, ⟨v8, F8, rfl, hI8, h118, h128⟩⟩))
      · skip
        refine lv_aload_n hx hb d_M_sum_51 rfl (lv_at hl 0 rfl) ?_
        refine gk_get X w g.1.1 (show (mSt cI mo A f v8 F8) mo = .inr (4, _) from mS_m) rfl in_M 6 (by decide) lk_M_22 rfl d_M_sum_52 ?_
        refine lv_iload hx hb d_M_sum_55 (lv_at hl 4 rfl) ?_
        refine gk_iald X w 0 g.1.2.2.2.2.2.1 (mS_6 g) rfl (vin (by omega) (show (k : Int) < 576 by have h9 : (k : Int) < Wl.length := (by omega); omega) (by decide)) d_M_sum_57 ?_
        rw [vcl (z := k) (by omega) (by have h9 : (k : Int) < Wl.length := (by omega); omega), wld_y hwF (i := k) (by omega) (by omega)]
        refine lv_sipush (v := iN (-300)) hx hb d_M_sum_58 (by decide) ?_
        refine lv_sipush (v := iN (300)) hx hb d_M_sum_61 (by decide) ?_
        refine g_ci w (g_runS (As := [.int (iN ((pY Wl k))), .int (iN (-300)), .int (iN (300))]) (rest := []) X w (c_M_in l (z := (pY Wl k)) (x := -300) (y := 300) (by have := hWb k; unfold i3; omega) (by unfold i3; omega) (by unfold i3; omega)) k_M_in lk_M_83 st_M_in ⟨(Nat.le_of_ble_eq_true rfl), (Nat.le_of_ble_eq_true rfl)⟩ rfl hl.1 rfl (Nat.le_of_ble_eq_true rfl) d_M_sum_64 ⟨Nat.zero_le _, Nat.zero_le _⟩) (fun r u H locs hp w => ?_)
        obtain ⟨rfl, rfl⟩ := hp
        have w : gw D (gA L sz) s.heap H locs L (mSt cI mo A f v8 F8) := w
        refine ri_zne (a := (bI (-300 ≤ (pY Wl k) ∧ (pY Wl k) ≤ 300))) (tgt := 73) hx hb d_M_sum_67 (by decide) rfl (bI_3 _) (fun c67 => ?_) (fun c67 => ?_)
        · skip
          refine lv_iinc (v := iN ((k + 1))) (lv' := [(4, .int (iN ((k + 1)))), (0, .ref mo), (1, .int (iN (z))), (2, .int (iN (z2))), (3, .int (iN ((flA K S z z2))))]) hx hb d_M_sum_73 hl (k := 4) rfl (by rw [show (k + 1) = k + (1 : Int) by omega, ← iN_add]; rfl) (by decide) rfl (fun ls hl => ?_)
          refine lv_goto (tgt := 23) hx hb d_M_sum_76 (by decide) ?_
          exact ih (k + 1) _ _ _ (by omega) ⟨by omega, by omega, fun j q0 q1 => by by_cases e9 : j = k; (subst e9; exact ⟨bI_n c48, bI_n (by omega)⟩); exact h2 j q0 (by omega)⟩ w (lv_sub hl [1, 2, 3, 4, 0] rfl)
        · skip
          refine lv_bipush (v := iN (-6)) hx hb d_M_sum_70 (by decide) ?_
          exact g_iret X w hrt hlk d_M_sum_72 (Or.inr (Or.inl ⟨hf0, fun q => by have q9 := q k h0 (by rw [← eWl]; omega); rw [← eWl] at q9; first | exact bI_0 c48 q9.1 | exact bI_0 (by omega) q9.2, rfl, ⟨v8, F8, rfl, hI8, h118, h128⟩⟩))
  · skip
    refine lv_iload_n hx hb d_M_sum_11 rfl (lv_at hl 0 rfl) ?_
    exact g_iret X w hrt hlk d_M_sum_12 (Or.inl ⟨by omega, rfl, ⟨v, F, rfl, hI0, h11, h12⟩⟩)
