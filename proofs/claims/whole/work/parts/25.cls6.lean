/-! HULLSUMS: sum, turned -/
def npost (L : List Nat) (cI cR : ClassId) (rx ry ra : Nat → Nat) (h ar ci lo : Nat) (f : Nat → va_E) (K t1 t2 : Int) (S : Nat → List Pt) (C : List Pt) (u : List Nat × (Nat → va_E)) : Prop :=
  ∃ (g : Nat → va_E) (S' : Nat → List Pt), u = (L, g) ∧ clsIs cI cR rx ry ra h ar ci lo g (K + 1) t1 t2 S' ∧ (∀ i, i < 8 → i ≠ K.toNat → S' i = S i) ∧ S' K.toNat = C ∧ unch rx ry ra h ar ci lo f g

set_option maxHeartbeats 4000000 in
set_option maxRecDepth 100000 in
theorem c_H_sum (l : Launch) {D : va_G} {cI cR : ClassId} {L : List Nat} {f : Nat → va_E} {rx ry ra : Nat → Nat} {h ar ci lo : Nat} {K t1 t2 : Int} {S : Nat → List Pt} (G : geo L rx ry ra h ar ci lo) (hc : clsIs cI cR rx ry ra h ar ci lo f K t1 t2 S) (hok : okS K S) {z : Int} (hz : i3 z) {z2 : Int} (hz2 : i3 z2) (hHL : ∀ i : Nat, (i : Int) < K → (hullF (S i)).length ≤ 24 ∧ (hullF ((S i).map (sgm 1))).length ≤ 24) (hSM : ∀ a b : Nat, (a : Int) < K → (b : Int) < K → (S a).length ≠ 0 → (S b).length ≠ 0 → pbl 600 (sumF (hullF (S a)) (hullF ((S b).map (sgm 1))))) : gMi D cI cR l y_H_sum (Cond.code y_H_sum b_H_sum 4 (some .int) :: lw_g) { frames := 5, cells := 0, slots := 0, locals := 120 } [.ref h, .int (iN (z)), .int (iN (z2))] L f (fun r u => (flA K S z z2 ≠ 0 ∧ r = iN (flA K S z z2) ∧ hpost L cI cR rx ry ra h ar ci lo f K t1 t2 S u) ∨ (flA K S z z2 = 0 ∧ ¬ wth (sumF (hullF (S z.toNat)) (hullF ((S z2.toNat).map (sgm 1)))) (sumF (hullF (S z.toNat)) (hullF ((S z2.toNat).map (sgm 1)))).length 300 ∧ r = iN (-6) ∧ hpost L cI cR rx ry ra h ar ci lo f K t1 t2 S u) ∨ (flA K S z z2 = 0 ∧ wth (sumF (hullF (S z.toNat)) (hullF ((S z2.toNat).map (sgm 1)))) (sumF (hullF (S z.toNat)) (hullF ((S z2.toNat).map (sgm 1)))).length 300 ∧ (24 < (sumF (hullF (S z.toNat)) (hullF ((S z2.toNat).map (sgm 1)))).length ∨ 8 ≤ K) ∧ r = iN (-5) ∧ hpost L cI cR rx ry ra h ar ci lo f K t1 t2 S u) ∨ (flA K S z z2 = 0 ∧ wth (sumF (hullF (S z.toNat)) (hullF ((S z2.toNat).map (sgm 1)))) (sumF (hullF (S z.toNat)) (hullF ((S z2.toNat).map (sgm 1)))).length 300 ∧ (sumF (hullF (S z.toNat)) (hullF ((S z2.toNat).map (sgm 1)))).length ≤ 24 ∧ K < 8 ∧ r = iN K ∧ npost L cI cR rx ry ra h ar ci lo f K t1 t2 S (sumF (hullF (S z.toNat)) (hullF ((S z2.toNat).map (sgm 1)))) u)) := by
  intro sz
  refine g_enter (by decide) rfl (Nat.le_of_ble_eq_true rfl) ?_
  intro p e s m below meth cd ls X hrt hlk hnm hl hsz w
  have X : gx p m cd b_H_sum 4 s _ "HullSums" D cI cR := X
  have hx := X.1.1
  have hb := X.1.2.1
  have hl : lv_has ls 4 [(0, .ref h), (1, .int (iN (z))), (2, .int (iN (z2)))] := hl
  have hK := hc.2.2.2.2.2
  refine lv_aload_n hx hb d_H_sum_0 rfl (lv_at hl 0 rfl) ?_
  refine lv_iload_n hx hb d_H_sum_1 rfl (lv_at hl 1 rfl) ?_
  refine lv_iload_n hx hb d_H_sum_2 rfl (lv_at hl 2 rfl) ?_
  refine lv_iconst (v := iN (1)) hx hb d_H_sum_3 (by decide) ?_
  refine g_ci w (g_runV (As := [.int (iN (z)), .int (iN (z2)), .int (iN (1))]) (rest := []) X w (c_H_fillSums l G hc hok (z := z) hz (z2 := z2) hz2 (sg := 1) (Or.inl rfl) hHL) k_H_fillSums v_H_fillSums lk_H_159 G.1.1 hc.1 rfl ⟨(Nat.le_of_ble_eq_true rfl), (Nat.le_of_ble_eq_true rfl)⟩ rfl hl.1 rfl (Nat.le_of_ble_eq_true rfl) d_H_sum_4 ⟨(Nat.le_of_ble_eq_true rfl), (Nat.le_of_ble_eq_true rfl)⟩) (fun r u H locs hp w => ?_)
  obtain ⟨rfl, g, S1, rfl, hcg, hSk, hug, hS9⟩ := hp
  have w : gw D (gA L sz) s.heap H locs L g := w
  have hfl : flA K S z z2 = 0 ∨ flA K S z z2 = -1 ∨ flA K S z z2 = -3 := by unfold flA; split; (split <;> omega); omega
  refine lv_istore_n (lv' := [(3, .int (iN ((flA K S z z2)))), (0, .ref h), (1, .int (iN (z))), (2, .int (iN (z2)))]) hx hb d_H_sum_7 rfl hl (by decide) rfl (fun ls hl => ?_)
  refine lv_iload_n hx hb d_H_sum_8 rfl (lv_at hl 0 rfl) ?_
  refine ri_zge (a := (flA K S z z2)) (tgt := 14) hx hb d_H_sum_9 (by decide) rfl (by unfold i3; omega) (fun c9 => ?_) (fun c9 => ?_)
  · skip
    have hf0 : flA K S z z2 = 0 := by omega
    have hf1 : (0 ≤ z ∧ z < K) ∧ (0 ≤ z2 ∧ z2 < K) := by by_cases q : (0 ≤ z ∧ z < K) ∧ (0 ≤ z2 ∧ z2 < K); exact q; unfold flA at hf0; rw [if_neg q] at hf0; omega
    have hf2 : (S z.toNat).length ≠ 0 ∧ (S z2.toNat).length ≠ 0 := by unfold flA at hf0; rw [if_pos hf1] at hf0; split at hf0 <;> omega
    obtain ⟨e9, e10, e11⟩ := hS9 hf0
    have hr9 : rowIs cI rx ry g (ra 9) (hullF (S z.toNat)) := by rw [← e9]; exact hcg.2.2.1 9 (by decide)
    have hr10 : rowIs cI rx ry g (ra 10) (hullF ((S z2.toNat).map (sgm 1))) := by rw [← e10]; exact hcg.2.2.1 10 (by decide)
    have hr11 : rowIs cI rx ry g (ra 11) (sumF (hullF (S z.toNat)) (hullF ((S z2.toNat).map (sgm 1)))) := by rw [← e11]; exact hcg.2.2.1 11 (by decide)
    have hBS : pb 600 (sumF (hullF (S z.toNat)) (hullF ((S z2.toNat).map (sgm 1)))) := pb_of (by decide) (hSM _ _ (by omega) (by omega) hf2.1 hf2.2)
    have hn48 := hr11.1
    refine lv_aload_n hx hb d_H_sum_14 rfl (lv_at hl 1 rfl) ?_
    refine gk_get X w G.1.1 hcg.1 rfl in_H 7 (by decide) lk_H_26 rfl d_H_sum_15 ?_
    refine lv_sipush (v := iN (300)) hx hb d_H_sum_18 (by decide) ?_
    refine g_ci w (g_runV (As := [.int (iN (300))]) (rest := []) X w (c_R_isWithin l (G.2.2.1 11 (by decide)) hr11 hBS (by omega)) k_R_isWithin v_R_isWithin lk_H_163 (G.2.2.1 11 (by decide)).1 hr11.2.1 rfl ⟨(Nat.le_of_ble_eq_true rfl), (Nat.le_of_ble_eq_true rfl)⟩ rfl hl.1 rfl (Nat.le_of_ble_eq_true rfl) d_H_sum_21 ⟨Nat.zero_le _, Nat.zero_le _⟩) (fun r u H locs hp w => ?_)
    obtain ⟨rfl, rfl⟩ := hp
    have w : gw D (gA L sz) s.heap H locs L g := w
    refine ri_zne (a := (bI (wth (sumF (hullF (S z.toNat)) (hullF ((S z2.toNat).map (sgm 1)))) (sumF (hullF (S z.toNat)) (hullF ((S z2.toNat).map (sgm 1)))).length 300))) (tgt := 30) hx hb d_H_sum_24 (by decide) rfl (bI_3 _) (fun c24 => ?_) (fun c24 => ?_)
    · skip
      refine lv_aload_n hx hb d_H_sum_30 rfl (lv_at hl 1 rfl) ?_
      refine gk_get X w G.1.1 hcg.1 rfl in_H 7 (by decide) lk_H_26 rfl d_H_sum_31 ?_
      refine g_ci w (g_runV (As := []) (rest := []) X w (c_R_size l (G.2.2.1 11 (by decide)) hr11) k_R_size v_R_size lk_H_72 (G.2.2.1 11 (by decide)).1 hr11.2.1 rfl ⟨(Nat.le_of_ble_eq_true rfl), (Nat.le_of_ble_eq_true rfl)⟩ rfl hl.1 rfl (Nat.le_of_ble_eq_true rfl) d_H_sum_34 ⟨Nat.zero_le _, Nat.zero_le _⟩) (fun r u H locs hp w => ?_)
      obtain ⟨rfl, rfl⟩ := hp
      have w : gw D (gA L sz) s.heap H locs L g := w
      refine lv_bipush (v := iN (24)) hx hb d_H_sum_37 (by decide) ?_
      refine ri_cle (a := ((sumF (hullF (S z.toNat)) (hullF ((S z2.toNat).map (sgm 1)))).length : Int)) (b := 24) (tgt := 47) hx hb d_H_sum_39 (by decide) rfl rfl (by unfold i3; omega) (by unfold i3; omega) (fun c39 => ?_) (fun c39 => ?_)
      · skip
        refine lv_aload_n hx hb d_H_sum_47 rfl (lv_at hl 1 rfl) ?_
        refine lv_aload_n hx hb d_H_sum_48 rfl (lv_at hl 1 rfl) ?_
        refine gk_get X w G.1.1 hcg.1 rfl in_H 7 (by decide) lk_H_26 rfl d_H_sum_49 ?_
        refine g_ci w (g_runV (As := [.ref (ra 11)]) (rest := []) X w (c_H_setOf l G hcg (i := 11) (by decide) (by decide) (by rw [e11]; omega)) k_H_setOf v_H_setOf lk_H_167 G.1.1 hcg.1 rfl ⟨(Nat.le_of_ble_eq_true rfl), (Nat.le_of_ble_eq_true rfl)⟩ rfl hl.1 rfl (Nat.le_of_ble_eq_true rfl) d_H_sum_52 ⟨(Nat.le_of_ble_eq_true rfl), (Nat.le_of_ble_eq_true rfl)⟩) (fun r u H locs hp w => ?_)
        rcases hp with ⟨hK8, rfl, rfl⟩ | ⟨hK8, rfl, g9, rfl, hcg9, hug9⟩
        · skip
          have w : gw D (gA L sz) s.heap H locs L g := w
          exact g_iret X w hrt hlk d_H_sum_55 (Or.inr (Or.inr (Or.inl ⟨hf0, bI_n c24, by omega, rfl, ⟨g, S1, rfl, hcg, hSk, hug⟩⟩)))
        · skip
          have w : gw D (gA L sz) s.heap H locs L g9 := w
          exact g_iret X w hrt hlk d_H_sum_55 (Or.inr (Or.inr (Or.inr ⟨hf0, bI_n c24, by omega, hK8, rfl, g9, _, rfl, hcg9, fun j hj hjk => by rw [su_n hjk]; exact hSk j hj, by rw [su_s, e11], unch_tr hug hug9⟩)))
      · skip
        refine lv_bipush (v := iN (-5)) hx hb d_H_sum_42 (by decide) ?_
        refine lv_goto (tgt := 55) hx hb d_H_sum_44 (by decide) ?_
        exact g_iret X w hrt hlk d_H_sum_55 (Or.inr (Or.inr (Or.inl ⟨hf0, bI_n c24, by omega, rfl, ⟨g, S1, rfl, hcg, hSk, hug⟩⟩)))
    · skip
      refine lv_bipush (v := iN (-6)) hx hb d_H_sum_27 (by decide) ?_
      exact g_iret X w hrt hlk d_H_sum_29 (Or.inr (Or.inl ⟨hf0, bI_0 (by omega), rfl, ⟨g, S1, rfl, hcg, hSk, hug⟩⟩))
  · skip
    refine lv_iload_n hx hb d_H_sum_12 rfl (lv_at hl 0 rfl) ?_
    exact g_iret X w hrt hlk d_H_sum_13 (Or.inl ⟨by omega, rfl, ⟨g, S1, rfl, hcg, hSk, hug⟩⟩)
set_option maxHeartbeats 4000000 in
set_option maxRecDepth 100000 in
theorem c_H_turned (l : Launch) {D : va_G} {cI cR : ClassId} {L : List Nat} {f : Nat → va_E} {rx ry ra : Nat → Nat} {h ar ci lo : Nat} {K t1 t2 : Int} {S : Nat → List Pt} (G : geo L rx ry ra h ar ci lo) (hc : clsIs cI cR rx ry ra h ar ci lo f K t1 t2 S) (hok : okS K S) {z : Int} (hz : i3 z) (hHL : ∀ i : Nat, (i : Int) < K → (hullF ((S i).map (sgm (-1)))).length ≤ 24) : gMi D cI cR l y_H_turned (Cond.code y_H_turned b_H_turned 3 (some .int) :: lw_g) { frames := 4, cells := 0, slots := 0, locals := 93 } [.ref h, .int (iN (z))] L f (fun r u => (¬ (0 ≤ z ∧ z < K) ∧ r = iN (-1) ∧ hpost L cI cR rx ry ra h ar ci lo f K t1 t2 S u) ∨ ((0 ≤ z ∧ z < K) ∧ (S z.toNat).length = 0 ∧ r = iN (-3) ∧ hpost L cI cR rx ry ra h ar ci lo f K t1 t2 S u) ∨ ((0 ≤ z ∧ z < K) ∧ (S z.toNat).length ≠ 0 ∧ 8 ≤ K ∧ r = iN (-5) ∧ hpost L cI cR rx ry ra h ar ci lo f K t1 t2 S u) ∨ ((0 ≤ z ∧ z < K) ∧ (S z.toNat).length ≠ 0 ∧ K < 8 ∧ r = iN K ∧ npost L cI cR rx ry ra h ar ci lo f K t1 t2 S (hullF ((S z.toNat).map (sgm (-1)))) u)) := by
  intro sz
  refine g_enter (by decide) rfl (Nat.le_of_ble_eq_true rfl) ?_
  intro p e s m below meth cd ls X hrt hlk hnm hl hsz w
  have X : gx p m cd b_H_turned 3 s _ "HullSums" D cI cR := X
  have hx := X.1.1
  have hb := X.1.2.1
  have hl : lv_has ls 3 [(0, .ref h), (1, .int (iN (z)))] := hl
  have hK := hc.2.2.2.2.2
  refine lv_aload_n hx hb d_H_turned_0 rfl (lv_at hl 0 rfl) ?_
  refine lv_iload_n hx hb d_H_turned_1 rfl (lv_at hl 1 rfl) ?_
  refine g_cq w (g_runV (As := [.int (iN (z))]) (rest := []) X w (c_H_rowOf l G hc (z := z) hz) k_H_rowOf v_H_rowOf lk_H_58 G.1.1 hc.1 rfl ⟨(Nat.le_of_ble_eq_true rfl), (Nat.le_of_ble_eq_true rfl)⟩ rfl hl.1 rfl (Nat.le_of_ble_eq_true rfl) d_H_turned_2 ⟨(Nat.le_of_ble_eq_true rfl), (Nat.le_of_ble_eq_true rfl)⟩) (fun r u H locs hp w => ?_)
  obtain ⟨hr9, rfl⟩ := hp
  have w : gw D (gA L sz) s.heap H locs L f := w
  by_cases hz1 : 0 ≤ z ∧ z < K
  · skip
    rw [if_pos hz1] at hr9
    subst hr9
    have hz18 : z.toNat < 8 := by have := hc.2.2.2.2.2; omega
    have hBhz1 : pb 600 (S z.toNat) := pb_of (by decide) (pbl_le (by decide) (hok _ (by omega)).2)
    have hlhz1 := (hok z.toNat (by omega)).1
    refine lv_astore_n (lv' := [(2, .ref (ra z.toNat)), (0, .ref h), (1, .int (iN (z)))]) hx hb d_H_turned_5 rfl hl (by decide) rfl (fun ls hl => ?_)
    refine lv_aload_n hx hb d_H_turned_6 rfl (lv_at hl 0 rfl) ?_
    refine lv_ifnonnull (tgt := 12) hx hb d_H_turned_7 (by decide) ?_
    refine lv_aload_n hx hb d_H_turned_12 rfl (lv_at hl 0 rfl) ?_
    refine g_ci w (g_runV (As := []) (rest := []) X w (c_R_size l (G.2.2.1 z.toNat (by omega)) (hc.2.2.1 z.toNat (by omega))) k_R_size v_R_size lk_H_72 (G.2.2.1 z.toNat (by omega)).1 (hc.2.2.1 z.toNat (by omega)).2.1 rfl ⟨(Nat.le_of_ble_eq_true rfl), (Nat.le_of_ble_eq_true rfl)⟩ rfl hl.1 rfl (Nat.le_of_ble_eq_true rfl) d_H_turned_13 ⟨Nat.zero_le _, Nat.zero_le _⟩) (fun r u H locs hp w => ?_)
    obtain ⟨rfl, rfl⟩ := hp
    have w : gw D (gA L sz) s.heap H locs L f := w
    refine ri_zne (a := ((S z.toNat).length : Int)) (tgt := 22) hx hb d_H_turned_16 (by decide) rfl (by unfold i3; omega) (fun c16 => ?_) (fun c16 => ?_)
    · skip
      refine lv_aload_n hx hb d_H_turned_22 rfl (lv_at hl 1 rfl) ?_
      refine gk_get X w G.1.1 hc.1 rfl in_H 6 (by decide) lk_H_23 rfl d_H_turned_23 ?_
      refine lv_aload_n hx hb d_H_turned_26 rfl (lv_at hl 0 rfl) ?_
      refine lv_iconst (v := iN (-1)) hx hb d_H_turned_27 (by decide) ?_
      refine lv_aload_n hx hb d_H_turned_28 rfl (lv_at hl 1 rfl) ?_
      refine gk_get X w G.1.1 hc.1 rfl in_H 4 (by decide) lk_H_16 rfl d_H_turned_29 ?_
      refine g_cv w (g_runV (As := [.ref (ra z.toNat), .int (iN (-1)), .ref (ra 8)]) (rest := []) X w (c_R_becomeHull l (G.2.2.1 10 (by decide)) (G.2.2.1 z.toNat (by omega)) (G.2.2.1 8 (by decide)) (G.2.2.2.1 10 z.toNat (by decide) (by omega) (by omega)) (G.2.2.2.1 10 8 (by decide) (by decide) (by decide)) (G.2.2.2.1 z.toNat 8 (by omega) (by decide) (by omega)) (hc.2.2.1 10 (by decide)) (hc.2.2.1 z.toNat (by omega)) (hc.2.2.1 8 (by decide)) (pbl_le (by decide) (hok z.toNat (by omega)).2) (hok z.toNat (by omega)).1 (sg := -1) (Or.inr rfl)) k_R_becomeHull v_R_becomeHull lk_H_171 (G.2.2.1 10 (by decide)).1 (hc.2.2.1 10 (by decide)).2.1 rfl ⟨(Nat.le_of_ble_eq_true rfl), (Nat.le_of_ble_eq_true rfl)⟩ rfl hl.1 rfl (Nat.le_of_ble_eq_true rfl) d_H_turned_32 ⟨(Nat.le_of_ble_eq_true rfl), (Nat.le_of_ble_eq_true rfl)⟩) (fun u H locs hp w => ?_)
      obtain ⟨g, rfl, hg1, hg2, hg3⟩ := hp
      have w : gw D (gA L sz) s.heap H locs L g := w
      obtain ⟨hcg, hug⟩ := cls_row2 G hc (i := 10) (k := 8) (by decide) (by decide) (by decide) hg1 hg2 hg3
      have hSk : ∀ j, j < 8 → supd (supd S 8 (sortF ((S z.toNat).map (sgm (-1))))) 10 (hullF ((S z.toNat).map (sgm (-1)))) j = S j := fun j hj => by rw [su_n (by omega), su_n (by omega)]
      refine lv_aload_n hx hb d_H_turned_35 rfl (lv_at hl 1 rfl) ?_
      refine lv_aload_n hx hb d_H_turned_36 rfl (lv_at hl 1 rfl) ?_
      refine gk_get X w G.1.1 hcg.1 rfl in_H 6 (by decide) lk_H_23 rfl d_H_turned_37 ?_
      refine g_ci w (g_runV (As := [.ref (ra 10)]) (rest := []) X w (c_H_setOf l G hcg (i := 10) (by decide) (by decide) (by rw [su_s]; exact hHL z.toNat (by omega))) k_H_setOf v_H_setOf lk_H_167 G.1.1 hcg.1 rfl ⟨(Nat.le_of_ble_eq_true rfl), (Nat.le_of_ble_eq_true rfl)⟩ rfl hl.1 rfl (Nat.le_of_ble_eq_true rfl) d_H_turned_40 ⟨(Nat.le_of_ble_eq_true rfl), (Nat.le_of_ble_eq_true rfl)⟩) (fun r u H locs hp w => ?_)
      rcases hp with ⟨hK8, rfl, rfl⟩ | ⟨hK8, rfl, g9, rfl, hcg9, hug9⟩
      · skip
        have w : gw D (gA L sz) s.heap H locs L g := w
        exact g_iret X w hrt hlk d_H_turned_43 (Or.inr (Or.inr (Or.inl ⟨hz1, by omega, hK8, rfl, g, _, rfl, hcg, hSk, hug⟩)))
      · skip
        have w : gw D (gA L sz) s.heap H locs L g9 := w
        exact g_iret X w hrt hlk d_H_turned_43 (Or.inr (Or.inr (Or.inr ⟨hz1, by omega, hK8, rfl, g9, _, rfl, hcg9, fun j hj hjk => by rw [su_n hjk]; exact hSk j hj, by rw [su_s, su_s], unch_tr hug hug9⟩)))
    · skip
      refine lv_bipush (v := iN (-3)) hx hb d_H_turned_19 (by decide) ?_
      exact g_iret X w hrt hlk d_H_turned_21 (Or.inr (Or.inl ⟨hz1, by omega, rfl, f, S, rfl, hc, fun _ _ => rfl, unch_rf⟩))
  · skip
    rw [if_neg hz1] at hr9
    subst hr9
    refine lv_astore_nN (lv' := [(2, .null), (0, .ref h), (1, .int (iN (z)))]) hx hb d_H_turned_5 rfl hl (by decide) rfl (fun ls hl => ?_)
    refine lv_aload_nN hx hb d_H_turned_6 rfl (lv_at hl 0 rfl) ?_
    refine lv_ifnonnullN hx hb d_H_turned_7 ?_
    refine lv_iconst (v := iN (-1)) hx hb d_H_turned_10 (by decide) ?_
    exact g_iret X w hrt hlk d_H_turned_11 (Or.inl ⟨hz1, rfl, f, S, rfl, hc, fun _ _ => rfl, unch_rf⟩)
