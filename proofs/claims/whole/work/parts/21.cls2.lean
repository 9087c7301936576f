/-! HULLSUMS: what is asked of one set -/
theorem sgm_1 (P : List Pt) : P.map (sgm 1) = P := by
  have h : ∀ q : Pt, sgm 1 q = q := fun q => by unfold sgm; simp
  rw [List.map_congr_left (fun q _ => h q)]; simp
theorem hullF_mem {P : List Pt} {q : Pt} (h : q ∈ hullF P) : q ∈ P := by
  have hs : ∀ r, r ∈ sortF P → r ∈ P := fun r hr => (mem_fold (fun _ _ _ h => mem_insS h) P [] r hr).elim id (fun h => by simp at h)
  have hl : ∀ r, r ∈ lowF (sortF P) → r ∈ P := fun r hr => (mem_fold (fun _ _ _ h => mem_addC h) _ [] r hr).elim (hs r) (fun h => by simp at h)
  have hu : ∀ r, r ∈ uppF (sortF P) → r ∈ P := fun r hr => (mem_fold (fun _ _ _ h => mem_addC h) _ _ r hr).elim (fun h => hs r (List.dropLast_subset _ (List.mem_reverse.mp h))) (hl r)
  unfold hullF at h
  split at h
  · exact hu q (List.dropLast_subset _ h)
  · exact hu q h
theorem pbl_hull {B : Int} {P : List Pt} (h : pbl B P) : pbl B (hullF P) := fun q hq => h q (hullF_mem hq)
theorem pbl_le {B C : Int} {P : List Pt} (hBC : B ≤ C) (h : pbl B P) : pbl C P := fun q hq => by have := h q hq; unfold bq at *; omega
def hpost (L : List Nat) (cI cR : ClassId) (rx ry ra : Nat → Nat) (h ar ci lo : Nat) (f : Nat → va_E) (K t1 t2 : Int) (S : Nat → List Pt) (u : List Nat × (Nat → va_E)) : Prop :=
  ∃ (g : Nat → va_E) (S' : Nat → List Pt), u = (L, g) ∧ clsIs cI cR rx ry ra h ar ci lo g K t1 t2 S' ∧ (∀ i, i < 8 → S' i = S i) ∧ unch rx ry ra h ar ci lo f g

set_option maxHeartbeats 4000000 in
set_option maxRecDepth 100000 in
theorem c_H_hullOf (l : Launch) {D : va_G} {cI cR : ClassId} {L : List Nat} {f : Nat → va_E} {rx ry ra : Nat → Nat} {h ar ci lo : Nat} {K t1 t2 : Int} {S : Nat → List Pt} (G : geo L rx ry ra h ar ci lo) (hc : clsIs cI cR rx ry ra h ar ci lo f K t1 t2 S) {i : Nat} (hi8 : i < 8) (hb6 : pbl 600 (S i)) (hl24 : (S i).length ≤ 24) : gMq D cI cR l y_H_hullOf (Cond.code y_H_hullOf b_H_hullOf 2 (some (.object "HullSums$Row")) :: lw_g) { frames := 4, cells := 0, slots := 0, locals := 93 } [.ref h, .ref (ra i)] L f (fun r u => r = some (ra 9) ∧ ∃ g, u = (L, g) ∧ clsIs cI cR rx ry ra h ar ci lo g K t1 t2 (supd (supd S 8 (sortF (S i))) 9 (hullF (S i))) ∧ unch rx ry ra h ar ci lo f g) := by
  intro sz
  refine g_enter (by decide) rfl (Nat.le_of_ble_eq_true rfl) ?_
  intro p e s m below meth cd ls X hrt hlk hnm hl hsz w
  have X : gx p m cd b_H_hullOf 2 s _ "HullSums" D cI cR := X
  have hx := X.1.1
  have hb := X.1.2.1
  have hl : lv_has ls 2 [(0, .ref h), (1, .ref (ra i))] := hl
  refine lv_aload_n hx hb d_H_hullOf_0 rfl (lv_at hl 0 rfl) ?_
  refine gk_get X w G.1.1 hc.1 rfl in_H 5 (by decide) lk_H_20 rfl d_H_hullOf_1 ?_
  refine lv_aload_n hx hb d_H_hullOf_4 rfl (lv_at hl 1 rfl) ?_
  refine lv_iconst (v := iN (1)) hx hb d_H_hullOf_5 (by decide) ?_
  refine lv_aload_n hx hb d_H_hullOf_6 rfl (lv_at hl 0 rfl) ?_
  refine gk_get X w G.1.1 hc.1 rfl in_H 4 (by decide) lk_H_16 rfl d_H_hullOf_7 ?_
  refine g_cv w (g_runV (As := [.ref (ra i), .int (iN (1)), .ref (ra 8)]) (rest := []) X w (c_R_becomeHull l (G.2.2.1 9 (by decide)) (G.2.2.1 i (by omega)) (G.2.2.1 8 (by decide)) (G.2.2.2.1 9 i (by decide) (by omega) (by omega)) (G.2.2.2.1 9 8 (by decide) (by decide) (by decide)) (G.2.2.2.1 i 8 (by omega) (by decide) (by omega)) (hc.2.2.1 9 (by decide)) (hc.2.2.1 i (by omega)) (hc.2.2.1 8 (by decide)) hb6 hl24 (sg := 1) (Or.inl rfl)) k_R_becomeHull v_R_becomeHull lk_H_171 (G.2.2.1 9 (by decide)).1 (hc.2.2.1 9 (by decide)).2.1 rfl ⟨(Nat.le_of_ble_eq_true rfl), (Nat.le_of_ble_eq_true rfl)⟩ rfl hl.1 rfl (Nat.le_of_ble_eq_true rfl) d_H_hullOf_10 ⟨(Nat.le_of_ble_eq_true rfl), (Nat.le_of_ble_eq_true rfl)⟩) (fun u H locs hp w => ?_)
  rw [sgm_1] at hp
  obtain ⟨g, rfl, hg1, hg2, hg3⟩ := hp
  have w : gw D (gA L sz) s.heap H locs L g := w
  obtain ⟨hcg, hug⟩ := cls_row2 G hc (i := 9) (k := 8) (by decide) (by decide) (by decide) hg1 hg2 hg3
  refine lv_aload_n hx hb d_H_hullOf_13 rfl (lv_at hl 0 rfl) ?_
  refine gk_get X w G.1.1 hcg.1 rfl in_H 5 (by decide) lk_H_20 rfl d_H_hullOf_14 ?_
  exact g_qret (r := some (ra 9)) X w hrt (Or.inl ⟨_, rfl⟩) hlk d_H_hullOf_17 ⟨rfl, g, rfl, hcg, hug⟩
set_option maxHeartbeats 4000000 in
set_option maxRecDepth 100000 in
theorem c_H_kind (l : Launch) {D : va_G} {cI cR : ClassId} {L : List Nat} {f : Nat → va_E} {rx ry ra : Nat → Nat} {h ar ci lo : Nat} {K t1 t2 : Int} {S : Nat → List Pt} (G : geo L rx ry ra h ar ci lo) (hc : clsIs cI cR rx ry ra h ar ci lo f K t1 t2 S) (hok : okS K S) {z : Int} (hz : i3 z) : gMi D cI cR l y_H_kind (Cond.code y_H_kind b_H_kind 3 (some .int) :: lw_g) { frames := 5, cells := 0, slots := 0, locals := 114 } [.ref h, .int (iN (z))] L f (fun r u => r = iN (if 0 ≤ z ∧ z < K then min ((hullF (S z.toNat)).length : Int) 3 else -1) ∧ hpost L cI cR rx ry ra h ar ci lo f K t1 t2 S u) := by
  intro sz
  refine g_enter (by decide) rfl (Nat.le_of_ble_eq_true rfl) ?_
  intro p e s m below meth cd ls X hrt hlk hnm hl hsz w
  have X : gx p m cd b_H_kind 3 s _ "HullSums" D cI cR := X
  have hx := X.1.1
  have hb := X.1.2.1
  have hl : lv_has ls 3 [(0, .ref h), (1, .int (iN (z)))] := hl
  have hK := hc.2.2.2.2.2
  refine lv_aload_n hx hb d_H_kind_0 rfl (lv_at hl 0 rfl) ?_
  refine lv_iload_n hx hb d_H_kind_1 rfl (lv_at hl 1 rfl) ?_
  refine g_cq w (g_runV (As := [.int (iN (z))]) (rest := []) X w (c_H_rowOf l G hc (z := z) hz) k_H_rowOf v_H_rowOf lk_H_58 G.1.1 hc.1 rfl ⟨(Nat.le_of_ble_eq_true rfl), (Nat.le_of_ble_eq_true rfl)⟩ rfl hl.1 rfl (Nat.le_of_ble_eq_true rfl) d_H_kind_2 ⟨(Nat.le_of_ble_eq_true rfl), (Nat.le_of_ble_eq_true rfl)⟩) (fun r u H locs hp w => ?_)
  obtain ⟨hr9, rfl⟩ := hp
  have w : gw D (gA L sz) s.heap H locs L f := w
  by_cases hz1 : 0 ≤ z ∧ z < K
  · skip
    rw [if_pos hz1] at hr9
    subst hr9
    have hz18 : z.toNat < 8 := by have := hc.2.2.2.2.2; omega
    have hBhz1 : pb 600 (S z.toNat) := pb_of (by decide) (pbl_le (by decide) (hok _ (by omega)).2)
    have hlhz1 := (hok z.toNat (by omega)).1
    refine lv_astore_n (lv' := [(2, .ref (ra z.toNat)), (0, .ref h), (1, .int (iN (z)))]) hx hb d_H_kind_5 rfl hl (by decide) rfl (fun ls hl => ?_)
    refine lv_aload_n hx hb d_H_kind_6 rfl (lv_at hl 0 rfl) ?_
    refine lv_ifnonnull (tgt := 12) hx hb d_H_kind_7 (by decide) ?_
    refine lv_aload_n hx hb d_H_kind_12 rfl (lv_at hl 1 rfl) ?_
    refine lv_aload_n hx hb d_H_kind_13 rfl (lv_at hl 0 rfl) ?_
    refine g_cq w (g_runV (As := [.ref (ra z.toNat)]) (rest := []) X w (c_H_hullOf l G hc (i := z.toNat) (by omega) (pbl_le (by decide) (hok _ (by omega)).2) (hok _ (by omega)).1) k_H_hullOf v_H_hullOf lk_H_80 G.1.1 hc.1 rfl ⟨(Nat.le_of_ble_eq_true rfl), (Nat.le_of_ble_eq_true rfl)⟩ rfl hl.1 rfl (Nat.le_of_ble_eq_true rfl) d_H_kind_14 ⟨(Nat.le_of_ble_eq_true rfl), (Nat.le_of_ble_eq_true rfl)⟩) (fun r u H locs hp w => ?_)
    obtain ⟨rfl, g, rfl, hcg, hug⟩ := hp
    have w : gw D (gA L sz) s.heap H locs L g := w
    have hrL : rowIs cI rx ry g (ra 9) (hullF (S z.toNat)) := by have h9 := hcg.2.2.1 9 (by decide); rw [su_s] at h9; exact h9
    have hSk : ∀ j, j < 8 → supd (supd S 8 (sortF (S z.toNat))) 9 (hullF (S z.toNat)) j = S j := fun j hj => by rw [su_n (by omega), su_n (by omega)]
    have hBL3 : pb 300 (hullF (S z.toNat)) := pb_of (by decide) (pbl_hull (hok _ (by omega)).2)
    have hBL : pb 600 (hullF (S z.toNat)) := pb_of (by decide) (pbl_le (by decide) (pbl_hull (hok _ (by omega)).2))
    have hn48 := hrL.1
    have hqhz1 : rowIs cI rx ry g (ra z.toNat) (S z.toNat) := by have h9 := hcg.2.2.1 z.toNat (by omega); rw [hSk _ (by omega)] at h9; exact h9
    refine g_ci w (g_runV (As := []) (rest := []) X w (c_R_size l (G.2.2.1 9 (by decide)) hrL) k_R_size v_R_size lk_H_72 (G.2.2.1 9 (by decide)).1 hrL.2.1 rfl ⟨(Nat.le_of_ble_eq_true rfl), (Nat.le_of_ble_eq_true rfl)⟩ rfl hl.1 rfl (Nat.le_of_ble_eq_true rfl) d_H_kind_17 ⟨Nat.zero_le _, Nat.zero_le _⟩) (fun r u H locs hp w => ?_)
    obtain ⟨rfl, rfl⟩ := hp
    have w : gw D (gA L sz) s.heap H locs L g := w
    refine lv_iconst (v := iN (3)) hx hb d_H_kind_20 (by decide) ?_
    refine ri_mmin (a := ((hullF (S z.toNat)).length : Int)) (b := 3) X hl.1 lk_H_84 (Nat.le_of_ble_eq_true rfl) (Nat.le_of_ble_eq_true rfl) (Nat.zero_le _) (Nat.zero_le _) rfl rfl (by unfold i3; omega) (by unfold i3; omega) d_H_kind_21 ?_
    exact g_iret X w hrt hlk d_H_kind_24 ⟨by rw [if_pos hz1], ⟨g, _, rfl, hcg, hSk, hug⟩⟩
  · skip
    rw [if_neg hz1] at hr9
    subst hr9
    refine lv_astore_nN (lv' := [(2, .null), (0, .ref h), (1, .int (iN (z)))]) hx hb d_H_kind_5 rfl hl (by decide) rfl (fun ls hl => ?_)
    refine lv_aload_nN hx hb d_H_kind_6 rfl (lv_at hl 0 rfl) ?_
    refine lv_ifnonnullN hx hb d_H_kind_7 ?_
    refine lv_iconst (v := iN (-1)) hx hb d_H_kind_10 (by decide) ?_
    exact g_iret X w hrt hlk d_H_kind_11 ⟨by rw [if_neg hz1], ⟨f, S, rfl, hc, fun _ _ => rfl, unch_rf⟩⟩
set_option maxHeartbeats 4000000 in
set_option maxRecDepth 100000 in
theorem c_H_corners (l : Launch) {D : va_G} {cI cR : ClassId} {L : List Nat} {f : Nat → va_E} {rx ry ra : Nat → Nat} {h ar ci lo : Nat} {K t1 t2 : Int} {S : Nat → List Pt} (G : geo L rx ry ra h ar ci lo) (hc : clsIs cI cR rx ry ra h ar ci lo f K t1 t2 S) (hok : okS K S) {z : Int} (hz : i3 z) : gMi D cI cR l y_H_corners (Cond.code y_H_corners b_H_corners 3 (some .int) :: lw_g) { frames := 5, cells := 0, slots := 0, locals := 114 } [.ref h, .int (iN (z))] L f (fun r u => r = iN (if 0 ≤ z ∧ z < K then ((hullF (S z.toNat)).length : Int) else -1) ∧ hpost L cI cR rx ry ra h ar ci lo f K t1 t2 S u) := by
  intro sz
  refine g_enter (by decide) rfl (Nat.le_of_ble_eq_true rfl) ?_
  intro p e s m below meth cd ls X hrt hlk hnm hl hsz w
  have X : gx p m cd b_H_corners 3 s _ "HullSums" D cI cR := X
  have hx := X.1.1
  have hb := X.1.2.1
  have hl : lv_has ls 3 [(0, .ref h), (1, .int (iN (z)))] := hl
  have hK := hc.2.2.2.2.2
  refine lv_aload_n hx hb d_H_corners_0 rfl (lv_at hl 0 rfl) ?_
  refine lv_iload_n hx hb d_H_corners_1 rfl (lv_at hl 1 rfl) ?_
  refine g_cq w (g_runV (As := [.int (iN (z))]) (rest := []) X w (c_H_rowOf l G hc (z := z) hz) k_H_rowOf v_H_rowOf lk_H_58 G.1.1 hc.1 rfl ⟨(Nat.le_of_ble_eq_true rfl), (Nat.le_of_ble_eq_true rfl)⟩ rfl hl.1 rfl (Nat.le_of_ble_eq_true rfl) d_H_corners_2 ⟨(Nat.le_of_ble_eq_true rfl), (Nat.le_of_ble_eq_true rfl)⟩) (fun r u H locs hp w => ?_)
  obtain ⟨hr9, rfl⟩ := hp
  have w : gw D (gA L sz) s.heap H locs L f := w
  by_cases hz1 : 0 ≤ z ∧ z < K
  · skip
    rw [if_pos hz1] at hr9
    subst hr9
    have hz18 : z.toNat < 8 := by have := hc.2.2.2.2.2; omega
    have hBhz1 : pb 600 (S z.toNat) := pb_of (by decide) (pbl_le (by decide) (hok _ (by omega)).2)
    have hlhz1 := (hok z.toNat (by omega)).1
    refine lv_astore_n (lv' := [(2, .ref (ra z.toNat)), (0, .ref h), (1, .int (iN (z)))]) hx hb d_H_corners_5 rfl hl (by decide) rfl (fun ls hl => ?_)
    refine lv_aload_n hx hb d_H_corners_6 rfl (lv_at hl 0 rfl) ?_
    refine lv_ifnonnull (tgt := 14) hx hb d_H_corners_7 (by decide) ?_
    refine lv_aload_n hx hb d_H_corners_14 rfl (lv_at hl 1 rfl) ?_
    refine lv_aload_n hx hb d_H_corners_15 rfl (lv_at hl 0 rfl) ?_
    refine g_cq w (g_runV (As := [.ref (ra z.toNat)]) (rest := []) X w (c_H_hullOf l G hc (i := z.toNat) (by omega) (pbl_le (by decide) (hok _ (by omega)).2) (hok _ (by omega)).1) k_H_hullOf v_H_hullOf lk_H_80 G.1.1 hc.1 rfl ⟨(Nat.le_of_ble_eq_true rfl), (Nat.le_of_ble_eq_true rfl)⟩ rfl hl.1 rfl (Nat.le_of_ble_eq_true rfl) d_H_corners_16 ⟨(Nat.le_of_ble_eq_true rfl), (Nat.le_of_ble_eq_true rfl)⟩) (fun r u H locs hp w => ?_)
    obtain ⟨rfl, g, rfl, hcg, hug⟩ := hp
    have w : gw D (gA L sz) s.heap H locs L g := w
    have hrL : rowIs cI rx ry g (ra 9) (hullF (S z.toNat)) := by have h9 := hcg.2.2.1 9 (by decide); rw [su_s] at h9; exact h9
    have hSk : ∀ j, j < 8 → supd (supd S 8 (sortF (S z.toNat))) 9 (hullF (S z.toNat)) j = S j := fun j hj => by rw [su_n (by omega), su_n (by omega)]
    have hBL3 : pb 300 (hullF (S z.toNat)) := pb_of (by decide) (pbl_hull (hok _ (by omega)).2)
    have hBL : pb 600 (hullF (S z.toNat)) := pb_of (by decide) (pbl_le (by decide) (pbl_hull (hok _ (by omega)).2))
    have hn48 := hrL.1
    have hqhz1 : rowIs cI rx ry g (ra z.toNat) (S z.toNat) := by have h9 := hcg.2.2.1 z.toNat (by omega); rw [hSk _ (by omega)] at h9; exact h9
    refine g_ci w (g_runV (As := []) (rest := []) X w (c_R_size l (G.2.2.1 9 (by decide)) hrL) k_R_size v_R_size lk_H_72 (G.2.2.1 9 (by decide)).1 hrL.2.1 rfl ⟨(Nat.le_of_ble_eq_true rfl), (Nat.le_of_ble_eq_true rfl)⟩ rfl hl.1 rfl (Nat.le_of_ble_eq_true rfl) d_H_corners_19 ⟨Nat.zero_le _, Nat.zero_le _⟩) (fun r u H locs hp w => ?_)
    obtain ⟨rfl, rfl⟩ := hp
    have w : gw D (gA L sz) s.heap H locs L g := w
    exact g_iret X w hrt hlk d_H_corners_22 ⟨by rw [if_pos hz1], ⟨g, _, rfl, hcg, hSk, hug⟩⟩
  · skip
    rw [if_neg hz1] at hr9
    subst hr9
    refine lv_astore_nN (lv' := [(2, .null), (0, .ref h), (1, .int (iN (z)))]) hx hb d_H_corners_5 rfl hl (by decide) rfl (fun ls hl => ?_)
    refine lv_aload_nN hx hb d_H_corners_6 rfl (lv_at hl 0 rfl) ?_
    refine lv_ifnonnullN hx hb d_H_corners_7 ?_
    refine lv_iconst (v := iN (-1)) hx hb d_H_corners_10 (by decide) ?_
    refine lv_goto (tgt := 22) hx hb d_H_corners_11 (by decide) ?_
    exact g_iret X w hrt hlk d_H_corners_22 ⟨by rw [if_neg hz1], ⟨f, S, rfl, hc, fun _ _ => rfl, unch_rf⟩⟩
set_option maxHeartbeats 4000000 in
set_option maxRecDepth 100000 in
theorem c_H_area (l : Launch) {D : va_G} {cI cR : ClassId} {L : List Nat} {f : Nat → va_E} {rx ry ra : Nat → Nat} {h ar ci lo : Nat} {K t1 t2 : Int} {S : Nat → List Pt} (G : geo L rx ry ra h ar ci lo) (hc : clsIs cI cR rx ry ra h ar ci lo f K t1 t2 S) (hok : okS K S) {z : Int} (hz : i3 z) : gMi D cI cR l y_H_area (Cond.code y_H_area b_H_area 3 (some .int) :: lw_g) { frames := 5, cells := 0, slots := 0, locals := 114 } [.ref h, .int (iN (z))] L f (fun r u => r = iN (if 0 ≤ z ∧ z < K then dar (hullF (S z.toNat)) (hullF (S z.toNat)).length else -1) ∧ hpost L cI cR rx ry ra h ar ci lo f K t1 t2 S u) := by
  intro sz
  refine g_enter (by decide) rfl (Nat.le_of_ble_eq_true rfl) ?_
  intro p e s m below meth cd ls X hrt hlk hnm hl hsz w
  have X : gx p m cd b_H_area 3 s _ "HullSums" D cI cR := X
  have hx := X.1.1
  have hb := X.1.2.1
  have hl : lv_has ls 3 [(0, .ref h), (1, .int (iN (z)))] := hl
  have hK := hc.2.2.2.2.2
  refine lv_aload_n hx hb d_H_area_0 rfl (lv_at hl 0 rfl) ?_
  refine lv_iload_n hx hb d_H_area_1 rfl (lv_at hl 1 rfl) ?_
  refine g_cq w (g_runV (As := [.int (iN (z))]) (rest := []) X w (c_H_rowOf l G hc (z := z) hz) k_H_rowOf v_H_rowOf lk_H_58 G.1.1 hc.1 rfl ⟨(Nat.le_of_ble_eq_true rfl), (Nat.le_of_ble_eq_true rfl)⟩ rfl hl.1 rfl (Nat.le_of_ble_eq_true rfl) d_H_area_2 ⟨(Nat.le_of_ble_eq_true rfl), (Nat.le_of_ble_eq_true rfl)⟩) (fun r u H locs hp w => ?_)
  obtain ⟨hr9, rfl⟩ := hp
  have w : gw D (gA L sz) s.heap H locs L f := w
  by_cases hz1 : 0 ≤ z ∧ z < K
  · skip
    rw [if_pos hz1] at hr9
    subst hr9
    have hz18 : z.toNat < 8 := by have := hc.2.2.2.2.2; omega
    have hBhz1 : pb 600 (S z.toNat) := pb_of (by decide) (pbl_le (by decide) (hok _ (by omega)).2)
    have hlhz1 := (hok z.toNat (by omega)).1
    refine lv_astore_n (lv' := [(2, .ref (ra z.toNat)), (0, .ref h), (1, .int (iN (z)))]) hx hb d_H_area_5 rfl hl (by decide) rfl (fun ls hl => ?_)
    refine lv_aload_n hx hb d_H_area_6 rfl (lv_at hl 0 rfl) ?_
    refine lv_ifnonnull (tgt := 14) hx hb d_H_area_7 (by decide) ?_
    refine lv_aload_n hx hb d_H_area_14 rfl (lv_at hl 1 rfl) ?_
    refine lv_aload_n hx hb d_H_area_15 rfl (lv_at hl 0 rfl) ?_
    refine g_cq w (g_runV (As := [.ref (ra z.toNat)]) (rest := []) X w (c_H_hullOf l G hc (i := z.toNat) (by omega) (pbl_le (by decide) (hok _ (by omega)).2) (hok _ (by omega)).1) k_H_hullOf v_H_hullOf lk_H_80 G.1.1 hc.1 rfl ⟨(Nat.le_of_ble_eq_true rfl), (Nat.le_of_ble_eq_true rfl)⟩ rfl hl.1 rfl (Nat.le_of_ble_eq_true rfl) d_H_area_16 ⟨(Nat.le_of_ble_eq_true rfl), (Nat.le_of_ble_eq_true rfl)⟩) (fun r u H locs hp w => ?_)
    obtain ⟨rfl, g, rfl, hcg, hug⟩ := hp
    have w : gw D (gA L sz) s.heap H locs L g := w
    have hrL : rowIs cI rx ry g (ra 9) (hullF (S z.toNat)) := by have h9 := hcg.2.2.1 9 (by decide); rw [su_s] at h9; exact h9
    have hSk : ∀ j, j < 8 → supd (supd S 8 (sortF (S z.toNat))) 9 (hullF (S z.toNat)) j = S j := fun j hj => by rw [su_n (by omega), su_n (by omega)]
    have hBL3 : pb 300 (hullF (S z.toNat)) := pb_of (by decide) (pbl_hull (hok _ (by omega)).2)
    have hBL : pb 600 (hullF (S z.toNat)) := pb_of (by decide) (pbl_le (by decide) (pbl_hull (hok _ (by omega)).2))
    have hn48 := hrL.1
    have hqhz1 : rowIs cI rx ry g (ra z.toNat) (S z.toNat) := by have h9 := hcg.2.2.1 z.toNat (by omega); rw [hSk _ (by omega)] at h9; exact h9
    refine g_ci w (g_runV (As := []) (rest := []) X w (c_R_doubleArea l (G.2.2.1 9 (by decide)) hrL ) k_R_doubleArea v_R_doubleArea lk_H_100 (G.2.2.1 9 (by decide)).1 hrL.2.1 rfl ⟨(Nat.le_of_ble_eq_true rfl), (Nat.le_of_ble_eq_true rfl)⟩ rfl hl.1 rfl (Nat.le_of_ble_eq_true rfl) d_H_area_19 ⟨Nat.zero_le _, Nat.zero_le _⟩) (fun r u H locs hp w => ?_)
    obtain ⟨rfl, rfl⟩ := hp
    have w : gw D (gA L sz) s.heap H locs L g := w
    exact g_iret X w hrt hlk d_H_area_22 ⟨by rw [if_pos hz1], ⟨g, _, rfl, hcg, hSk, hug⟩⟩
  · skip
    rw [if_neg hz1] at hr9
    subst hr9
    refine lv_astore_nN (lv' := [(2, .null), (0, .ref h), (1, .int (iN (z)))]) hx hb d_H_area_5 rfl hl (by decide) rfl (fun ls hl => ?_)
    refine lv_aload_nN hx hb d_H_area_6 rfl (lv_at hl 0 rfl) ?_
    refine lv_ifnonnullN hx hb d_H_area_7 ?_
    refine lv_iconst (v := iN (-1)) hx hb d_H_area_10 (by decide) ?_
    refine lv_goto (tgt := 22) hx hb d_H_area_11 (by decide) ?_
    exact g_iret X w hrt hlk d_H_area_22 ⟨by rw [if_neg hz1], ⟨f, S, rfl, hc, fun _ _ => rfl, unch_rf⟩⟩
set_option maxHeartbeats 4000000 in
set_option maxRecDepth 100000 in
theorem c_H_border (l : Launch) {D : va_G} {cI cR : ClassId} {L : List Nat} {f : Nat → va_E} {rx ry ra : Nat → Nat} {h ar ci lo : Nat} {K t1 t2 : Int} {S : Nat → List Pt} (G : geo L rx ry ra h ar ci lo) (hc : clsIs cI cR rx ry ra h ar ci lo f K t1 t2 S) (hok : okS K S) {z : Int} (hz : i3 z) : gMi D cI cR l y_H_border (Cond.code y_H_border b_H_border 3 (some .int) :: lw_g) { frames := 5, cells := 0, slots := 0, locals := 114 } [.ref h, .int (iN (z))] L f (fun r u => r = iN (if 0 ≤ z ∧ z < K then gob (hullF (S z.toNat)) else -1) ∧ hpost L cI cR rx ry ra h ar ci lo f K t1 t2 S u) := by
  intro sz
  refine g_enter (by decide) rfl (Nat.le_of_ble_eq_true rfl) ?_
  intro p e s m below meth cd ls X hrt hlk hnm hl hsz w
  have X : gx p m cd b_H_border 3 s _ "HullSums" D cI cR := X
  have hx := X.1.1
  have hb := X.1.2.1
  have hl : lv_has ls 3 [(0, .ref h), (1, .int (iN (z)))] := hl
  have hK := hc.2.2.2.2.2
  refine lv_aload_n hx hb d_H_border_0 rfl (lv_at hl 0 rfl) ?_
  refine lv_iload_n hx hb d_H_border_1 rfl (lv_at hl 1 rfl) ?_
  refine g_cq w (g_runV (As := [.int (iN (z))]) (rest := []) X w (c_H_rowOf l G hc (z := z) hz) k_H_rowOf v_H_rowOf lk_H_58 G.1.1 hc.1 rfl ⟨(Nat.le_of_ble_eq_true rfl), (Nat.le_of_ble_eq_true rfl)⟩ rfl hl.1 rfl (Nat.le_of_ble_eq_true rfl) d_H_border_2 ⟨(Nat.le_of_ble_eq_true rfl), (Nat.le_of_ble_eq_true rfl)⟩) (fun r u H locs hp w => ?_)
  obtain ⟨hr9, rfl⟩ := hp
  have w : gw D (gA L sz) s.heap H locs L f := w
  by_cases hz1 : 0 ≤ z ∧ z < K
  · skip
    rw [if_pos hz1] at hr9
    subst hr9
    have hz18 : z.toNat < 8 := by have := hc.2.2.2.2.2; omega
    have hBhz1 : pb 600 (S z.toNat) := pb_of (by decide) (pbl_le (by decide) (hok _ (by omega)).2)
    have hlhz1 := (hok z.toNat (by omega)).1
    refine lv_astore_n (lv' := [(2, .ref (ra z.toNat)), (0, .ref h), (1, .int (iN (z)))]) hx hb d_H_border_5 rfl hl (by decide) rfl (fun ls hl => ?_)
    refine lv_aload_n hx hb d_H_border_6 rfl (lv_at hl 0 rfl) ?_
    refine lv_ifnonnull (tgt := 14) hx hb d_H_border_7 (by decide) ?_
    refine lv_aload_n hx hb d_H_border_14 rfl (lv_at hl 1 rfl) ?_
    refine lv_aload_n hx hb d_H_border_15 rfl (lv_at hl 0 rfl) ?_
    refine g_cq w (g_runV (As := [.ref (ra z.toNat)]) (rest := []) X w (c_H_hullOf l G hc (i := z.toNat) (by omega) (pbl_le (by decide) (hok _ (by omega)).2) (hok _ (by omega)).1) k_H_hullOf v_H_hullOf lk_H_80 G.1.1 hc.1 rfl ⟨(Nat.le_of_ble_eq_true rfl), (Nat.le_of_ble_eq_true rfl)⟩ rfl hl.1 rfl (Nat.le_of_ble_eq_true rfl) d_H_border_16 ⟨(Nat.le_of_ble_eq_true rfl), (Nat.le_of_ble_eq_true rfl)⟩) (fun r u H locs hp w => ?_)
    obtain ⟨rfl, g, rfl, hcg, hug⟩ := hp
    have w : gw D (gA L sz) s.heap H locs L g := w
    have hrL : rowIs cI rx ry g (ra 9) (hullF (S z.toNat)) := by have h9 := hcg.2.2.1 9 (by decide); rw [su_s] at h9; exact h9
    have hSk : ∀ j, j < 8 → supd (supd S 8 (sortF (S z.toNat))) 9 (hullF (S z.toNat)) j = S j := fun j hj => by rw [su_n (by omega), su_n (by omega)]
    have hBL3 : pb 300 (hullF (S z.toNat)) := pb_of (by decide) (pbl_hull (hok _ (by omega)).2)
    have hBL : pb 600 (hullF (S z.toNat)) := pb_of (by decide) (pbl_le (by decide) (pbl_hull (hok _ (by omega)).2))
    have hn48 := hrL.1
    have hqhz1 : rowIs cI rx ry g (ra z.toNat) (S z.toNat) := by have h9 := hcg.2.2.1 z.toNat (by omega); rw [hSk _ (by omega)] at h9; exact h9
    refine g_ci w (g_runV (As := []) (rest := []) X w (c_R_gridOnBorder l (G.2.2.1 9 (by decide)) hrL hBL ) k_R_gridOnBorder v_R_gridOnBorder lk_H_103 (G.2.2.1 9 (by decide)).1 hrL.2.1 rfl ⟨(Nat.le_of_ble_eq_true rfl), (Nat.le_of_ble_eq_true rfl)⟩ rfl hl.1 rfl (Nat.le_of_ble_eq_true rfl) d_H_border_19 ⟨Nat.zero_le _, Nat.zero_le _⟩) (fun r u H locs hp w => ?_)
    obtain ⟨rfl, rfl⟩ := hp
    have w : gw D (gA L sz) s.heap H locs L g := w
    exact g_iret X w hrt hlk d_H_border_22 ⟨by rw [if_pos hz1], ⟨g, _, rfl, hcg, hSk, hug⟩⟩
  · skip
    rw [if_neg hz1] at hr9
    subst hr9
    refine lv_astore_nN (lv' := [(2, .null), (0, .ref h), (1, .int (iN (z)))]) hx hb d_H_border_5 rfl hl (by decide) rfl (fun ls hl => ?_)
    refine lv_aload_nN hx hb d_H_border_6 rfl (lv_at hl 0 rfl) ?_
    refine lv_ifnonnullN hx hb d_H_border_7 ?_
    refine lv_iconst (v := iN (-1)) hx hb d_H_border_10 (by decide) ?_
    refine lv_goto (tgt := 22) hx hb d_H_border_11 (by decide) ?_
    exact g_iret X w hrt hlk d_H_border_22 ⟨by rw [if_neg hz1], ⟨f, S, rfl, hc, fun _ _ => rfl, unch_rf⟩⟩
set_option maxHeartbeats 4000000 in
set_option maxRecDepth 100000 in
theorem c_H_inside (l : Launch) {D : va_G} {cI cR : ClassId} {L : List Nat} {f : Nat → va_E} {rx ry ra : Nat → Nat} {h ar ci lo : Nat} {K t1 t2 : Int} {S : Nat → List Pt} (G : geo L rx ry ra h ar ci lo) (hc : clsIs cI cR rx ry ra h ar ci lo f K t1 t2 S) (hok : okS K S) {z : Int} (hz : i3 z) : gMi D cI cR l y_H_inside (Cond.code y_H_inside b_H_inside 4 (some .int) :: lw_g) { frames := 5, cells := 0, slots := 0, locals := 114 } [.ref h, .int (iN (z))] L f (fun r u => r = iN (if 0 ≤ z ∧ z < K then gwg (hullF (S z.toNat)) 1 - gob (hullF (S z.toNat)) else -1) ∧ hpost L cI cR rx ry ra h ar ci lo f K t1 t2 S u) := by
  intro sz
  refine g_enter (by decide) rfl (Nat.le_of_ble_eq_true rfl) ?_
  intro p e s m below meth cd ls X hrt hlk hnm hl hsz w
  have X : gx p m cd b_H_inside 4 s _ "HullSums" D cI cR := X
  have hx := X.1.1
  have hb := X.1.2.1
  have hl : lv_has ls 4 [(0, .ref h), (1, .int (iN (z)))] := hl
  have hK := hc.2.2.2.2.2
  refine lv_aload_n hx hb d_H_inside_0 rfl (lv_at hl 0 rfl) ?_
  refine lv_iload_n hx hb d_H_inside_1 rfl (lv_at hl 1 rfl) ?_
  refine g_cq w (g_runV (As := [.int (iN (z))]) (rest := []) X w (c_H_rowOf l G hc (z := z) hz) k_H_rowOf v_H_rowOf lk_H_58 G.1.1 hc.1 rfl ⟨(Nat.le_of_ble_eq_true rfl), (Nat.le_of_ble_eq_true rfl)⟩ rfl hl.1 rfl (Nat.le_of_ble_eq_true rfl) d_H_inside_2 ⟨(Nat.le_of_ble_eq_true rfl), (Nat.le_of_ble_eq_true rfl)⟩) (fun r u H locs hp w => ?_)
  obtain ⟨hr9, rfl⟩ := hp
  have w : gw D (gA L sz) s.heap H locs L f := w
  by_cases hz1 : 0 ≤ z ∧ z < K
  · skip
    rw [if_pos hz1] at hr9
    subst hr9
    have hz18 : z.toNat < 8 := by have := hc.2.2.2.2.2; omega
    have hBhz1 : pb 600 (S z.toNat) := pb_of (by decide) (pbl_le (by decide) (hok _ (by omega)).2)
    have hlhz1 := (hok z.toNat (by omega)).1
    refine lv_astore_n (lv' := [(2, .ref (ra z.toNat)), (0, .ref h), (1, .int (iN (z)))]) hx hb d_H_inside_5 rfl hl (by decide) rfl (fun ls hl => ?_)
    refine lv_aload_n hx hb d_H_inside_6 rfl (lv_at hl 0 rfl) ?_
    refine lv_ifnonnull (tgt := 12) hx hb d_H_inside_7 (by decide) ?_
    refine lv_aload_n hx hb d_H_inside_12 rfl (lv_at hl 1 rfl) ?_
    refine lv_aload_n hx hb d_H_inside_13 rfl (lv_at hl 0 rfl) ?_
    refine g_cq w (g_runV (As := [.ref (ra z.toNat)]) (rest := []) X w (c_H_hullOf l G hc (i := z.toNat) (by omega) (pbl_le (by decide) (hok _ (by omega)).2) (hok _ (by omega)).1) k_H_hullOf v_H_hullOf lk_H_80 G.1.1 hc.1 rfl ⟨(Nat.le_of_ble_eq_true rfl), (Nat.le_of_ble_eq_true rfl)⟩ rfl hl.1 rfl (Nat.le_of_ble_eq_true rfl) d_H_inside_14 ⟨(Nat.le_of_ble_eq_true rfl), (Nat.le_of_ble_eq_true rfl)⟩) (fun r u H locs hp w => ?_)
    obtain ⟨rfl, g, rfl, hcg, hug⟩ := hp
    have w : gw D (gA L sz) s.heap H locs L g := w
    have hrL : rowIs cI rx ry g (ra 9) (hullF (S z.toNat)) := by have h9 := hcg.2.2.1 9 (by decide); rw [su_s] at h9; exact h9
    have hSk : ∀ j, j < 8 → supd (supd S 8 (sortF (S z.toNat))) 9 (hullF (S z.toNat)) j = S j := fun j hj => by rw [su_n (by omega), su_n (by omega)]
    have hBL3 : pb 300 (hullF (S z.toNat)) := pb_of (by decide) (pbl_hull (hok _ (by omega)).2)
    have hBL : pb 600 (hullF (S z.toNat)) := pb_of (by decide) (pbl_le (by decide) (pbl_hull (hok _ (by omega)).2))
    have hn48 := hrL.1
    have hqhz1 : rowIs cI rx ry g (ra z.toNat) (S z.toNat) := by have h9 := hcg.2.2.1 z.toNat (by omega); rw [hSk _ (by omega)] at h9; exact h9
    refine lv_astore_n (lv' := [(3, .ref (ra 9)), (2, .ref (ra z.toNat)), (0, .ref h), (1, .int (iN (z)))]) hx hb d_H_inside_17 rfl hl (by decide) rfl (fun ls hl => ?_)
    refine lv_aload_n hx hb d_H_inside_18 rfl (lv_at hl 0 rfl) ?_
    refine lv_iconst (v := iN (1)) hx hb d_H_inside_19 (by decide) ?_
    refine g_ci w (g_runV (As := [.int (iN (1))]) (rest := []) X w (c_R_gridWhenGrown l (G.2.2.1 9 (by decide)) hrL hBL (by omega)) k_R_gridWhenGrown v_R_gridWhenGrown lk_H_106 (G.2.2.1 9 (by decide)).1 hrL.2.1 rfl ⟨(Nat.le_of_ble_eq_true rfl), (Nat.le_of_ble_eq_true rfl)⟩ rfl hl.1 rfl (Nat.le_of_ble_eq_true rfl) d_H_inside_20 ⟨Nat.zero_le _, Nat.zero_le _⟩) (fun r u H locs hp w => ?_)
    obtain ⟨rfl, rfl⟩ := hp
    have w : gw D (gA L sz) s.heap H locs L g := w
    refine lv_aload_n hx hb d_H_inside_23 rfl (lv_at hl 0 rfl) ?_
    refine g_ci w (g_runV (As := []) (rest := [.int (iN ((gwg (hullF (S z.toNat)) 1)))]) X w (c_R_gridOnBorder l (G.2.2.1 9 (by decide)) hrL hBL ) k_R_gridOnBorder v_R_gridOnBorder lk_H_103 (G.2.2.1 9 (by decide)).1 hrL.2.1 rfl ⟨(Nat.le_of_ble_eq_true rfl), (Nat.le_of_ble_eq_true rfl)⟩ rfl hl.1 rfl (Nat.le_of_ble_eq_true rfl) d_H_inside_24 ⟨Nat.zero_le _, Nat.zero_le _⟩) (fun r u H locs hp w => ?_)
    obtain ⟨rfl, rfl⟩ := hp
    have w : gw D (gA L sz) s.heap H locs L g := w
    refine ri_sub (a := (gwg (hullF (S z.toNat)) 1)) (b := (gob (hullF (S z.toNat)))) hx hb d_H_inside_27 rfl rfl ?_
    exact g_iret X w hrt hlk d_H_inside_28 ⟨by rw [if_pos hz1], ⟨g, _, rfl, hcg, hSk, hug⟩⟩
  · skip
    rw [if_neg hz1] at hr9
    subst hr9
    refine lv_astore_nN (lv' := [(2, .null), (0, .ref h), (1, .int (iN (z)))]) hx hb d_H_inside_5 rfl hl (by decide) rfl (fun ls hl => ?_)
    refine lv_aload_nN hx hb d_H_inside_6 rfl (lv_at hl 0 rfl) ?_
    refine lv_ifnonnullN hx hb d_H_inside_7 ?_
    refine lv_iconst (v := iN (-1)) hx hb d_H_inside_10 (by decide) ?_
    exact g_iret X w hrt hlk d_H_inside_11 ⟨by rw [if_neg hz1], ⟨f, S, rfl, hc, fun _ _ => rfl, unch_rf⟩⟩
set_option maxHeartbeats 4000000 in
set_option maxRecDepth 100000 in
theorem c_H_grown (l : Launch) {D : va_G} {cI cR : ClassId} {L : List Nat} {f : Nat → va_E} {rx ry ra : Nat → Nat} {h ar ci lo : Nat} {K t1 t2 : Int} {S : Nat → List Pt} (G : geo L rx ry ra h ar ci lo) (hc : clsIs cI cR rx ry ra h ar ci lo f K t1 t2 S) (hok : okS K S) {z : Int} (hz : i3 z) {k : Int} (hk3 : i3 k) : gMi D cI cR l y_H_grown (Cond.code y_H_grown b_H_grown 4 (some .int) :: lw_g) { frames := 5, cells := 0, slots := 0, locals := 114 } [.ref h, .int (iN (z)), .int (iN (k))] L f (fun r u => r = iN (if 0 ≤ z ∧ z < K then (if 0 ≤ k ∧ k ≤ 6 then gwg (hullF (S z.toNat)) k else -2) else -1) ∧ hpost L cI cR rx ry ra h ar ci lo f K t1 t2 S u) := by
  intro sz
  refine g_enter (by decide) rfl (Nat.le_of_ble_eq_true rfl) ?_
  intro p e s m below meth cd ls X hrt hlk hnm hl hsz w
  have X : gx p m cd b_H_grown 4 s _ "HullSums" D cI cR := X
  have hx := X.1.1
  have hb := X.1.2.1
  have hl : lv_has ls 4 [(0, .ref h), (1, .int (iN (z))), (2, .int (iN (k)))] := hl
  have hK := hc.2.2.2.2.2
  refine lv_aload_n hx hb d_H_grown_0 rfl (lv_at hl 0 rfl) ?_
  refine lv_iload_n hx hb d_H_grown_1 rfl (lv_at hl 1 rfl) ?_
  refine g_cq w (g_runV (As := [.int (iN (z))]) (rest := []) X w (c_H_rowOf l G hc (z := z) hz) k_H_rowOf v_H_rowOf lk_H_58 G.1.1 hc.1 rfl ⟨(Nat.le_of_ble_eq_true rfl), (Nat.le_of_ble_eq_true rfl)⟩ rfl hl.1 rfl (Nat.le_of_ble_eq_true rfl) d_H_grown_2 ⟨(Nat.le_of_ble_eq_true rfl), (Nat.le_of_ble_eq_true rfl)⟩) (fun r u H locs hp w => ?_)
  obtain ⟨hr9, rfl⟩ := hp
  have w : gw D (gA L sz) s.heap H locs L f := w
  by_cases hz1 : 0 ≤ z ∧ z < K
  · skip
    rw [if_pos hz1] at hr9
    subst hr9
    have hz18 : z.toNat < 8 := by have := hc.2.2.2.2.2; omega
    have hBhz1 : pb 600 (S z.toNat) := pb_of (by decide) (pbl_le (by decide) (hok _ (by omega)).2)
    have hlhz1 := (hok z.toNat (by omega)).1
    refine lv_astore_n (lv' := [(3, .ref (ra z.toNat)), (0, .ref h), (1, .int (iN (z))), (2, .int (iN (k)))]) hx hb d_H_grown_5 rfl hl (by decide) rfl (fun ls hl => ?_)
    refine lv_aload_n hx hb d_H_grown_6 rfl (lv_at hl 0 rfl) ?_
    refine lv_ifnonnull (tgt := 12) hx hb d_H_grown_7 (by decide) ?_
    refine lv_iload_n hx hb d_H_grown_12 rfl (lv_at hl 3 rfl) ?_
    refine ri_zlt (a := k) (tgt := 22) hx hb d_H_grown_13 (by decide) rfl hk3 (fun c13 => ?_) (fun c13 => ?_)
    · skip
      refine lv_bipush (v := iN (-2)) hx hb d_H_grown_22 (by decide) ?_
      exact g_iret X w hrt hlk d_H_grown_24 ⟨by rw [if_pos hz1, if_neg (by omega)], ⟨f, S, rfl, hc, fun _ _ => rfl, unch_rf⟩⟩
    · skip
      refine lv_iload_n hx hb d_H_grown_16 rfl (lv_at hl 3 rfl) ?_
      refine lv_bipush (v := iN (6)) hx hb d_H_grown_17 (by decide) ?_
      refine ri_cle (a := k) (b := 6) (tgt := 25) hx hb d_H_grown_19 (by decide) rfl rfl hk3 (by unfold i3; omega) (fun c19 => ?_) (fun c19 => ?_)
      · skip
        refine lv_aload_n hx hb d_H_grown_25 rfl (lv_at hl 1 rfl) ?_
        refine lv_aload_n hx hb d_H_grown_26 rfl (lv_at hl 0 rfl) ?_
        refine g_cq w (g_runV (As := [.ref (ra z.toNat)]) (rest := []) X w (c_H_hullOf l G hc (i := z.toNat) (by omega) (pbl_le (by decide) (hok _ (by omega)).2) (hok _ (by omega)).1) k_H_hullOf v_H_hullOf lk_H_80 G.1.1 hc.1 rfl ⟨(Nat.le_of_ble_eq_true rfl), (Nat.le_of_ble_eq_true rfl)⟩ rfl hl.1 rfl (Nat.le_of_ble_eq_true rfl) d_H_grown_27 ⟨(Nat.le_of_ble_eq_true rfl), (Nat.le_of_ble_eq_true rfl)⟩) (fun r u H locs hp w => ?_)
        obtain ⟨rfl, g, rfl, hcg, hug⟩ := hp
        have w : gw D (gA L sz) s.heap H locs L g := w
        have hrL : rowIs cI rx ry g (ra 9) (hullF (S z.toNat)) := by have h9 := hcg.2.2.1 9 (by decide); rw [su_s] at h9; exact h9
        have hSk : ∀ j, j < 8 → supd (supd S 8 (sortF (S z.toNat))) 9 (hullF (S z.toNat)) j = S j := fun j hj => by rw [su_n (by omega), su_n (by omega)]
        have hBL3 : pb 300 (hullF (S z.toNat)) := pb_of (by decide) (pbl_hull (hok _ (by omega)).2)
        have hBL : pb 600 (hullF (S z.toNat)) := pb_of (by decide) (pbl_le (by decide) (pbl_hull (hok _ (by omega)).2))
        have hn48 := hrL.1
        have hqhz1 : rowIs cI rx ry g (ra z.toNat) (S z.toNat) := by have h9 := hcg.2.2.1 z.toNat (by omega); rw [hSk _ (by omega)] at h9; exact h9
        refine lv_iload_n hx hb d_H_grown_30 rfl (lv_at hl 3 rfl) ?_
        refine g_ci w (g_runV (As := [.int (iN (k))]) (rest := []) X w (c_R_gridWhenGrown l (G.2.2.1 9 (by decide)) hrL hBL (by omega)) k_R_gridWhenGrown v_R_gridWhenGrown lk_H_106 (G.2.2.1 9 (by decide)).1 hrL.2.1 rfl ⟨(Nat.le_of_ble_eq_true rfl), (Nat.le_of_ble_eq_true rfl)⟩ rfl hl.1 rfl (Nat.le_of_ble_eq_true rfl) d_H_grown_31 ⟨Nat.zero_le _, Nat.zero_le _⟩) (fun r u H locs hp w => ?_)
        obtain ⟨rfl, rfl⟩ := hp
        have w : gw D (gA L sz) s.heap H locs L g := w
        exact g_iret X w hrt hlk d_H_grown_34 ⟨by rw [if_pos hz1, if_pos (by omega)], ⟨g, _, rfl, hcg, hSk, hug⟩⟩
      · skip
        refine lv_bipush (v := iN (-2)) hx hb d_H_grown_22 (by decide) ?_
        exact g_iret X w hrt hlk d_H_grown_24 ⟨by rw [if_pos hz1, if_neg (by omega)], ⟨f, S, rfl, hc, fun _ _ => rfl, unch_rf⟩⟩
  · skip
    rw [if_neg hz1] at hr9
    subst hr9
    refine lv_astore_nN (lv' := [(3, .null), (0, .ref h), (1, .int (iN (z))), (2, .int (iN (k)))]) hx hb d_H_grown_5 rfl hl (by decide) rfl (fun ls hl => ?_)
    refine lv_aload_nN hx hb d_H_grown_6 rfl (lv_at hl 0 rfl) ?_
    refine lv_ifnonnullN hx hb d_H_grown_7 ?_
    refine lv_iconst (v := iN (-1)) hx hb d_H_grown_10 (by decide) ?_
    exact g_iret X w hrt hlk d_H_grown_11 ⟨by rw [if_neg hz1], ⟨f, S, rfl, hc, fun _ _ => rfl, unch_rf⟩⟩
set_option maxHeartbeats 4000000 in
set_option maxRecDepth 100000 in
theorem c_H_holds (l : Launch) {D : va_G} {cI cR : ClassId} {L : List Nat} {f : Nat → va_E} {rx ry ra : Nat → Nat} {h ar ci lo : Nat} {K t1 t2 : Int} {S : Nat → List Pt} (G : geo L rx ry ra h ar ci lo) (hc : clsIs cI cR rx ry ra h ar ci lo f K t1 t2 S) (hok : okS K S) {z : Int} (hz : i3 z) {x y : Int} (hx3 : i3 x) (hy3 : i3 y) : gMi D cI cR l y_H_holds (Cond.code y_H_holds b_H_holds 5 (some .int) :: lw_g) { frames := 5, cells := 0, slots := 0, locals := 114 } [.ref h, .int (iN (z)), .int (iN (x)), .int (iN (y))] L f (fun r u => r = iN (if 0 ≤ z ∧ z < K then (if (-1000 ≤ x ∧ x ≤ 1000) ∧ (-1000 ≤ y ∧ y ≤ 1000) then plc (hullF (S z.toNat)) x y else -2) else -1) ∧ hpost L cI cR rx ry ra h ar ci lo f K t1 t2 S u) := by
  intro sz
  refine g_enter (by decide) rfl (Nat.le_of_ble_eq_true rfl) ?_
  intro p e s m below meth cd ls X hrt hlk hnm hl hsz w
  have X : gx p m cd b_H_holds 5 s _ "HullSums" D cI cR := X
  have hx := X.1.1
  have hb := X.1.2.1
  have hl : lv_has ls 5 [(0, .ref h), (1, .int (iN (z))), (2, .int (iN (x))), (3, .int (iN (y)))] := hl
  have hK := hc.2.2.2.2.2
  refine lv_aload_n hx hb d_H_holds_0 rfl (lv_at hl 0 rfl) ?_
  refine lv_iload_n hx hb d_H_holds_1 rfl (lv_at hl 1 rfl) ?_
  refine g_cq w (g_runV (As := [.int (iN (z))]) (rest := []) X w (c_H_rowOf l G hc (z := z) hz) k_H_rowOf v_H_rowOf lk_H_58 G.1.1 hc.1 rfl ⟨(Nat.le_of_ble_eq_true rfl), (Nat.le_of_ble_eq_true rfl)⟩ rfl hl.1 rfl (Nat.le_of_ble_eq_true rfl) d_H_holds_2 ⟨(Nat.le_of_ble_eq_true rfl), (Nat.le_of_ble_eq_true rfl)⟩) (fun r u H locs hp w => ?_)
  obtain ⟨hr9, rfl⟩ := hp
  have w : gw D (gA L sz) s.heap H locs L f := w
  by_cases hz1 : 0 ≤ z ∧ z < K
  · skip
    rw [if_pos hz1] at hr9
    subst hr9
    have hz18 : z.toNat < 8 := by have := hc.2.2.2.2.2; omega
    have hBhz1 : pb 600 (S z.toNat) := pb_of (by decide) (pbl_le (by decide) (hok _ (by omega)).2)
    have hlhz1 := (hok z.toNat (by omega)).1
    refine lv_astore (lv' := [(4, .ref (ra z.toNat)), (0, .ref h), (1, .int (iN (z))), (2, .int (iN (x))), (3, .int (iN (y)))]) hx hb d_H_holds_5 hl (by decide) rfl (fun ls hl => ?_)
    refine lv_aload hx hb d_H_holds_7 (lv_at hl 0 rfl) ?_
    refine lv_ifnonnull (tgt := 14) hx hb d_H_holds_9 (by decide) ?_
    refine lv_iload_n hx hb d_H_holds_14 rfl (lv_at hl 3 rfl) ?_
    refine lv_sipush (v := iN (1000)) hx hb d_H_holds_15 (by decide) ?_
    refine g_ci w (g_runS (As := [.int (iN (x)), .int (iN (1000))]) (rest := []) X w (c_H_isNear l hx3 (by omega)) k_H_isNear lk_H_65 st_H_isNear ⟨(Nat.le_of_ble_eq_true rfl), (Nat.le_of_ble_eq_true rfl)⟩ rfl hl.1 rfl (Nat.le_of_ble_eq_true rfl) d_H_holds_18 ⟨Nat.zero_le _, Nat.zero_le _⟩) (fun r u H locs hp w => ?_)
    obtain ⟨rfl, rfl⟩ := hp
    have w : gw D (gA L sz) s.heap H locs L f := w
    refine ri_zeq (a := (bI (-1000 ≤ x ∧ x ≤ 1000))) (tgt := 34) hx hb d_H_holds_21 (by decide) rfl (bI_3 _) (fun c21 => ?_) (fun c21 => ?_)
    · skip
      refine lv_bipush (v := iN (-2)) hx hb d_H_holds_34 (by decide) ?_
      exact g_iret X w hrt hlk d_H_holds_36 ⟨by rw [if_pos hz1, if_neg (fun q => by first | exact bI_0 c21 q.1 | exact bI_0 (by omega) q.2)], ⟨f, S, rfl, hc, fun _ _ => rfl, unch_rf⟩⟩
    · skip
      refine lv_iload_n hx hb d_H_holds_24 rfl (lv_at hl 4 rfl) ?_
      refine lv_sipush (v := iN (1000)) hx hb d_H_holds_25 (by decide) ?_
      refine g_ci w (g_runS (As := [.int (iN (y)), .int (iN (1000))]) (rest := []) X w (c_H_isNear l hy3 (by omega)) k_H_isNear lk_H_65 st_H_isNear ⟨(Nat.le_of_ble_eq_true rfl), (Nat.le_of_ble_eq_true rfl)⟩ rfl hl.1 rfl (Nat.le_of_ble_eq_true rfl) d_H_holds_28 ⟨Nat.zero_le _, Nat.zero_le _⟩) (fun r u H locs hp w => ?_)
      obtain ⟨rfl, rfl⟩ := hp
      have w : gw D (gA L sz) s.heap H locs L f := w
      refine ri_zne (a := (bI (-1000 ≤ y ∧ y ≤ 1000))) (tgt := 37) hx hb d_H_holds_31 (by decide) rfl (bI_3 _) (fun c31 => ?_) (fun c31 => ?_)
      · skip
        refine lv_aload_n hx hb d_H_holds_37 rfl (lv_at hl 1 rfl) ?_
        refine lv_aload hx hb d_H_holds_38 (lv_at hl 0 rfl) ?_
        refine g_cq w (g_runV (As := [.ref (ra z.toNat)]) (rest := []) X w (c_H_hullOf l G hc (i := z.toNat) (by omega) (pbl_le (by decide) (hok _ (by omega)).2) (hok _ (by omega)).1) k_H_hullOf v_H_hullOf lk_H_80 G.1.1 hc.1 rfl ⟨(Nat.le_of_ble_eq_true rfl), (Nat.le_of_ble_eq_true rfl)⟩ rfl hl.1 rfl (Nat.le_of_ble_eq_true rfl) d_H_holds_40 ⟨(Nat.le_of_ble_eq_true rfl), (Nat.le_of_ble_eq_true rfl)⟩) (fun r u H locs hp w => ?_)
        obtain ⟨rfl, g, rfl, hcg, hug⟩ := hp
        have w : gw D (gA L sz) s.heap H locs L g := w
        have hrL : rowIs cI rx ry g (ra 9) (hullF (S z.toNat)) := by have h9 := hcg.2.2.1 9 (by decide); rw [su_s] at h9; exact h9
        have hSk : ∀ j, j < 8 → supd (supd S 8 (sortF (S z.toNat))) 9 (hullF (S z.toNat)) j = S j := fun j hj => by rw [su_n (by omega), su_n (by omega)]
        have hBL3 : pb 300 (hullF (S z.toNat)) := pb_of (by decide) (pbl_hull (hok _ (by omega)).2)
        have hBL : pb 600 (hullF (S z.toNat)) := pb_of (by decide) (pbl_le (by decide) (pbl_hull (hok _ (by omega)).2))
        have hn48 := hrL.1
        have hqhz1 : rowIs cI rx ry g (ra z.toNat) (S z.toNat) := by have h9 := hcg.2.2.1 z.toNat (by omega); rw [hSk _ (by omega)] at h9; exact h9
        refine lv_iload_n hx hb d_H_holds_43 rfl (lv_at hl 3 rfl) ?_
        refine lv_iload_n hx hb d_H_holds_44 rfl (lv_at hl 4 rfl) ?_
        refine g_ci w (g_runV (As := [.int (iN (x)), .int (iN (y))]) (rest := []) X w (c_R_place l (G.2.2.1 9 (by decide)) hrL hBL (by have := bI_n c21; omega) (by have := bI_n c31; omega)) k_R_place v_R_place lk_H_97 (G.2.2.1 9 (by decide)).1 hrL.2.1 rfl ⟨(Nat.le_of_ble_eq_true rfl), (Nat.le_of_ble_eq_true rfl)⟩ rfl hl.1 rfl (Nat.le_of_ble_eq_true rfl) d_H_holds_45 ⟨Nat.zero_le _, Nat.zero_le _⟩) (fun r u H locs hp w => ?_)
        obtain ⟨rfl, rfl⟩ := hp
        have w : gw D (gA L sz) s.heap H locs L g := w
        exact g_iret X w hrt hlk d_H_holds_48 ⟨by rw [if_pos hz1, if_pos ⟨bI_n c21, bI_n c31⟩], ⟨g, _, rfl, hcg, hSk, hug⟩⟩
      · skip
        refine lv_bipush (v := iN (-2)) hx hb d_H_holds_34 (by decide) ?_
        exact g_iret X w hrt hlk d_H_holds_36 ⟨by rw [if_pos hz1, if_neg (fun q => by first | exact bI_0 c21 q.1 | exact bI_0 (by omega) q.2)], ⟨f, S, rfl, hc, fun _ _ => rfl, unch_rf⟩⟩
  · skip
    rw [if_neg hz1] at hr9
    subst hr9
    refine lv_astoreN (lv' := [(4, .null), (0, .ref h), (1, .int (iN (z))), (2, .int (iN (x))), (3, .int (iN (y)))]) hx hb d_H_holds_5 hl (by decide) rfl (fun ls hl => ?_)
    refine lv_aloadN hx hb d_H_holds_7 (lv_at hl 0 rfl) ?_
    refine lv_ifnonnullN hx hb d_H_holds_9 ?_
    refine lv_iconst (v := iN (-1)) hx hb d_H_holds_12 (by decide) ?_
    exact g_iret X w hrt hlk d_H_holds_13 ⟨by rw [if_neg hz1], ⟨f, S, rfl, hc, fun _ _ => rfl, unch_rf⟩⟩
/-- what is told: the numbers p q where the case c holds, else the old ones -/
def crT (c : Prop) (p q t1 t2 : Int) (Q : Int → Int → Prop) : Prop := by
  classical
  exact if c then Q p q else Q t1 t2
set_option maxHeartbeats 4000000 in
set_option maxRecDepth 100000 in
theorem c_H_corner (l : Launch) {D : va_G} {cI cR : ClassId} {L : List Nat} {f : Nat → va_E} {rx ry ra : Nat → Nat} {h ar ci lo : Nat} {K t1 t2 : Int} {S : Nat → List Pt} (G : geo L rx ry ra h ar ci lo) (hc : clsIs cI cR rx ry ra h ar ci lo f K t1 t2 S) (hok : okS K S) {z : Int} (hz : i3 z) {i : Int} (hi3 : i3 i) : gMi D cI cR l y_H_corner (Cond.code y_H_corner b_H_corner 5 (some .int) :: lw_g) { frames := 5, cells := 0, slots := 0, locals := 114 } [.ref h, .int (iN (z)), .int (iN (i))] L f (fun r u => r = iN (if 0 ≤ z ∧ z < K then (if 0 ≤ i ∧ i < (hullF (S z.toNat)).length then 1 else -2) else -1) ∧ crT ((0 ≤ z ∧ z < K) ∧ 0 ≤ i ∧ i < (hullF (S z.toNat)).length) (pX (hullF (S z.toNat)) i) (pY (hullF (S z.toNat)) i) t1 t2 (fun p q => hpost L cI cR rx ry ra h ar ci lo f K p q S u)) := by
  intro sz
  refine g_enter (by decide) rfl (Nat.le_of_ble_eq_true rfl) ?_
  intro p e s m below meth cd ls X hrt hlk hnm hl hsz w
  have X : gx p m cd b_H_corner 5 s _ "HullSums" D cI cR := X
  have hx := X.1.1
  have hb := X.1.2.1
  have hl : lv_has ls 5 [(0, .ref h), (1, .int (iN (z))), (2, .int (iN (i)))] := hl
  have hK := hc.2.2.2.2.2
  refine lv_aload_n hx hb d_H_corner_0 rfl (lv_at hl 0 rfl) ?_
  refine lv_iload_n hx hb d_H_corner_1 rfl (lv_at hl 1 rfl) ?_
  refine g_cq w (g_runV (As := [.int (iN (z))]) (rest := []) X w (c_H_rowOf l G hc (z := z) hz) k_H_rowOf v_H_rowOf lk_H_58 G.1.1 hc.1 rfl ⟨(Nat.le_of_ble_eq_true rfl), (Nat.le_of_ble_eq_true rfl)⟩ rfl hl.1 rfl (Nat.le_of_ble_eq_true rfl) d_H_corner_2 ⟨(Nat.le_of_ble_eq_true rfl), (Nat.le_of_ble_eq_true rfl)⟩) (fun r u H locs hp w => ?_)
  obtain ⟨hr9, rfl⟩ := hp
  have w : gw D (gA L sz) s.heap H locs L f := w
  by_cases hz1 : 0 ≤ z ∧ z < K
  · skip
    rw [if_pos hz1] at hr9
    subst hr9
    have hz18 : z.toNat < 8 := by have := hc.2.2.2.2.2; omega
    have hBhz1 : pb 600 (S z.toNat) := pb_of (by decide) (pbl_le (by decide) (hok _ (by omega)).2)
    have hlhz1 := (hok z.toNat (by omega)).1
    refine lv_astore_n (lv' := [(3, .ref (ra z.toNat)), (0, .ref h), (1, .int (iN (z))), (2, .int (iN (i)))]) hx hb d_H_corner_5 rfl hl (by decide) rfl (fun ls hl => ?_)
    refine lv_aload_n hx hb d_H_corner_6 rfl (lv_at hl 0 rfl) ?_
    refine lv_ifnonnull (tgt := 12) hx hb d_H_corner_7 (by decide) ?_
    refine lv_aload_n hx hb d_H_corner_12 rfl (lv_at hl 1 rfl) ?_
    refine lv_aload_n hx hb d_H_corner_13 rfl (lv_at hl 0 rfl) ?_
    refine g_cq w (g_runV (As := [.ref (ra z.toNat)]) (rest := []) X w (c_H_hullOf l G hc (i := z.toNat) (by omega) (pbl_le (by decide) (hok _ (by omega)).2) (hok _ (by omega)).1) k_H_hullOf v_H_hullOf lk_H_80 G.1.1 hc.1 rfl ⟨(Nat.le_of_ble_eq_true rfl), (Nat.le_of_ble_eq_true rfl)⟩ rfl hl.1 rfl (Nat.le_of_ble_eq_true rfl) d_H_corner_14 ⟨(Nat.le_of_ble_eq_true rfl), (Nat.le_of_ble_eq_true rfl)⟩) (fun r u H locs hp w => ?_)
    obtain ⟨rfl, g, rfl, hcg, hug⟩ := hp
    have w : gw D (gA L sz) s.heap H locs L g := w
    have hrL : rowIs cI rx ry g (ra 9) (hullF (S z.toNat)) := by have h9 := hcg.2.2.1 9 (by decide); rw [su_s] at h9; exact h9
    have hSk : ∀ j, j < 8 → supd (supd S 8 (sortF (S z.toNat))) 9 (hullF (S z.toNat)) j = S j := fun j hj => by rw [su_n (by omega), su_n (by omega)]
    have hBL3 : pb 300 (hullF (S z.toNat)) := pb_of (by decide) (pbl_hull (hok _ (by omega)).2)
    have hBL : pb 600 (hullF (S z.toNat)) := pb_of (by decide) (pbl_le (by decide) (pbl_hull (hok _ (by omega)).2))
    have hn48 := hrL.1
    have hqhz1 : rowIs cI rx ry g (ra z.toNat) (S z.toNat) := by have h9 := hcg.2.2.1 z.toNat (by omega); rw [hSk _ (by omega)] at h9; exact h9
    refine lv_astore (lv' := [(4, .ref (ra 9)), (3, .ref (ra z.toNat)), (0, .ref h), (1, .int (iN (z))), (2, .int (iN (i)))]) hx hb d_H_corner_17 hl (by decide) rfl (fun ls hl => ?_)
    refine lv_iload_n hx hb d_H_corner_19 rfl (lv_at hl 4 rfl) ?_
    refine ri_zlt (a := i) (tgt := 32) hx hb d_H_corner_20 (by decide) rfl hi3 (fun c20 => ?_) (fun c20 => ?_)
    · skip
      refine lv_bipush (v := iN (-2)) hx hb d_H_corner_32 (by decide) ?_
      exact g_iret X w hrt hlk d_H_corner_34 ⟨by rw [if_pos hz1, if_neg (by omega)], by unfold crT; rw [if_neg (fun q => by omega)]; exact ⟨g, _, rfl, hcg, hSk, hug⟩⟩
    · skip
      refine lv_iload_n hx hb d_H_corner_23 rfl (lv_at hl 4 rfl) ?_
      refine lv_aload hx hb d_H_corner_24 (lv_at hl 0 rfl) ?_
      refine g_ci w (g_runV (As := []) (rest := [.int (iN (i))]) X w (c_R_size l (G.2.2.1 9 (by decide)) hrL) k_R_size v_R_size lk_H_72 (G.2.2.1 9 (by decide)).1 hrL.2.1 rfl ⟨(Nat.le_of_ble_eq_true rfl), (Nat.le_of_ble_eq_true rfl)⟩ rfl hl.1 rfl (Nat.le_of_ble_eq_true rfl) d_H_corner_26 ⟨Nat.zero_le _, Nat.zero_le _⟩) (fun r u H locs hp w => ?_)
      obtain ⟨rfl, rfl⟩ := hp
      have w : gw D (gA L sz) s.heap H locs L g := w
      refine ri_clt (a := i) (b := ((hullF (S z.toNat)).length : Int)) (tgt := 35) hx hb d_H_corner_29 (by decide) rfl rfl hi3 (by unfold i3; omega) (fun c29 => ?_) (fun c29 => ?_)
      · skip
        refine lv_aload_n hx hb d_H_corner_35 rfl (lv_at hl 2 rfl) ?_
        refine lv_aload hx hb d_H_corner_36 (lv_at hl 0 rfl) ?_
        refine lv_iload_n hx hb d_H_corner_38 rfl (lv_at hl 4 rfl) ?_
        refine g_ci w (g_runV (As := [.int (iN (i))]) (rest := [.ref h]) X w (c_R_x l (G.2.2.1 9 (by decide)) hrL hi3) k_R_x v_R_x lk_H_90 (G.2.2.1 9 (by decide)).1 hrL.2.1 rfl ⟨(Nat.le_of_ble_eq_true rfl), (Nat.le_of_ble_eq_true rfl)⟩ rfl hl.1 rfl (Nat.le_of_ble_eq_true rfl) d_H_corner_39 ⟨Nat.zero_le _, Nat.zero_le _⟩) (fun r u H locs hp w => ?_)
        obtain ⟨rfl, rfl⟩ := hp
        have w : gw D (gA L sz) s.heap H locs L g := w
        refine ri_i2l (a := (pX (hullF (S z.toNat)) i)) hx hb d_H_corner_42 rfl (by have := hBL i; unfold i3; omega) ?_
        refine lv_aload hx hb d_H_corner_43 (lv_at hl 0 rfl) ?_
        refine lv_iload_n hx hb d_H_corner_45 rfl (lv_at hl 4 rfl) ?_
        refine g_ci w (g_runV (As := [.int (iN (i))]) (rest := [.long (jN ((pX (hullF (S z.toNat)) i))), .ref h]) X w (c_R_y l (G.2.2.1 9 (by decide)) hrL hi3) k_R_y v_R_y lk_H_94 (G.2.2.1 9 (by decide)).1 hrL.2.1 rfl ⟨(Nat.le_of_ble_eq_true rfl), (Nat.le_of_ble_eq_true rfl)⟩ rfl hl.1 rfl (Nat.le_of_ble_eq_true rfl) d_H_corner_46 ⟨Nat.zero_le _, Nat.zero_le _⟩) (fun r u H locs hp w => ?_)
        obtain ⟨rfl, rfl⟩ := hp
        have w : gw D (gA L sz) s.heap H locs L g := w
        refine ri_i2l (a := (pY (hullF (S z.toNat)) i)) hx hb d_H_corner_49 rfl (by have := hBL i; unfold i3; omega) ?_
        refine g_cv w (g_runV (As := [.long (jN ((pX (hullF (S z.toNat)) i))), .long (jN ((pY (hullF (S z.toNat)) i)))]) (rest := []) X w (c_H_tell l G hcg (x := (pX (hullF (S z.toNat)) i)) (y := (pY (hullF (S z.toNat)) i))) k_H_tell v_H_tell lk_H_54 G.1.1 hcg.1 rfl ⟨(Nat.le_of_ble_eq_true rfl), (Nat.le_of_ble_eq_true rfl)⟩ rfl hl.1 rfl (Nat.le_of_ble_eq_true rfl) d_H_corner_50 ⟨(Nat.le_of_ble_eq_true rfl), (Nat.le_of_ble_eq_true rfl)⟩) (fun u H locs hp w => ?_)
        obtain rfl := hp
        obtain ⟨hct, hut⟩ := cls_obj G hcg (K' := K) (t1' := (pX (hullF (S z.toNat)) i)) (t2' := (pY (hullF (S z.toNat)) i)) (by omega)
        refine lv_iconst (v := iN (1)) hx hb d_H_corner_53 (by decide) ?_
        exact g_iret X w hrt hlk d_H_corner_54 ⟨by rw [if_pos hz1, if_pos (by omega)], by unfold crT; rw [if_pos ⟨hz1, by omega⟩]; exact ⟨_, _, rfl, hct, hSk, unch_tr hug hut⟩⟩
      · skip
        refine lv_bipush (v := iN (-2)) hx hb d_H_corner_32 (by decide) ?_
        exact g_iret X w hrt hlk d_H_corner_34 ⟨by rw [if_pos hz1, if_neg (by omega)], by unfold crT; rw [if_neg (fun q => by omega)]; exact ⟨g, _, rfl, hcg, hSk, hug⟩⟩
  · skip
    rw [if_neg hz1] at hr9
    subst hr9
    refine lv_astore_nN (lv' := [(3, .null), (0, .ref h), (1, .int (iN (z))), (2, .int (iN (i)))]) hx hb d_H_corner_5 rfl hl (by decide) rfl (fun ls hl => ?_)
    refine lv_aload_nN hx hb d_H_corner_6 rfl (lv_at hl 0 rfl) ?_
    refine lv_ifnonnullN hx hb d_H_corner_7 ?_
    refine lv_iconst (v := iN (-1)) hx hb d_H_corner_10 (by decide) ?_
    exact g_iret X w hrt hlk d_H_corner_11 ⟨by rw [if_neg hz1], by unfold crT; rw [if_neg (fun q => hz1 q.1)]; exact ⟨f, S, rfl, hc, fun _ _ => rfl, unch_rf⟩⟩
