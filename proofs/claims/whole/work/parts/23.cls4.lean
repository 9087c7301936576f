/-! HULLSUMS: what makes and fills sets; sums of two hulls -/
/-- set(): refused, or one set more, EMPTY -/
def spost (L : List Nat) (cI cR : ClassId) (rx ry ra : Nat → Nat) (h ar ci lo : Nat) (f : Nat → va_E) (K t1 t2 : Int) (S : Nat → List Pt) (C : List Pt) (r : Int32) (u : List Nat × (Nat → va_E)) : Prop :=
  (8 ≤ K ∧ r = iN (-5) ∧ u = (L, f)) ∨ (K < 8 ∧ r = iN K ∧ ∃ g : Nat → va_E, u = (L, g) ∧ clsIs cI cR rx ry ra h ar ci lo g (K + 1) t1 t2 (supd S K.toNat C) ∧ unch rx ry ra h ar ci lo f g)

set_option maxHeartbeats 4000000 in
set_option maxRecDepth 100000 in
theorem c_H_set (l : Launch) {D : va_G} {cI cR : ClassId} {L : List Nat} {f : Nat → va_E} {rx ry ra : Nat → Nat} {h ar ci lo : Nat} {K t1 t2 : Int} {S : Nat → List Pt} (G : geo L rx ry ra h ar ci lo) (hc : clsIs cI cR rx ry ra h ar ci lo f K t1 t2 S) : gMi D cI cR l y_H_set (Cond.code y_H_set b_H_set 3 (some .int) :: lw_g) { frames := 1, cells := 0, slots := 0, locals := 21 } [.ref h] L f (fun r u => spost L cI cR rx ry ra h ar ci lo f K t1 t2 S [] r u) := by
  intro sz
  refine g_enter (by decide) rfl (Nat.le_of_ble_eq_true rfl) ?_
  intro p e s m below meth cd ls X hrt hlk hnm hl hsz w
  have X : gx p m cd b_H_set 3 s _ "HullSums" D cI cR := X
  have hx := X.1.1
  have hb := X.1.2.1
  have hl : lv_has ls 3 [(0, .ref h)] := hl
  have hK := hc.2.2.2.2.2
  have w : gw D (gA L sz) s.heap s.heap [] L (va_up f h (.inr (0, [.ref ar, .int (iN (K)), .long (jN (t1)), .long (jN (t2)), .ref (ra 8), .ref (ra 9), .ref (ra 10), .ref (ra 11), .ref ci, .ref lo]))) := by rw [va_same (c := .inr (0, [.ref ar, .int (iN (K)), .long (jN (t1)), .long (jN (t2)), .ref (ra 8), .ref (ra 9), .ref (ra 10), .ref (ra 11), .ref ci, .ref lo])) hc.1]; exact w
  refine lv_aload_n hx hb d_H_set_0 rfl (lv_at hl 0 rfl) ?_
  refine gk_get X w G.1.1 (va_up_self _ _ _) rfl in_H 1 (by decide) lk_H_43 rfl d_H_set_1 ?_
  refine lv_bipush (v := iN (8)) hx hb d_H_set_4 (by decide) ?_
  refine ri_clt (a := K) (b := 8) (tgt := 12) hx hb d_H_set_6 (by decide) rfl rfl (by unfold i3; omega) (by unfold i3; omega) (fun c6 => ?_) (fun c6 => ?_)
  · skip
    refine lv_aload_n hx hb d_H_set_12 rfl (lv_at hl 0 rfl) ?_
    refine gk_get X w G.1.1 (va_up_self _ _ _) rfl in_H 1 (by decide) lk_H_43 rfl d_H_set_13 ?_
    refine lv_istore_n (lv' := [(1, .int (iN (K))), (0, .ref h)]) hx hb d_H_set_16 rfl hl (by decide) rfl (fun ls hl => ?_)
    refine lv_aload_n hx hb d_H_set_17 rfl (lv_at hl 1 rfl) ?_
    refine lv_dup hx hb d_H_set_18 rfl ?_
    refine gk_get X w G.1.1 (va_up_self _ _ _) rfl in_H 1 (by decide) lk_H_43 rfl d_H_set_19 ?_
    refine lv_iconst (v := iN (1)) hx hb d_H_set_22 (by decide) ?_
    refine ri_add (a := K) (b := 1) hx hb d_H_set_23 rfl rfl ?_
    refine gk_put X w G.1.1 (va_up_self _ _ _) rfl in_H ty_H tyok_H nm_H 1 (by decide) lk_H_43 rfl (ty := .int) (by decide +kernel) rfl rfl (Nat.le_of_ble_eq_true rfl) d_H_set_24 (fun H locs w => ?_)
    have w : gw D (gA L sz) s.heap H locs L (va_up f h (.inr (0, [.ref ar, .int (iN ((K + 1))), .long (jN (t1)), .long (jN (t2)), .ref (ra 8), .ref (ra 9), .ref (ra 10), .ref (ra 11), .ref ci, .ref lo]))) := by rw [bx_uu] at w; exact w
    obtain ⟨hc1, hu1⟩ := cls_obj G hc (K' := K + 1) (t1' := t1) (t2' := t2) (by omega)
    have w : gw D (gA L sz) s.heap H locs L (va_up f h (hCell ra ar ci lo (K + 1) t1 t2)) := w
    refine lv_aload_n hx hb d_H_set_27 rfl (lv_at hl 1 rfl) ?_
    refine lv_iload_n hx hb d_H_set_28 rfl (lv_at hl 0 rfl) ?_
    refine g_cq w (g_runV (As := [.int (iN (K))]) (rest := []) X w (c_H_rowOf l G hc1 (z := K) (by unfold i3; omega)) k_H_rowOf v_H_rowOf lk_H_58 G.1.1 (va_up_self _ _ _) rfl ⟨(Nat.le_of_ble_eq_true rfl), (Nat.le_of_ble_eq_true rfl)⟩ rfl hl.1 rfl (Nat.le_of_ble_eq_true rfl) d_H_set_29 ⟨(Nat.le_of_ble_eq_true rfl), (Nat.le_of_ble_eq_true rfl)⟩) (fun r u H locs hp w => ?_)
    obtain ⟨hr9, rfl⟩ := hp
    rw [if_pos (by omega)] at hr9
    subst hr9
    have w : gw D (gA L sz) s.heap H locs L (va_up f h (hCell ra ar ci lo (K + 1) t1 t2)) := w
    refine lv_astore_n (lv' := [(2, .ref (ra K.toNat)), (1, .int (iN (K))), (0, .ref h)]) hx hb d_H_set_32 rfl hl (by decide) rfl (fun ls hl => ?_)
    refine lv_aload_n hx hb d_H_set_33 rfl (lv_at hl 0 rfl) ?_
    refine lv_ifnull hx hb d_H_set_34 ?_
    refine lv_aload_n hx hb d_H_set_37 rfl (lv_at hl 0 rfl) ?_
    refine g_cv w (g_runV (As := []) (rest := []) X w (c_R_empty l (G.2.2.1 K.toNat (by omega)) (hc1.2.2.1 K.toNat (by omega))) k_R_empty v_R_empty lk_H_62 (G.2.2.1 K.toNat (by omega)).1 (hc1.2.2.1 K.toNat (by omega)).2.1 rfl ⟨(Nat.le_of_ble_eq_true rfl), (Nat.le_of_ble_eq_true rfl)⟩ rfl hl.1 rfl (Nat.le_of_ble_eq_true rfl) d_H_set_38 ⟨(Nat.le_of_ble_eq_true rfl), (Nat.le_of_ble_eq_true rfl)⟩) (fun u H locs hp w => ?_)
    obtain ⟨g, rfl, hg1, hg2⟩ := hp
    have w : gw D (gA L sz) s.heap H locs L g := w
    obtain ⟨hcg, hug⟩ := cls_row G hc1 (i := K.toNat) (by omega) hg1 hg2
    refine lv_iload_n hx hb d_H_set_41 rfl (lv_at hl 1 rfl) ?_
    exact g_iret X w hrt hlk d_H_set_42 (Or.inr ⟨by omega, rfl, g, rfl, hcg, unch_tr hu1 hug⟩)
  · skip
    refine lv_bipush (v := iN (-5)) hx hb d_H_set_9 (by decide) ?_
    exact g_iret X w hrt hlk d_H_set_11 (Or.inl ⟨by omega, rfl, congrArg (Prod.mk L) (va_same hc.1)⟩)
noncomputable def ptA (K : Int) (S : Nat → List Pt) (z x y : Int) : Int := by
  classical
  exact if 0 ≤ z ∧ z < K then (if (-100 ≤ x ∧ x ≤ 100) ∧ (-100 ≤ y ∧ y ≤ 100) then (if pin (S z.toNat) (S z.toNat).length x y then 0 else if 24 ≤ (S z.toNat).length then -5 else 1) else -2) else -1
noncomputable def ptS (K : Int) (S : Nat → List Pt) (z x y : Int) : Nat → List Pt := if ptA K S z x y = 1 then supd S z.toNat (S z.toNat ++ [(x, y)]) else S
theorem ptS_n {K : Int} {S : Nat → List Pt} {z x y v : Int} (h : ptA K S z x y = v) (hv : v ≠ 1) : ptS K S z x y = S := by unfold ptS; rw [if_neg (by rw [h]; exact hv)]
theorem ptS_1 {K : Int} {S : Nat → List Pt} {z x y : Int} (h : ptA K S z x y = 1) : ptS K S z x y = supd S z.toNat (S z.toNat ++ [(x, y)]) := by unfold ptS; rw [if_pos h]
set_option maxHeartbeats 4000000 in
set_option maxRecDepth 100000 in
theorem c_H_point (l : Launch) {D : va_G} {cI cR : ClassId} {L : List Nat} {f : Nat → va_E} {rx ry ra : Nat → Nat} {h ar ci lo : Nat} {K t1 t2 : Int} {S : Nat → List Pt} (G : geo L rx ry ra h ar ci lo) (hc : clsIs cI cR rx ry ra h ar ci lo f K t1 t2 S) (hok : okS K S) {z : Int} (hz : i3 z) {x y : Int} (hx3 : i3 x) (hy3 : i3 y) : gMi D cI cR l y_H_point (Cond.code y_H_point b_H_point 5 (some .int) :: lw_g) { frames := 2, cells := 0, slots := 0, locals := 44 } [.ref h, .int (iN (z)), .int (iN (x)), .int (iN (y))] L f (fun r u => r = iN (ptA K S z x y) ∧ ∃ g, u = (L, g) ∧ clsIs cI cR rx ry ra h ar ci lo g K t1 t2 (ptS K S z x y) ∧ unch rx ry ra h ar ci lo f g) := by
  intro sz
  refine g_enter (by decide) rfl (Nat.le_of_ble_eq_true rfl) ?_
  intro p e s m below meth cd ls X hrt hlk hnm hl hsz w
  have X : gx p m cd b_H_point 5 s _ "HullSums" D cI cR := X
  have hx := X.1.1
  have hb := X.1.2.1
  have hl : lv_has ls 5 [(0, .ref h), (1, .int (iN (z))), (2, .int (iN (x))), (3, .int (iN (y)))] := hl
  have hK := hc.2.2.2.2.2
  refine lv_aload_n hx hb d_H_point_0 rfl (lv_at hl 0 rfl) ?_
  refine lv_iload_n hx hb d_H_point_1 rfl (lv_at hl 1 rfl) ?_
  refine g_cq w (g_runV (As := [.int (iN (z))]) (rest := []) X w (c_H_rowOf l G hc (z := z) hz) k_H_rowOf v_H_rowOf lk_H_58 G.1.1 hc.1 rfl ⟨(Nat.le_of_ble_eq_true rfl), (Nat.le_of_ble_eq_true rfl)⟩ rfl hl.1 rfl (Nat.le_of_ble_eq_true rfl) d_H_point_2 ⟨(Nat.le_of_ble_eq_true rfl), (Nat.le_of_ble_eq_true rfl)⟩) (fun r u H locs hp w => ?_)
  obtain ⟨hr9, rfl⟩ := hp
  have w : gw D (gA L sz) s.heap H locs L f := w
  by_cases hz1 : 0 ≤ z ∧ z < K
  · skip
    rw [if_pos hz1] at hr9
    subst hr9
    have hz18 : z.toNat < 8 := by have := hc.2.2.2.2.2; omega
    have hBhz1 : pb 600 (S z.toNat) := pb_of (by decide) (pbl_le (by decide) (hok _ (by omega)).2)
    have hlhz1 := (hok z.toNat (by omega)).1
    refine lv_astore (lv' := [(4, .ref (ra z.toNat)), (0, .ref h), (1, .int (iN (z))), (2, .int (iN (x))), (3, .int (iN (y)))]) hx hb d_H_point_5 hl (by decide) rfl (fun ls hl => ?_)
    refine lv_aload hx hb d_H_point_7 (lv_at hl 0 rfl) ?_
    refine lv_ifnonnull (tgt := 14) hx hb d_H_point_9 (by decide) ?_
    refine lv_iload_n hx hb d_H_point_14 rfl (lv_at hl 3 rfl) ?_
    refine lv_bipush (v := iN (100)) hx hb d_H_point_15 (by decide) ?_
    refine g_ci w (g_runS (As := [.int (iN (x)), .int (iN (100))]) (rest := []) X w (c_H_isNear l hx3 (by omega)) k_H_isNear lk_H_65 st_H_isNear ⟨(Nat.le_of_ble_eq_true rfl), (Nat.le_of_ble_eq_true rfl)⟩ rfl hl.1 rfl (Nat.le_of_ble_eq_true rfl) d_H_point_17 ⟨Nat.zero_le _, Nat.zero_le _⟩) (fun r u H locs hp w => ?_)
    obtain ⟨rfl, rfl⟩ := hp
    have w : gw D (gA L sz) s.heap H locs L f := w
    refine ri_zeq (a := (bI (-100 ≤ x ∧ x ≤ 100))) (tgt := 32) hx hb d_H_point_20 (by decide) rfl (bI_3 _) (fun c20 => ?_) (fun c20 => ?_)
    · skip
      refine lv_bipush (v := iN (-2)) hx hb d_H_point_32 (by decide) ?_
      have hA : ptA K S z x y = -2 := by unfold ptA; rw [if_pos hz1, if_neg (fun q => by first | exact bI_0 c20 q.1 | exact bI_0 (by omega) q.2)]
      exact g_iret X w hrt hlk d_H_point_34 ⟨by rw [hA], f, rfl, by rw [ptS_n hA (by decide)]; exact hc, unch_rf⟩
    · skip
      refine lv_iload_n hx hb d_H_point_23 rfl (lv_at hl 4 rfl) ?_
      refine lv_bipush (v := iN (100)) hx hb d_H_point_24 (by decide) ?_
      refine g_ci w (g_runS (As := [.int (iN (y)), .int (iN (100))]) (rest := []) X w (c_H_isNear l hy3 (by omega)) k_H_isNear lk_H_65 st_H_isNear ⟨(Nat.le_of_ble_eq_true rfl), (Nat.le_of_ble_eq_true rfl)⟩ rfl hl.1 rfl (Nat.le_of_ble_eq_true rfl) d_H_point_26 ⟨Nat.zero_le _, Nat.zero_le _⟩) (fun r u H locs hp w => ?_)
      obtain ⟨rfl, rfl⟩ := hp
      have w : gw D (gA L sz) s.heap H locs L f := w
      refine ri_zne (a := (bI (-100 ≤ y ∧ y ≤ 100))) (tgt := 35) hx hb d_H_point_29 (by decide) rfl (bI_3 _) (fun c29 => ?_) (fun c29 => ?_)
      · skip
        refine lv_aload hx hb d_H_point_35 (lv_at hl 0 rfl) ?_
        refine lv_iload_n hx hb d_H_point_37 rfl (lv_at hl 3 rfl) ?_
        refine lv_iload_n hx hb d_H_point_38 rfl (lv_at hl 4 rfl) ?_
        refine g_ci w (g_runV (As := [.int (iN (x)), .int (iN (y))]) (rest := []) X w (c_R_has l (G.2.2.1 z.toNat (by omega)) (hc.2.2.1 z.toNat (by omega)) hBhz1 hx3 hy3) k_R_has v_R_has lk_H_69 (G.2.2.1 z.toNat (by omega)).1 (hc.2.2.1 z.toNat (by omega)).2.1 rfl ⟨(Nat.le_of_ble_eq_true rfl), (Nat.le_of_ble_eq_true rfl)⟩ rfl hl.1 rfl (Nat.le_of_ble_eq_true rfl) d_H_point_39 ⟨Nat.zero_le _, Nat.zero_le _⟩) (fun r u H locs hp w => ?_)
        obtain ⟨rfl, rfl⟩ := hp
        have w : gw D (gA L sz) s.heap H locs L f := w
        refine ri_zeq (a := (bI (pin (S z.toNat) (S z.toNat).length x y))) (tgt := 47) hx hb d_H_point_42 (by decide) rfl (bI_3 _) (fun c42 => ?_) (fun c42 => ?_)
        · skip
          refine lv_aload hx hb d_H_point_47 (lv_at hl 0 rfl) ?_
          refine g_ci w (g_runV (As := []) (rest := []) X w (c_R_size l (G.2.2.1 z.toNat (by omega)) (hc.2.2.1 z.toNat (by omega))) k_R_size v_R_size lk_H_72 (G.2.2.1 z.toNat (by omega)).1 (hc.2.2.1 z.toNat (by omega)).2.1 rfl ⟨(Nat.le_of_ble_eq_true rfl), (Nat.le_of_ble_eq_true rfl)⟩ rfl hl.1 rfl (Nat.le_of_ble_eq_true rfl) d_H_point_49 ⟨Nat.zero_le _, Nat.zero_le _⟩) (fun r u H locs hp w => ?_)
          obtain ⟨rfl, rfl⟩ := hp
          have w : gw D (gA L sz) s.heap H locs L f := w
          refine lv_bipush (v := iN (24)) hx hb d_H_point_52 (by decide) ?_
          refine ri_clt (a := ((S z.toNat).length : Int)) (b := 24) (tgt := 60) hx hb d_H_point_54 (by decide) rfl rfl (by unfold i3; omega) (by unfold i3; omega) (fun c54 => ?_) (fun c54 => ?_)
          · skip
            refine lv_aload hx hb d_H_point_60 (lv_at hl 0 rfl) ?_
            refine lv_iload_n hx hb d_H_point_62 rfl (lv_at hl 3 rfl) ?_
            refine lv_iload_n hx hb d_H_point_63 rfl (lv_at hl 4 rfl) ?_
            refine g_cv w (g_runV (As := [.int (iN (x)), .int (iN (y))]) (rest := []) X w (c_R_add l (G.2.2.1 z.toNat (by omega)) (hc.2.2.1 z.toNat (by omega)) (by omega) (x := x) (y := y)) k_R_add v_R_add lk_H_76 (G.2.2.1 z.toNat (by omega)).1 (hc.2.2.1 z.toNat (by omega)).2.1 rfl ⟨(Nat.le_of_ble_eq_true rfl), (Nat.le_of_ble_eq_true rfl)⟩ rfl hl.1 rfl (Nat.le_of_ble_eq_true rfl) d_H_point_64 ⟨(Nat.le_of_ble_eq_true rfl), (Nat.le_of_ble_eq_true rfl)⟩) (fun u H locs hp w => ?_)
            obtain ⟨g, rfl, hg1, hg2⟩ := hp
            have w : gw D (gA L sz) s.heap H locs L g := w
            obtain ⟨hcg, hug⟩ := cls_row G hc (i := z.toNat) (by omega) hg1 hg2
            refine lv_iconst (v := iN (1)) hx hb d_H_point_67 (by decide) ?_
            have hA : ptA K S z x y = 1 := by unfold ptA; rw [if_pos hz1, if_pos ⟨bI_n c20, bI_n c29⟩, if_neg (bI_0 c42), if_neg (by omega)]
            exact g_iret X w hrt hlk d_H_point_68 ⟨by rw [hA], g, rfl, by rw [ptS_1 hA]; exact hcg, hug⟩
          · skip
            refine lv_bipush (v := iN (-5)) hx hb d_H_point_57 (by decide) ?_
            have hA : ptA K S z x y = -5 := by unfold ptA; rw [if_pos hz1, if_pos ⟨bI_n c20, bI_n c29⟩, if_neg (bI_0 c42), if_pos (by omega)]
            exact g_iret X w hrt hlk d_H_point_59 ⟨by rw [hA], f, rfl, by rw [ptS_n hA (by decide)]; exact hc, unch_rf⟩
        · skip
          refine lv_iconst (v := iN (0)) hx hb d_H_point_45 (by decide) ?_
          have hA : ptA K S z x y = 0 := by unfold ptA; rw [if_pos hz1, if_pos ⟨bI_n c20, bI_n c29⟩, if_pos (bI_n c42)]
          exact g_iret X w hrt hlk d_H_point_46 ⟨by rw [hA], f, rfl, by rw [ptS_n hA (by decide)]; exact hc, unch_rf⟩
      · skip
        refine lv_bipush (v := iN (-2)) hx hb d_H_point_32 (by decide) ?_
        have hA : ptA K S z x y = -2 := by unfold ptA; rw [if_pos hz1, if_neg (fun q => by first | exact bI_0 c20 q.1 | exact bI_0 (by omega) q.2)]
        exact g_iret X w hrt hlk d_H_point_34 ⟨by rw [hA], f, rfl, by rw [ptS_n hA (by decide)]; exact hc, unch_rf⟩
  · skip
    rw [if_neg hz1] at hr9
    subst hr9
    refine lv_astoreN (lv' := [(4, .null), (0, .ref h), (1, .int (iN (z))), (2, .int (iN (x))), (3, .int (iN (y)))]) hx hb d_H_point_5 hl (by decide) rfl (fun ls hl => ?_)
    refine lv_aloadN hx hb d_H_point_7 (lv_at hl 0 rfl) ?_
    refine lv_ifnonnullN hx hb d_H_point_9 ?_
    refine lv_iconst (v := iN (-1)) hx hb d_H_point_12 (by decide) ?_
    have hA : ptA K S z x y = -1 := by unfold ptA; rw [if_neg hz1]
    exact g_iret X w hrt hlk d_H_point_13 ⟨by rw [hA], f, rfl, by rw [ptS_n hA (by decide)]; exact hc, unch_rf⟩
theorem su_u {S : Nat → List Pt} {i : Nat} {P Q : List Pt} : supd (supd S i P) i Q = supd S i Q := by
  funext j; unfold supd; split <;> rfl
set_option maxHeartbeats 4000000 in
set_option maxRecDepth 100000 in
theorem c_H_setOf (l : Launch) {D : va_G} {cI cR : ClassId} {L : List Nat} {f : Nat → va_E} {rx ry ra : Nat → Nat} {h ar ci lo : Nat} {K t1 t2 : Int} {S : Nat → List Pt} (G : geo L rx ry ra h ar ci lo) (hc : clsIs cI cR rx ry ra h ar ci lo f K t1 t2 S) {i : Nat} (hi12 : i < 12) (hi8 : 8 ≤ i) (hl24 : (S i).length ≤ 24) : gMi D cI cR l y_H_setOf (Cond.code y_H_setOf b_H_setOf 5 (some .int) :: lw_g) { frames := 2, cells := 0, slots := 0, locals := 43 } [.ref h, .ref (ra i)] L f (fun r u => spost L cI cR rx ry ra h ar ci lo f K t1 t2 S (S i) r u) := by
  intro sz
  refine g_enter (by decide) rfl (Nat.le_of_ble_eq_true rfl) ?_
  intro p e s m below meth cd ls X hrt hlk hnm hl hsz w
  have X : gx p m cd b_H_setOf 5 s _ "HullSums" D cI cR := X
  have hx := X.1.1
  have hb := X.1.2.1
  have hl : lv_has ls 5 [(0, .ref h), (1, .ref (ra i))] := hl
  have hK := hc.2.2.2.2.2
  have hn48 := (hc.2.2.1 i (by omega)).1
  refine lv_aload_n hx hb d_H_setOf_0 rfl (lv_at hl 0 rfl) ?_
  refine g_ci w (g_runV (As := []) (rest := []) X w (c_H_set l G hc) k_H_set v_H_set lk_H_182 G.1.1 hc.1 rfl ⟨(Nat.le_of_ble_eq_true rfl), (Nat.le_of_ble_eq_true rfl)⟩ rfl hl.1 rfl (Nat.le_of_ble_eq_true rfl) d_H_setOf_1 ⟨(Nat.le_of_ble_eq_true rfl), (Nat.le_of_ble_eq_true rfl)⟩) (fun r u H locs hp w => ?_)
  rcases hp with ⟨hK8, rfl, rfl⟩ | ⟨hK8, rfl, g, rfl, hcg, hug⟩
  · skip
    have w : gw D (gA L sz) s.heap H locs L f := w
    refine lv_istore_n (lv' := [(2, .int (iN ((-5)))), (0, .ref h), (1, .ref (ra i))]) hx hb d_H_setOf_4 rfl hl (by decide) rfl (fun ls hl => ?_)
    refine lv_aload_n hx hb d_H_setOf_5 rfl (lv_at hl 1 rfl) ?_
    refine lv_iload_n hx hb d_H_setOf_6 rfl (lv_at hl 0 rfl) ?_
    refine g_cq w (g_runV (As := [.int (iN ((-5)))]) (rest := []) X w (c_H_rowOf l G hc (z := (-5)) (by unfold i3; omega)) k_H_rowOf v_H_rowOf lk_H_58 G.1.1 hc.1 rfl ⟨(Nat.le_of_ble_eq_true rfl), (Nat.le_of_ble_eq_true rfl)⟩ rfl hl.1 rfl (Nat.le_of_ble_eq_true rfl) d_H_setOf_7 ⟨(Nat.le_of_ble_eq_true rfl), (Nat.le_of_ble_eq_true rfl)⟩) (fun r u H locs hp w => ?_)
    obtain ⟨hr9, rfl⟩ := hp
    rw [if_neg (by omega)] at hr9
    subst hr9
    have w : gw D (gA L sz) s.heap H locs L f := w
    refine lv_astore_nN (lv' := [(3, .null), (2, .int (iN ((-5)))), (0, .ref h), (1, .ref (ra i))]) hx hb d_H_setOf_10 rfl hl (by decide) rfl (fun ls hl => ?_)
    refine lv_aload_nN hx hb d_H_setOf_11 rfl (lv_at hl 0 rfl) ?_
    refine lv_ifnullN (tgt := 49) hx hb d_H_setOf_12 (by decide) ?_
    refine lv_iload_n hx hb d_H_setOf_49 rfl (lv_at hl 1 rfl) ?_
    exact g_iret X w hrt hlk d_H_setOf_50 (Or.inl ⟨hK8, rfl, rfl⟩)
  · skip
    have w : gw D (gA L sz) s.heap H locs L g := w
    refine lv_istore_n (lv' := [(2, .int (iN (K))), (0, .ref h), (1, .ref (ra i))]) hx hb d_H_setOf_4 rfl hl (by decide) rfl (fun ls hl => ?_)
    refine lv_aload_n hx hb d_H_setOf_5 rfl (lv_at hl 1 rfl) ?_
    refine lv_iload_n hx hb d_H_setOf_6 rfl (lv_at hl 0 rfl) ?_
    refine g_cq w (g_runV (As := [.int (iN (K))]) (rest := []) X w (c_H_rowOf l G hcg (z := K) (by unfold i3; omega)) k_H_rowOf v_H_rowOf lk_H_58 G.1.1 hcg.1 rfl ⟨(Nat.le_of_ble_eq_true rfl), (Nat.le_of_ble_eq_true rfl)⟩ rfl hl.1 rfl (Nat.le_of_ble_eq_true rfl) d_H_setOf_7 ⟨(Nat.le_of_ble_eq_true rfl), (Nat.le_of_ble_eq_true rfl)⟩) (fun r u H locs hp w => ?_)
    obtain ⟨hr9, rfl⟩ := hp
    rw [if_pos (by omega)] at hr9
    subst hr9
    have w : gw D (gA L sz) s.heap H locs L g := w
    refine lv_astore_n (lv' := [(3, .ref (ra K.toNat)), (2, .int (iN (K))), (0, .ref h), (1, .ref (ra i))]) hx hb d_H_setOf_10 rfl hl (by decide) rfl (fun ls hl => ?_)
    refine lv_aload_n hx hb d_H_setOf_11 rfl (lv_at hl 0 rfl) ?_
    refine lv_ifnull hx hb d_H_setOf_12 ?_
    refine lv_iconst (v := iN (0)) hx hb d_H_setOf_15 (by decide) ?_
    refine lv_istore (lv' := [(4, .int (iN (0))), (3, .ref (ra K.toNat)), (2, .int (iN (K))), (0, .ref h), (1, .ref (ra i))]) hx hb d_H_setOf_16 hl (by decide) rfl (fun ls hl => ?_)
    refine g_loop (σ := Int × (Nat → va_E)) (fun z9 => ((S i).length - z9.1).toNat) (fun z9 => [(0, .ref h), (1, .ref (ra i)), (2, .int (iN (K))), (3, .ref (ra K.toNat)), (4, .int (iN (z9.1)))]) L (fun z9 => z9.2) (fun z9 => 0 ≤ z9.1 ∧ z9.1 ≤ (S i).length ∧ clsIs cI cR rx ry ra h ar ci lo z9.2 (K + 1) t1 t2 (supd S K.toNat ((S i).take z9.1.toNat)) ∧ unch rx ry ra h ar ci lo f z9.2) ?_ (0, g) _ _ _ ⟨by (try dsimp only); omega, by (try dsimp only); omega, hcg, hug⟩ w (lv_sub hl [3, 4, 2, 1, 0] rfl)
    intro z9 H locs ls hI w hl ih
    obtain ⟨j, g⟩ := z9
    have hl : lv_has ls 5 [(0, .ref h), (1, .ref (ra i)), (2, .int (iN (K))), (3, .ref (ra K.toNat)), (4, .int (iN (j)))] := hl
    have w : gw D (gA L sz) s.heap H locs L (g) := w
    have hI : 0 ≤ j ∧ j ≤ (S i).length ∧ clsIs cI cR rx ry ra h ar ci lo g (K + 1) t1 t2 (supd S K.toNat ((S i).take j.toNat)) ∧ unch rx ry ra h ar ci lo f g := hI
    obtain ⟨h0, h1, hcg, hug⟩ := hI
    have hrC : rowIs cI rx ry g (ra i) (S i) := by have h9 := hcg.2.2.1 i (by omega); rw [su_n (by omega)] at h9; exact h9
    have hrK : rowIs cI rx ry g (ra K.toNat) ((S i).take j.toNat) := by have h9 := hcg.2.2.1 K.toNat (by omega); rw [su_s] at h9; exact h9
    have hlt : ((S i).take j.toNat).length = j.toNat := by rw [List.length_take]; omega
    refine lv_iload hx hb d_H_setOf_18 (lv_at hl 4 rfl) ?_
    refine lv_aload_n hx hb d_H_setOf_20 rfl (lv_at hl 1 rfl) ?_
    refine g_ci w (g_runV (As := []) (rest := [.int (iN (j))]) X w (c_R_size l (G.2.2.1 i (by omega)) hrC) k_R_size v_R_size lk_H_72 (G.2.2.1 i (by omega)).1 hrC.2.1 rfl ⟨(Nat.le_of_ble_eq_true rfl), (Nat.le_of_ble_eq_true rfl)⟩ rfl hl.1 rfl (Nat.le_of_ble_eq_true rfl) d_H_setOf_21 ⟨Nat.zero_le _, Nat.zero_le _⟩) (fun r u H locs hp w => ?_)
    obtain ⟨rfl, rfl⟩ := hp
    have w : gw D (gA L sz) s.heap H locs L g := w
    refine ri_cge (a := j) (b := ((S i).length : Int)) (tgt := 49) hx hb d_H_setOf_24 (by decide) rfl rfl (by unfold i3; omega) (by unfold i3; omega) (fun c24 => ?_) (fun c24 => ?_)
    · skip
      refine lv_iload_n hx hb d_H_setOf_49 rfl (lv_at hl 2 rfl) ?_
      exact g_iret X w hrt hlk d_H_setOf_50 (Or.inr ⟨hK8, rfl, g, rfl, by rw [show j.toNat = (S i).length by omega, List.take_length] at hcg; exact hcg, hug⟩)
    · skip
      obtain ⟨kj, qj, ekj, hqj0, exj, eyj⟩ := px_get (P := (S i)) (i := j) h0 (by omega)
      have hqj : (S i)[j.toNat]? = some (pX (S i) j, pY (S i) j) := by rw [show j.toNat = kj by omega, hqj0, exj, eyj]
      refine lv_aload_n hx hb d_H_setOf_27 rfl (lv_at hl 3 rfl) ?_
      refine lv_aload_n hx hb d_H_setOf_28 rfl (lv_at hl 1 rfl) ?_
      refine lv_iload hx hb d_H_setOf_29 (lv_at hl 4 rfl) ?_
      refine g_ci w (g_runV (As := [.int (iN (j))]) (rest := [.ref (ra K.toNat)]) X w (c_R_x l (G.2.2.1 i (by omega)) hrC (by unfold i3; omega)) k_R_x v_R_x lk_H_90 (G.2.2.1 i (by omega)).1 hrC.2.1 rfl ⟨(Nat.le_of_ble_eq_true rfl), (Nat.le_of_ble_eq_true rfl)⟩ rfl hl.1 rfl (Nat.le_of_ble_eq_true rfl) d_H_setOf_31 ⟨Nat.zero_le _, Nat.zero_le _⟩) (fun r u H locs hp w => ?_)
      obtain ⟨rfl, rfl⟩ := hp
      have w : gw D (gA L sz) s.heap H locs L g := w
      refine lv_aload_n hx hb d_H_setOf_34 rfl (lv_at hl 1 rfl) ?_
      refine lv_iload hx hb d_H_setOf_35 (lv_at hl 4 rfl) ?_
      refine g_ci w (g_runV (As := [.int (iN (j))]) (rest := [.int (iN ((pX (S i) j))), .ref (ra K.toNat)]) X w (c_R_y l (G.2.2.1 i (by omega)) hrC (by unfold i3; omega)) k_R_y v_R_y lk_H_94 (G.2.2.1 i (by omega)).1 hrC.2.1 rfl ⟨(Nat.le_of_ble_eq_true rfl), (Nat.le_of_ble_eq_true rfl)⟩ rfl hl.1 rfl (Nat.le_of_ble_eq_true rfl) d_H_setOf_37 ⟨Nat.zero_le _, Nat.zero_le _⟩) (fun r u H locs hp w => ?_)
      obtain ⟨rfl, rfl⟩ := hp
      have w : gw D (gA L sz) s.heap H locs L g := w
      refine g_cv w (g_runV (As := [.int (iN ((pX (S i) j))), .int (iN ((pY (S i) j)))]) (rest := []) X w (c_R_add l (G.2.2.1 K.toNat (by omega)) hrK (by omega) (x := pX (S i) j) (y := pY (S i) j)) k_R_add v_R_add lk_H_76 (G.2.2.1 K.toNat (by omega)).1 hrK.2.1 rfl ⟨(Nat.le_of_ble_eq_true rfl), (Nat.le_of_ble_eq_true rfl)⟩ rfl hl.1 rfl (Nat.le_of_ble_eq_true rfl) d_H_setOf_40 ⟨(Nat.le_of_ble_eq_true rfl), (Nat.le_of_ble_eq_true rfl)⟩) (fun u H locs hp w => ?_)
      obtain ⟨g2, rfl, hg1, hg2⟩ := hp
      have w : gw D (gA L sz) s.heap H locs L g2 := w
      obtain ⟨hcg2, hug2⟩ := cls_row G hcg (i := K.toNat) (by omega) hg1 hg2
      have hcg2 : clsIs cI cR rx ry ra h ar ci lo g2 (K + 1) t1 t2 (supd S K.toNat ((S i).take j.toNat ++ [(pX (S i) j, pY (S i) j)])) := by rw [su_u] at hcg2; exact hcg2
      refine lv_iinc (v := iN ((j + 1))) (lv' := [(4, .int (iN ((j + 1)))), (0, .ref h), (1, .ref (ra i)), (2, .int (iN (K))), (3, .ref (ra K.toNat))]) hx hb d_H_setOf_43 hl (k := 4) rfl (by rw [show (j + 1) = j + (1 : Int) by omega, ← iN_add]; rfl) (by decide) rfl (fun ls hl => ?_)
      refine lv_goto (tgt := 18) hx hb d_H_setOf_46 (by decide) ?_
      have hI' : 0 ≤ (j + 1) ∧ (j + 1) ≤ (S i).length ∧ clsIs cI cR rx ry ra h ar ci lo g2 (K + 1) t1 t2 (supd S K.toNat ((S i).take (j + 1).toNat)) ∧ unch rx ry ra h ar ci lo f g2 := ⟨by omega, by omega, by rw [tn_s h0, List.take_add_one, hqj]; exact hcg2, unch_tr hug hug2⟩
      exact ih ((j + 1), g2) _ _ _ (by omega) hI' w (lv_sub hl [1, 2, 3, 4, 0] rfl)
def flA (K : Int) (S : Nat → List Pt) (a b : Int) : Int := if (0 ≤ a ∧ a < K) ∧ (0 ≤ b ∧ b < K) then (if (S a.toNat).length = 0 ∨ (S b.toNat).length = 0 then -3 else 0) else -1
set_option maxHeartbeats 4000000 in
set_option maxRecDepth 100000 in
theorem c_H_fillSums (l : Launch) {D : va_G} {cI cR : ClassId} {L : List Nat} {f : Nat → va_E} {rx ry ra : Nat → Nat} {h ar ci lo : Nat} {K t1 t2 : Int} {S : Nat → List Pt} (G : geo L rx ry ra h ar ci lo) (hc : clsIs cI cR rx ry ra h ar ci lo f K t1 t2 S) (hok : okS K S) {z : Int} (hz : i3 z) {z2 : Int} (hz2 : i3 z2) {sg : Int} (hsg : sg = 1 ∨ sg = -1) (hHL : ∀ i : Nat, (i : Int) < K → (hullF (S i)).length ≤ 24 ∧ (hullF ((S i).map (sgm sg))).length ≤ 24) : gMi D cI cR l y_H_fillSums (Cond.code y_H_fillSums b_H_fillSums 6 (some .int) :: lw_g) { frames := 4, cells := 0, slots := 0, locals := 95 } [.ref h, .int (iN (z)), .int (iN (z2)), .int (iN (sg))] L f (fun r u => r = iN (flA K S z z2) ∧ ∃ (g : Nat → va_E) (S' : Nat → List Pt), u = (L, g) ∧ clsIs cI cR rx ry ra h ar ci lo g K t1 t2 (S') ∧ (∀ i, i < 8 → S' i = S i) ∧ unch rx ry ra h ar ci lo f g ∧ (flA K S z z2 = 0 → S' 9 = hullF (S z.toNat) ∧ S' 10 = hullF ((S z2.toNat).map (sgm sg)) ∧ S' 11 = sumF (hullF (S z.toNat)) (hullF ((S z2.toNat).map (sgm sg))))) := by
  intro sz
  refine g_enter (by decide) rfl (Nat.le_of_ble_eq_true rfl) ?_
  intro p e s m below meth cd ls X hrt hlk hnm hl hsz w
  have X : gx p m cd b_H_fillSums 6 s _ "HullSums" D cI cR := X
  have hx := X.1.1
  have hb := X.1.2.1
  have hl : lv_has ls 6 [(0, .ref h), (1, .int (iN (z))), (2, .int (iN (z2))), (3, .int (iN (sg)))] := hl
  have hK := hc.2.2.2.2.2
  refine lv_aload_n hx hb d_H_fillSums_0 rfl (lv_at hl 0 rfl) ?_
  refine lv_iload_n hx hb d_H_fillSums_1 rfl (lv_at hl 1 rfl) ?_
  refine g_cq w (g_runV (As := [.int (iN (z))]) (rest := []) X w (c_H_rowOf l G hc (z := z) hz) k_H_rowOf v_H_rowOf lk_H_58 G.1.1 hc.1 rfl ⟨(Nat.le_of_ble_eq_true rfl), (Nat.le_of_ble_eq_true rfl)⟩ rfl hl.1 rfl (Nat.le_of_ble_eq_true rfl) d_H_fillSums_2 ⟨(Nat.le_of_ble_eq_true rfl), (Nat.le_of_ble_eq_true rfl)⟩) (fun r u H locs hp w => ?_)
  obtain ⟨hr9, rfl⟩ := hp
  have w : gw D (gA L sz) s.heap H locs L f := w
  by_cases hz1 : 0 ≤ z ∧ z < K
  · skip
    rw [if_pos hz1] at hr9
    subst hr9
    have hz18 : z.toNat < 8 := by have := hc.2.2.2.2.2; omega
    have hBhz1 : pb 600 (S z.toNat) := pb_of (by decide) (pbl_le (by decide) (hok _ (by omega)).2)
    have hlhz1 := (hok z.toNat (by omega)).1
    refine lv_astore (lv' := [(4, .ref (ra z.toNat)), (0, .ref h), (1, .int (iN (z))), (2, .int (iN (z2))), (3, .int (iN (sg)))]) hx hb d_H_fillSums_5 hl (by decide) rfl (fun ls hl => ?_)
    refine lv_aload_n hx hb d_H_fillSums_7 rfl (lv_at hl 1 rfl) ?_
    refine lv_iload_n hx hb d_H_fillSums_8 rfl (lv_at hl 3 rfl) ?_
    refine g_cq w (g_runV (As := [.int (iN (z2))]) (rest := []) X w (c_H_rowOf l G hc (z := z2) hz2) k_H_rowOf v_H_rowOf lk_H_58 G.1.1 hc.1 rfl ⟨(Nat.le_of_ble_eq_true rfl), (Nat.le_of_ble_eq_true rfl)⟩ rfl hl.1 rfl (Nat.le_of_ble_eq_true rfl) d_H_fillSums_9 ⟨(Nat.le_of_ble_eq_true rfl), (Nat.le_of_ble_eq_true rfl)⟩) (fun r u H locs hp w => ?_)
    obtain ⟨hr9, rfl⟩ := hp
    have w : gw D (gA L sz) s.heap H locs L f := w
    by_cases hz2 : 0 ≤ z2 ∧ z2 < K
    · skip
      rw [if_pos hz2] at hr9
      subst hr9
      have hz28 : z2.toNat < 8 := by have := hc.2.2.2.2.2; omega
      have hBhz2 : pb 600 (S z2.toNat) := pb_of (by decide) (pbl_le (by decide) (hok _ (by omega)).2)
      have hlhz2 := (hok z2.toNat (by omega)).1
      refine lv_astore (lv' := [(5, .ref (ra z2.toNat)), (4, .ref (ra z.toNat)), (0, .ref h), (1, .int (iN (z))), (2, .int (iN (z2))), (3, .int (iN (sg)))]) hx hb d_H_fillSums_12 hl (by decide) rfl (fun ls hl => ?_)
      refine lv_aload hx hb d_H_fillSums_14 (lv_at hl 1 rfl) ?_
      refine lv_ifnull hx hb d_H_fillSums_16 ?_
      refine lv_aload hx hb d_H_fillSums_19 (lv_at hl 0 rfl) ?_
      refine lv_ifnonnull (tgt := 26) hx hb d_H_fillSums_21 (by decide) ?_
      refine lv_aload hx hb d_H_fillSums_26 (lv_at hl 1 rfl) ?_
      refine g_ci w (g_runV (As := []) (rest := []) X w (c_R_size l (G.2.2.1 z.toNat (by omega)) (hc.2.2.1 z.toNat (by omega))) k_R_size v_R_size lk_H_72 (G.2.2.1 z.toNat (by omega)).1 (hc.2.2.1 z.toNat (by omega)).2.1 rfl ⟨(Nat.le_of_ble_eq_true rfl), (Nat.le_of_ble_eq_true rfl)⟩ rfl hl.1 rfl (Nat.le_of_ble_eq_true rfl) d_H_fillSums_28 ⟨Nat.zero_le _, Nat.zero_le _⟩) (fun r u H locs hp w => ?_)
      obtain ⟨rfl, rfl⟩ := hp
      have w : gw D (gA L sz) s.heap H locs L f := w
      refine ri_zeq (a := ((S z.toNat).length : Int)) (tgt := 42) hx hb d_H_fillSums_31 (by decide) rfl (by unfold i3; omega) (fun c31 => ?_) (fun c31 => ?_)
      · skip
        refine lv_bipush (v := iN (-3)) hx hb d_H_fillSums_42 (by decide) ?_
        have hA : flA K S z z2 = -3 := by unfold flA; rw [if_pos ⟨hz1, hz2⟩, if_pos (by omega)]
        exact g_iret X w hrt hlk d_H_fillSums_44 ⟨by rw [hA], ⟨f, S, rfl, hc, fun _ _ => rfl, unch_rf, fun h9 => absurd h9 (by rw [hA]; decide)⟩⟩
      · skip
        refine lv_aload hx hb d_H_fillSums_34 (lv_at hl 0 rfl) ?_
        refine g_ci w (g_runV (As := []) (rest := []) X w (c_R_size l (G.2.2.1 z2.toNat (by omega)) (hc.2.2.1 z2.toNat (by omega))) k_R_size v_R_size lk_H_72 (G.2.2.1 z2.toNat (by omega)).1 (hc.2.2.1 z2.toNat (by omega)).2.1 rfl ⟨(Nat.le_of_ble_eq_true rfl), (Nat.le_of_ble_eq_true rfl)⟩ rfl hl.1 rfl (Nat.le_of_ble_eq_true rfl) d_H_fillSums_36 ⟨Nat.zero_le _, Nat.zero_le _⟩) (fun r u H locs hp w => ?_)
        obtain ⟨rfl, rfl⟩ := hp
        have w : gw D (gA L sz) s.heap H locs L f := w
        refine ri_zne (a := ((S z2.toNat).length : Int)) (tgt := 45) hx hb d_H_fillSums_39 (by decide) rfl (by unfold i3; omega) (fun c39 => ?_) (fun c39 => ?_)
        · skip
          refine lv_aload_n hx hb d_H_fillSums_45 rfl (lv_at hl 2 rfl) ?_
          refine gk_get X w G.1.1 hc.1 rfl in_H 5 (by decide) lk_H_20 rfl d_H_fillSums_46 ?_
          refine lv_aload hx hb d_H_fillSums_49 (lv_at hl 1 rfl) ?_
          refine lv_iconst (v := iN (1)) hx hb d_H_fillSums_51 (by decide) ?_
          refine lv_aload_n hx hb d_H_fillSums_52 rfl (lv_at hl 2 rfl) ?_
          refine gk_get X w G.1.1 hc.1 rfl in_H 4 (by decide) lk_H_16 rfl d_H_fillSums_53 ?_
          refine g_cv w (g_runV (As := [.ref (ra z.toNat), .int (iN (1)), .ref (ra 8)]) (rest := []) X w (c_R_becomeHull l (G.2.2.1 9 (by decide)) (G.2.2.1 z.toNat (by omega)) (G.2.2.1 8 (by decide)) (G.2.2.2.1 9 z.toNat (by decide) (by omega) (by omega)) (G.2.2.2.1 9 8 (by decide) (by decide) (by decide)) (G.2.2.2.1 z.toNat 8 (by omega) (by decide) (by omega)) (hc.2.2.1 9 (by decide)) (hc.2.2.1 z.toNat (by omega)) (hc.2.2.1 8 (by decide)) (pbl_le (by decide) (hok z.toNat (by omega)).2) (hok z.toNat (by omega)).1 (sg := 1) (Or.inl rfl)) k_R_becomeHull v_R_becomeHull lk_H_171 (G.2.2.1 9 (by decide)).1 (hc.2.2.1 9 (by decide)).2.1 rfl ⟨(Nat.le_of_ble_eq_true rfl), (Nat.le_of_ble_eq_true rfl)⟩ rfl hl.1 rfl (Nat.le_of_ble_eq_true rfl) d_H_fillSums_56 ⟨(Nat.le_of_ble_eq_true rfl), (Nat.le_of_ble_eq_true rfl)⟩) (fun u H locs hp w => ?_)
          rw [sgm_1] at hp
          obtain ⟨g, rfl, hg1, hg2, hg3⟩ := hp
          have w : gw D (gA L sz) s.heap H locs L g := w
          obtain ⟨hcg, hug⟩ := cls_row2 G hc (i := 9) (k := 8) (by decide) (by decide) (by decide) hg1 hg2 hg3
          have hqb : rowIs cI rx ry g (ra z2.toNat) (S z2.toNat) := by have h9 := hcg.2.2.1 z2.toNat (by omega); rw [su_n (by omega), su_n (by omega)] at h9; exact h9
          have hcg0 := hcg
          refine lv_aload_n hx hb d_H_fillSums_59 rfl (lv_at hl 2 rfl) ?_
          refine gk_get X w G.1.1 hcg.1 rfl in_H 6 (by decide) lk_H_23 rfl d_H_fillSums_60 ?_
          refine lv_aload hx hb d_H_fillSums_63 (lv_at hl 0 rfl) ?_
          refine lv_iload_n hx hb d_H_fillSums_65 rfl (lv_at hl 5 rfl) ?_
          refine lv_aload_n hx hb d_H_fillSums_66 rfl (lv_at hl 2 rfl) ?_
          refine gk_get X w G.1.1 hcg.1 rfl in_H 4 (by decide) lk_H_16 rfl d_H_fillSums_67 ?_
          refine g_cv w (g_runV (As := [.ref (ra z2.toNat), .int (iN (sg)), .ref (ra 8)]) (rest := []) X w (c_R_becomeHull l (G.2.2.1 10 (by decide)) (G.2.2.1 z2.toNat (by omega)) (G.2.2.1 8 (by decide)) (G.2.2.2.1 10 z2.toNat (by decide) (by omega) (by omega)) (G.2.2.2.1 10 8 (by decide) (by decide) (by decide)) (G.2.2.2.1 z2.toNat 8 (by omega) (by decide) (by omega)) (hcg.2.2.1 10 (by decide)) hqb (hcg.2.2.1 8 (by decide)) (pbl_le (by decide) (hok z2.toNat (by omega)).2) (hok z2.toNat (by omega)).1 (sg := sg) hsg) k_R_becomeHull v_R_becomeHull lk_H_171 (G.2.2.1 10 (by decide)).1 (hcg.2.2.1 10 (by decide)).2.1 rfl ⟨(Nat.le_of_ble_eq_true rfl), (Nat.le_of_ble_eq_true rfl)⟩ rfl hl.1 rfl (Nat.le_of_ble_eq_true rfl) d_H_fillSums_70 ⟨(Nat.le_of_ble_eq_true rfl), (Nat.le_of_ble_eq_true rfl)⟩) (fun u H locs hp w => ?_)
          obtain ⟨g2, rfl, hk1, hk2, hk3⟩ := hp
          have w : gw D (gA L sz) s.heap H locs L g2 := w
          obtain ⟨hcg2, hug2⟩ := cls_row2 G hcg (i := 10) (k := 8) (by decide) (by decide) (by decide) hk1 hk2 hk3
          have hrL : rowIs cI rx ry g2 (ra 9) (hullF (S z.toNat)) := by have h9 := hcg2.2.2.1 9 (by decide); rw [su_n (by decide), su_n (by decide), su_s] at h9; exact h9
          refine lv_aload_n hx hb d_H_fillSums_73 rfl (lv_at hl 2 rfl) ?_
          refine gk_get X w G.1.1 hcg2.1 rfl in_H 7 (by decide) lk_H_26 rfl d_H_fillSums_74 ?_
          refine lv_aload_n hx hb d_H_fillSums_77 rfl (lv_at hl 2 rfl) ?_
          refine gk_get X w G.1.1 hcg2.1 rfl in_H 5 (by decide) lk_H_20 rfl d_H_fillSums_78 ?_
          refine lv_aload_n hx hb d_H_fillSums_81 rfl (lv_at hl 2 rfl) ?_
          refine gk_get X w G.1.1 hcg2.1 rfl in_H 6 (by decide) lk_H_23 rfl d_H_fillSums_82 ?_
          refine g_cv w (g_runV (As := [.ref (ra 9), .ref (ra 10)]) (rest := []) X w (c_R_becomeSums l (G.2.2.1 11 (by decide)) (G.2.2.1 9 (by decide)) (G.2.2.1 10 (by decide)) (G.2.2.2.1 11 9 (by decide) (by decide) (by decide)) (G.2.2.2.1 11 10 (by decide) (by decide) (by decide)) (hcg2.2.2.1 11 (by decide)) hrL hk1 (pb_of (by decide) (pbl_le (by decide) (pbl_hull (hok z.toNat (by omega)).2))) (pb_of (by decide) (pbl_le (by decide) (pbl_hull (pbl_sgm hsg (hok z2.toNat (by omega)).2)))) (hHL z.toNat (by omega)).1 (hHL z2.toNat (by omega)).2) k_R_becomeSums v_R_becomeSums lk_H_178 (G.2.2.1 11 (by decide)).1 (hcg2.2.2.1 11 (by decide)).2.1 rfl ⟨(Nat.le_of_ble_eq_true rfl), (Nat.le_of_ble_eq_true rfl)⟩ rfl hl.1 rfl (Nat.le_of_ble_eq_true rfl) d_H_fillSums_85 ⟨(Nat.le_of_ble_eq_true rfl), (Nat.le_of_ble_eq_true rfl)⟩) (fun u H locs hp w => ?_)
          obtain ⟨g3, rfl, hm1, hm2⟩ := hp
          have w : gw D (gA L sz) s.heap H locs L g3 := w
          obtain ⟨hcg3, hug3⟩ := cls_row G hcg2 (i := 11) (by decide) hm1 hm2
          refine lv_iconst (v := iN (0)) hx hb d_H_fillSums_88 (by decide) ?_
          have hA : flA K S z z2 = 0 := by unfold flA; rw [if_pos ⟨hz1, hz2⟩, if_neg (by omega)]
          refine g_iret X w hrt hlk d_H_fillSums_89 ⟨by rw [hA], g3, _, rfl, hcg3, fun j hj => ?_, unch_tr (unch_tr hug hug2) hug3, fun _ => ⟨?_, ?_, ?_⟩⟩
          · rw [su_n (by omega), su_n (by omega), su_n (by omega), su_n (by omega), su_n (by omega)]
          · rw [su_n (by decide), su_n (by decide), su_n (by decide), su_s]
          · rw [su_n (by decide), su_s]
          · rw [su_s]
        · skip
          refine lv_bipush (v := iN (-3)) hx hb d_H_fillSums_42 (by decide) ?_
          have hA : flA K S z z2 = -3 := by unfold flA; rw [if_pos ⟨hz1, hz2⟩, if_pos (by omega)]
          exact g_iret X w hrt hlk d_H_fillSums_44 ⟨by rw [hA], ⟨f, S, rfl, hc, fun _ _ => rfl, unch_rf, fun h9 => absurd h9 (by rw [hA]; decide)⟩⟩
    · skip
      rw [if_neg hz2] at hr9
      subst hr9
      refine lv_astoreN (lv' := [(5, .null), (4, .ref (ra z.toNat)), (0, .ref h), (1, .int (iN (z))), (2, .int (iN (z2))), (3, .int (iN (sg)))]) hx hb d_H_fillSums_12 hl (by decide) rfl (fun ls hl => ?_)
      refine lv_aload hx hb d_H_fillSums_14 (lv_at hl 1 rfl) ?_
      refine lv_ifnull hx hb d_H_fillSums_16 ?_
      refine lv_aloadN hx hb d_H_fillSums_19 (lv_at hl 0 rfl) ?_
      refine lv_ifnonnullN hx hb d_H_fillSums_21 ?_
      refine lv_iconst (v := iN (-1)) hx hb d_H_fillSums_24 (by decide) ?_
      have hA : flA K S z z2 = -1 := by unfold flA; rw [if_neg (fun q => hz2 q.2)]
      exact g_iret X w hrt hlk d_H_fillSums_25 ⟨by rw [hA], ⟨f, S, rfl, hc, fun _ _ => rfl, unch_rf, fun h9 => absurd h9 (by rw [hA]; decide)⟩⟩
  · skip
    rw [if_neg hz1] at hr9
    subst hr9
    refine lv_astoreN (lv' := [(4, .null), (0, .ref h), (1, .int (iN (z))), (2, .int (iN (z2))), (3, .int (iN (sg)))]) hx hb d_H_fillSums_5 hl (by decide) rfl (fun ls hl => ?_)
    refine lv_aload_n hx hb d_H_fillSums_7 rfl (lv_at hl 1 rfl) ?_
    refine lv_iload_n hx hb d_H_fillSums_8 rfl (lv_at hl 3 rfl) ?_
    refine g_cq w (g_runV (As := [.int (iN (z2))]) (rest := []) X w (c_H_rowOf l G hc (z := z2) hz2) k_H_rowOf v_H_rowOf lk_H_58 G.1.1 hc.1 rfl ⟨(Nat.le_of_ble_eq_true rfl), (Nat.le_of_ble_eq_true rfl)⟩ rfl hl.1 rfl (Nat.le_of_ble_eq_true rfl) d_H_fillSums_9 ⟨(Nat.le_of_ble_eq_true rfl), (Nat.le_of_ble_eq_true rfl)⟩) (fun r u H locs hp w => ?_)
    obtain ⟨hr9, rfl⟩ := hp
    have w : gw D (gA L sz) s.heap H locs L f := w
    by_cases hz3 : 0 ≤ z2 ∧ z2 < K
    · skip
      rw [if_pos hz3] at hr9
      subst hr9
      have hz38 : z2.toNat < 8 := by have := hc.2.2.2.2.2; omega
      have hBhz3 : pb 600 (S z2.toNat) := pb_of (by decide) (pbl_le (by decide) (hok _ (by omega)).2)
      have hlhz3 := (hok z2.toNat (by omega)).1
      refine lv_astore (lv' := [(5, .ref (ra z2.toNat)), (4, .null), (0, .ref h), (1, .int (iN (z))), (2, .int (iN (z2))), (3, .int (iN (sg)))]) hx hb d_H_fillSums_12 hl (by decide) rfl (fun ls hl => ?_)
      refine lv_aloadN hx hb d_H_fillSums_14 (lv_at hl 1 rfl) ?_
      refine lv_ifnullN (tgt := 24) hx hb d_H_fillSums_16 (by decide) ?_
      refine lv_iconst (v := iN (-1)) hx hb d_H_fillSums_24 (by decide) ?_
      have hA : flA K S z z2 = -1 := by unfold flA; rw [if_neg (fun q => hz1 q.1)]
      exact g_iret X w hrt hlk d_H_fillSums_25 ⟨by rw [hA], ⟨f, S, rfl, hc, fun _ _ => rfl, unch_rf, fun h9 => absurd h9 (by rw [hA]; decide)⟩⟩
    · skip
      rw [if_neg hz3] at hr9
      subst hr9
      refine lv_astoreN (lv' := [(5, .null), (4, .null), (0, .ref h), (1, .int (iN (z))), (2, .int (iN (z2))), (3, .int (iN (sg)))]) hx hb d_H_fillSums_12 hl (by decide) rfl (fun ls hl => ?_)
      refine lv_aloadN hx hb d_H_fillSums_14 (lv_at hl 1 rfl) ?_
      refine lv_ifnullN (tgt := 24) hx hb d_H_fillSums_16 (by decide) ?_
      refine lv_iconst (v := iN (-1)) hx hb d_H_fillSums_24 (by decide) ?_
      have hA : flA K S z z2 = -1 := by unfold flA; rw [if_neg (fun q => hz1 q.1)]
      exact g_iret X w hrt hlk d_H_fillSums_25 ⟨by rw [hA], ⟨f, S, rfl, hc, fun _ _ => rfl, unch_rf, fun h9 => absurd h9 (by rw [hA]; decide)⟩⟩
