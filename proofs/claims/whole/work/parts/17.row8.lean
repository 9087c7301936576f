/-! ROWS: becomeSums, the sides of two rows by their direction -/
theorem ordS_b {P S : List Pt} (h : pb 600 P) (h2 : pb 600 S) (i j : Int) : -3000000 ≤ ordS P i S j ∧ ordS P i S j ≤ 3000000 := by
  have a := h i; have b := h (nx P i); have c := h2 j; have d := h2 (nx S j)
  have q1 := mbc (a := sX S j) (b := sY P i) 1200 1200 1440000 (by unfold sX; omega) (by unfold sX; omega) (by unfold sY; omega) (by unfold sY; omega) (by decide)
  have q2 := mbc (a := sY S j) (b := sX P i) 1200 1200 1440000 (by unfold sY; omega) (by unfold sY; omega) (by unfold sX; omega) (by unfold sX; omega) (by decide)
  unfold ordS
  split
  · omega
  · split
    · omega
    · split
      · split <;> omega
      · omega
theorem ordS_le {P S : List Pt} {i j : Int} (h : ordS P i S j ≤ 0) : i < sd P := by
  unfold ordS at h
  split at h
  · omega
  · omega
theorem ordS_ge {P S : List Pt} {i j : Int} (h : 0 ≤ ordS P i S j) (hij : i + j < sd P + sd S) : j < sd S := by
  unfold ordS at h
  split at h
  · omega
  · split at h
    · omega
    · omega
/-- the walk: i, j sides are gone, x, y is the place, out what is laid -/
noncomputable def mrgF (P S : List Pt) : Nat → Int → Int → Int → Int → List Pt → List Pt
  | 0, _, _, _, _, out => out
  | n + 1, i, j, x, y, out =>
    if i + j < sd P + sd S then
      (let o := ordS P i S j
       let i' := if o ≤ 0 then i + 1 else i
       let x' := if o ≤ 0 then x + sX P i else x
       let y' := if o ≤ 0 then y + sY P i else y
       let j' := if 0 ≤ o then j + 1 else j
       let x2 := if 0 ≤ o then x' + sX S j else x'
       let y2 := if 0 ≤ o then y' + sY S j else y'
       mrgF P S n i' j' x2 y2 (if i' + j' < sd P + sd S then out ++ [(x2, y2)] else out))
    else out
noncomputable def sumF (P S : List Pt) : List Pt := mrgF P S (sd P + sd S).toNat 0 0 (pX P 0 + pX S 0) (pY P 0 + pY S 0) [(pX P 0 + pX S 0, pY P 0 + pY S 0)]
theorem mrg_e {P S : List Pt} {n : Nat} {i j x y : Int} {out : List Pt} (h : n = 0 ∨ ¬ i + j < sd P + sd S) : mrgF P S n i j x y out = out := by
  rcases h with rfl | h
  · rfl
  · cases n with
    | zero => rfl
    | succ n => unfold mrgF; rw [if_neg h]
theorem mrg_s {P S : List Pt} {n : Nat} {i j x y : Int} {out : List Pt} (h : i + j < sd P + sd S) (i' j' x2 y2 : Int) (hi : i' = if ordS P i S j ≤ 0 then i + 1 else i) (hj : j' = if 0 ≤ ordS P i S j then j + 1 else j)
    (hx : x2 = if 0 ≤ ordS P i S j then (if ordS P i S j ≤ 0 then x + sX P i else x) + sX S j else (if ordS P i S j ≤ 0 then x + sX P i else x)) (hy : y2 = if 0 ≤ ordS P i S j then (if ordS P i S j ≤ 0 then y + sY P i else y) + sY S j else (if ordS P i S j ≤ 0 then y + sY P i else y)) :
    mrgF P S (n + 1) i j x y out = mrgF P S n i' j' x2 y2 (if i' + j' < sd P + sd S then out ++ [(x2, y2)] else out) := by
  conv => lhs; unfold mrgF
  rw [if_pos h, hi, hj, hx, hy]

set_option maxHeartbeats 4000000 in
set_option maxRecDepth 100000 in
theorem c_R_becomeSums (l : Launch) {D : va_G} {cI cR : ClassId} {L : List Nat} {f : Nat → va_E} {rx ry : Nat → Nat} {a b c : Nat} {A P S : List Pt} (hoa : ro L rx ry a) (hob : ro L rx ry b) (hoc : ro L rx ry c) (hab : rd rx ry a b) (hac : rd rx ry a c) (hra : rowIs cI rx ry f a A) (hrb : rowIs cI rx ry f b P) (hrc : rowIs cI rx ry f c S) (hP : pb 600 P) (hS : pb 600 S) (hP24 : P.length ≤ 24) (hS24 : S.length ≤ 24) : gMv D cI cR l y_R_becomeSums (Cond.code y_R_becomeSums b_R_becomeSums 10 none :: lw_g) { frames := 3, cells := 0, slots := 0, locals := 66 } [.ref a, .ref b, .ref c] L f (fun u => ∃ g, u = (L, g) ∧ rowIs cI rx ry g a (sumF P S) ∧ chg rx ry a f g) := by
  intro sz
  refine g_enter (by decide) rfl (Nat.le_of_ble_eq_true rfl) ?_
  intro p e s m below meth cd ls X hrt hlk hnm hl hsz w
  have X : gx p m cd b_R_becomeSums 10 s _ "HullSums$Row" D cI cR := X
  have hx := X.1.1
  have hb := X.1.2.1
  have hl : lv_has ls 10 [(0, .ref a), (1, .ref b), (2, .ref c)] := hl
  have hsP : sd P ≤ 24 ∧ 0 ≤ sd P := by unfold sd; split <;> omega
  have hsS : sd S ≤ 24 ∧ 0 ≤ sd S := by unfold sd; split <;> omega
  refine lv_aload_n hx hb d_R_becomeSums_0 rfl (lv_at hl 0 rfl) ?_
  refine g_cv w (g_runV (As := []) (rest := []) X w (c_R_empty l hoa hra) k_R_empty v_R_empty lk_R_33 hoa.1 hra.2.1 rfl ⟨(Nat.le_of_ble_eq_true rfl), (Nat.le_of_ble_eq_true rfl)⟩ rfl hl.1 rfl (Nat.le_of_ble_eq_true rfl) d_R_becomeSums_1 ⟨(Nat.le_of_ble_eq_true rfl), (Nat.le_of_ble_eq_true rfl)⟩) (fun u H locs hp w => ?_)
  obtain ⟨g1x, rfl, hn1, hk1⟩ := hp
  have w : gw D (gA L sz) s.heap H locs L g1x := w
  have hb1 := rowIs_keep hab.symm hk1 hrb
  have hc1 := rowIs_keep hac.symm hk1 hrc
  refine lv_aload_n hx hb d_R_becomeSums_4 rfl (lv_at hl 1 rfl) ?_
  refine lv_iconst (v := iN (0)) hx hb d_R_becomeSums_5 (by decide) ?_
  refine g_ci w (g_runV (As := [.int (iN (0))]) (rest := []) X w (c_R_x l hob hb1 (by unfold i3; omega)) k_R_x v_R_x lk_R_22 hob.1 hb1.2.1 rfl ⟨(Nat.le_of_ble_eq_true rfl), (Nat.le_of_ble_eq_true rfl)⟩ rfl hl.1 rfl (Nat.le_of_ble_eq_true rfl) d_R_becomeSums_6 ⟨Nat.zero_le _, Nat.zero_le _⟩) (fun r u H locs hp w => ?_)
  obtain ⟨rfl, rfl⟩ := hp
  have w : gw D (gA L sz) s.heap H locs L g1x := w
  refine lv_aload_n hx hb d_R_becomeSums_9 rfl (lv_at hl 2 rfl) ?_
  refine lv_iconst (v := iN (0)) hx hb d_R_becomeSums_10 (by decide) ?_
  refine g_ci w (g_runV (As := [.int (iN (0))]) (rest := [.int (iN ((pX P 0)))]) X w (c_R_x l hoc hc1 (by unfold i3; omega)) k_R_x v_R_x lk_R_22 hoc.1 hc1.2.1 rfl ⟨(Nat.le_of_ble_eq_true rfl), (Nat.le_of_ble_eq_true rfl)⟩ rfl hl.1 rfl (Nat.le_of_ble_eq_true rfl) d_R_becomeSums_11 ⟨Nat.zero_le _, Nat.zero_le _⟩) (fun r u H locs hp w => ?_)
  obtain ⟨rfl, rfl⟩ := hp
  have w : gw D (gA L sz) s.heap H locs L g1x := w
  refine ri_add (a := (pX P 0)) (b := (pX S 0)) hx hb d_R_becomeSums_14 rfl rfl ?_
  refine lv_istore_n (lv' := [(3, .int (iN (((pX P 0) + (pX S 0))))), (0, .ref a), (1, .ref b), (2, .ref c)]) hx hb d_R_becomeSums_15 rfl hl (by decide) rfl (fun ls hl => ?_)
  refine lv_aload_n hx hb d_R_becomeSums_16 rfl (lv_at hl 2 rfl) ?_
  refine lv_iconst (v := iN (0)) hx hb d_R_becomeSums_17 (by decide) ?_
  refine g_ci w (g_runV (As := [.int (iN (0))]) (rest := []) X w (c_R_y l hob hb1 (by unfold i3; omega)) k_R_y v_R_y lk_R_26 hob.1 hb1.2.1 rfl ⟨(Nat.le_of_ble_eq_true rfl), (Nat.le_of_ble_eq_true rfl)⟩ rfl hl.1 rfl (Nat.le_of_ble_eq_true rfl) d_R_becomeSums_18 ⟨Nat.zero_le _, Nat.zero_le _⟩) (fun r u H locs hp w => ?_)
  obtain ⟨rfl, rfl⟩ := hp
  have w : gw D (gA L sz) s.heap H locs L g1x := w
  refine lv_aload_n hx hb d_R_becomeSums_21 rfl (lv_at hl 3 rfl) ?_
  refine lv_iconst (v := iN (0)) hx hb d_R_becomeSums_22 (by decide) ?_
  refine g_ci w (g_runV (As := [.int (iN (0))]) (rest := [.int (iN ((pY P 0)))]) X w (c_R_y l hoc hc1 (by unfold i3; omega)) k_R_y v_R_y lk_R_26 hoc.1 hc1.2.1 rfl ⟨(Nat.le_of_ble_eq_true rfl), (Nat.le_of_ble_eq_true rfl)⟩ rfl hl.1 rfl (Nat.le_of_ble_eq_true rfl) d_R_becomeSums_23 ⟨Nat.zero_le _, Nat.zero_le _⟩) (fun r u H locs hp w => ?_)
  obtain ⟨rfl, rfl⟩ := hp
  have w : gw D (gA L sz) s.heap H locs L g1x := w
  refine ri_add (a := (pY P 0)) (b := (pY S 0)) hx hb d_R_becomeSums_26 rfl rfl ?_
  refine lv_istore (lv' := [(4, .int (iN (((pY P 0) + (pY S 0))))), (3, .int (iN (((pX P 0) + (pX S 0))))), (0, .ref a), (1, .ref b), (2, .ref c)]) hx hb d_R_becomeSums_27 hl (by decide) rfl (fun ls hl => ?_)
  refine lv_iconst (v := iN (0)) hx hb d_R_becomeSums_29 (by decide) ?_
  refine lv_istore (lv' := [(5, .int (iN (0))), (4, .int (iN (((pY P 0) + (pY S 0))))), (3, .int (iN (((pX P 0) + (pX S 0))))), (0, .ref a), (1, .ref b), (2, .ref c)]) hx hb d_R_becomeSums_30 hl (by decide) rfl (fun ls hl => ?_)
  refine lv_iconst (v := iN (0)) hx hb d_R_becomeSums_32 (by decide) ?_
  refine lv_istore (lv' := [(6, .int (iN (0))), (5, .int (iN (0))), (4, .int (iN (((pY P 0) + (pY S 0))))), (3, .int (iN (((pX P 0) + (pX S 0))))), (0, .ref a), (1, .ref b), (2, .ref c)]) hx hb d_R_becomeSums_33 hl (by decide) rfl (fun ls hl => ?_)
  refine lv_aload_n hx hb d_R_becomeSums_35 rfl (lv_at hl 5 rfl) ?_
  refine g_ci w (g_runV (As := []) (rest := []) X w (c_R_sides l hob hb1) k_R_sides v_R_sides lk_R_88 hob.1 hb1.2.1 rfl ⟨(Nat.le_of_ble_eq_true rfl), (Nat.le_of_ble_eq_true rfl)⟩ rfl hl.1 rfl (Nat.le_of_ble_eq_true rfl) d_R_becomeSums_36 ⟨Nat.zero_le _, Nat.zero_le _⟩) (fun r u H locs hp w => ?_)
  obtain ⟨rfl, rfl⟩ := hp
  have w : gw D (gA L sz) s.heap H locs L g1x := w
  refine lv_aload_n hx hb d_R_becomeSums_39 rfl (lv_at hl 6 rfl) ?_
  refine g_ci w (g_runV (As := []) (rest := [.int (iN ((sd P)))]) X w (c_R_sides l hoc hc1) k_R_sides v_R_sides lk_R_88 hoc.1 hc1.2.1 rfl ⟨(Nat.le_of_ble_eq_true rfl), (Nat.le_of_ble_eq_true rfl)⟩ rfl hl.1 rfl (Nat.le_of_ble_eq_true rfl) d_R_becomeSums_40 ⟨Nat.zero_le _, Nat.zero_le _⟩) (fun r u H locs hp w => ?_)
  obtain ⟨rfl, rfl⟩ := hp
  have w : gw D (gA L sz) s.heap H locs L g1x := w
  refine ri_add (a := (sd P)) (b := (sd S)) hx hb d_R_becomeSums_43 rfl rfl ?_
  refine lv_istore (lv' := [(7, .int (iN (((sd P) + (sd S))))), (6, .int (iN (0))), (5, .int (iN (0))), (4, .int (iN (((pY P 0) + (pY S 0))))), (3, .int (iN (((pX P 0) + (pX S 0))))), (0, .ref a), (1, .ref b), (2, .ref c)]) hx hb d_R_becomeSums_44 hl (by decide) rfl (fun ls hl => ?_)
  refine lv_aload_n hx hb d_R_becomeSums_46 rfl (lv_at hl 5 rfl) ?_
  refine lv_iload_n hx hb d_R_becomeSums_47 rfl (lv_at hl 4 rfl) ?_
  refine lv_iload hx hb d_R_becomeSums_48 (lv_at hl 3 rfl) ?_
  refine g_cv w (g_runV (As := [.int (iN (((pX P 0) + (pX S 0)))), .int (iN (((pY P 0) + (pY S 0))))]) (rest := []) X w (c_R_add l hoa hn1 (by decide) (x := ((pX P 0) + (pX S 0))) (y := ((pY P 0) + (pY S 0)))) k_R_add v_R_add lk_R_54 hoa.1 hn1.2.1 rfl ⟨(Nat.le_of_ble_eq_true rfl), (Nat.le_of_ble_eq_true rfl)⟩ rfl hl.1 rfl (Nat.le_of_ble_eq_true rfl) d_R_becomeSums_50 ⟨(Nat.le_of_ble_eq_true rfl), (Nat.le_of_ble_eq_true rfl)⟩) (fun u H locs hp w => ?_)
  obtain ⟨g2x, rfl, hn2, hk2⟩ := hp
  have w : gw D (gA L sz) s.heap H locs L g2x := w
  have hb2 := rowIs_keep hab.symm hk2 hb1
  have hc2 := rowIs_keep hac.symm hk2 hc1
  refine lv_iconst (v := iN (0)) hx hb d_R_becomeSums_53 (by decide) ?_
  refine lv_istore (lv' := [(8, .int (iN (0))), (7, .int (iN (((sd P) + (sd S))))), (6, .int (iN (0))), (5, .int (iN (0))), (4, .int (iN (((pY P 0) + (pY S 0))))), (3, .int (iN (((pX P 0) + (pX S 0))))), (0, .ref a), (1, .ref b), (2, .ref c)]) hx hb d_R_becomeSums_54 hl (by decide) rfl (fun ls hl => ?_)
  refine g_loop (σ := Int × Int × Int × Int × Int × List Pt × (Nat → va_E)) (fun z9 => ((sd P + sd S) - z9.1).toNat) (fun z9 => [(0, .ref a), (1, .ref b), (2, .ref c), (3, .int (iN (z9.2.2.2.1))), (4, .int (iN (z9.2.2.2.2.1))), (5, .int (iN (z9.2.1))), (6, .int (iN (z9.2.2.1))), (7, .int (iN ((sd P + sd S)))), (8, .int (iN (z9.1)))]) L (fun z9 => z9.2.2.2.2.2.2) (fun z9 => 0 ≤ z9.1 ∧ z9.1 ≤ (sd P + sd S) ∧ 0 ≤ z9.2.1 ∧ z9.2.1 ≤ sd P ∧ 0 ≤ z9.2.2.1 ∧ z9.2.2.1 ≤ sd S ∧ (z9.2.2.2.2.2.1.length : Int) ≤ z9.2.1 + z9.2.2.1 + 1 ∧ z9.1 ≤ z9.2.1 + z9.2.2.1 ∧ sumF P S = mrgF P S ((sd P + sd S) - z9.1).toNat z9.2.1 z9.2.2.1 z9.2.2.2.1 z9.2.2.2.2.1 z9.2.2.2.2.2.1 ∧ rowIs cI rx ry z9.2.2.2.2.2.2 a z9.2.2.2.2.2.1 ∧ rowIs cI rx ry z9.2.2.2.2.2.2 b P ∧ rowIs cI rx ry z9.2.2.2.2.2.2 c S ∧ chg rx ry a f z9.2.2.2.2.2.2) ?_ (0, 0, 0, (pX P 0 + pX S 0), (pY P 0 + pY S 0), ([] ++ [(pX P 0 + pX S 0, pY P 0 + pY S 0)]), g2x) _ _ _ ⟨by (try dsimp only); omega, by (try dsimp only); omega, by (try dsimp only); omega, by (try dsimp only); omega, by (try dsimp only); omega, by (try dsimp only); omega, by simp, by (try dsimp only); omega, by simp [sumF], hn2, hb2, hc2, chg_trans hk1 hk2⟩ w (lv_sub hl [6, 7, 8, 5, 4, 3, 2, 1, 0] rfl)
  intro z9 H locs ls hI w hl ih
  obtain ⟨t, i, j, x, y, out, g⟩ := z9
  have hl : lv_has ls 10 [(0, .ref a), (1, .ref b), (2, .ref c), (3, .int (iN (x))), (4, .int (iN (y))), (5, .int (iN (i))), (6, .int (iN (j))), (7, .int (iN ((sd P + sd S)))), (8, .int (iN (t)))] := hl
  have w : gw D (gA L sz) s.heap H locs L (g) := w
  have hI : 0 ≤ t ∧ t ≤ (sd P + sd S) ∧ 0 ≤ i ∧ i ≤ sd P ∧ 0 ≤ j ∧ j ≤ sd S ∧ (out.length : Int) ≤ i + j + 1 ∧ t ≤ i + j ∧ sumF P S = mrgF P S ((sd P + sd S) - t).toNat i j x y out ∧ rowIs cI rx ry g a out ∧ rowIs cI rx ry g b P ∧ rowIs cI rx ry g c S ∧ chg rx ry a f g := hI
  obtain ⟨h0, h1, h2, h3, h4, h5, h6, h7, h8, ha, hb9, hc, hch⟩ := hI
  refine lv_iload hx hb d_R_becomeSums_56 (lv_at hl 8 rfl) ?_
  refine lv_iload hx hb d_R_becomeSums_58 (lv_at hl 7 rfl) ?_
  refine ri_cge (a := t) (b := (sd P + sd S)) (tgt := 163) hx hb d_R_becomeSums_60 (by decide) rfl rfl (by unfold i3; omega) (by unfold i3; omega) (fun c60 => ?_) (fun c60 => ?_)
  · skip
    exact g_vret X w hrt hlk d_R_becomeSums_163 ⟨g, rfl, by rw [h8, mrg_e (by omega)]; exact ha, hch⟩
  · skip
    refine lv_iload hx hb d_R_becomeSums_63 (lv_at hl 5 rfl) ?_
    refine lv_iload hx hb d_R_becomeSums_65 (lv_at hl 6 rfl) ?_
    refine ri_add (a := i) (b := j) hx hb d_R_becomeSums_67 rfl rfl ?_
    refine lv_iload hx hb d_R_becomeSums_68 (lv_at hl 7 rfl) ?_
    refine ri_cge (a := (i + j)) (b := (sd P + sd S)) (tgt := 163) hx hb d_R_becomeSums_70 (by decide) rfl rfl (by unfold i3; omega) (by unfold i3; omega) (fun c70 => ?_) (fun c70 => ?_)
    · skip
      exact g_vret X w hrt hlk d_R_becomeSums_163 ⟨g, rfl, by rw [h8, mrg_e (by omega)]; exact ha, hch⟩
    · skip
      refine lv_aload_n hx hb d_R_becomeSums_73 rfl (lv_at hl 1 rfl) ?_
      refine lv_iload hx hb d_R_becomeSums_74 (lv_at hl 5 rfl) ?_
      refine lv_aload_n hx hb d_R_becomeSums_76 rfl (lv_at hl 2 rfl) ?_
      refine lv_iload hx hb d_R_becomeSums_77 (lv_at hl 6 rfl) ?_
      refine g_ci w (g_runS (As := [.ref b, .int (iN (i)), .ref c, .int (iN (j))]) (rest := []) X w (c_R_orderOfSides l hob hb9 hoc hc hP hS (by omega) (by omega)) k_R_orderOfSides lk_R_101 st_R_orderOfSides ⟨(Nat.le_of_ble_eq_true rfl), (Nat.le_of_ble_eq_true rfl)⟩ rfl hl.1 rfl (Nat.le_of_ble_eq_true rfl) d_R_becomeSums_79 ⟨Nat.zero_le _, Nat.zero_le _⟩) (fun r u H locs hp w => ?_)
      obtain ⟨rfl, rfl⟩ := hp
      have w : gw D (gA L sz) s.heap H locs L g := w
      refine lv_istore (lv' := [(9, .int (iN ((ordS P i S j)))), (0, .ref a), (1, .ref b), (2, .ref c), (3, .int (iN (x))), (4, .int (iN (y))), (5, .int (iN (i))), (6, .int (iN (j))), (7, .int (iN ((sd P + sd S)))), (8, .int (iN (t)))]) hx hb d_R_becomeSums_82 hl (by decide) rfl (fun ls hl => ?_)
      refine lv_iload hx hb d_R_becomeSums_84 (lv_at hl 0 rfl) ?_
      refine ri_zgt (a := (ordS P i S j)) (tgt := 112) hx hb d_R_becomeSums_86 (by decide) rfl (by have := ordS_b hP hS i j; unfold i3; omega) (fun c86 => ?_) (fun c86 => ?_)
      · skip
        refine lv_iload hx hb d_R_becomeSums_112 (lv_at hl 0 rfl) ?_
        refine ri_zlt (a := (ordS P i S j)) (tgt := 140) hx hb d_R_becomeSums_114 (by decide) rfl (by have := ordS_b hP hS i j; unfold i3; omega) (fun c114 => ?_) (fun c114 => ?_)
        · skip
          refine lv_iload hx hb d_R_becomeSums_140 (lv_at hl 6 rfl) ?_
          refine lv_iload hx hb d_R_becomeSums_142 (lv_at hl 7 rfl) ?_
          refine ri_add (a := i) (b := j) hx hb d_R_becomeSums_144 rfl rfl ?_
          refine lv_iload hx hb d_R_becomeSums_145 (lv_at hl 8 rfl) ?_
          refine ri_cge (a := (i + j)) (b := (sd P + sd S)) (tgt := 157) hx hb d_R_becomeSums_147 (by decide) rfl rfl (by unfold i3; omega) (by unfold i3; omega) (fun c147 => ?_) (fun c147 => ?_)
          · skip
            refine lv_iinc (v := iN ((t + 1))) (lv' := [(8, .int (iN ((t + 1)))), (9, .int (iN ((ordS P i S j)))), (0, .ref a), (1, .ref b), (2, .ref c), (3, .int (iN (x))), (4, .int (iN (y))), (5, .int (iN (i))), (6, .int (iN (j))), (7, .int (iN ((sd P + sd S))))]) hx hb d_R_becomeSums_157 hl (k := 9) rfl (by rw [show (t + 1) = t + (1 : Int) by omega, ← iN_add]; rfl) (by decide) rfl (fun ls hl => ?_)
            refine lv_goto (tgt := 56) hx hb d_R_becomeSums_160 (by decide) ?_
            have e1 : (ordS P i S j ≤ 0) = False := by exact eq_false (by omega)
            have e2 : (0 ≤ ordS P i S j) = False := by exact eq_false (by omega)
            have hI' : 0 ≤ (t + 1) ∧ (t + 1) ≤ (sd P + sd S) ∧ 0 ≤ i ∧ i ≤ sd P ∧ 0 ≤ j ∧ j ≤ sd S ∧ (out.length : Int) ≤ i + j + 1 ∧ (t + 1) ≤ i + j ∧ sumF P S = mrgF P S ((sd P + sd S) - (t + 1)).toNat i j x y out ∧ rowIs cI rx ry g a out ∧ rowIs cI rx ry g b P ∧ rowIs cI rx ry g c S ∧ chg rx ry a f g := ⟨by omega, by omega, by omega, by omega, by omega, by omega, by omega, by omega, by rw [h8, show (sd P + sd S - t).toNat = (sd P + sd S - (t + 1)).toNat + 1 by omega, mrg_s (by omega) i j x y (by simp only [e1, e2, if_true, if_false]) (by simp only [e1, e2, if_true, if_false]) (by simp only [e1, e2, if_true, if_false]) (by simp only [e1, e2, if_true, if_false]), if_neg (by omega)], ha, hb9, hc, hch⟩
            exact ih ((t + 1), i, j, x, y, out, g) _ _ _ (by omega) hI' w (lv_sub hl [2, 3, 4, 5, 6, 7, 8, 9, 0] rfl)
          · skip
            refine lv_aload_n hx hb d_R_becomeSums_150 rfl (lv_at hl 1 rfl) ?_
            refine lv_iload_n hx hb d_R_becomeSums_151 rfl (lv_at hl 4 rfl) ?_
            refine lv_iload hx hb d_R_becomeSums_152 (lv_at hl 5 rfl) ?_
            refine g_cv w (g_runV (As := [.int (iN (x)), .int (iN (y))]) (rest := []) X w (c_R_add l hoa ha (by omega) (x := x) (y := y)) k_R_add v_R_add lk_R_54 hoa.1 ha.2.1 rfl ⟨(Nat.le_of_ble_eq_true rfl), (Nat.le_of_ble_eq_true rfl)⟩ rfl hl.1 rfl (Nat.le_of_ble_eq_true rfl) d_R_becomeSums_154 ⟨(Nat.le_of_ble_eq_true rfl), (Nat.le_of_ble_eq_true rfl)⟩) (fun u H locs hp w => ?_)
            obtain ⟨g3x, rfl, hn3, hk3⟩ := hp
            have w : gw D (gA L sz) s.heap H locs L g3x := w
            have hb3 := rowIs_keep hab.symm hk3 hb9
            have hc3 := rowIs_keep hac.symm hk3 hc
            refine lv_iinc (v := iN ((t + 1))) (lv' := [(8, .int (iN ((t + 1)))), (9, .int (iN ((ordS P i S j)))), (0, .ref a), (1, .ref b), (2, .ref c), (3, .int (iN (x))), (4, .int (iN (y))), (5, .int (iN (i))), (6, .int (iN (j))), (7, .int (iN ((sd P + sd S))))]) hx hb d_R_becomeSums_157 hl (k := 9) rfl (by rw [show (t + 1) = t + (1 : Int) by omega, ← iN_add]; rfl) (by decide) rfl (fun ls hl => ?_)
            refine lv_goto (tgt := 56) hx hb d_R_becomeSums_160 (by decide) ?_
            have e1 : (ordS P i S j ≤ 0) = False := by exact eq_false (by omega)
            have e2 : (0 ≤ ordS P i S j) = False := by exact eq_false (by omega)
            have hI' : 0 ≤ (t + 1) ∧ (t + 1) ≤ (sd P + sd S) ∧ 0 ≤ i ∧ i ≤ sd P ∧ 0 ≤ j ∧ j ≤ sd S ∧ ((out ++ [(x, y)]).length : Int) ≤ i + j + 1 ∧ (t + 1) ≤ i + j ∧ sumF P S = mrgF P S ((sd P + sd S) - (t + 1)).toNat i j x y (out ++ [(x, y)]) ∧ rowIs cI rx ry g3x a (out ++ [(x, y)]) ∧ rowIs cI rx ry g3x b P ∧ rowIs cI rx ry g3x c S ∧ chg rx ry a f g3x := ⟨by omega, by omega, by omega, by omega, by omega, by omega, by simp; omega, by omega, by rw [h8, show (sd P + sd S - t).toNat = (sd P + sd S - (t + 1)).toNat + 1 by omega, mrg_s (by omega) i j x y (by simp only [e1, e2, if_true, if_false]) (by simp only [e1, e2, if_true, if_false]) (by simp only [e1, e2, if_true, if_false]) (by simp only [e1, e2, if_true, if_false]), if_pos (by omega)], hn3, hb3, hc3, chg_trans hch hk3⟩
            exact ih ((t + 1), i, j, x, y, (out ++ [(x, y)]), g3x) _ _ _ (by omega) hI' w (lv_sub hl [2, 3, 4, 5, 6, 7, 8, 9, 0] rfl)
        · skip
          refine lv_iload_n hx hb d_R_becomeSums_117 rfl (lv_at hl 4 rfl) ?_
          refine lv_aload_n hx hb d_R_becomeSums_118 rfl (lv_at hl 3 rfl) ?_
          refine lv_iload hx hb d_R_becomeSums_119 (lv_at hl 7 rfl) ?_
          refine g_ci w (g_runV (As := [.int (iN (j))]) (rest := [.int (iN (x))]) X w (c_R_sideX l hoc hc (by omega)) k_R_sideX v_R_sideX lk_R_73 hoc.1 hc.2.1 rfl ⟨(Nat.le_of_ble_eq_true rfl), (Nat.le_of_ble_eq_true rfl)⟩ rfl hl.1 rfl (Nat.le_of_ble_eq_true rfl) d_R_becomeSums_121 ⟨Nat.zero_le _, Nat.zero_le _⟩) (fun r u H locs hp w => ?_)
          obtain ⟨rfl, rfl⟩ := hp
          have w : gw D (gA L sz) s.heap H locs L g := w
          refine ri_add (a := x) (b := (sX S j)) hx hb d_R_becomeSums_124 rfl rfl ?_
          refine lv_istore_n (lv' := [(3, .int (iN ((x + (sX S j))))), (9, .int (iN ((ordS P i S j)))), (0, .ref a), (1, .ref b), (2, .ref c), (4, .int (iN (y))), (5, .int (iN (i))), (6, .int (iN (j))), (7, .int (iN ((sd P + sd S)))), (8, .int (iN (t)))]) hx hb d_R_becomeSums_125 rfl hl (by decide) rfl (fun ls hl => ?_)
          refine lv_iload hx hb d_R_becomeSums_126 (lv_at hl 5 rfl) ?_
          refine lv_aload_n hx hb d_R_becomeSums_128 rfl (lv_at hl 4 rfl) ?_
          refine lv_iload hx hb d_R_becomeSums_129 (lv_at hl 7 rfl) ?_
          refine g_ci w (g_runV (As := [.int (iN (j))]) (rest := [.int (iN (y))]) X w (c_R_sideY l hoc hc (by omega)) k_R_sideY v_R_sideY lk_R_76 hoc.1 hc.2.1 rfl ⟨(Nat.le_of_ble_eq_true rfl), (Nat.le_of_ble_eq_true rfl)⟩ rfl hl.1 rfl (Nat.le_of_ble_eq_true rfl) d_R_becomeSums_131 ⟨Nat.zero_le _, Nat.zero_le _⟩) (fun r u H locs hp w => ?_)
          obtain ⟨rfl, rfl⟩ := hp
          have w : gw D (gA L sz) s.heap H locs L g := w
          refine ri_add (a := y) (b := (sY S j)) hx hb d_R_becomeSums_134 rfl rfl ?_
          refine lv_istore (lv' := [(4, .int (iN ((y + (sY S j))))), (3, .int (iN ((x + (sX S j))))), (9, .int (iN ((ordS P i S j)))), (0, .ref a), (1, .ref b), (2, .ref c), (5, .int (iN (i))), (6, .int (iN (j))), (7, .int (iN ((sd P + sd S)))), (8, .int (iN (t)))]) hx hb d_R_becomeSums_135 hl (by decide) rfl (fun ls hl => ?_)
          refine lv_iinc (v := iN ((j + 1))) (lv' := [(6, .int (iN ((j + 1)))), (4, .int (iN ((y + (sY S j))))), (3, .int (iN ((x + (sX S j))))), (9, .int (iN ((ordS P i S j)))), (0, .ref a), (1, .ref b), (2, .ref c), (5, .int (iN (i))), (7, .int (iN ((sd P + sd S)))), (8, .int (iN (t)))]) hx hb d_R_becomeSums_137 hl (k := 7) rfl (by rw [show (j + 1) = j + (1 : Int) by omega, ← iN_add]; rfl) (by decide) rfl (fun ls hl => ?_)
          refine lv_iload hx hb d_R_becomeSums_140 (lv_at hl 7 rfl) ?_
          refine lv_iload hx hb d_R_becomeSums_142 (lv_at hl 0 rfl) ?_
          refine ri_add (a := i) (b := (j + 1)) hx hb d_R_becomeSums_144 rfl rfl ?_
          refine lv_iload hx hb d_R_becomeSums_145 (lv_at hl 8 rfl) ?_
          refine ri_cge (a := (i + (j + 1))) (b := (sd P + sd S)) (tgt := 157) hx hb d_R_becomeSums_147 (by decide) rfl rfl (by unfold i3; omega) (by unfold i3; omega) (fun c147 => ?_) (fun c147 => ?_)
          · skip
            refine lv_iinc (v := iN ((t + 1))) (lv' := [(8, .int (iN ((t + 1)))), (6, .int (iN ((j + 1)))), (4, .int (iN ((y + (sY S j))))), (3, .int (iN ((x + (sX S j))))), (9, .int (iN ((ordS P i S j)))), (0, .ref a), (1, .ref b), (2, .ref c), (5, .int (iN (i))), (7, .int (iN ((sd P + sd S))))]) hx hb d_R_becomeSums_157 hl (k := 9) rfl (by rw [show (t + 1) = t + (1 : Int) by omega, ← iN_add]; rfl) (by decide) rfl (fun ls hl => ?_)
            refine lv_goto (tgt := 56) hx hb d_R_becomeSums_160 (by decide) ?_
            have e1 : (ordS P i S j ≤ 0) = False := by exact eq_false (by omega)
            have e2 : (0 ≤ ordS P i S j) = True := by exact eq_true (by omega)
            have hsj := ordS_ge (P := P) (S := S) (i := i) (j := j) (by omega) (by omega)
            have hI' : 0 ≤ (t + 1) ∧ (t + 1) ≤ (sd P + sd S) ∧ 0 ≤ i ∧ i ≤ sd P ∧ 0 ≤ (j + 1) ∧ (j + 1) ≤ sd S ∧ (out.length : Int) ≤ i + (j + 1) + 1 ∧ (t + 1) ≤ i + (j + 1) ∧ sumF P S = mrgF P S ((sd P + sd S) - (t + 1)).toNat i (j + 1) (x + (sX S j)) (y + (sY S j)) out ∧ rowIs cI rx ry g a out ∧ rowIs cI rx ry g b P ∧ rowIs cI rx ry g c S ∧ chg rx ry a f g := ⟨by omega, by omega, by omega, by omega, by omega, by omega, by omega, by omega, by rw [h8, show (sd P + sd S - t).toNat = (sd P + sd S - (t + 1)).toNat + 1 by omega, mrg_s (by omega) i (j + 1) (x + (sX S j)) (y + (sY S j)) (by simp only [e1, e2, if_true, if_false]) (by simp only [e1, e2, if_true, if_false]) (by simp only [e1, e2, if_true, if_false]) (by simp only [e1, e2, if_true, if_false]), if_neg (by omega)], ha, hb9, hc, hch⟩
            exact ih ((t + 1), i, (j + 1), (x + (sX S j)), (y + (sY S j)), out, g) _ _ _ (by omega) hI' w (lv_sub hl [5, 6, 7, 3, 2, 8, 1, 9, 0] rfl)
          · skip
            refine lv_aload_n hx hb d_R_becomeSums_150 rfl (lv_at hl 4 rfl) ?_
            refine lv_iload_n hx hb d_R_becomeSums_151 rfl (lv_at hl 2 rfl) ?_
            refine lv_iload hx hb d_R_becomeSums_152 (lv_at hl 1 rfl) ?_
            refine g_cv w (g_runV (As := [.int (iN ((x + (sX S j)))), .int (iN ((y + (sY S j))))]) (rest := []) X w (c_R_add l hoa ha (by omega) (x := (x + (sX S j))) (y := (y + (sY S j)))) k_R_add v_R_add lk_R_54 hoa.1 ha.2.1 rfl ⟨(Nat.le_of_ble_eq_true rfl), (Nat.le_of_ble_eq_true rfl)⟩ rfl hl.1 rfl (Nat.le_of_ble_eq_true rfl) d_R_becomeSums_154 ⟨(Nat.le_of_ble_eq_true rfl), (Nat.le_of_ble_eq_true rfl)⟩) (fun u H locs hp w => ?_)
            obtain ⟨g4x, rfl, hn4, hk4⟩ := hp
            have w : gw D (gA L sz) s.heap H locs L g4x := w
            have hb4 := rowIs_keep hab.symm hk4 hb9
            have hc4 := rowIs_keep hac.symm hk4 hc
            refine lv_iinc (v := iN ((t + 1))) (lv' := [(8, .int (iN ((t + 1)))), (6, .int (iN ((j + 1)))), (4, .int (iN ((y + (sY S j))))), (3, .int (iN ((x + (sX S j))))), (9, .int (iN ((ordS P i S j)))), (0, .ref a), (1, .ref b), (2, .ref c), (5, .int (iN (i))), (7, .int (iN ((sd P + sd S))))]) hx hb d_R_becomeSums_157 hl (k := 9) rfl (by rw [show (t + 1) = t + (1 : Int) by omega, ← iN_add]; rfl) (by decide) rfl (fun ls hl => ?_)
            refine lv_goto (tgt := 56) hx hb d_R_becomeSums_160 (by decide) ?_
            have e1 : (ordS P i S j ≤ 0) = False := by exact eq_false (by omega)
            have e2 : (0 ≤ ordS P i S j) = True := by exact eq_true (by omega)
            have hsj := ordS_ge (P := P) (S := S) (i := i) (j := j) (by omega) (by omega)
            have hI' : 0 ≤ (t + 1) ∧ (t + 1) ≤ (sd P + sd S) ∧ 0 ≤ i ∧ i ≤ sd P ∧ 0 ≤ (j + 1) ∧ (j + 1) ≤ sd S ∧ ((out ++ [((x + (sX S j)), (y + (sY S j)))]).length : Int) ≤ i + (j + 1) + 1 ∧ (t + 1) ≤ i + (j + 1) ∧ sumF P S = mrgF P S ((sd P + sd S) - (t + 1)).toNat i (j + 1) (x + (sX S j)) (y + (sY S j)) (out ++ [((x + (sX S j)), (y + (sY S j)))]) ∧ rowIs cI rx ry g4x a (out ++ [((x + (sX S j)), (y + (sY S j)))]) ∧ rowIs cI rx ry g4x b P ∧ rowIs cI rx ry g4x c S ∧ chg rx ry a f g4x := ⟨by omega, by omega, by omega, by omega, by omega, by omega, by simp; omega, by omega, by rw [h8, show (sd P + sd S - t).toNat = (sd P + sd S - (t + 1)).toNat + 1 by omega, mrg_s (by omega) i (j + 1) (x + (sX S j)) (y + (sY S j)) (by simp only [e1, e2, if_true, if_false]) (by simp only [e1, e2, if_true, if_false]) (by simp only [e1, e2, if_true, if_false]) (by simp only [e1, e2, if_true, if_false]), if_pos (by omega)], hn4, hb4, hc4, chg_trans hch hk4⟩
            exact ih ((t + 1), i, (j + 1), (x + (sX S j)), (y + (sY S j)), (out ++ [((x + (sX S j)), (y + (sY S j)))]), g4x) _ _ _ (by omega) hI' w (lv_sub hl [5, 6, 7, 3, 2, 8, 1, 9, 0] rfl)
      · skip
        refine lv_iload_n hx hb d_R_becomeSums_89 rfl (lv_at hl 4 rfl) ?_
        refine lv_aload_n hx hb d_R_becomeSums_90 rfl (lv_at hl 2 rfl) ?_
        refine lv_iload hx hb d_R_becomeSums_91 (lv_at hl 6 rfl) ?_
        refine g_ci w (g_runV (As := [.int (iN (i))]) (rest := [.int (iN (x))]) X w (c_R_sideX l hob hb9 (by omega)) k_R_sideX v_R_sideX lk_R_73 hob.1 hb9.2.1 rfl ⟨(Nat.le_of_ble_eq_true rfl), (Nat.le_of_ble_eq_true rfl)⟩ rfl hl.1 rfl (Nat.le_of_ble_eq_true rfl) d_R_becomeSums_93 ⟨Nat.zero_le _, Nat.zero_le _⟩) (fun r u H locs hp w => ?_)
        obtain ⟨rfl, rfl⟩ := hp
        have w : gw D (gA L sz) s.heap H locs L g := w
        refine ri_add (a := x) (b := (sX P i)) hx hb d_R_becomeSums_96 rfl rfl ?_
        refine lv_istore_n (lv' := [(3, .int (iN ((x + (sX P i))))), (9, .int (iN ((ordS P i S j)))), (0, .ref a), (1, .ref b), (2, .ref c), (4, .int (iN (y))), (5, .int (iN (i))), (6, .int (iN (j))), (7, .int (iN ((sd P + sd S)))), (8, .int (iN (t)))]) hx hb d_R_becomeSums_97 rfl hl (by decide) rfl (fun ls hl => ?_)
        refine lv_iload hx hb d_R_becomeSums_98 (lv_at hl 5 rfl) ?_
        refine lv_aload_n hx hb d_R_becomeSums_100 rfl (lv_at hl 3 rfl) ?_
        refine lv_iload hx hb d_R_becomeSums_101 (lv_at hl 6 rfl) ?_
        refine g_ci w (g_runV (As := [.int (iN (i))]) (rest := [.int (iN (y))]) X w (c_R_sideY l hob hb9 (by omega)) k_R_sideY v_R_sideY lk_R_76 hob.1 hb9.2.1 rfl ⟨(Nat.le_of_ble_eq_true rfl), (Nat.le_of_ble_eq_true rfl)⟩ rfl hl.1 rfl (Nat.le_of_ble_eq_true rfl) d_R_becomeSums_103 ⟨Nat.zero_le _, Nat.zero_le _⟩) (fun r u H locs hp w => ?_)
        obtain ⟨rfl, rfl⟩ := hp
        have w : gw D (gA L sz) s.heap H locs L g := w
        refine ri_add (a := y) (b := (sY P i)) hx hb d_R_becomeSums_106 rfl rfl ?_
        refine lv_istore (lv' := [(4, .int (iN ((y + (sY P i))))), (3, .int (iN ((x + (sX P i))))), (9, .int (iN ((ordS P i S j)))), (0, .ref a), (1, .ref b), (2, .ref c), (5, .int (iN (i))), (6, .int (iN (j))), (7, .int (iN ((sd P + sd S)))), (8, .int (iN (t)))]) hx hb d_R_becomeSums_107 hl (by decide) rfl (fun ls hl => ?_)
        refine lv_iinc (v := iN ((i + 1))) (lv' := [(5, .int (iN ((i + 1)))), (4, .int (iN ((y + (sY P i))))), (3, .int (iN ((x + (sX P i))))), (9, .int (iN ((ordS P i S j)))), (0, .ref a), (1, .ref b), (2, .ref c), (6, .int (iN (j))), (7, .int (iN ((sd P + sd S)))), (8, .int (iN (t)))]) hx hb d_R_becomeSums_109 hl (k := 6) rfl (by rw [show (i + 1) = i + (1 : Int) by omega, ← iN_add]; rfl) (by decide) rfl (fun ls hl => ?_)
        refine lv_iload hx hb d_R_becomeSums_112 (lv_at hl 3 rfl) ?_
        refine ri_zlt (a := (ordS P i S j)) (tgt := 140) hx hb d_R_becomeSums_114 (by decide) rfl (by have := ordS_b hP hS i j; unfold i3; omega) (fun c114 => ?_) (fun c114 => ?_)
        · skip
          refine lv_iload hx hb d_R_becomeSums_140 (lv_at hl 0 rfl) ?_
          refine lv_iload hx hb d_R_becomeSums_142 (lv_at hl 7 rfl) ?_
          refine ri_add (a := (i + 1)) (b := j) hx hb d_R_becomeSums_144 rfl rfl ?_
          refine lv_iload hx hb d_R_becomeSums_145 (lv_at hl 8 rfl) ?_
          refine ri_cge (a := ((i + 1) + j)) (b := (sd P + sd S)) (tgt := 157) hx hb d_R_becomeSums_147 (by decide) rfl rfl (by unfold i3; omega) (by unfold i3; omega) (fun c147 => ?_) (fun c147 => ?_)
          · skip
            refine lv_iinc (v := iN ((t + 1))) (lv' := [(8, .int (iN ((t + 1)))), (5, .int (iN ((i + 1)))), (4, .int (iN ((y + (sY P i))))), (3, .int (iN ((x + (sX P i))))), (9, .int (iN ((ordS P i S j)))), (0, .ref a), (1, .ref b), (2, .ref c), (6, .int (iN (j))), (7, .int (iN ((sd P + sd S))))]) hx hb d_R_becomeSums_157 hl (k := 9) rfl (by rw [show (t + 1) = t + (1 : Int) by omega, ← iN_add]; rfl) (by decide) rfl (fun ls hl => ?_)
            refine lv_goto (tgt := 56) hx hb d_R_becomeSums_160 (by decide) ?_
            have e1 : (ordS P i S j ≤ 0) = True := by exact eq_true (by omega)
            have e2 : (0 ≤ ordS P i S j) = False := by exact eq_false (by omega)
            have hsi := ordS_le (P := P) (S := S) (i := i) (j := j) (by omega)
            have hI' : 0 ≤ (t + 1) ∧ (t + 1) ≤ (sd P + sd S) ∧ 0 ≤ (i + 1) ∧ (i + 1) ≤ sd P ∧ 0 ≤ j ∧ j ≤ sd S ∧ (out.length : Int) ≤ (i + 1) + j + 1 ∧ (t + 1) ≤ (i + 1) + j ∧ sumF P S = mrgF P S ((sd P + sd S) - (t + 1)).toNat (i + 1) j (x + (sX P i)) (y + (sY P i)) out ∧ rowIs cI rx ry g a out ∧ rowIs cI rx ry g b P ∧ rowIs cI rx ry g c S ∧ chg rx ry a f g := ⟨by omega, by omega, by omega, by omega, by omega, by omega, by omega, by omega, by rw [h8, show (sd P + sd S - t).toNat = (sd P + sd S - (t + 1)).toNat + 1 by omega, mrg_s (by omega) (i + 1) j (x + (sX P i)) (y + (sY P i)) (by simp only [e1, e2, if_true, if_false]) (by simp only [e1, e2, if_true, if_false]) (by simp only [e1, e2, if_true, if_false]) (by simp only [e1, e2, if_true, if_false]), if_neg (by omega)], ha, hb9, hc, hch⟩
            exact ih ((t + 1), (i + 1), j, (x + (sX P i)), (y + (sY P i)), out, g) _ _ _ (by omega) hI' w (lv_sub hl [5, 6, 7, 3, 2, 1, 8, 9, 0] rfl)
          · skip
            refine lv_aload_n hx hb d_R_becomeSums_150 rfl (lv_at hl 4 rfl) ?_
            refine lv_iload_n hx hb d_R_becomeSums_151 rfl (lv_at hl 2 rfl) ?_
            refine lv_iload hx hb d_R_becomeSums_152 (lv_at hl 1 rfl) ?_
            refine g_cv w (g_runV (As := [.int (iN ((x + (sX P i)))), .int (iN ((y + (sY P i))))]) (rest := []) X w (c_R_add l hoa ha (by omega) (x := (x + (sX P i))) (y := (y + (sY P i)))) k_R_add v_R_add lk_R_54 hoa.1 ha.2.1 rfl ⟨(Nat.le_of_ble_eq_true rfl), (Nat.le_of_ble_eq_true rfl)⟩ rfl hl.1 rfl (Nat.le_of_ble_eq_true rfl) d_R_becomeSums_154 ⟨(Nat.le_of_ble_eq_true rfl), (Nat.le_of_ble_eq_true rfl)⟩) (fun u H locs hp w => ?_)
            obtain ⟨g5x, rfl, hn5, hk5⟩ := hp
            have w : gw D (gA L sz) s.heap H locs L g5x := w
            have hb5 := rowIs_keep hab.symm hk5 hb9
            have hc5 := rowIs_keep hac.symm hk5 hc
            refine lv_iinc (v := iN ((t + 1))) (lv' := [(8, .int (iN ((t + 1)))), (5, .int (iN ((i + 1)))), (4, .int (iN ((y + (sY P i))))), (3, .int (iN ((x + (sX P i))))), (9, .int (iN ((ordS P i S j)))), (0, .ref a), (1, .ref b), (2, .ref c), (6, .int (iN (j))), (7, .int (iN ((sd P + sd S))))]) hx hb d_R_becomeSums_157 hl (k := 9) rfl (by rw [show (t + 1) = t + (1 : Int) by omega, ← iN_add]; rfl) (by decide) rfl (fun ls hl => ?_)
            refine lv_goto (tgt := 56) hx hb d_R_becomeSums_160 (by decide) ?_
            have e1 : (ordS P i S j ≤ 0) = True := by exact eq_true (by omega)
            have e2 : (0 ≤ ordS P i S j) = False := by exact eq_false (by omega)
            have hsi := ordS_le (P := P) (S := S) (i := i) (j := j) (by omega)
            have hI' : 0 ≤ (t + 1) ∧ (t + 1) ≤ (sd P + sd S) ∧ 0 ≤ (i + 1) ∧ (i + 1) ≤ sd P ∧ 0 ≤ j ∧ j ≤ sd S ∧ ((out ++ [((x + (sX P i)), (y + (sY P i)))]).length : Int) ≤ (i + 1) + j + 1 ∧ (t + 1) ≤ (i + 1) + j ∧ sumF P S = mrgF P S ((sd P + sd S) - (t + 1)).toNat (i + 1) j (x + (sX P i)) (y + (sY P i)) (out ++ [((x + (sX P i)), (y + (sY P i)))]) ∧ rowIs cI rx ry g5x a (out ++ [((x + (sX P i)), (y + (sY P i)))]) ∧ rowIs cI rx ry g5x b P ∧ rowIs cI rx ry g5x c S ∧ chg rx ry a f g5x := ⟨by omega, by omega, by omega, by omega, by omega, by omega, by simp; omega, by omega, by rw [h8, show (sd P + sd S - t).toNat = (sd P + sd S - (t + 1)).toNat + 1 by omega, mrg_s (by omega) (i + 1) j (x + (sX P i)) (y + (sY P i)) (by simp only [e1, e2, if_true, if_false]) (by simp only [e1, e2, if_true, if_false]) (by simp only [e1, e2, if_true, if_false]) (by simp only [e1, e2, if_true, if_false]), if_pos (by omega)], hn5, hb5, hc5, chg_trans hch hk5⟩
            exact ih ((t + 1), (i + 1), j, (x + (sX P i)), (y + (sY P i)), (out ++ [((x + (sX P i)), (y + (sY P i)))]), g5x) _ _ _ (by omega) hI' w (lv_sub hl [5, 6, 7, 3, 2, 1, 8, 9, 0] rfl)
        · skip
          refine lv_iload_n hx hb d_R_becomeSums_117 rfl (lv_at hl 2 rfl) ?_
          refine lv_aload_n hx hb d_R_becomeSums_118 rfl (lv_at hl 6 rfl) ?_
          refine lv_iload hx hb d_R_becomeSums_119 (lv_at hl 7 rfl) ?_
          refine g_ci w (g_runV (As := [.int (iN (j))]) (rest := [.int (iN ((x + (sX P i))))]) X w (c_R_sideX l hoc hc (by omega)) k_R_sideX v_R_sideX lk_R_73 hoc.1 hc.2.1 rfl ⟨(Nat.le_of_ble_eq_true rfl), (Nat.le_of_ble_eq_true rfl)⟩ rfl hl.1 rfl (Nat.le_of_ble_eq_true rfl) d_R_becomeSums_121 ⟨Nat.zero_le _, Nat.zero_le _⟩) (fun r u H locs hp w => ?_)
          obtain ⟨rfl, rfl⟩ := hp
          have w : gw D (gA L sz) s.heap H locs L g := w
          refine ri_add (a := (x + (sX P i))) (b := (sX S j)) hx hb d_R_becomeSums_124 rfl rfl ?_
          refine lv_istore_n (lv' := [(3, .int (iN (((x + (sX P i)) + (sX S j))))), (5, .int (iN ((i + 1)))), (4, .int (iN ((y + (sY P i))))), (9, .int (iN ((ordS P i S j)))), (0, .ref a), (1, .ref b), (2, .ref c), (6, .int (iN (j))), (7, .int (iN ((sd P + sd S)))), (8, .int (iN (t)))]) hx hb d_R_becomeSums_125 rfl hl (by decide) rfl (fun ls hl => ?_)
          refine lv_iload hx hb d_R_becomeSums_126 (lv_at hl 2 rfl) ?_
          refine lv_aload_n hx hb d_R_becomeSums_128 rfl (lv_at hl 6 rfl) ?_
          refine lv_iload hx hb d_R_becomeSums_129 (lv_at hl 7 rfl) ?_
          refine g_ci w (g_runV (As := [.int (iN (j))]) (rest := [.int (iN ((y + (sY P i))))]) X w (c_R_sideY l hoc hc (by omega)) k_R_sideY v_R_sideY lk_R_76 hoc.1 hc.2.1 rfl ⟨(Nat.le_of_ble_eq_true rfl), (Nat.le_of_ble_eq_true rfl)⟩ rfl hl.1 rfl (Nat.le_of_ble_eq_true rfl) d_R_becomeSums_131 ⟨Nat.zero_le _, Nat.zero_le _⟩) (fun r u H locs hp w => ?_)
          obtain ⟨rfl, rfl⟩ := hp
          have w : gw D (gA L sz) s.heap H locs L g := w
          refine ri_add (a := (y + (sY P i))) (b := (sY S j)) hx hb d_R_becomeSums_134 rfl rfl ?_
          refine lv_istore (lv' := [(4, .int (iN (((y + (sY P i)) + (sY S j))))), (3, .int (iN (((x + (sX P i)) + (sX S j))))), (5, .int (iN ((i + 1)))), (9, .int (iN ((ordS P i S j)))), (0, .ref a), (1, .ref b), (2, .ref c), (6, .int (iN (j))), (7, .int (iN ((sd P + sd S)))), (8, .int (iN (t)))]) hx hb d_R_becomeSums_135 hl (by decide) rfl (fun ls hl => ?_)
          refine lv_iinc (v := iN ((j + 1))) (lv' := [(6, .int (iN ((j + 1)))), (4, .int (iN (((y + (sY P i)) + (sY S j))))), (3, .int (iN (((x + (sX P i)) + (sX S j))))), (5, .int (iN ((i + 1)))), (9, .int (iN ((ordS P i S j)))), (0, .ref a), (1, .ref b), (2, .ref c), (7, .int (iN ((sd P + sd S)))), (8, .int (iN (t)))]) hx hb d_R_becomeSums_137 hl (k := 7) rfl (by rw [show (j + 1) = j + (1 : Int) by omega, ← iN_add]; rfl) (by decide) rfl (fun ls hl => ?_)
          refine lv_iload hx hb d_R_becomeSums_140 (lv_at hl 3 rfl) ?_
          refine lv_iload hx hb d_R_becomeSums_142 (lv_at hl 0 rfl) ?_
          refine ri_add (a := (i + 1)) (b := (j + 1)) hx hb d_R_becomeSums_144 rfl rfl ?_
          refine lv_iload hx hb d_R_becomeSums_145 (lv_at hl 8 rfl) ?_
          refine ri_cge (a := ((i + 1) + (j + 1))) (b := (sd P + sd S)) (tgt := 157) hx hb d_R_becomeSums_147 (by decide) rfl rfl (by unfold i3; omega) (by unfold i3; omega) (fun c147 => ?_) (fun c147 => ?_)
          · skip
            refine lv_iinc (v := iN ((t + 1))) (lv' := [(8, .int (iN ((t + 1)))), (6, .int (iN ((j + 1)))), (4, .int (iN (((y + (sY P i)) + (sY S j))))), (3, .int (iN (((x + (sX P i)) + (sX S j))))), (5, .int (iN ((i + 1)))), (9, .int (iN ((ordS P i S j)))), (0, .ref a), (1, .ref b), (2, .ref c), (7, .int (iN ((sd P + sd S))))]) hx hb d_R_becomeSums_157 hl (k := 9) rfl (by rw [show (t + 1) = t + (1 : Int) by omega, ← iN_add]; rfl) (by decide) rfl (fun ls hl => ?_)
            refine lv_goto (tgt := 56) hx hb d_R_becomeSums_160 (by decide) ?_
            have e1 : (ordS P i S j ≤ 0) = True := by exact eq_true (by omega)
            have e2 : (0 ≤ ordS P i S j) = True := by exact eq_true (by omega)
            have hsi := ordS_le (P := P) (S := S) (i := i) (j := j) (by omega)
            have hsj := ordS_ge (P := P) (S := S) (i := i) (j := j) (by omega) (by omega)
            have hI' : 0 ≤ (t + 1) ∧ (t + 1) ≤ (sd P + sd S) ∧ 0 ≤ (i + 1) ∧ (i + 1) ≤ sd P ∧ 0 ≤ (j + 1) ∧ (j + 1) ≤ sd S ∧ (out.length : Int) ≤ (i + 1) + (j + 1) + 1 ∧ (t + 1) ≤ (i + 1) + (j + 1) ∧ sumF P S = mrgF P S ((sd P + sd S) - (t + 1)).toNat (i + 1) (j + 1) ((x + (sX P i)) + (sX S j)) ((y + (sY P i)) + (sY S j)) out ∧ rowIs cI rx ry g a out ∧ rowIs cI rx ry g b P ∧ rowIs cI rx ry g c S ∧ chg rx ry a f g := ⟨by omega, by omega, by omega, by omega, by omega, by omega, by omega, by omega, by rw [h8, show (sd P + sd S - t).toNat = (sd P + sd S - (t + 1)).toNat + 1 by omega, mrg_s (by omega) (i + 1) (j + 1) ((x + (sX P i)) + (sX S j)) ((y + (sY P i)) + (sY S j)) (by simp only [e1, e2, if_true, if_false]) (by simp only [e1, e2, if_true, if_false]) (by simp only [e1, e2, if_true, if_false]) (by simp only [e1, e2, if_true, if_false]), if_neg (by omega)], ha, hb9, hc, hch⟩
            exact ih ((t + 1), (i + 1), (j + 1), ((x + (sX P i)) + (sX S j)), ((y + (sY P i)) + (sY S j)), out, g) _ _ _ (by omega) hI' w (lv_sub hl [6, 7, 8, 3, 2, 4, 1, 9, 0] rfl)
          · skip
            refine lv_aload_n hx hb d_R_becomeSums_150 rfl (lv_at hl 5 rfl) ?_
            refine lv_iload_n hx hb d_R_becomeSums_151 rfl (lv_at hl 2 rfl) ?_
            refine lv_iload hx hb d_R_becomeSums_152 (lv_at hl 1 rfl) ?_
            refine g_cv w (g_runV (As := [.int (iN (((x + (sX P i)) + (sX S j)))), .int (iN (((y + (sY P i)) + (sY S j))))]) (rest := []) X w (c_R_add l hoa ha (by omega) (x := ((x + (sX P i)) + (sX S j))) (y := ((y + (sY P i)) + (sY S j)))) k_R_add v_R_add lk_R_54 hoa.1 ha.2.1 rfl ⟨(Nat.le_of_ble_eq_true rfl), (Nat.le_of_ble_eq_true rfl)⟩ rfl hl.1 rfl (Nat.le_of_ble_eq_true rfl) d_R_becomeSums_154 ⟨(Nat.le_of_ble_eq_true rfl), (Nat.le_of_ble_eq_true rfl)⟩) (fun u H locs hp w => ?_)
            obtain ⟨g6x, rfl, hn6, hk6⟩ := hp
            have w : gw D (gA L sz) s.heap H locs L g6x := w
            have hb6 := rowIs_keep hab.symm hk6 hb9
            have hc6 := rowIs_keep hac.symm hk6 hc
            refine lv_iinc (v := iN ((t + 1))) (lv' := [(8, .int (iN ((t + 1)))), (6, .int (iN ((j + 1)))), (4, .int (iN (((y + (sY P i)) + (sY S j))))), (3, .int (iN (((x + (sX P i)) + (sX S j))))), (5, .int (iN ((i + 1)))), (9, .int (iN ((ordS P i S j)))), (0, .ref a), (1, .ref b), (2, .ref c), (7, .int (iN ((sd P + sd S))))]) hx hb d_R_becomeSums_157 hl (k := 9) rfl (by rw [show (t + 1) = t + (1 : Int) by omega, ← iN_add]; rfl) (by decide) rfl (fun ls hl => ?_)
            refine lv_goto (tgt := 56) hx hb d_R_becomeSums_160 (by decide) ?_
            have e1 : (ordS P i S j ≤ 0) = True := by exact eq_true (by omega)
            have e2 : (0 ≤ ordS P i S j) = True := by exact eq_true (by omega)
            have hsi := ordS_le (P := P) (S := S) (i := i) (j := j) (by omega)
            have hsj := ordS_ge (P := P) (S := S) (i := i) (j := j) (by omega) (by omega)
            have hI' : 0 ≤ (t + 1) ∧ (t + 1) ≤ (sd P + sd S) ∧ 0 ≤ (i + 1) ∧ (i + 1) ≤ sd P ∧ 0 ≤ (j + 1) ∧ (j + 1) ≤ sd S ∧ ((out ++ [(((x + (sX P i)) + (sX S j)), ((y + (sY P i)) + (sY S j)))]).length : Int) ≤ (i + 1) + (j + 1) + 1 ∧ (t + 1) ≤ (i + 1) + (j + 1) ∧ sumF P S = mrgF P S ((sd P + sd S) - (t + 1)).toNat (i + 1) (j + 1) ((x + (sX P i)) + (sX S j)) ((y + (sY P i)) + (sY S j)) (out ++ [(((x + (sX P i)) + (sX S j)), ((y + (sY P i)) + (sY S j)))]) ∧ rowIs cI rx ry g6x a (out ++ [(((x + (sX P i)) + (sX S j)), ((y + (sY P i)) + (sY S j)))]) ∧ rowIs cI rx ry g6x b P ∧ rowIs cI rx ry g6x c S ∧ chg rx ry a f g6x := ⟨by omega, by omega, by omega, by omega, by omega, by omega, by simp; omega, by omega, by rw [h8, show (sd P + sd S - t).toNat = (sd P + sd S - (t + 1)).toNat + 1 by omega, mrg_s (by omega) (i + 1) (j + 1) ((x + (sX P i)) + (sX S j)) ((y + (sY P i)) + (sY S j)) (by simp only [e1, e2, if_true, if_false]) (by simp only [e1, e2, if_true, if_false]) (by simp only [e1, e2, if_true, if_false]) (by simp only [e1, e2, if_true, if_false]), if_pos (by omega)], hn6, hb6, hc6, chg_trans hch hk6⟩
            exact ih ((t + 1), (i + 1), (j + 1), ((x + (sX P i)) + (sX S j)), ((y + (sY P i)) + (sY S j)), (out ++ [(((x + (sX P i)) + (sX S j)), ((y + (sY P i)) + (sY S j)))]), g6x) _ _ _ (by omega) hI' w (lv_sub hl [6, 7, 8, 3, 2, 4, 1, 9, 0] rfl)
