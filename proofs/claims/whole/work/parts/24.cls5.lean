/-! HULLSUMS: width, circle, and what is asked of two sets -/
abbrev L3 : Type := Int × Int × Int
def c3 (s : L3) : va_E := cL s.1 s.2.1 s.2.2
noncomputable def lt3 (s : L3) (no nu : Int) : L3 := by
  classical
  exact if s.2.2 = 0 ∨ no * s.2.1 < s.1 * nu then (no, nu, 1) else s
theorem lTake_3 (s : L3) (no nu : Int) : lTake s.1 s.2.1 s.2.2 no nu = c3 (lt3 s no nu) := by
  unfold lTake lt3 c3; split <;> rfl
/-- the numbers of a Lowest stay in bounds -/
def l3b (A B : Int) (s : L3) : Prop := 0 ≤ s.1 ∧ s.1 ≤ A ∧ 0 ≤ s.2.1 ∧ s.2.1 ≤ B ∧ (s.2.2 = 0 ∨ s.2.2 = 1)
theorem lt3_b {A B : Int} {s : L3} {no nu : Int} (h : l3b A B s) (h1 : 0 ≤ no ∧ no ≤ A) (h2 : 0 ≤ nu ∧ nu ≤ B) : l3b A B (lt3 s no nu) := by
  unfold lt3
  split
  · unfold l3b; dsimp only; omega
  · exact h
theorem lt3_6 {A B : Int} {s : L3} {no nu : Int} (hAB : A * B ≤ 9223372036854775807) (h : l3b A B s) (h1 : 0 ≤ no ∧ no ≤ A) (h2 : 0 ≤ nu ∧ nu ≤ B) : i6 (no * s.2.1) ∧ i6 (s.1 * nu) := by
  obtain ⟨q1, q2, q3, q4, q5⟩ := h
  have a := mb (a := no) (b := s.2.1) (A := A) (B := B) (by omega) (by omega) (by omega) (by omega)
  have b := mb (a := s.1) (b := nu) (A := A) (B := B) (by omega) (by omega) (by omega) (by omega)
  unfold i6; omega
noncomputable def wLow (H : List Pt) : Nat → L3
  | 0 => (0, 1, 0)
  | n + 1 => lt3 (wLow H n) (rch H n H.length * rch H n H.length) (sq H n (nx H n))
theorem pT_b3 {P : List Pt} (h : pb 300 P) (i j : Int) {x y : Int} (hx : -300 ≤ x ∧ x ≤ 300) (hy : -300 ≤ y ∧ y ≤ 300) : -720000 ≤ pT P i j x y ∧ pT P i j x y ≤ 720000 := by
  have a := h i; have b := h j
  have q1 := mbc (a := pX P j - pX P i) (b := y - pY P i) 600 600 360000 (by omega) (by omega) (by omega) (by omega) (by decide)
  have q2 := mbc (a := pY P j - pY P i) (b := x - pX P i) 600 600 360000 (by omega) (by omega) (by omega) (by omega) (by decide)
  unfold pT; omega
theorem rch_b3 {P : List Pt} (h : pb 300 P) (i : Int) (n : Nat) : 0 ≤ rch P i n ∧ rch P i n ≤ 720000 := by
  induction n with
  | zero => unfold rch; omega
  | succ n ih =>
    have b := h n
    have := pT_b3 h i (nx P i) (x := pX P n) (y := pY P n) (by omega) (by omega)
    unfold rch off; omega
theorem sq_b3 {P : List Pt} (h : pb 300 P) (i j : Int) : 0 ≤ sq P i j ∧ sq P i j ≤ 720000 := by
  have a := h i; have b := h j
  have q1 := mbc (a := pX P i - pX P j) (b := pX P i - pX P j) 600 600 360000 (by omega) (by omega) (by omega) (by omega) (by decide)
  have q2 := mbc (a := pY P i - pY P j) (b := pY P i - pY P j) 600 600 360000 (by omega) (by omega) (by omega) (by omega) (by decide)
  have r1 := ssq (pX P i - pX P j)
  have r2 := ssq (pY P i - pY P j)
  unfold sq; omega
theorem rch_sq {P : List Pt} (h : pb 300 P) (i : Int) (n : Nat) : 0 ≤ rch P i n * rch P i n ∧ rch P i n * rch P i n ≤ 518400000000 := by
  have a := rch_b3 h i n
  have b := mbc (a := rch P i n) (b := rch P i n) 720000 720000 518400000000 (by omega) (by omega) (by omega) (by omega) (by decide)
  have c := ssq (rch P i n)
  omega
theorem wLow_b {H : List Pt} (h : pb 300 H) (n : Nat) : l3b 518400000000 720000 (wLow H n) := by
  induction n with
  | zero => unfold wLow l3b; dsimp only; omega
  | succ n ih => exact lt3_b ih (rch_sq h n _) (sq_b3 h n _)

set_option maxHeartbeats 4000000 in
set_option maxRecDepth 100000 in
theorem c_H_width (l : Launch) {D : va_G} {cI cR : ClassId} {L : List Nat} {f : Nat → va_E} {rx ry ra : Nat → Nat} {h ar ci lo : Nat} {K t1 t2 : Int} {S : Nat → List Pt} (G : geo L rx ry ra h ar ci lo) (hc : clsIs cI cR rx ry ra h ar ci lo f K t1 t2 S) (hok : okS K S) {z : Int} (hz : i3 z) : gMi D cI cR l y_H_width (Cond.code y_H_width b_H_width 7 (some .int) :: lw_g) { frames := 5, cells := 0, slots := 0, locals := 114 } [.ref h, .int (iN (z))] L f (fun r u => r = iN (if 0 ≤ z ∧ z < K then (if (S z.toNat).length = 0 then -3 else 1) else -1) ∧ crT ((0 ≤ z ∧ z < K) ∧ (S z.toNat).length ≠ 0) (frac1 (wLow (hullF (S z.toNat)) (sd (hullF (S z.toNat))).toNat).1 (wLow (hullF (S z.toNat)) (sd (hullF (S z.toNat))).toNat).2.1) (frac2 (wLow (hullF (S z.toNat)) (sd (hullF (S z.toNat))).toNat).1 (wLow (hullF (S z.toNat)) (sd (hullF (S z.toNat))).toNat).2.1) t1 t2 (fun p q => hpost L cI cR rx ry ra h ar ci lo f K p q S u)) := by
  intro sz
  refine g_enter (by decide) rfl (Nat.le_of_ble_eq_true rfl) ?_
  intro p e s m below meth cd ls X hrt hlk hnm hl hsz w
  have X : gx p m cd b_H_width 7 s _ "HullSums" D cI cR := X
  have hx := X.1.1
  have hb := X.1.2.1
  have hl : lv_has ls 7 [(0, .ref h), (1, .int (iN (z)))] := hl
  have hK := hc.2.2.2.2.2
  refine lv_aload_n hx hb d_H_width_0 rfl (lv_at hl 0 rfl) ?_
  refine lv_iload_n hx hb d_H_width_1 rfl (lv_at hl 1 rfl) ?_
  refine g_cq w (g_runV (As := [.int (iN (z))]) (rest := []) X w (c_H_rowOf l G hc (z := z) hz) k_H_rowOf v_H_rowOf lk_H_58 G.1.1 hc.1 rfl ⟨(Nat.le_of_ble_eq_true rfl), (Nat.le_of_ble_eq_true rfl)⟩ rfl hl.1 rfl (Nat.le_of_ble_eq_true rfl) d_H_width_2 ⟨(Nat.le_of_ble_eq_true rfl), (Nat.le_of_ble_eq_true rfl)⟩) (fun r u H locs hp w => ?_)
  obtain ⟨hr9, rfl⟩ := hp
  have w : gw D (gA L sz) s.heap H locs L f := w
  by_cases hz1 : 0 ≤ z ∧ z < K
  · skip
    rw [if_pos hz1] at hr9
    subst hr9
    have hz18 : z.toNat < 8 := by have := hc.2.2.2.2.2; omega
    have hBhz1 : pb 600 (S z.toNat) := pb_of (by decide) (pbl_le (by decide) (hok _ (by omega)).2)
    have hlhz1 := (hok z.toNat (by omega)).1
    refine lv_astore_n (lv' := [(2, .ref (ra z.toNat)), (0, .ref h), (1, .int (iN (z)))]) hx hb d_H_width_5 rfl hl (by decide) rfl (fun ls hl => ?_)
    refine lv_aload_n hx hb d_H_width_6 rfl (lv_at hl 0 rfl) ?_
    refine lv_ifnonnull (tgt := 12) hx hb d_H_width_7 (by decide) ?_
    refine lv_aload_n hx hb d_H_width_12 rfl (lv_at hl 0 rfl) ?_
    refine g_ci w (g_runV (As := []) (rest := []) X w (c_R_size l (G.2.2.1 z.toNat (by omega)) (hc.2.2.1 z.toNat (by omega))) k_R_size v_R_size lk_H_72 (G.2.2.1 z.toNat (by omega)).1 (hc.2.2.1 z.toNat (by omega)).2.1 rfl ⟨(Nat.le_of_ble_eq_true rfl), (Nat.le_of_ble_eq_true rfl)⟩ rfl hl.1 rfl (Nat.le_of_ble_eq_true rfl) d_H_width_13 ⟨Nat.zero_le _, Nat.zero_le _⟩) (fun r u H locs hp w => ?_)
    obtain ⟨rfl, rfl⟩ := hp
    have w : gw D (gA L sz) s.heap H locs L f := w
    refine ri_zne (a := ((S z.toNat).length : Int)) (tgt := 22) hx hb d_H_width_16 (by decide) rfl (by unfold i3; omega) (fun c16 => ?_) (fun c16 => ?_)
    · skip
      refine lv_aload_n hx hb d_H_width_22 rfl (lv_at hl 1 rfl) ?_
      refine lv_aload_n hx hb d_H_width_23 rfl (lv_at hl 0 rfl) ?_
      refine g_cq w (g_runV (As := [.ref (ra z.toNat)]) (rest := []) X w (c_H_hullOf l G hc (i := z.toNat) (by omega) (pbl_le (by decide) (hok _ (by omega)).2) (hok _ (by omega)).1) k_H_hullOf v_H_hullOf lk_H_80 G.1.1 hc.1 rfl ⟨(Nat.le_of_ble_eq_true rfl), (Nat.le_of_ble_eq_true rfl)⟩ rfl hl.1 rfl (Nat.le_of_ble_eq_true rfl) d_H_width_24 ⟨(Nat.le_of_ble_eq_true rfl), (Nat.le_of_ble_eq_true rfl)⟩) (fun r u H locs hp w => ?_)
      obtain ⟨rfl, g, rfl, hcg, hug⟩ := hp
      have w : gw D (gA L sz) s.heap H locs L g := w
      have hrL : rowIs cI rx ry g (ra 9) (hullF (S z.toNat)) := by have h9 := hcg.2.2.1 9 (by decide); rw [su_s] at h9; exact h9
      have hSk : ∀ j, j < 8 → supd (supd S 8 (sortF (S z.toNat))) 9 (hullF (S z.toNat)) j = S j := fun j hj => by rw [su_n (by omega), su_n (by omega)]
      have hBL3 : pb 300 (hullF (S z.toNat)) := pb_of (by decide) (pbl_hull (hok _ (by omega)).2)
      have hBL : pb 600 (hullF (S z.toNat)) := pb_of (by decide) (pbl_le (by decide) (pbl_hull (hok _ (by omega)).2))
      have hn48 := hrL.1
      have hqhz1 : rowIs cI rx ry g (ra z.toNat) (S z.toNat) := by have h9 := hcg.2.2.1 z.toNat (by omega); rw [hSk _ (by omega)] at h9; exact h9
      refine lv_astore_n (lv' := [(3, .ref (ra 9)), (2, .ref (ra z.toNat)), (0, .ref h), (1, .int (iN (z)))]) hx hb d_H_width_27 rfl hl (by decide) rfl (fun ls hl => ?_)
      obtain ⟨o0, u0, b0, hb0, hlo0⟩ := hcg.2.2.2.2.1
      have hsd : 0 ≤ sd (hullF (S z.toNat)) ∧ sd (hullF (S z.toNat)) ≤ 48 := by unfold sd; split <;> omega
      refine lv_aload_n hx hb d_H_width_28 rfl (lv_at hl 2 rfl) ?_
      refine gk_get X w G.1.1 hcg.1 rfl in_H 9 (by decide) lk_H_39 rfl d_H_width_29 ?_
      refine g_cv w (g_runV (As := []) (rest := []) X w (c_L_forget l G.1.2.2.2 hlo0) k_L_forget v_L_forget lk_H_115 G.1.2.2.2 hlo0 rfl ⟨(Nat.le_of_ble_eq_true rfl), (Nat.le_of_ble_eq_true rfl)⟩ rfl hl.1 rfl (Nat.le_of_ble_eq_true rfl) d_H_width_32 ⟨(Nat.le_of_ble_eq_true rfl), (Nat.le_of_ble_eq_true rfl)⟩) (fun u H locs hp w => ?_)
      obtain rfl := hp
      have w : gw D (gA L sz) s.heap H locs L (va_up g lo (c3 ((0, 1, 0) : L3))) := by have w9 := w; dsimp only at w9; (try rw [bx_uu] at w9); exact w9
      obtain ⟨hcl2, hcl2u⟩ := cls_lo G hcg (o' := ((0, 1, 0) : L3).1) (u' := ((0, 1, 0) : L3).2.1) (b' := ((0, 1, 0) : L3).2.2) (Or.inl rfl)
      have hcl2 : clsIs cI cR rx ry ra h ar ci lo (va_up g lo (c3 ((0, 1, 0) : L3))) K t1 t2 (supd (supd S 8 (sortF (S z.toNat))) 9 (hullF (S z.toNat))) := hcl2
      refine lv_iconst (v := iN (0)) hx hb d_H_width_35 (by decide) ?_
      refine lv_istore (lv' := [(4, .int (iN (0))), (3, .ref (ra 9)), (2, .ref (ra z.toNat)), (0, .ref h), (1, .int (iN (z)))]) hx hb d_H_width_36 hl (by decide) rfl (fun ls hl => ?_)
      refine g_loop (σ := Int) (fun z9 => (sd (hullF (S z.toNat)) - z9).toNat) (fun z9 => [(0, .ref h), (1, .int (iN (z))), (2, .ref (ra z.toNat)), (3, .ref (ra 9)), (4, .int (iN (z9)))]) L (fun z9 => va_up g lo (c3 (wLow (hullF (S z.toNat)) z9.toNat))) (fun z9 => 0 ≤ z9 ∧ z9 ≤ sd (hullF (S z.toNat))) ?_ 0 _ _ _ ⟨by omega, by omega⟩ w (lv_sub hl [3, 4, 2, 1, 0] rfl)
      intro i H locs ls hI w hl ih
      have hl : lv_has ls 7 [(0, .ref h), (1, .int (iN (z))), (2, .ref (ra z.toNat)), (3, .ref (ra 9)), (4, .int (iN (i)))] := hl
      have w : gw D (gA L sz) s.heap H locs L (va_up g lo (c3 (wLow (hullF (S z.toNat)) i.toNat))) := w
      have hI : 0 ≤ i ∧ i ≤ sd (hullF (S z.toNat)) := hI
      obtain ⟨h0, h1⟩ := hI
      have hlb : l3b 518400000000 720000 (wLow (hullF (S z.toNat)) i.toNat) := wLow_b hBL3 _
      have hlb9 := hlb
      obtain ⟨hcl3, hcl3u⟩ := cls_lo G hcg (o' := (wLow (hullF (S z.toNat)) i.toNat).1) (u' := (wLow (hullF (S z.toNat)) i.toNat).2.1) (b' := (wLow (hullF (S z.toNat)) i.toNat).2.2) hlb9.2.2.2.2
      have hcl3 : clsIs cI cR rx ry ra h ar ci lo (va_up g lo (c3 (wLow (hullF (S z.toNat)) i.toNat))) K t1 t2 (supd (supd S 8 (sortF (S z.toNat))) 9 (hullF (S z.toNat))) := hcl3
      refine lv_iload hx hb d_H_width_38 (lv_at hl 4 rfl) ?_
      refine lv_aload_n hx hb d_H_width_40 rfl (lv_at hl 3 rfl) ?_
      refine g_ci w (g_runV (As := []) (rest := [.int (iN (i))]) X w (c_R_sides l (G.2.2.1 9 (by decide)) (rowIs_up (c := c3 (wLow (hullF (S z.toNat)) i.toNat)) (G.2.2.2.2 9 (by decide)).2.2.2 hrL)) k_R_sides v_R_sides lk_H_118 (G.2.2.1 9 (by decide)).1 (rowIs_up (c := c3 (wLow (hullF (S z.toNat)) i.toNat)) (G.2.2.2.2 9 (by decide)).2.2.2 hrL).2.1 rfl ⟨(Nat.le_of_ble_eq_true rfl), (Nat.le_of_ble_eq_true rfl)⟩ rfl hl.1 rfl (Nat.le_of_ble_eq_true rfl) d_H_width_41 ⟨Nat.zero_le _, Nat.zero_le _⟩) (fun r u H locs hp w => ?_)
      obtain ⟨rfl, rfl⟩ := hp
      have w : gw D (gA L sz) s.heap H locs L (va_up g lo (c3 (wLow (hullF (S z.toNat)) i.toNat))) := w
      refine ri_cge (a := i) (b := (sd (hullF (S z.toNat)))) (tgt := 81) hx hb d_H_width_44 (by decide) rfl rfl (by unfold i3; omega) (by unfold i3; omega) (fun c44 => ?_) (fun c44 => ?_)
      · skip
        refine lv_aload_n hx hb d_H_width_81 rfl (lv_at hl 0 rfl) ?_
        refine lv_aload_n hx hb d_H_width_82 rfl (lv_at hl 0 rfl) ?_
        refine gk_get X w G.1.1 hcl3.1 rfl in_H 9 (by decide) lk_H_39 rfl d_H_width_83 ?_
        refine g_cl w (g_runV (As := []) (rest := [.ref h]) X w (c_L_over l G.1.2.2.2 (o := (wLow (hullF (S z.toNat)) i.toNat).1) (u := (wLow (hullF (S z.toNat)) i.toNat).2.1) (b := (wLow (hullF (S z.toNat)) i.toNat).2.2) (va_up_self _ _ _)) k_L_over v_L_over lk_H_130 G.1.2.2.2 (show va_up g lo (c3 (wLow (hullF (S z.toNat)) i.toNat)) lo = .inr (3, _) from va_up_self _ _ _) rfl ⟨(Nat.le_of_ble_eq_true rfl), (Nat.le_of_ble_eq_true rfl)⟩ rfl hl.1 rfl (Nat.le_of_ble_eq_true rfl) d_H_width_86 ⟨Nat.zero_le _, Nat.zero_le _⟩) (fun r u H locs hp w => ?_)
        obtain ⟨rfl, rfl⟩ := hp
        have w : gw D (gA L sz) s.heap H locs L (va_up g lo (c3 (wLow (hullF (S z.toNat)) i.toNat))) := w
        refine lv_aload_n hx hb d_H_width_89 rfl (lv_at hl 0 rfl) ?_
        refine gk_get X w G.1.1 hcl3.1 rfl in_H 9 (by decide) lk_H_39 rfl d_H_width_90 ?_
        refine g_cl w (g_runV (As := []) (rest := [.long (jN ((wLow (hullF (S z.toNat)) i.toNat).1)), .ref h]) X w (c_L_under l G.1.2.2.2 (o := (wLow (hullF (S z.toNat)) i.toNat).1) (u := (wLow (hullF (S z.toNat)) i.toNat).2.1) (b := (wLow (hullF (S z.toNat)) i.toNat).2.2) (va_up_self _ _ _)) k_L_under v_L_under lk_H_134 G.1.2.2.2 (show va_up g lo (c3 (wLow (hullF (S z.toNat)) i.toNat)) lo = .inr (3, _) from va_up_self _ _ _) rfl ⟨(Nat.le_of_ble_eq_true rfl), (Nat.le_of_ble_eq_true rfl)⟩ rfl hl.1 rfl (Nat.le_of_ble_eq_true rfl) d_H_width_93 ⟨Nat.zero_le _, Nat.zero_le _⟩) (fun r u H locs hp w => ?_)
        obtain ⟨rfl, rfl⟩ := hp
        have w : gw D (gA L sz) s.heap H locs L (va_up g lo (c3 (wLow (hullF (S z.toNat)) i.toNat))) := w
        refine g_cv w (g_runV (As := [.long (jN ((wLow (hullF (S z.toNat)) i.toNat).1)), .long (jN ((wLow (hullF (S z.toNat)) i.toNat).2.1))]) (rest := []) X w (c_H_tellFraction l G hcl3 (x := (wLow (hullF (S z.toNat)) i.toNat).1) (y := (wLow (hullF (S z.toNat)) i.toNat).2.1) (by unfold l3b at hlb; unfold i6; omega) (by unfold l3b at hlb; omega)) k_H_tellFraction v_H_tellFraction lk_H_137 G.1.1 hcl3.1 rfl ⟨(Nat.le_of_ble_eq_true rfl), (Nat.le_of_ble_eq_true rfl)⟩ rfl hl.1 rfl (Nat.le_of_ble_eq_true rfl) d_H_width_96 ⟨(Nat.le_of_ble_eq_true rfl), (Nat.le_of_ble_eq_true rfl)⟩) (fun u H locs hp w => ?_)
        obtain rfl := hp
        obtain ⟨hct, hut⟩ := cls_obj G hcl3 (K' := K) (t1' := frac1 (wLow (hullF (S z.toNat)) i.toNat).1 (wLow (hullF (S z.toNat)) i.toNat).2.1) (t2' := frac2 (wLow (hullF (S z.toNat)) i.toNat).1 (wLow (hullF (S z.toNat)) i.toNat).2.1) (by omega)
        refine lv_iconst (v := iN (1)) hx hb d_H_width_99 (by decide) ?_
        exact g_iret X w hrt hlk d_H_width_100 ⟨by rw [if_pos hz1, if_neg (by omega)], by unfold crT; rw [if_pos ⟨hz1, by omega⟩, show (sd (hullF (S z.toNat))).toNat = i.toNat by omega]; exact ⟨_, _, rfl, hct, hSk, unch_tr (unch_tr hug hcl3u) hut⟩⟩
      · skip
        refine lv_aload_n hx hb d_H_width_47 rfl (lv_at hl 3 rfl) ?_
        refine lv_iload hx hb d_H_width_48 (lv_at hl 4 rfl) ?_
        refine g_ci w (g_runV (As := [.int (iN (i))]) (rest := []) X w (c_R_reachFromSide l (G.2.2.1 9 (by decide)) (rowIs_up (c := c3 (wLow (hullF (S z.toNat)) i.toNat)) (G.2.2.2.2 9 (by decide)).2.2.2 hrL) hBL (by omega)) k_R_reachFromSide v_R_reachFromSide lk_H_121 (G.2.2.1 9 (by decide)).1 (rowIs_up (c := c3 (wLow (hullF (S z.toNat)) i.toNat)) (G.2.2.2.2 9 (by decide)).2.2.2 hrL).2.1 rfl ⟨(Nat.le_of_ble_eq_true rfl), (Nat.le_of_ble_eq_true rfl)⟩ rfl hl.1 rfl (Nat.le_of_ble_eq_true rfl) d_H_width_50 ⟨Nat.zero_le _, Nat.zero_le _⟩) (fun r u H locs hp w => ?_)
        obtain ⟨rfl, rfl⟩ := hp
        have w : gw D (gA L sz) s.heap H locs L (va_up g lo (c3 (wLow (hullF (S z.toNat)) i.toNat))) := w
        refine ri_i2l (a := (rch (hullF (S z.toNat)) i (hullF (S z.toNat)).length)) hx hb d_H_width_53 rfl (by have := rch_b3 hBL3 i (hullF (S z.toNat)).length; unfold i3; omega) ?_
        refine lv_lstore (lv' := [(5, .long (jN ((rch (hullF (S z.toNat)) i (hullF (S z.toNat)).length)))), (0, .ref h), (1, .int (iN (z))), (2, .ref (ra z.toNat)), (3, .ref (ra 9)), (4, .int (iN (i)))]) hx hb d_H_width_54 hl (by decide) rfl (fun ls hl => ?_)
        refine lv_aload_n hx hb d_H_width_56 rfl (lv_at hl 1 rfl) ?_
        refine gk_get X w G.1.1 hcl3.1 rfl in_H 9 (by decide) lk_H_39 rfl d_H_width_57 ?_
        have hlb9 := lt3_b hlb (rch_sq hBL3 i (hullF (S z.toNat)).length) (sq_b3 hBL3 i (nx (hullF (S z.toNat)) i))
        have h6 := lt3_6 (by decide) hlb (rch_sq hBL3 i (hullF (S z.toNat)).length) (sq_b3 hBL3 i (nx (hullF (S z.toNat)) i))
        refine lv_lload hx hb d_H_width_60 (lv_at hl 0 rfl) ?_
        refine lv_lload hx hb d_H_width_62 (lv_at hl 0 rfl) ?_
        refine rj_mul (a := (rch (hullF (S z.toNat)) i (hullF (S z.toNat)).length)) (b := (rch (hullF (S z.toNat)) i (hullF (S z.toNat)).length)) hx hb d_H_width_64 rfl rfl ?_
        refine lv_aload_n hx hb d_H_width_65 rfl (lv_at hl 4 rfl) ?_
        refine lv_iload hx hb d_H_width_66 (lv_at hl 5 rfl) ?_
        refine g_ci w (g_runV (As := [.int (iN (i))]) (rest := [.long (jN (((rch (hullF (S z.toNat)) i (hullF (S z.toNat)).length) * (rch (hullF (S z.toNat)) i (hullF (S z.toNat)).length)))), .ref lo]) X w (c_R_squareOfSide l (G.2.2.1 9 (by decide)) (rowIs_up (c := c3 (wLow (hullF (S z.toNat)) i.toNat)) (G.2.2.2.2 9 (by decide)).2.2.2 hrL) (by omega)) k_R_squareOfSide v_R_squareOfSide lk_H_124 (G.2.2.1 9 (by decide)).1 (rowIs_up (c := c3 (wLow (hullF (S z.toNat)) i.toNat)) (G.2.2.2.2 9 (by decide)).2.2.2 hrL).2.1 rfl ⟨(Nat.le_of_ble_eq_true rfl), (Nat.le_of_ble_eq_true rfl)⟩ rfl hl.1 rfl (Nat.le_of_ble_eq_true rfl) d_H_width_68 ⟨Nat.zero_le _, Nat.zero_le _⟩) (fun r u H locs hp w => ?_)
        obtain ⟨rfl, rfl⟩ := hp
        have w : gw D (gA L sz) s.heap H locs L (va_up g lo (c3 (wLow (hullF (S z.toNat)) i.toNat))) := w
        refine ri_i2l (a := (sq (hullF (S z.toNat)) i (nx (hullF (S z.toNat)) i))) hx hb d_H_width_71 rfl (by have := sq_b3 hBL3 i (nx (hullF (S z.toNat)) i); unfold i3; omega) ?_
        refine g_cv w (g_runV (As := [.long (jN (((rch (hullF (S z.toNat)) i (hullF (S z.toNat)).length) * (rch (hullF (S z.toNat)) i (hullF (S z.toNat)).length)))), .long (jN ((sq (hullF (S z.toNat)) i (nx (hullF (S z.toNat)) i))))]) (rest := []) X w (c_L_take l G.1.2.2.2 (o := (wLow (hullF (S z.toNat)) i.toNat).1) (u := (wLow (hullF (S z.toNat)) i.toNat).2.1) (b := (wLow (hullF (S z.toNat)) i.toNat).2.2) (va_up_self _ _ _) hlb.2.2.2.2 (no := ((rch (hullF (S z.toNat)) i (hullF (S z.toNat)).length) * (rch (hullF (S z.toNat)) i (hullF (S z.toNat)).length))) (nu := (sq (hullF (S z.toNat)) i (nx (hullF (S z.toNat)) i))) h6.1 h6.2) k_L_take v_L_take lk_H_127 G.1.2.2.2 (show va_up g lo (c3 (wLow (hullF (S z.toNat)) i.toNat)) lo = .inr (3, _) from va_up_self _ _ _) rfl ⟨(Nat.le_of_ble_eq_true rfl), (Nat.le_of_ble_eq_true rfl)⟩ rfl hl.1 rfl (Nat.le_of_ble_eq_true rfl) d_H_width_72 ⟨(Nat.le_of_ble_eq_true rfl), (Nat.le_of_ble_eq_true rfl)⟩) (fun u H locs hp w => ?_)
        obtain rfl := hp
        have w : gw D (gA L sz) s.heap H locs L (va_up g lo (c3 (lt3 (wLow (hullF (S z.toNat)) i.toNat) ((rch (hullF (S z.toNat)) i (hullF (S z.toNat)).length) * (rch (hullF (S z.toNat)) i (hullF (S z.toNat)).length)) (sq (hullF (S z.toNat)) i (nx (hullF (S z.toNat)) i))))) := by have w9 := w; dsimp only at w9; (try rw [bx_uu] at w9); rw [lTake_3] at w9; exact w9
        obtain ⟨hcl4, hcl4u⟩ := cls_lo G hcg (o' := (lt3 (wLow (hullF (S z.toNat)) i.toNat) ((rch (hullF (S z.toNat)) i (hullF (S z.toNat)).length) * (rch (hullF (S z.toNat)) i (hullF (S z.toNat)).length)) (sq (hullF (S z.toNat)) i (nx (hullF (S z.toNat)) i))).1) (u' := (lt3 (wLow (hullF (S z.toNat)) i.toNat) ((rch (hullF (S z.toNat)) i (hullF (S z.toNat)).length) * (rch (hullF (S z.toNat)) i (hullF (S z.toNat)).length)) (sq (hullF (S z.toNat)) i (nx (hullF (S z.toNat)) i))).2.1) (b' := (lt3 (wLow (hullF (S z.toNat)) i.toNat) ((rch (hullF (S z.toNat)) i (hullF (S z.toNat)).length) * (rch (hullF (S z.toNat)) i (hullF (S z.toNat)).length)) (sq (hullF (S z.toNat)) i (nx (hullF (S z.toNat)) i))).2.2) hlb9.2.2.2.2
        have hcl4 : clsIs cI cR rx ry ra h ar ci lo (va_up g lo (c3 (lt3 (wLow (hullF (S z.toNat)) i.toNat) ((rch (hullF (S z.toNat)) i (hullF (S z.toNat)).length) * (rch (hullF (S z.toNat)) i (hullF (S z.toNat)).length)) (sq (hullF (S z.toNat)) i (nx (hullF (S z.toNat)) i))))) K t1 t2 (supd (supd S 8 (sortF (S z.toNat))) 9 (hullF (S z.toNat))) := hcl4
        refine lv_iinc (v := iN ((i + 1))) (lv' := [(4, .int (iN ((i + 1)))), (5, .long (jN ((rch (hullF (S z.toNat)) i (hullF (S z.toNat)).length)))), (0, .ref h), (1, .int (iN (z))), (2, .ref (ra z.toNat)), (3, .ref (ra 9))]) hx hb d_H_width_75 hl (k := 5) rfl (by rw [show (i + 1) = i + (1 : Int) by omega, ← iN_add]; rfl) (by decide) rfl (fun ls hl => ?_)
        refine lv_goto (tgt := 38) hx hb d_H_width_78 (by decide) ?_
        have es : lt3 (wLow (hullF (S z.toNat)) i.toNat) (rch (hullF (S z.toNat)) i (hullF (S z.toNat)).length * rch (hullF (S z.toNat)) i (hullF (S z.toNat)).length) (sq (hullF (S z.toNat)) i (nx (hullF (S z.toNat)) i)) = wLow (hullF (S z.toNat)) (i + 1).toNat := by rw [tn_s h0, wLow, tn_c h0]
        rw [es] at w
        exact ih (i + 1) _ _ _ (by omega) ⟨by omega, by omega⟩ w (lv_sub hl [2, 3, 4, 5, 0] rfl)
    · skip
      refine lv_bipush (v := iN (-3)) hx hb d_H_width_19 (by decide) ?_
      exact g_iret X w hrt hlk d_H_width_21 ⟨by rw [if_pos hz1, if_pos (by omega)], by unfold crT; rw [if_neg (fun q => q.2 (by omega))]; exact ⟨f, S, rfl, hc, fun _ _ => rfl, unch_rf⟩⟩
  · skip
    rw [if_neg hz1] at hr9
    subst hr9
    refine lv_astore_nN (lv' := [(2, .null), (0, .ref h), (1, .int (iN (z)))]) hx hb d_H_width_5 rfl hl (by decide) rfl (fun ls hl => ?_)
    refine lv_aload_nN hx hb d_H_width_6 rfl (lv_at hl 0 rfl) ?_
    refine lv_ifnonnullN hx hb d_H_width_7 ?_
    refine lv_iconst (v := iN (-1)) hx hb d_H_width_10 (by decide) ?_
    exact g_iret X w hrt hlk d_H_width_11 ⟨by rw [if_neg hz1], by unfold crT; rw [if_neg (fun q => hz1 q.1)]; exact ⟨f, S, rfl, hc, fun _ _ => rfl, unch_rf⟩⟩
theorem enc_t {c : C5} (h : cB5 c) : (i6 (c.1 * c.2.2.2.2 + c.2.2.1) ∧ -9223372036854775807 ≤ c.1 * c.2.2.2.2 + c.2.2.1) ∧ (i6 (c.2.1 * c.2.2.2.2 + c.2.2.2.1) ∧ -9223372036854775807 ≤ c.2.1 * c.2.2.2.2 + c.2.2.2.1) ∧ (-281474976710656 < c.2.2.2.2 ∧ c.2.2.2.2 < 281474976710656) ∧ (i6 (c.2.2.1 * c.2.2.1 + c.2.2.2.1 * c.2.2.2.1) ∧ -9223372036854775807 ≤ c.2.2.1 * c.2.2.1 + c.2.2.2.1 * c.2.2.2.1) ∧ (-281474976710656 < c.2.2.2.2 * c.2.2.2.2 ∧ c.2.2.2.2 * c.2.2.2.2 < 281474976710656) := by
  unfold cB5 cB at h
  have q1 := mbc (a := c.1) (b := c.2.2.2.2) 300 1440000 432000000 (by omega) (by omega) (by omega) (by omega) (by decide)
  have q2 := mbc (a := c.2.1) (b := c.2.2.2.2) 300 1440000 432000000 (by omega) (by omega) (by omega) (by omega) (by decide)
  have q3 := mbc (a := c.2.2.1) (b := c.2.2.1) 864000000 864000000 746496000000000000 (by omega) (by omega) (by omega) (by omega) (by decide)
  have q4 := mbc (a := c.2.2.2.1) (b := c.2.2.2.1) 864000000 864000000 746496000000000000 (by omega) (by omega) (by omega) (by omega) (by decide)
  have q5 := mbc (a := c.2.2.2.2) (b := c.2.2.2.2) 1440000 1440000 2073600000000 (by omega) (by omega) (by omega) (by omega) (by decide)
  unfold i6; omega
def cirN (c : C5) (wh : Int) : Int := if wh = 0 then c.1 * c.2.2.2.2 + c.2.2.1 else if wh = 1 then c.2.1 * c.2.2.2.2 + c.2.2.2.1 else c.2.2.1 * c.2.2.1 + c.2.2.2.1 * c.2.2.2.1
def cirD (c : C5) (wh : Int) : Int := if wh = 0 then c.2.2.2.2 else if wh = 1 then c.2.2.2.2 else c.2.2.2.2 * c.2.2.2.2
set_option maxHeartbeats 4000000 in
set_option maxRecDepth 100000 in
theorem c_H_circle (l : Launch) {D : va_G} {cI cR : ClassId} {L : List Nat} {f : Nat → va_E} {rx ry ra : Nat → Nat} {h ar ci lo : Nat} {K t1 t2 : Int} {S : Nat → List Pt} (G : geo L rx ry ra h ar ci lo) (hc : clsIs cI cR rx ry ra h ar ci lo f K t1 t2 S) (hok : okS K S) {z : Int} (hz : i3 z) {wh : Int} (hw3 : i3 wh) (hne : ∀ Q : List Pt, Q.length ≤ 24 → Q.length ≠ 0 → 1 ≤ (hullF Q).length) : gMi D cI cR l y_H_circle (Cond.code y_H_circle b_H_circle 4 (some .int) :: lw_g) { frames := 5, cells := 0, slots := 0, locals := 130 } [.ref h, .int (iN (z)), .int (iN (wh))] L f (fun r u => r = iN (if 0 ≤ z ∧ z < K then (if 0 ≤ wh ∧ wh ≤ 2 then (if (S z.toNat).length = 0 then -3 else 1) else -2) else -1) ∧ crT ((0 ≤ z ∧ z < K) ∧ (0 ≤ wh ∧ wh ≤ 2) ∧ (S z.toNat).length ≠ 0) (frac1 (cirN (encA (hullF (S z.toNat)) ((hullF (S z.toNat)).length - 1)) wh) (cirD (encA (hullF (S z.toNat)) ((hullF (S z.toNat)).length - 1)) wh)) (frac2 (cirN (encA (hullF (S z.toNat)) ((hullF (S z.toNat)).length - 1)) wh) (cirD (encA (hullF (S z.toNat)) ((hullF (S z.toNat)).length - 1)) wh)) t1 t2 (fun p q => hpost L cI cR rx ry ra h ar ci lo f K p q S u)) := by
  intro sz
  refine g_enter (by decide) rfl (Nat.le_of_ble_eq_true rfl) ?_
  intro p e s m below meth cd ls X hrt hlk hnm hl hsz w
  have X : gx p m cd b_H_circle 4 s _ "HullSums" D cI cR := X
  have hx := X.1.1
  have hb := X.1.2.1
  have hl : lv_has ls 4 [(0, .ref h), (1, .int (iN (z))), (2, .int (iN (wh)))] := hl
  have hK := hc.2.2.2.2.2
  refine lv_aload_n hx hb d_H_circle_0 rfl (lv_at hl 0 rfl) ?_
  refine lv_iload_n hx hb d_H_circle_1 rfl (lv_at hl 1 rfl) ?_
  refine g_cq w (g_runV (As := [.int (iN (z))]) (rest := []) X w (c_H_rowOf l G hc (z := z) hz) k_H_rowOf v_H_rowOf lk_H_58 G.1.1 hc.1 rfl ⟨(Nat.le_of_ble_eq_true rfl), (Nat.le_of_ble_eq_true rfl)⟩ rfl hl.1 rfl (Nat.le_of_ble_eq_true rfl) d_H_circle_2 ⟨(Nat.le_of_ble_eq_true rfl), (Nat.le_of_ble_eq_true rfl)⟩) (fun r u H locs hp w => ?_)
  obtain ⟨hr9, rfl⟩ := hp
  have w : gw D (gA L sz) s.heap H locs L f := w
  by_cases hz1 : 0 ≤ z ∧ z < K
  · skip
    rw [if_pos hz1] at hr9
    subst hr9
    have hz18 : z.toNat < 8 := by have := hc.2.2.2.2.2; omega
    have hBhz1 : pb 600 (S z.toNat) := pb_of (by decide) (pbl_le (by decide) (hok _ (by omega)).2)
    have hlhz1 := (hok z.toNat (by omega)).1
    refine lv_astore_n (lv' := [(3, .ref (ra z.toNat)), (0, .ref h), (1, .int (iN (z))), (2, .int (iN (wh)))]) hx hb d_H_circle_5 rfl hl (by decide) rfl (fun ls hl => ?_)
    refine lv_aload_n hx hb d_H_circle_6 rfl (lv_at hl 0 rfl) ?_
    refine lv_ifnonnull (tgt := 12) hx hb d_H_circle_7 (by decide) ?_
    refine lv_iload_n hx hb d_H_circle_12 rfl (lv_at hl 3 rfl) ?_
    refine ri_zlt (a := wh) (tgt := 21) hx hb d_H_circle_13 (by decide) rfl hw3 (fun c13 => ?_) (fun c13 => ?_)
    · skip
      refine lv_bipush (v := iN (-2)) hx hb d_H_circle_21 (by decide) ?_
      exact g_iret X w hrt hlk d_H_circle_23 ⟨by rw [if_pos hz1, if_neg (by omega)], by unfold crT; rw [if_neg (fun q => by omega)]; exact ⟨f, S, rfl, hc, fun _ _ => rfl, unch_rf⟩⟩
    · skip
      refine lv_iload_n hx hb d_H_circle_16 rfl (lv_at hl 3 rfl) ?_
      refine lv_iconst (v := iN (2)) hx hb d_H_circle_17 (by decide) ?_
      refine ri_cle (a := wh) (b := 2) (tgt := 24) hx hb d_H_circle_18 (by decide) rfl rfl hw3 (by unfold i3; omega) (fun c18 => ?_) (fun c18 => ?_)
      · skip
        refine lv_aload_n hx hb d_H_circle_24 rfl (lv_at hl 0 rfl) ?_
        refine g_ci w (g_runV (As := []) (rest := []) X w (c_R_size l (G.2.2.1 z.toNat (by omega)) (hc.2.2.1 z.toNat (by omega))) k_R_size v_R_size lk_H_72 (G.2.2.1 z.toNat (by omega)).1 (hc.2.2.1 z.toNat (by omega)).2.1 rfl ⟨(Nat.le_of_ble_eq_true rfl), (Nat.le_of_ble_eq_true rfl)⟩ rfl hl.1 rfl (Nat.le_of_ble_eq_true rfl) d_H_circle_25 ⟨Nat.zero_le _, Nat.zero_le _⟩) (fun r u H locs hp w => ?_)
        obtain ⟨rfl, rfl⟩ := hp
        have w : gw D (gA L sz) s.heap H locs L f := w
        refine ri_zne (a := ((S z.toNat).length : Int)) (tgt := 34) hx hb d_H_circle_28 (by decide) rfl (by unfold i3; omega) (fun c28 => ?_) (fun c28 => ?_)
        · skip
          refine lv_aload_n hx hb d_H_circle_34 rfl (lv_at hl 1 rfl) ?_
          refine gk_get X w G.1.1 hc.1 rfl in_H 8 (by decide) lk_H_32 rfl d_H_circle_35 ?_
          refine lv_aload_n hx hb d_H_circle_38 rfl (lv_at hl 1 rfl) ?_
          refine lv_aload_n hx hb d_H_circle_39 rfl (lv_at hl 0 rfl) ?_
          refine g_cq w (g_runV (As := [.ref (ra z.toNat)]) (rest := [.ref ci]) X w (c_H_hullOf l G hc (i := z.toNat) (by omega) (pbl_le (by decide) (hok _ (by omega)).2) (hok _ (by omega)).1) k_H_hullOf v_H_hullOf lk_H_80 G.1.1 hc.1 rfl ⟨(Nat.le_of_ble_eq_true rfl), (Nat.le_of_ble_eq_true rfl)⟩ rfl hl.1 rfl (Nat.le_of_ble_eq_true rfl) d_H_circle_40 ⟨(Nat.le_of_ble_eq_true rfl), (Nat.le_of_ble_eq_true rfl)⟩) (fun r u H locs hp w => ?_)
          obtain ⟨rfl, g, rfl, hcg, hug⟩ := hp
          have w : gw D (gA L sz) s.heap H locs L g := w
          have hrL : rowIs cI rx ry g (ra 9) (hullF (S z.toNat)) := by have h9 := hcg.2.2.1 9 (by decide); rw [su_s] at h9; exact h9
          have hSk : ∀ j, j < 8 → supd (supd S 8 (sortF (S z.toNat))) 9 (hullF (S z.toNat)) j = S j := fun j hj => by rw [su_n (by omega), su_n (by omega)]
          have hBL3 : pb 300 (hullF (S z.toNat)) := pb_of (by decide) (pbl_hull (hok _ (by omega)).2)
          have hBL : pb 600 (hullF (S z.toNat)) := pb_of (by decide) (pbl_le (by decide) (pbl_hull (hok _ (by omega)).2))
          have hn48 := hrL.1
          have hqhz1 : rowIs cI rx ry g (ra z.toNat) (S z.toNat) := by have h9 := hcg.2.2.1 z.toNat (by omega); rw [hSk _ (by omega)] at h9; exact h9
          obtain ⟨c0, hci0⟩ := hcg.2.2.2.1
          have hH1 : 1 ≤ (hullF (S z.toNat)).length := hne (S z.toNat) (hok _ (by omega)).1 (by omega)
          refine g_cv w (g_runV (As := [.ref (ra 9)]) (rest := []) X w (c_C_enclose l G.1.2.2.1 hci0 (G.2.2.1 9 (by decide)) hrL (G.2.2.2.2 9 (by decide)).2.2.1 hBL3 hH1) k_C_enclose v_C_enclose lk_H_140 G.1.2.2.1 (show g ci = .inr (2, _) from hci0) rfl ⟨(Nat.le_of_ble_eq_true rfl), (Nat.le_of_ble_eq_true rfl)⟩ rfl hl.1 rfl (Nat.le_of_ble_eq_true rfl) d_H_circle_43 ⟨(Nat.le_of_ble_eq_true rfl), (Nat.le_of_ble_eq_true rfl)⟩) (fun u H locs hp w => ?_)
          obtain rfl := hp
          have w : gw D (gA L sz) s.heap H locs L (va_up g ci (c5 (encA (hullF (S z.toNat)) ((hullF (S z.toNat)).length - 1)))) := w
          obtain ⟨hce, hue⟩ := cls_ci G hcg (c' := (encA (hullF (S z.toNat)) ((hullF (S z.toNat)).length - 1)))
          have hcb : cB5 (encA (hullF (S z.toNat)) ((hullF (S z.toNat)).length - 1)) := encA_b hBL3 _
          have het := enc_t hcb
          refine lv_iload_n hx hb d_H_circle_46 rfl (lv_at hl 3 rfl) ?_
          refine ri_zne (a := wh) (tgt := 71) hx hb d_H_circle_47 (by decide) rfl hw3 (fun c47 => ?_) (fun c47 => ?_)
          · skip
            refine lv_iload_n hx hb d_H_circle_71 rfl (lv_at hl 3 rfl) ?_
            refine lv_iconst (v := iN (1)) hx hb d_H_circle_72 (by decide) ?_
            refine ri_cne (a := wh) (b := 1) (tgt := 97) hx hb d_H_circle_73 (by decide) rfl rfl hw3 (by unfold i3; omega) (fun c73 => ?_) (fun c73 => ?_)
            · skip
              refine lv_aload_n hx hb d_H_circle_97 rfl (lv_at hl 1 rfl) ?_
              refine lv_aload_n hx hb d_H_circle_98 rfl (lv_at hl 1 rfl) ?_
              refine gk_get X w G.1.1 hce.1 rfl in_H 8 (by decide) lk_H_32 rfl d_H_circle_99 ?_
              refine g_cl w (g_runV (As := []) (rest := [.ref h]) X w (c_C_squareOver l G.1.2.2.1 (px := (encA (hullF (S z.toNat)) ((hullF (S z.toNat)).length - 1)).1) (py := (encA (hullF (S z.toNat)) ((hullF (S z.toNat)).length - 1)).2.1) (ux := (encA (hullF (S z.toNat)) ((hullF (S z.toNat)).length - 1)).2.2.1) (uy := (encA (hullF (S z.toNat)) ((hullF (S z.toNat)).length - 1)).2.2.2.1) (un := (encA (hullF (S z.toNat)) ((hullF (S z.toNat)).length - 1)).2.2.2.2) (va_up_self _ _ _)) k_C_squareOver v_C_squareOver lk_H_153 G.1.2.2.1 (show va_up g ci (c5 (encA (hullF (S z.toNat)) ((hullF (S z.toNat)).length - 1))) ci = .inr (2, _) from va_up_self _ _ _) rfl ⟨(Nat.le_of_ble_eq_true rfl), (Nat.le_of_ble_eq_true rfl)⟩ rfl hl.1 rfl (Nat.le_of_ble_eq_true rfl) d_H_circle_102 ⟨Nat.zero_le _, Nat.zero_le _⟩) (fun r u H locs hp w => ?_)
              obtain ⟨rfl, rfl⟩ := hp
              have w : gw D (gA L sz) s.heap H locs L (va_up g ci (c5 (encA (hullF (S z.toNat)) ((hullF (S z.toNat)).length - 1)))) := w
              refine lv_aload_n hx hb d_H_circle_105 rfl (lv_at hl 1 rfl) ?_
              refine gk_get X w G.1.1 hce.1 rfl in_H 8 (by decide) lk_H_32 rfl d_H_circle_106 ?_
              refine g_cl w (g_runV (As := []) (rest := [.long (jN (((encA (hullF (S z.toNat)) ((hullF (S z.toNat)).length - 1)).2.2.1 * (encA (hullF (S z.toNat)) ((hullF (S z.toNat)).length - 1)).2.2.1 + (encA (hullF (S z.toNat)) ((hullF (S z.toNat)).length - 1)).2.2.2.1 * (encA (hullF (S z.toNat)) ((hullF (S z.toNat)).length - 1)).2.2.2.1))), .ref h]) X w (c_C_squareUnder l G.1.2.2.1 (px := (encA (hullF (S z.toNat)) ((hullF (S z.toNat)).length - 1)).1) (py := (encA (hullF (S z.toNat)) ((hullF (S z.toNat)).length - 1)).2.1) (ux := (encA (hullF (S z.toNat)) ((hullF (S z.toNat)).length - 1)).2.2.1) (uy := (encA (hullF (S z.toNat)) ((hullF (S z.toNat)).length - 1)).2.2.2.1) (un := (encA (hullF (S z.toNat)) ((hullF (S z.toNat)).length - 1)).2.2.2.2) (va_up_self _ _ _)) k_C_squareUnder v_C_squareUnder lk_H_156 G.1.2.2.1 (show va_up g ci (c5 (encA (hullF (S z.toNat)) ((hullF (S z.toNat)).length - 1))) ci = .inr (2, _) from va_up_self _ _ _) rfl ⟨(Nat.le_of_ble_eq_true rfl), (Nat.le_of_ble_eq_true rfl)⟩ rfl hl.1 rfl (Nat.le_of_ble_eq_true rfl) d_H_circle_109 ⟨Nat.zero_le _, Nat.zero_le _⟩) (fun r u H locs hp w => ?_)
              obtain ⟨rfl, rfl⟩ := hp
              have w : gw D (gA L sz) s.heap H locs L (va_up g ci (c5 (encA (hullF (S z.toNat)) ((hullF (S z.toNat)).length - 1)))) := w
              refine g_cv w (g_runV (As := [.long (jN (((encA (hullF (S z.toNat)) ((hullF (S z.toNat)).length - 1)).2.2.1 * (encA (hullF (S z.toNat)) ((hullF (S z.toNat)).length - 1)).2.2.1 + (encA (hullF (S z.toNat)) ((hullF (S z.toNat)).length - 1)).2.2.2.1 * (encA (hullF (S z.toNat)) ((hullF (S z.toNat)).length - 1)).2.2.2.1))), .long (jN (((encA (hullF (S z.toNat)) ((hullF (S z.toNat)).length - 1)).2.2.2.2 * (encA (hullF (S z.toNat)) ((hullF (S z.toNat)).length - 1)).2.2.2.2)))]) (rest := []) X w (c_H_tellFraction l G hce (x := ((encA (hullF (S z.toNat)) ((hullF (S z.toNat)).length - 1)).2.2.1 * (encA (hullF (S z.toNat)) ((hullF (S z.toNat)).length - 1)).2.2.1 + (encA (hullF (S z.toNat)) ((hullF (S z.toNat)).length - 1)).2.2.2.1 * (encA (hullF (S z.toNat)) ((hullF (S z.toNat)).length - 1)).2.2.2.1)) (y := ((encA (hullF (S z.toNat)) ((hullF (S z.toNat)).length - 1)).2.2.2.2 * (encA (hullF (S z.toNat)) ((hullF (S z.toNat)).length - 1)).2.2.2.2)) het.2.2.2.1 het.2.2.2.2) k_H_tellFraction v_H_tellFraction lk_H_137 G.1.1 hce.1 rfl ⟨(Nat.le_of_ble_eq_true rfl), (Nat.le_of_ble_eq_true rfl)⟩ rfl hl.1 rfl (Nat.le_of_ble_eq_true rfl) d_H_circle_112 ⟨(Nat.le_of_ble_eq_true rfl), (Nat.le_of_ble_eq_true rfl)⟩) (fun u H locs hp w => ?_)
              obtain rfl := hp
              obtain ⟨hct, hut⟩ := cls_obj G hce (K' := K) (t1' := frac1 ((encA (hullF (S z.toNat)) ((hullF (S z.toNat)).length - 1)).2.2.1 * (encA (hullF (S z.toNat)) ((hullF (S z.toNat)).length - 1)).2.2.1 + (encA (hullF (S z.toNat)) ((hullF (S z.toNat)).length - 1)).2.2.2.1 * (encA (hullF (S z.toNat)) ((hullF (S z.toNat)).length - 1)).2.2.2.1) ((encA (hullF (S z.toNat)) ((hullF (S z.toNat)).length - 1)).2.2.2.2 * (encA (hullF (S z.toNat)) ((hullF (S z.toNat)).length - 1)).2.2.2.2)) (t2' := frac2 ((encA (hullF (S z.toNat)) ((hullF (S z.toNat)).length - 1)).2.2.1 * (encA (hullF (S z.toNat)) ((hullF (S z.toNat)).length - 1)).2.2.1 + (encA (hullF (S z.toNat)) ((hullF (S z.toNat)).length - 1)).2.2.2.1 * (encA (hullF (S z.toNat)) ((hullF (S z.toNat)).length - 1)).2.2.2.1) ((encA (hullF (S z.toNat)) ((hullF (S z.toNat)).length - 1)).2.2.2.2 * (encA (hullF (S z.toNat)) ((hullF (S z.toNat)).length - 1)).2.2.2.2)) (by omega)
              refine lv_iconst (v := iN (1)) hx hb d_H_circle_115 (by decide) ?_
              exact g_iret X w hrt hlk d_H_circle_116 ⟨by rw [if_pos hz1, if_pos (by omega), if_neg (by omega)], by unfold crT; rw [if_pos ⟨hz1, by omega, by omega⟩]; unfold cirN cirD; first | (rw [if_pos (by omega), if_pos (by omega)]; exact ⟨_, _, rfl, hct, hSk, unch_tr (unch_tr hug hue) hut⟩) | (rw [if_neg (by omega), if_pos (by omega), if_neg (by omega), if_pos (by omega)]; exact ⟨_, _, rfl, hct, hSk, unch_tr (unch_tr hug hue) hut⟩) | (rw [if_neg (by omega), if_neg (by omega), if_neg (by omega), if_neg (by omega)]; exact ⟨_, _, rfl, hct, hSk, unch_tr (unch_tr hug hue) hut⟩)⟩
            · skip
              refine lv_aload_n hx hb d_H_circle_76 rfl (lv_at hl 1 rfl) ?_
              refine lv_aload_n hx hb d_H_circle_77 rfl (lv_at hl 1 rfl) ?_
              refine gk_get X w G.1.1 hce.1 rfl in_H 8 (by decide) lk_H_32 rfl d_H_circle_78 ?_
              refine g_cl w (g_runV (As := []) (rest := [.ref h]) X w (c_C_middleY l G.1.2.2.1 (px := (encA (hullF (S z.toNat)) ((hullF (S z.toNat)).length - 1)).1) (py := (encA (hullF (S z.toNat)) ((hullF (S z.toNat)).length - 1)).2.1) (ux := (encA (hullF (S z.toNat)) ((hullF (S z.toNat)).length - 1)).2.2.1) (uy := (encA (hullF (S z.toNat)) ((hullF (S z.toNat)).length - 1)).2.2.2.1) (un := (encA (hullF (S z.toNat)) ((hullF (S z.toNat)).length - 1)).2.2.2.2) (va_up_self _ _ _)) k_C_middleY v_C_middleY lk_H_150 G.1.2.2.1 (show va_up g ci (c5 (encA (hullF (S z.toNat)) ((hullF (S z.toNat)).length - 1))) ci = .inr (2, _) from va_up_self _ _ _) rfl ⟨(Nat.le_of_ble_eq_true rfl), (Nat.le_of_ble_eq_true rfl)⟩ rfl hl.1 rfl (Nat.le_of_ble_eq_true rfl) d_H_circle_81 ⟨Nat.zero_le _, Nat.zero_le _⟩) (fun r u H locs hp w => ?_)
              obtain ⟨rfl, rfl⟩ := hp
              have w : gw D (gA L sz) s.heap H locs L (va_up g ci (c5 (encA (hullF (S z.toNat)) ((hullF (S z.toNat)).length - 1)))) := w
              refine lv_aload_n hx hb d_H_circle_84 rfl (lv_at hl 1 rfl) ?_
              refine gk_get X w G.1.1 hce.1 rfl in_H 8 (by decide) lk_H_32 rfl d_H_circle_85 ?_
              refine g_cl w (g_runV (As := []) (rest := [.long (jN (((encA (hullF (S z.toNat)) ((hullF (S z.toNat)).length - 1)).2.1 * (encA (hullF (S z.toNat)) ((hullF (S z.toNat)).length - 1)).2.2.2.2 + (encA (hullF (S z.toNat)) ((hullF (S z.toNat)).length - 1)).2.2.2.1))), .ref h]) X w (c_C_middleUnder l G.1.2.2.1 (px := (encA (hullF (S z.toNat)) ((hullF (S z.toNat)).length - 1)).1) (py := (encA (hullF (S z.toNat)) ((hullF (S z.toNat)).length - 1)).2.1) (ux := (encA (hullF (S z.toNat)) ((hullF (S z.toNat)).length - 1)).2.2.1) (uy := (encA (hullF (S z.toNat)) ((hullF (S z.toNat)).length - 1)).2.2.2.1) (un := (encA (hullF (S z.toNat)) ((hullF (S z.toNat)).length - 1)).2.2.2.2) (va_up_self _ _ _)) k_C_middleUnder v_C_middleUnder lk_H_147 G.1.2.2.1 (show va_up g ci (c5 (encA (hullF (S z.toNat)) ((hullF (S z.toNat)).length - 1))) ci = .inr (2, _) from va_up_self _ _ _) rfl ⟨(Nat.le_of_ble_eq_true rfl), (Nat.le_of_ble_eq_true rfl)⟩ rfl hl.1 rfl (Nat.le_of_ble_eq_true rfl) d_H_circle_88 ⟨Nat.zero_le _, Nat.zero_le _⟩) (fun r u H locs hp w => ?_)
              obtain ⟨rfl, rfl⟩ := hp
              have w : gw D (gA L sz) s.heap H locs L (va_up g ci (c5 (encA (hullF (S z.toNat)) ((hullF (S z.toNat)).length - 1)))) := w
              refine g_cv w (g_runV (As := [.long (jN (((encA (hullF (S z.toNat)) ((hullF (S z.toNat)).length - 1)).2.1 * (encA (hullF (S z.toNat)) ((hullF (S z.toNat)).length - 1)).2.2.2.2 + (encA (hullF (S z.toNat)) ((hullF (S z.toNat)).length - 1)).2.2.2.1))), .long (jN ((encA (hullF (S z.toNat)) ((hullF (S z.toNat)).length - 1)).2.2.2.2))]) (rest := []) X w (c_H_tellFraction l G hce (x := ((encA (hullF (S z.toNat)) ((hullF (S z.toNat)).length - 1)).2.1 * (encA (hullF (S z.toNat)) ((hullF (S z.toNat)).length - 1)).2.2.2.2 + (encA (hullF (S z.toNat)) ((hullF (S z.toNat)).length - 1)).2.2.2.1)) (y := (encA (hullF (S z.toNat)) ((hullF (S z.toNat)).length - 1)).2.2.2.2) het.2.1 het.2.2.1) k_H_tellFraction v_H_tellFraction lk_H_137 G.1.1 hce.1 rfl ⟨(Nat.le_of_ble_eq_true rfl), (Nat.le_of_ble_eq_true rfl)⟩ rfl hl.1 rfl (Nat.le_of_ble_eq_true rfl) d_H_circle_91 ⟨(Nat.le_of_ble_eq_true rfl), (Nat.le_of_ble_eq_true rfl)⟩) (fun u H locs hp w => ?_)
              obtain rfl := hp
              obtain ⟨hct, hut⟩ := cls_obj G hce (K' := K) (t1' := frac1 ((encA (hullF (S z.toNat)) ((hullF (S z.toNat)).length - 1)).2.1 * (encA (hullF (S z.toNat)) ((hullF (S z.toNat)).length - 1)).2.2.2.2 + (encA (hullF (S z.toNat)) ((hullF (S z.toNat)).length - 1)).2.2.2.1) (encA (hullF (S z.toNat)) ((hullF (S z.toNat)).length - 1)).2.2.2.2) (t2' := frac2 ((encA (hullF (S z.toNat)) ((hullF (S z.toNat)).length - 1)).2.1 * (encA (hullF (S z.toNat)) ((hullF (S z.toNat)).length - 1)).2.2.2.2 + (encA (hullF (S z.toNat)) ((hullF (S z.toNat)).length - 1)).2.2.2.1) (encA (hullF (S z.toNat)) ((hullF (S z.toNat)).length - 1)).2.2.2.2) (by omega)
              refine lv_goto (tgt := 115) hx hb d_H_circle_94 (by decide) ?_
              refine lv_iconst (v := iN (1)) hx hb d_H_circle_115 (by decide) ?_
              exact g_iret X w hrt hlk d_H_circle_116 ⟨by rw [if_pos hz1, if_pos (by omega), if_neg (by omega)], by unfold crT; rw [if_pos ⟨hz1, by omega, by omega⟩]; unfold cirN cirD; first | (rw [if_pos (by omega), if_pos (by omega)]; exact ⟨_, _, rfl, hct, hSk, unch_tr (unch_tr hug hue) hut⟩) | (rw [if_neg (by omega), if_pos (by omega), if_neg (by omega), if_pos (by omega)]; exact ⟨_, _, rfl, hct, hSk, unch_tr (unch_tr hug hue) hut⟩) | (rw [if_neg (by omega), if_neg (by omega), if_neg (by omega), if_neg (by omega)]; exact ⟨_, _, rfl, hct, hSk, unch_tr (unch_tr hug hue) hut⟩)⟩
          · skip
            refine lv_aload_n hx hb d_H_circle_50 rfl (lv_at hl 1 rfl) ?_
            refine lv_aload_n hx hb d_H_circle_51 rfl (lv_at hl 1 rfl) ?_
            refine gk_get X w G.1.1 hce.1 rfl in_H 8 (by decide) lk_H_32 rfl d_H_circle_52 ?_
            refine g_cl w (g_runV (As := []) (rest := [.ref h]) X w (c_C_middleX l G.1.2.2.1 (px := (encA (hullF (S z.toNat)) ((hullF (S z.toNat)).length - 1)).1) (py := (encA (hullF (S z.toNat)) ((hullF (S z.toNat)).length - 1)).2.1) (ux := (encA (hullF (S z.toNat)) ((hullF (S z.toNat)).length - 1)).2.2.1) (uy := (encA (hullF (S z.toNat)) ((hullF (S z.toNat)).length - 1)).2.2.2.1) (un := (encA (hullF (S z.toNat)) ((hullF (S z.toNat)).length - 1)).2.2.2.2) (va_up_self _ _ _)) k_C_middleX v_C_middleX lk_H_144 G.1.2.2.1 (show va_up g ci (c5 (encA (hullF (S z.toNat)) ((hullF (S z.toNat)).length - 1))) ci = .inr (2, _) from va_up_self _ _ _) rfl ⟨(Nat.le_of_ble_eq_true rfl), (Nat.le_of_ble_eq_true rfl)⟩ rfl hl.1 rfl (Nat.le_of_ble_eq_true rfl) d_H_circle_55 ⟨Nat.zero_le _, Nat.zero_le _⟩) (fun r u H locs hp w => ?_)
            obtain ⟨rfl, rfl⟩ := hp
            have w : gw D (gA L sz) s.heap H locs L (va_up g ci (c5 (encA (hullF (S z.toNat)) ((hullF (S z.toNat)).length - 1)))) := w
            refine lv_aload_n hx hb d_H_circle_58 rfl (lv_at hl 1 rfl) ?_
            refine gk_get X w G.1.1 hce.1 rfl in_H 8 (by decide) lk_H_32 rfl d_H_circle_59 ?_
            refine g_cl w (g_runV (As := []) (rest := [.long (jN (((encA (hullF (S z.toNat)) ((hullF (S z.toNat)).length - 1)).1 * (encA (hullF (S z.toNat)) ((hullF (S z.toNat)).length - 1)).2.2.2.2 + (encA (hullF (S z.toNat)) ((hullF (S z.toNat)).length - 1)).2.2.1))), .ref h]) X w (c_C_middleUnder l G.1.2.2.1 (px := (encA (hullF (S z.toNat)) ((hullF (S z.toNat)).length - 1)).1) (py := (encA (hullF (S z.toNat)) ((hullF (S z.toNat)).length - 1)).2.1) (ux := (encA (hullF (S z.toNat)) ((hullF (S z.toNat)).length - 1)).2.2.1) (uy := (encA (hullF (S z.toNat)) ((hullF (S z.toNat)).length - 1)).2.2.2.1) (un := (encA (hullF (S z.toNat)) ((hullF (S z.toNat)).length - 1)).2.2.2.2) (va_up_self _ _ _)) k_C_middleUnder v_C_middleUnder lk_H_147 G.1.2.2.1 (show va_up g ci (c5 (encA (hullF (S z.toNat)) ((hullF (S z.toNat)).length - 1))) ci = .inr (2, _) from va_up_self _ _ _) rfl ⟨(Nat.le_of_ble_eq_true rfl), (Nat.le_of_ble_eq_true rfl)⟩ rfl hl.1 rfl (Nat.le_of_ble_eq_true rfl) d_H_circle_62 ⟨Nat.zero_le _, Nat.zero_le _⟩) (fun r u H locs hp w => ?_)
            obtain ⟨rfl, rfl⟩ := hp
            have w : gw D (gA L sz) s.heap H locs L (va_up g ci (c5 (encA (hullF (S z.toNat)) ((hullF (S z.toNat)).length - 1)))) := w
            refine g_cv w (g_runV (As := [.long (jN (((encA (hullF (S z.toNat)) ((hullF (S z.toNat)).length - 1)).1 * (encA (hullF (S z.toNat)) ((hullF (S z.toNat)).length - 1)).2.2.2.2 + (encA (hullF (S z.toNat)) ((hullF (S z.toNat)).length - 1)).2.2.1))), .long (jN ((encA (hullF (S z.toNat)) ((hullF (S z.toNat)).length - 1)).2.2.2.2))]) (rest := []) X w (c_H_tellFraction l G hce (x := ((encA (hullF (S z.toNat)) ((hullF (S z.toNat)).length - 1)).1 * (encA (hullF (S z.toNat)) ((hullF (S z.toNat)).length - 1)).2.2.2.2 + (encA (hullF (S z.toNat)) ((hullF (S z.toNat)).length - 1)).2.2.1)) (y := (encA (hullF (S z.toNat)) ((hullF (S z.toNat)).length - 1)).2.2.2.2) het.1 het.2.2.1) k_H_tellFraction v_H_tellFraction lk_H_137 G.1.1 hce.1 rfl ⟨(Nat.le_of_ble_eq_true rfl), (Nat.le_of_ble_eq_true rfl)⟩ rfl hl.1 rfl (Nat.le_of_ble_eq_true rfl) d_H_circle_65 ⟨(Nat.le_of_ble_eq_true rfl), (Nat.le_of_ble_eq_true rfl)⟩) (fun u H locs hp w => ?_)
            obtain rfl := hp
            obtain ⟨hct, hut⟩ := cls_obj G hce (K' := K) (t1' := frac1 ((encA (hullF (S z.toNat)) ((hullF (S z.toNat)).length - 1)).1 * (encA (hullF (S z.toNat)) ((hullF (S z.toNat)).length - 1)).2.2.2.2 + (encA (hullF (S z.toNat)) ((hullF (S z.toNat)).length - 1)).2.2.1) (encA (hullF (S z.toNat)) ((hullF (S z.toNat)).length - 1)).2.2.2.2) (t2' := frac2 ((encA (hullF (S z.toNat)) ((hullF (S z.toNat)).length - 1)).1 * (encA (hullF (S z.toNat)) ((hullF (S z.toNat)).length - 1)).2.2.2.2 + (encA (hullF (S z.toNat)) ((hullF (S z.toNat)).length - 1)).2.2.1) (encA (hullF (S z.toNat)) ((hullF (S z.toNat)).length - 1)).2.2.2.2) (by omega)
            refine lv_goto (tgt := 115) hx hb d_H_circle_68 (by decide) ?_
            refine lv_iconst (v := iN (1)) hx hb d_H_circle_115 (by decide) ?_
            exact g_iret X w hrt hlk d_H_circle_116 ⟨by rw [if_pos hz1, if_pos (by omega), if_neg (by omega)], by unfold crT; rw [if_pos ⟨hz1, by omega, by omega⟩]; unfold cirN cirD; first | (rw [if_pos (by omega), if_pos (by omega)]; exact ⟨_, _, rfl, hct, hSk, unch_tr (unch_tr hug hue) hut⟩) | (rw [if_neg (by omega), if_pos (by omega), if_neg (by omega), if_pos (by omega)]; exact ⟨_, _, rfl, hct, hSk, unch_tr (unch_tr hug hue) hut⟩) | (rw [if_neg (by omega), if_neg (by omega), if_neg (by omega), if_neg (by omega)]; exact ⟨_, _, rfl, hct, hSk, unch_tr (unch_tr hug hue) hut⟩)⟩
        · skip
          refine lv_bipush (v := iN (-3)) hx hb d_H_circle_31 (by decide) ?_
          exact g_iret X w hrt hlk d_H_circle_33 ⟨by rw [if_pos hz1, if_pos (by omega), if_pos (by omega)], by unfold crT; rw [if_neg (fun q => q.2.2 (by omega))]; exact ⟨f, S, rfl, hc, fun _ _ => rfl, unch_rf⟩⟩
      · skip
        refine lv_bipush (v := iN (-2)) hx hb d_H_circle_21 (by decide) ?_
        exact g_iret X w hrt hlk d_H_circle_23 ⟨by rw [if_pos hz1, if_neg (by omega)], by unfold crT; rw [if_neg (fun q => by omega)]; exact ⟨f, S, rfl, hc, fun _ _ => rfl, unch_rf⟩⟩
  · skip
    rw [if_neg hz1] at hr9
    subst hr9
    refine lv_astore_nN (lv' := [(3, .null), (0, .ref h), (1, .int (iN (z))), (2, .int (iN (wh)))]) hx hb d_H_circle_5 rfl hl (by decide) rfl (fun ls hl => ?_)
    refine lv_aload_nN hx hb d_H_circle_6 rfl (lv_at hl 0 rfl) ?_
    refine lv_ifnonnullN hx hb d_H_circle_7 ?_
    refine lv_iconst (v := iN (-1)) hx hb d_H_circle_10 (by decide) ?_
    exact g_iret X w hrt hlk d_H_circle_11 ⟨by rw [if_neg hz1], by unfold crT; rw [if_neg (fun q => hz1 q.1)]; exact ⟨f, S, rfl, hc, fun _ _ => rfl, unch_rf⟩⟩
set_option maxHeartbeats 4000000 in
set_option maxRecDepth 100000 in
theorem c_H_mixed (l : Launch) {D : va_G} {cI cR : ClassId} {L : List Nat} {f : Nat → va_E} {rx ry ra : Nat → Nat} {h ar ci lo : Nat} {K t1 t2 : Int} {S : Nat → List Pt} (G : geo L rx ry ra h ar ci lo) (hc : clsIs cI cR rx ry ra h ar ci lo f K t1 t2 S) (hok : okS K S) {z : Int} (hz : i3 z) {z2 : Int} (hz2 : i3 z2) (hHL : ∀ i : Nat, (i : Int) < K → (hullF (S i)).length ≤ 24 ∧ (hullF ((S i).map (sgm 1))).length ≤ 24) : gMi D cI cR l y_H_mixed (Cond.code y_H_mixed b_H_mixed 4 (some .int) :: lw_g) { frames := 5, cells := 0, slots := 0, locals := 120 } [.ref h, .int (iN (z)), .int (iN (z2))] L f (fun r u => r = iN (if (flA K S z z2 = 0) then dar (sumF (hullF (S z.toNat)) (hullF ((S z2.toNat).map (sgm 1)))) (sumF (hullF (S z.toNat)) (hullF ((S z2.toNat).map (sgm 1)))).length - dar (hullF (S z.toNat)) (hullF (S z.toNat)).length - dar (hullF ((S z2.toNat).map (sgm 1))) (hullF ((S z2.toNat).map (sgm 1))).length else flA K S z z2) ∧ hpost L cI cR rx ry ra h ar ci lo f K t1 t2 S u) := by
  intro sz
  refine g_enter (by decide) rfl (Nat.le_of_ble_eq_true rfl) ?_
  intro p e s m below meth cd ls X hrt hlk hnm hl hsz w
  have X : gx p m cd b_H_mixed 4 s _ "HullSums" D cI cR := X
  have hx := X.1.1
  have hb := X.1.2.1
  have hl : lv_has ls 4 [(0, .ref h), (1, .int (iN (z))), (2, .int (iN (z2)))] := hl
  have hK := hc.2.2.2.2.2
  refine lv_aload_n hx hb d_H_mixed_0 rfl (lv_at hl 0 rfl) ?_
  refine lv_iload_n hx hb d_H_mixed_1 rfl (lv_at hl 1 rfl) ?_
  refine lv_iload_n hx hb d_H_mixed_2 rfl (lv_at hl 2 rfl) ?_
  refine lv_iconst (v := iN (1)) hx hb d_H_mixed_3 (by decide) ?_
  refine g_ci w (g_runV (As := [.int (iN (z)), .int (iN (z2)), .int (iN (1))]) (rest := []) X w (c_H_fillSums l G hc hok (z := z) hz (z2 := z2) hz2 (sg := 1) (Or.inl rfl) hHL) k_H_fillSums v_H_fillSums lk_H_159 G.1.1 hc.1 rfl ⟨(Nat.le_of_ble_eq_true rfl), (Nat.le_of_ble_eq_true rfl)⟩ rfl hl.1 rfl (Nat.le_of_ble_eq_true rfl) d_H_mixed_4 ⟨(Nat.le_of_ble_eq_true rfl), (Nat.le_of_ble_eq_true rfl)⟩) (fun r u H locs hp w => ?_)
  obtain ⟨rfl, g, S1, rfl, hcg, hSk, hug, hS9⟩ := hp
  have w : gw D (gA L sz) s.heap H locs L g := w
  have hfl : flA K S z z2 = 0 ∨ flA K S z z2 = -1 ∨ flA K S z z2 = -3 := by unfold flA; split; (split <;> omega); omega
  refine lv_istore_n (lv' := [(3, .int (iN ((flA K S z z2)))), (0, .ref h), (1, .int (iN (z))), (2, .int (iN (z2)))]) hx hb d_H_mixed_7 rfl hl (by decide) rfl (fun ls hl => ?_)
  refine lv_iload_n hx hb d_H_mixed_8 rfl (lv_at hl 0 rfl) ?_
  refine ri_zge (a := (flA K S z z2)) (tgt := 14) hx hb d_H_mixed_9 (by decide) rfl (by unfold i3; omega) (fun c9 => ?_) (fun c9 => ?_)
  · skip
    have hf0 : flA K S z z2 = 0 := by omega
    have hf1 : (0 ≤ z ∧ z < K) ∧ (0 ≤ z2 ∧ z2 < K) := by by_cases q : (0 ≤ z ∧ z < K) ∧ (0 ≤ z2 ∧ z2 < K); exact q; unfold flA at hf0; rw [if_neg q] at hf0; omega
    have hf2 : (S z.toNat).length ≠ 0 ∧ (S z2.toNat).length ≠ 0 := by unfold flA at hf0; rw [if_pos hf1] at hf0; split at hf0 <;> omega
    obtain ⟨e9, e10, e11⟩ := hS9 hf0
    have hr9 : rowIs cI rx ry g (ra 9) (hullF (S z.toNat)) := by rw [← e9]; exact hcg.2.2.1 9 (by decide)
    have hr10 : rowIs cI rx ry g (ra 10) (hullF ((S z2.toNat).map (sgm 1))) := by rw [← e10]; exact hcg.2.2.1 10 (by decide)
    have hr11 : rowIs cI rx ry g (ra 11) (sumF (hullF (S z.toNat)) (hullF ((S z2.toNat).map (sgm 1)))) := by rw [← e11]; exact hcg.2.2.1 11 (by decide)
    have hn48 := hr11.1
    refine lv_aload_n hx hb d_H_mixed_14 rfl (lv_at hl 1 rfl) ?_
    refine gk_get X w G.1.1 hcg.1 rfl in_H 7 (by decide) lk_H_26 rfl d_H_mixed_15 ?_
    refine g_ci w (g_runV (As := []) (rest := []) X w (c_R_doubleArea l (G.2.2.1 11 (by decide)) hr11 ) k_R_doubleArea v_R_doubleArea lk_H_100 (G.2.2.1 11 (by decide)).1 hr11.2.1 rfl ⟨(Nat.le_of_ble_eq_true rfl), (Nat.le_of_ble_eq_true rfl)⟩ rfl hl.1 rfl (Nat.le_of_ble_eq_true rfl) d_H_mixed_18 ⟨Nat.zero_le _, Nat.zero_le _⟩) (fun r u H locs hp w => ?_)
    obtain ⟨rfl, rfl⟩ := hp
    have w : gw D (gA L sz) s.heap H locs L g := w
    refine lv_aload_n hx hb d_H_mixed_21 rfl (lv_at hl 1 rfl) ?_
    refine gk_get X w G.1.1 hcg.1 rfl in_H 5 (by decide) lk_H_20 rfl d_H_mixed_22 ?_
    refine g_ci w (g_runV (As := []) (rest := [.int (iN ((dar (sumF (hullF (S z.toNat)) (hullF ((S z2.toNat).map (sgm 1)))) (sumF (hullF (S z.toNat)) (hullF ((S z2.toNat).map (sgm 1)))).length)))]) X w (c_R_doubleArea l (G.2.2.1 9 (by decide)) hr9 ) k_R_doubleArea v_R_doubleArea lk_H_100 (G.2.2.1 9 (by decide)).1 hr9.2.1 rfl ⟨(Nat.le_of_ble_eq_true rfl), (Nat.le_of_ble_eq_true rfl)⟩ rfl hl.1 rfl (Nat.le_of_ble_eq_true rfl) d_H_mixed_25 ⟨Nat.zero_le _, Nat.zero_le _⟩) (fun r u H locs hp w => ?_)
    obtain ⟨rfl, rfl⟩ := hp
    have w : gw D (gA L sz) s.heap H locs L g := w
    refine ri_sub (a := (dar (sumF (hullF (S z.toNat)) (hullF ((S z2.toNat).map (sgm 1)))) (sumF (hullF (S z.toNat)) (hullF ((S z2.toNat).map (sgm 1)))).length)) (b := (dar (hullF (S z.toNat)) (hullF (S z.toNat)).length)) hx hb d_H_mixed_28 rfl rfl ?_
    refine lv_aload_n hx hb d_H_mixed_29 rfl (lv_at hl 1 rfl) ?_
    refine gk_get X w G.1.1 hcg.1 rfl in_H 6 (by decide) lk_H_23 rfl d_H_mixed_30 ?_
    refine g_ci w (g_runV (As := []) (rest := [.int (iN (((dar (sumF (hullF (S z.toNat)) (hullF ((S z2.toNat).map (sgm 1)))) (sumF (hullF (S z.toNat)) (hullF ((S z2.toNat).map (sgm 1)))).length) - (dar (hullF (S z.toNat)) (hullF (S z.toNat)).length))))]) X w (c_R_doubleArea l (G.2.2.1 10 (by decide)) hr10 ) k_R_doubleArea v_R_doubleArea lk_H_100 (G.2.2.1 10 (by decide)).1 hr10.2.1 rfl ⟨(Nat.le_of_ble_eq_true rfl), (Nat.le_of_ble_eq_true rfl)⟩ rfl hl.1 rfl (Nat.le_of_ble_eq_true rfl) d_H_mixed_33 ⟨Nat.zero_le _, Nat.zero_le _⟩) (fun r u H locs hp w => ?_)
    obtain ⟨rfl, rfl⟩ := hp
    have w : gw D (gA L sz) s.heap H locs L g := w
    refine ri_sub (a := ((dar (sumF (hullF (S z.toNat)) (hullF ((S z2.toNat).map (sgm 1)))) (sumF (hullF (S z.toNat)) (hullF ((S z2.toNat).map (sgm 1)))).length) - (dar (hullF (S z.toNat)) (hullF (S z.toNat)).length))) (b := (dar (hullF ((S z2.toNat).map (sgm 1))) (hullF ((S z2.toNat).map (sgm 1))).length)) hx hb d_H_mixed_36 rfl rfl ?_
    exact g_iret X w hrt hlk d_H_mixed_37 ⟨by rw [if_pos hf0], ⟨g, S1, rfl, hcg, hSk, hug⟩⟩
  · skip
    refine lv_iload_n hx hb d_H_mixed_12 rfl (lv_at hl 0 rfl) ?_
    exact g_iret X w hrt hlk d_H_mixed_13 ⟨by rw [if_neg (by omega)], ⟨g, S1, rfl, hcg, hSk, hug⟩⟩
set_option maxHeartbeats 4000000 in
set_option maxRecDepth 100000 in
theorem c_H_meets (l : Launch) {D : va_G} {cI cR : ClassId} {L : List Nat} {f : Nat → va_E} {rx ry ra : Nat → Nat} {h ar ci lo : Nat} {K t1 t2 : Int} {S : Nat → List Pt} (G : geo L rx ry ra h ar ci lo) (hc : clsIs cI cR rx ry ra h ar ci lo f K t1 t2 S) (hok : okS K S) {z : Int} (hz : i3 z) {z2 : Int} (hz2 : i3 z2) (hHL : ∀ i : Nat, (i : Int) < K → (hullF (S i)).length ≤ 24 ∧ (hullF ((S i).map (sgm (-1)))).length ≤ 24) (hSM : ∀ a b : Nat, (a : Int) < K → (b : Int) < K → (S a).length ≠ 0 → (S b).length ≠ 0 → pbl 600 (sumF (hullF (S a)) (hullF ((S b).map (sgm (-1)))))) : gMi D cI cR l y_H_meets (Cond.code y_H_meets b_H_meets 4 (some .int) :: lw_g) { frames := 5, cells := 0, slots := 0, locals := 120 } [.ref h, .int (iN (z)), .int (iN (z2))] L f (fun r u => r = iN (if (flA K S z z2 = 0) then (if plc (sumF (hullF (S z.toNat)) (hullF ((S z2.toNat).map (sgm (-1))))) 0 0 = 0 then 0 else 1) else flA K S z z2) ∧ hpost L cI cR rx ry ra h ar ci lo f K t1 t2 S u) := by
  intro sz
  refine g_enter (by decide) rfl (Nat.le_of_ble_eq_true rfl) ?_
  intro p e s m below meth cd ls X hrt hlk hnm hl hsz w
  have X : gx p m cd b_H_meets 4 s _ "HullSums" D cI cR := X
  have hx := X.1.1
  have hb := X.1.2.1
  have hl : lv_has ls 4 [(0, .ref h), (1, .int (iN (z))), (2, .int (iN (z2)))] := hl
  have hK := hc.2.2.2.2.2
  refine lv_aload_n hx hb d_H_meets_0 rfl (lv_at hl 0 rfl) ?_
  refine lv_iload_n hx hb d_H_meets_1 rfl (lv_at hl 1 rfl) ?_
  refine lv_iload_n hx hb d_H_meets_2 rfl (lv_at hl 2 rfl) ?_
  refine lv_iconst (v := iN (-1)) hx hb d_H_meets_3 (by decide) ?_
  refine g_ci w (g_runV (As := [.int (iN (z)), .int (iN (z2)), .int (iN (-1))]) (rest := []) X w (c_H_fillSums l G hc hok (z := z) hz (z2 := z2) hz2 (sg := (-1)) (Or.inr rfl) hHL) k_H_fillSums v_H_fillSums lk_H_159 G.1.1 hc.1 rfl ⟨(Nat.le_of_ble_eq_true rfl), (Nat.le_of_ble_eq_true rfl)⟩ rfl hl.1 rfl (Nat.le_of_ble_eq_true rfl) d_H_meets_4 ⟨(Nat.le_of_ble_eq_true rfl), (Nat.le_of_ble_eq_true rfl)⟩) (fun r u H locs hp w => ?_)
  obtain ⟨rfl, g, S1, rfl, hcg, hSk, hug, hS9⟩ := hp
  have w : gw D (gA L sz) s.heap H locs L g := w
  have hfl : flA K S z z2 = 0 ∨ flA K S z z2 = -1 ∨ flA K S z z2 = -3 := by unfold flA; split; (split <;> omega); omega
  refine lv_istore_n (lv' := [(3, .int (iN ((flA K S z z2)))), (0, .ref h), (1, .int (iN (z))), (2, .int (iN (z2)))]) hx hb d_H_meets_7 rfl hl (by decide) rfl (fun ls hl => ?_)
  refine lv_iload_n hx hb d_H_meets_8 rfl (lv_at hl 0 rfl) ?_
  refine ri_zge (a := (flA K S z z2)) (tgt := 14) hx hb d_H_meets_9 (by decide) rfl (by unfold i3; omega) (fun c9 => ?_) (fun c9 => ?_)
  · skip
    have hf0 : flA K S z z2 = 0 := by omega
    have hf1 : (0 ≤ z ∧ z < K) ∧ (0 ≤ z2 ∧ z2 < K) := by by_cases q : (0 ≤ z ∧ z < K) ∧ (0 ≤ z2 ∧ z2 < K); exact q; unfold flA at hf0; rw [if_neg q] at hf0; omega
    have hf2 : (S z.toNat).length ≠ 0 ∧ (S z2.toNat).length ≠ 0 := by unfold flA at hf0; rw [if_pos hf1] at hf0; split at hf0 <;> omega
    obtain ⟨e9, e10, e11⟩ := hS9 hf0
    have hr9 : rowIs cI rx ry g (ra 9) (hullF (S z.toNat)) := by rw [← e9]; exact hcg.2.2.1 9 (by decide)
    have hr10 : rowIs cI rx ry g (ra 10) (hullF ((S z2.toNat).map (sgm (-1)))) := by rw [← e10]; exact hcg.2.2.1 10 (by decide)
    have hr11 : rowIs cI rx ry g (ra 11) (sumF (hullF (S z.toNat)) (hullF ((S z2.toNat).map (sgm (-1))))) := by rw [← e11]; exact hcg.2.2.1 11 (by decide)
    have hBS : pb 600 (sumF (hullF (S z.toNat)) (hullF ((S z2.toNat).map (sgm (-1))))) := pb_of (by decide) (hSM _ _ (by omega) (by omega) hf2.1 hf2.2)
    have hn48 := hr11.1
    refine lv_aload_n hx hb d_H_meets_14 rfl (lv_at hl 1 rfl) ?_
    refine gk_get X w G.1.1 hcg.1 rfl in_H 7 (by decide) lk_H_26 rfl d_H_meets_15 ?_
    refine lv_iconst (v := iN (0)) hx hb d_H_meets_18 (by decide) ?_
    refine lv_iconst (v := iN (0)) hx hb d_H_meets_19 (by decide) ?_
    refine g_ci w (g_runV (As := [.int (iN (0)), .int (iN (0))]) (rest := []) X w (c_R_place l (G.2.2.1 11 (by decide)) hr11 hBS (by omega) (by omega)) k_R_place v_R_place lk_H_97 (G.2.2.1 11 (by decide)).1 hr11.2.1 rfl ⟨(Nat.le_of_ble_eq_true rfl), (Nat.le_of_ble_eq_true rfl)⟩ rfl hl.1 rfl (Nat.le_of_ble_eq_true rfl) d_H_meets_20 ⟨Nat.zero_le _, Nat.zero_le _⟩) (fun r u H locs hp w => ?_)
    obtain ⟨rfl, rfl⟩ := hp
    have w : gw D (gA L sz) s.heap H locs L g := w
    refine ri_zne (a := (plc (sumF (hullF (S z.toNat)) (hullF ((S z2.toNat).map (sgm (-1))))) 0 0)) (tgt := 30) hx hb d_H_meets_23 (by decide) rfl (by have := plc_b (sumF (hullF (S z.toNat)) (hullF ((S z2.toNat).map (sgm (-1))))) 0 0; unfold i3; omega) (fun c23 => ?_) (fun c23 => ?_)
    · skip
      refine lv_iconst (v := iN (1)) hx hb d_H_meets_30 (by decide) ?_
      exact g_iret X w hrt hlk d_H_meets_31 ⟨by rw [if_pos hf0, if_neg (by omega)], ⟨g, S1, rfl, hcg, hSk, hug⟩⟩
    · skip
      refine lv_iconst (v := iN (0)) hx hb d_H_meets_26 (by decide) ?_
      refine lv_goto (tgt := 31) hx hb d_H_meets_27 (by decide) ?_
      exact g_iret X w hrt hlk d_H_meets_31 ⟨by rw [if_pos hf0, if_pos (by omega)], ⟨g, S1, rfl, hcg, hSk, hug⟩⟩
  · skip
    refine lv_iload_n hx hb d_H_meets_12 rfl (lv_at hl 0 rfl) ?_
    exact g_iret X w hrt hlk d_H_meets_13 ⟨by rw [if_neg (by omega)], ⟨g, S1, rfl, hcg, hSk, hug⟩⟩
noncomputable def dL1 (H : List Pt) (s : L3) : Nat → L3
  | 0 => s
  | n + 1 => lt3 (dL1 H s n) (pX H n * pX H n + pY H n * pY H n) 1
noncomputable def dL2 (H : List Pt) (s : L3) : Nat → L3
  | 0 => s
  | n + 1 => by
    classical
    exact if faceZ H n then lt3 (dL2 H s n) (off H n 0 0 * off H n 0 0) (sq H n (nx H n)) else dL2 H s n
noncomputable def dLow (H : List Pt) (s : L3) : L3 := dL2 H (dL1 H s H.length) (sd H).toNat
theorem sqz_b {H : List Pt} (h : pb 600 H) (i : Int) : 0 ≤ pX H i * pX H i + pY H i * pY H i ∧ pX H i * pX H i + pY H i * pY H i ≤ 720000 := by
  have a := h i
  have q1 := mbc (a := pX H i) (b := pX H i) 600 600 360000 (by omega) (by omega) (by omega) (by omega) (by decide)
  have q2 := mbc (a := pY H i) (b := pY H i) 600 600 360000 (by omega) (by omega) (by omega) (by omega) (by decide)
  have r1 := ssq (pX H i); have r2 := ssq (pY H i)
  omega
theorem offz_b {H : List Pt} (h : pb 600 H) (i : Int) : -1440000 ≤ off H i 0 0 ∧ off H i 0 0 ≤ 1440000 := by
  have a := h i; have b := h (nx H i)
  have q1 := mbc (a := pX H (nx H i) - pX H i) (b := 0 - pY H i) 1200 600 720000 (by omega) (by omega) (by omega) (by omega) (by decide)
  have q2 := mbc (a := pY H (nx H i) - pY H i) (b := 0 - pX H i) 1200 600 720000 (by omega) (by omega) (by omega) (by omega) (by decide)
  unfold off pT; omega
theorem offz_sq {H : List Pt} (h : pb 600 H) (i : Int) : 0 ≤ off H i 0 0 * off H i 0 0 ∧ off H i 0 0 * off H i 0 0 ≤ 2073600000000 := by
  have a := offz_b h i
  have b := mbc (a := off H i 0 0) (b := off H i 0 0) 1440000 1440000 2073600000000 (by omega) (by omega) (by omega) (by omega) (by decide)
  have c := ssq (off H i 0 0)
  omega
theorem dL1_b {H : List Pt} (h : pb 600 H) {s : L3} (hs : l3b 2073600000000 2880000 s) (n : Nat) : l3b 2073600000000 2880000 (dL1 H s n) := by
  induction n with
  | zero => exact hs
  | succ n ih => exact lt3_b ih (by have := sqz_b h n; omega) (by omega)
theorem dL2_b {H : List Pt} (h : pb 600 H) {s : L3} (hs : l3b 2073600000000 2880000 s) (n : Nat) : l3b 2073600000000 2880000 (dL2 H s n) := by
  induction n with
  | zero => exact hs
  | succ n ih =>
    unfold dL2
    split
    · exact lt3_b ih (offz_sq h n) (sq_b h n _)
    · exact ih
set_option maxHeartbeats 4000000 in
set_option maxRecDepth 100000 in
theorem c_H_takeDistancesFromZero (l : Launch) {D : va_G} {cI cR : ClassId} {L : List Nat} {f : Nat → va_E} {rx ry ra : Nat → Nat} {h ar ci lo : Nat} {K t1 t2 : Int} {S : Nat → List Pt} (G : geo L rx ry ra h ar ci lo) (hc : clsIs cI cR rx ry ra h ar ci lo f K t1 t2 S) {Q : List Pt} (hr : rowIs cI rx ry f (ra 11) Q) (hB : pb 600 Q) {l0 : L3} (hl0 : l3b 2073600000000 2880000 l0) (he : f lo = c3 l0) : gMv D cI cR l y_H_takeDistancesFromZero (Cond.code y_H_takeDistancesFromZero b_H_takeDistancesFromZero 5 none :: lw_g) { frames := 4, cells := 0, slots := 0, locals := 88 } [.ref h, .ref (ra 11)] L f (fun u => u = (L, va_up f lo (c3 (dLow Q l0)))) := by
  intro sz
  refine g_enter (by decide) rfl (Nat.le_of_ble_eq_true rfl) ?_
  intro p e s m below meth cd ls X hrt hlk hnm hl hsz w
  have X : gx p m cd b_H_takeDistancesFromZero 5 s _ "HullSums" D cI cR := X
  have hx := X.1.1
  have hb := X.1.2.1
  have hl : lv_has ls 5 [(0, .ref h), (1, .ref (ra 11))] := hl
  have hn48 := hr.1
  have w : gw D (gA L sz) s.heap s.heap [] L (va_up f lo (c3 l0)) := by rw [va_same he]; exact w
  have hsd : 0 ≤ sd Q ∧ sd Q ≤ 48 := by unfold sd; split <;> omega
  refine lv_iconst (v := iN (0)) hx hb d_H_takeDistancesFromZero_0 (by decide) ?_
  refine lv_istore_n (lv' := [(2, .int (iN (0))), (0, .ref h), (1, .ref (ra 11))]) hx hb d_H_takeDistancesFromZero_1 rfl hl (by decide) rfl (fun ls hl => ?_)
  refine g_loop (σ := Int) (fun z9 => ((Q.length : Int) - z9).toNat) (fun z9 => [(0, .ref h), (1, .ref (ra 11)), (2, .int (iN (z9)))]) L (fun z9 => va_up f lo (c3 (dL1 Q l0 z9.toNat))) (fun z9 => 0 ≤ z9 ∧ z9 ≤ (Q.length : Int)) ?_ 0 _ _ _ ⟨by omega, by omega⟩ w (lv_sub hl [1, 2, 0] rfl)
  intro i H locs ls hI w hl ih
  have hl : lv_has ls 5 [(0, .ref h), (1, .ref (ra 11)), (2, .int (iN (i)))] := hl
  have w : gw D (gA L sz) s.heap H locs L (va_up f lo (c3 (dL1 Q l0 i.toNat))) := w
  have hI : 0 ≤ i ∧ i ≤ (Q.length : Int) := hI
  obtain ⟨h0, h1⟩ := hI
  have hlb : l3b 2073600000000 2880000 (dL1 Q l0 i.toNat) := dL1_b hB hl0 _
  have hlb9 := hlb
  obtain ⟨hcl1, hcl1u⟩ := cls_lo G hc (o' := (dL1 Q l0 i.toNat).1) (u' := (dL1 Q l0 i.toNat).2.1) (b' := (dL1 Q l0 i.toNat).2.2) hlb9.2.2.2.2
  have hcl1 : clsIs cI cR rx ry ra h ar ci lo (va_up f lo (c3 (dL1 Q l0 i.toNat))) K t1 t2 S := hcl1
  refine lv_iload_n hx hb d_H_takeDistancesFromZero_2 rfl (lv_at hl 2 rfl) ?_
  refine lv_aload_n hx hb d_H_takeDistancesFromZero_3 rfl (lv_at hl 1 rfl) ?_
  refine g_ci w (g_runV (As := []) (rest := [.int (iN (i))]) X w (c_R_size l (G.2.2.1 11 (by decide)) (rowIs_up (c := c3 (dL1 Q l0 i.toNat)) (G.2.2.2.2 11 (by decide)).2.2.2 hr)) k_R_size v_R_size lk_H_72 (G.2.2.1 11 (by decide)).1 (rowIs_up (c := c3 (dL1 Q l0 i.toNat)) (G.2.2.2.2 11 (by decide)).2.2.2 hr).2.1 rfl ⟨(Nat.le_of_ble_eq_true rfl), (Nat.le_of_ble_eq_true rfl)⟩ rfl hl.1 rfl (Nat.le_of_ble_eq_true rfl) d_H_takeDistancesFromZero_4 ⟨Nat.zero_le _, Nat.zero_le _⟩) (fun r u H locs hp w => ?_)
  obtain ⟨rfl, rfl⟩ := hp
  have w : gw D (gA L sz) s.heap H locs L (va_up f lo (c3 (dL1 Q l0 i.toNat))) := w
  refine ri_cge (a := i) (b := (Q.length : Int)) (tgt := 30) hx hb d_H_takeDistancesFromZero_7 (by decide) rfl rfl (by unfold i3; omega) (by unfold i3; omega) (fun c7 => ?_) (fun c7 => ?_)
  · skip
    rw [show i.toNat = Q.length by omega] at w
    refine lv_iconst (v := iN (0)) hx hb d_H_takeDistancesFromZero_30 (by decide) ?_
    refine lv_istore_n (lv' := [(2, .int (iN (0))), (0, .ref h), (1, .ref (ra 11))]) hx hb d_H_takeDistancesFromZero_31 rfl hl (by decide) rfl (fun ls hl => ?_)
    refine g_loop (σ := Int) (fun z9 => (sd Q - z9).toNat) (fun z9 => [(0, .ref h), (1, .ref (ra 11)), (2, .int (iN (z9)))]) L (fun z9 => va_up f lo (c3 (dL2 Q (dL1 Q l0 Q.length) z9.toNat))) (fun z9 => 0 ≤ z9 ∧ z9 ≤ sd Q) ?_ 0 _ _ _ ⟨by omega, by omega⟩ w (lv_sub hl [1, 2, 0] rfl)
    intro i H locs ls hI w hl ih
    have hl : lv_has ls 5 [(0, .ref h), (1, .ref (ra 11)), (2, .int (iN (i)))] := hl
    have w : gw D (gA L sz) s.heap H locs L (va_up f lo (c3 (dL2 Q (dL1 Q l0 Q.length) i.toNat))) := w
    have hI : 0 ≤ i ∧ i ≤ sd Q := hI
    obtain ⟨h0, h1⟩ := hI
    have hlb : l3b 2073600000000 2880000 (dL2 Q (dL1 Q l0 Q.length) i.toNat) := dL2_b hB (dL1_b hB hl0 _) _
    have hlb9 := hlb
    obtain ⟨hcl2, hcl2u⟩ := cls_lo G hc (o' := (dL2 Q (dL1 Q l0 Q.length) i.toNat).1) (u' := (dL2 Q (dL1 Q l0 Q.length) i.toNat).2.1) (b' := (dL2 Q (dL1 Q l0 Q.length) i.toNat).2.2) hlb9.2.2.2.2
    have hcl2 : clsIs cI cR rx ry ra h ar ci lo (va_up f lo (c3 (dL2 Q (dL1 Q l0 Q.length) i.toNat))) K t1 t2 S := hcl2
    refine lv_iload_n hx hb d_H_takeDistancesFromZero_32 rfl (lv_at hl 2 rfl) ?_
    refine lv_aload_n hx hb d_H_takeDistancesFromZero_33 rfl (lv_at hl 1 rfl) ?_
    refine g_ci w (g_runV (As := []) (rest := [.int (iN (i))]) X w (c_R_sides l (G.2.2.1 11 (by decide)) (rowIs_up (c := c3 (dL2 Q (dL1 Q l0 Q.length) i.toNat)) (G.2.2.2.2 11 (by decide)).2.2.2 hr)) k_R_sides v_R_sides lk_H_118 (G.2.2.1 11 (by decide)).1 (rowIs_up (c := c3 (dL2 Q (dL1 Q l0 Q.length) i.toNat)) (G.2.2.2.2 11 (by decide)).2.2.2 hr).2.1 rfl ⟨(Nat.le_of_ble_eq_true rfl), (Nat.le_of_ble_eq_true rfl)⟩ rfl hl.1 rfl (Nat.le_of_ble_eq_true rfl) d_H_takeDistancesFromZero_34 ⟨Nat.zero_le _, Nat.zero_le _⟩) (fun r u H locs hp w => ?_)
    obtain ⟨rfl, rfl⟩ := hp
    have w : gw D (gA L sz) s.heap H locs L (va_up f lo (c3 (dL2 Q (dL1 Q l0 Q.length) i.toNat))) := w
    refine ri_cge (a := i) (b := (sd Q)) (tgt := 79) hx hb d_H_takeDistancesFromZero_37 (by decide) rfl rfl (by unfold i3; omega) (by unfold i3; omega) (fun c37 => ?_) (fun c37 => ?_)
    · skip
      exact g_vret X w hrt hlk d_H_takeDistancesFromZero_79 (by unfold dLow; rw [show (sd Q).toNat = i.toNat by omega])
    · skip
      refine lv_aload_n hx hb d_H_takeDistancesFromZero_40 rfl (lv_at hl 1 rfl) ?_
      refine lv_iload_n hx hb d_H_takeDistancesFromZero_41 rfl (lv_at hl 2 rfl) ?_
      refine g_ci w (g_runV (As := [.int (iN (i))]) (rest := []) X w (c_R_sideFacesZero l (G.2.2.1 11 (by decide)) (rowIs_up (c := c3 (dL2 Q (dL1 Q l0 Q.length) i.toNat)) (G.2.2.2.2 11 (by decide)).2.2.2 hr) hB (by omega)) k_R_sideFacesZero v_R_sideFacesZero lk_H_188 (G.2.2.1 11 (by decide)).1 (rowIs_up (c := c3 (dL2 Q (dL1 Q l0 Q.length) i.toNat)) (G.2.2.2.2 11 (by decide)).2.2.2 hr).2.1 rfl ⟨(Nat.le_of_ble_eq_true rfl), (Nat.le_of_ble_eq_true rfl)⟩ rfl hl.1 rfl (Nat.le_of_ble_eq_true rfl) d_H_takeDistancesFromZero_42 ⟨Nat.zero_le _, Nat.zero_le _⟩) (fun r u H locs hp w => ?_)
      obtain ⟨rfl, rfl⟩ := hp
      have w : gw D (gA L sz) s.heap H locs L (va_up f lo (c3 (dL2 Q (dL1 Q l0 Q.length) i.toNat))) := w
      refine ri_zeq (a := (bI (faceZ Q i))) (tgt := 73) hx hb d_H_takeDistancesFromZero_45 (by decide) rfl (bI_3 _) (fun c45 => ?_) (fun c45 => ?_)
      · skip
        refine lv_iinc (v := iN ((i + 1))) (lv' := [(2, .int (iN ((i + 1)))), (0, .ref h), (1, .ref (ra 11))]) hx hb d_H_takeDistancesFromZero_73 hl (k := 2) rfl (by rw [show (i + 1) = i + (1 : Int) by omega, ← iN_add]; rfl) (by decide) rfl (fun ls hl => ?_)
        refine lv_goto (tgt := 32) hx hb d_H_takeDistancesFromZero_76 (by decide) ?_
        have es : dL2 Q (dL1 Q l0 Q.length) i.toNat = dL2 Q (dL1 Q l0 Q.length) (i + 1).toNat := by rw [tn_s h0]; conv => rhs; rw [dL2, tn_c h0, if_neg (bI_0 c45)]
        rw [es] at w
        exact ih (i + 1) _ _ _ (by omega) ⟨by omega, by omega⟩ w (lv_sub hl [1, 2, 0] rfl)
      · skip
        have hlb9 := lt3_b hlb (offz_sq hB i) (sq_b hB i (nx Q i))
        have h6 := lt3_6 (by decide) hlb (offz_sq hB i) (sq_b hB i (nx Q i))
        refine lv_aload_n hx hb d_H_takeDistancesFromZero_48 rfl (lv_at hl 1 rfl) ?_
        refine lv_iload_n hx hb d_H_takeDistancesFromZero_49 rfl (lv_at hl 2 rfl) ?_
        refine lv_iconst (v := iN (0)) hx hb d_H_takeDistancesFromZero_50 (by decide) ?_
        refine lv_iconst (v := iN (0)) hx hb d_H_takeDistancesFromZero_51 (by decide) ?_
        refine g_ci w (g_runV (As := [.int (iN (i)), .int (iN (0)), .int (iN (0))]) (rest := []) X w (c_R_offSide l (G.2.2.1 11 (by decide)) (rowIs_up (c := c3 (dL2 Q (dL1 Q l0 Q.length) i.toNat)) (G.2.2.2.2 11 (by decide)).2.2.2 hr) (x := 0) (y := 0) (by omega)) k_R_offSide v_R_offSide lk_H_191 (G.2.2.1 11 (by decide)).1 (rowIs_up (c := c3 (dL2 Q (dL1 Q l0 Q.length) i.toNat)) (G.2.2.2.2 11 (by decide)).2.2.2 hr).2.1 rfl ⟨(Nat.le_of_ble_eq_true rfl), (Nat.le_of_ble_eq_true rfl)⟩ rfl hl.1 rfl (Nat.le_of_ble_eq_true rfl) d_H_takeDistancesFromZero_52 ⟨Nat.zero_le _, Nat.zero_le _⟩) (fun r u H locs hp w => ?_)
        obtain ⟨rfl, rfl⟩ := hp
        have w : gw D (gA L sz) s.heap H locs L (va_up f lo (c3 (dL2 Q (dL1 Q l0 Q.length) i.toNat))) := w
        refine ri_i2l (a := (off Q i 0 0)) hx hb d_H_takeDistancesFromZero_55 rfl (by have := offz_b hB i; unfold i3; omega) ?_
        refine lv_lstore_n (lv' := [(3, .long (jN ((off Q i 0 0)))), (0, .ref h), (1, .ref (ra 11)), (2, .int (iN (i)))]) hx hb d_H_takeDistancesFromZero_56 rfl hl (by decide) rfl (fun ls hl => ?_)
        refine lv_aload_n hx hb d_H_takeDistancesFromZero_57 rfl (lv_at hl 1 rfl) ?_
        refine gk_get X w G.1.1 hcl2.1 rfl in_H 9 (by decide) lk_H_39 rfl d_H_takeDistancesFromZero_58 ?_
        refine lv_lload_n hx hb d_H_takeDistancesFromZero_61 rfl (lv_at hl 0 rfl) ?_
        refine lv_lload_n hx hb d_H_takeDistancesFromZero_62 rfl (lv_at hl 0 rfl) ?_
        refine rj_mul (a := (off Q i 0 0)) (b := (off Q i 0 0)) hx hb d_H_takeDistancesFromZero_63 rfl rfl ?_
        refine lv_aload_n hx hb d_H_takeDistancesFromZero_64 rfl (lv_at hl 2 rfl) ?_
        refine lv_iload_n hx hb d_H_takeDistancesFromZero_65 rfl (lv_at hl 3 rfl) ?_
        refine g_ci w (g_runV (As := [.int (iN (i))]) (rest := [.long (jN (((off Q i 0 0) * (off Q i 0 0)))), .ref lo]) X w (c_R_squareOfSide l (G.2.2.1 11 (by decide)) (rowIs_up (c := c3 (dL2 Q (dL1 Q l0 Q.length) i.toNat)) (G.2.2.2.2 11 (by decide)).2.2.2 hr) (by omega)) k_R_squareOfSide v_R_squareOfSide lk_H_124 (G.2.2.1 11 (by decide)).1 (rowIs_up (c := c3 (dL2 Q (dL1 Q l0 Q.length) i.toNat)) (G.2.2.2.2 11 (by decide)).2.2.2 hr).2.1 rfl ⟨(Nat.le_of_ble_eq_true rfl), (Nat.le_of_ble_eq_true rfl)⟩ rfl hl.1 rfl (Nat.le_of_ble_eq_true rfl) d_H_takeDistancesFromZero_66 ⟨Nat.zero_le _, Nat.zero_le _⟩) (fun r u H locs hp w => ?_)
        obtain ⟨rfl, rfl⟩ := hp
        have w : gw D (gA L sz) s.heap H locs L (va_up f lo (c3 (dL2 Q (dL1 Q l0 Q.length) i.toNat))) := w
        refine ri_i2l (a := (sq Q i (nx Q i))) hx hb d_H_takeDistancesFromZero_69 rfl (by have := sq_b hB i (nx Q i); unfold i3; omega) ?_
        refine g_cv w (g_runV (As := [.long (jN (((off Q i 0 0) * (off Q i 0 0)))), .long (jN ((sq Q i (nx Q i))))]) (rest := []) X w (c_L_take l G.1.2.2.2 (o := (dL2 Q (dL1 Q l0 Q.length) i.toNat).1) (u := (dL2 Q (dL1 Q l0 Q.length) i.toNat).2.1) (b := (dL2 Q (dL1 Q l0 Q.length) i.toNat).2.2) (va_up_self _ _ _) hlb.2.2.2.2 (no := ((off Q i 0 0) * (off Q i 0 0))) (nu := (sq Q i (nx Q i))) h6.1 h6.2) k_L_take v_L_take lk_H_127 G.1.2.2.2 (show va_up f lo (c3 (dL2 Q (dL1 Q l0 Q.length) i.toNat)) lo = .inr (3, _) from va_up_self _ _ _) rfl ⟨(Nat.le_of_ble_eq_true rfl), (Nat.le_of_ble_eq_true rfl)⟩ rfl hl.1 rfl (Nat.le_of_ble_eq_true rfl) d_H_takeDistancesFromZero_70 ⟨(Nat.le_of_ble_eq_true rfl), (Nat.le_of_ble_eq_true rfl)⟩) (fun u H locs hp w => ?_)
        obtain rfl := hp
        have w : gw D (gA L sz) s.heap H locs L (va_up f lo (c3 (lt3 (dL2 Q (dL1 Q l0 Q.length) i.toNat) ((off Q i 0 0) * (off Q i 0 0)) (sq Q i (nx Q i))))) := by have w9 := w; dsimp only at w9; (try rw [bx_uu] at w9); rw [lTake_3] at w9; exact w9
        obtain ⟨hcl3, hcl3u⟩ := cls_lo G hc (o' := (lt3 (dL2 Q (dL1 Q l0 Q.length) i.toNat) ((off Q i 0 0) * (off Q i 0 0)) (sq Q i (nx Q i))).1) (u' := (lt3 (dL2 Q (dL1 Q l0 Q.length) i.toNat) ((off Q i 0 0) * (off Q i 0 0)) (sq Q i (nx Q i))).2.1) (b' := (lt3 (dL2 Q (dL1 Q l0 Q.length) i.toNat) ((off Q i 0 0) * (off Q i 0 0)) (sq Q i (nx Q i))).2.2) hlb9.2.2.2.2
        have hcl3 : clsIs cI cR rx ry ra h ar ci lo (va_up f lo (c3 (lt3 (dL2 Q (dL1 Q l0 Q.length) i.toNat) ((off Q i 0 0) * (off Q i 0 0)) (sq Q i (nx Q i))))) K t1 t2 S := hcl3
        refine lv_iinc (v := iN ((i + 1))) (lv' := [(2, .int (iN ((i + 1)))), (3, .long (jN ((off Q i 0 0)))), (0, .ref h), (1, .ref (ra 11))]) hx hb d_H_takeDistancesFromZero_73 hl (k := 3) rfl (by rw [show (i + 1) = i + (1 : Int) by omega, ← iN_add]; rfl) (by decide) rfl (fun ls hl => ?_)
        refine lv_goto (tgt := 32) hx hb d_H_takeDistancesFromZero_76 (by decide) ?_
        have es : lt3 (dL2 Q (dL1 Q l0 Q.length) i.toNat) (off Q i 0 0 * off Q i 0 0) (sq Q i (nx Q i)) = dL2 Q (dL1 Q l0 Q.length) (i + 1).toNat := by rw [tn_s h0, dL2, tn_c h0, if_pos (bI_n c45)]
        rw [es] at w
        exact ih (i + 1) _ _ _ (by omega) ⟨by omega, by omega⟩ w (lv_sub hl [2, 3, 0] rfl)
  · skip
    refine lv_aload_n hx hb d_H_takeDistancesFromZero_10 rfl (lv_at hl 0 rfl) ?_
    refine gk_get X w G.1.1 hcl1.1 rfl in_H 9 (by decide) lk_H_39 rfl d_H_takeDistancesFromZero_11 ?_
    have hlb9 := lt3_b hlb (no := pX Q i * pX Q i + pY Q i * pY Q i) (nu := 1) (by have := sqz_b hB i; omega) (by omega)
    have h6 := lt3_6 (no := pX Q i * pX Q i + pY Q i * pY Q i) (nu := 1) (by decide) hlb (by have := sqz_b hB i; omega) (by omega)
    refine lv_aload_n hx hb d_H_takeDistancesFromZero_14 rfl (lv_at hl 1 rfl) ?_
    refine lv_iload_n hx hb d_H_takeDistancesFromZero_15 rfl (lv_at hl 2 rfl) ?_
    refine g_ci w (g_runV (As := [.int (iN (i))]) (rest := [.ref lo]) X w (c_R_squareFromZero l (G.2.2.1 11 (by decide)) (rowIs_up (c := c3 (dL1 Q l0 i.toNat)) (G.2.2.2.2 11 (by decide)).2.2.2 hr) (by omega)) k_R_squareFromZero v_R_squareFromZero lk_H_185 (G.2.2.1 11 (by decide)).1 (rowIs_up (c := c3 (dL1 Q l0 i.toNat)) (G.2.2.2.2 11 (by decide)).2.2.2 hr).2.1 rfl ⟨(Nat.le_of_ble_eq_true rfl), (Nat.le_of_ble_eq_true rfl)⟩ rfl hl.1 rfl (Nat.le_of_ble_eq_true rfl) d_H_takeDistancesFromZero_16 ⟨Nat.zero_le _, Nat.zero_le _⟩) (fun r u H locs hp w => ?_)
    obtain ⟨rfl, rfl⟩ := hp
    have w : gw D (gA L sz) s.heap H locs L (va_up f lo (c3 (dL1 Q l0 i.toNat))) := w
    refine ri_i2l (a := (pX Q i * pX Q i + pY Q i * pY Q i)) hx hb d_H_takeDistancesFromZero_19 rfl (by have := sqz_b hB i; unfold i3; omega) ?_
    refine lv_lconst (v := jN (1)) hx hb d_H_takeDistancesFromZero_20 (by decide) ?_
    refine g_cv w (g_runV (As := [.long (jN ((pX Q i * pX Q i + pY Q i * pY Q i))), .long (jN (1))]) (rest := []) X w (c_L_take l G.1.2.2.2 (o := (dL1 Q l0 i.toNat).1) (u := (dL1 Q l0 i.toNat).2.1) (b := (dL1 Q l0 i.toNat).2.2) (va_up_self _ _ _) hlb.2.2.2.2 (no := (pX Q i * pX Q i + pY Q i * pY Q i)) (nu := 1) h6.1 h6.2) k_L_take v_L_take lk_H_127 G.1.2.2.2 (show va_up f lo (c3 (dL1 Q l0 i.toNat)) lo = .inr (3, _) from va_up_self _ _ _) rfl ⟨(Nat.le_of_ble_eq_true rfl), (Nat.le_of_ble_eq_true rfl)⟩ rfl hl.1 rfl (Nat.le_of_ble_eq_true rfl) d_H_takeDistancesFromZero_21 ⟨(Nat.le_of_ble_eq_true rfl), (Nat.le_of_ble_eq_true rfl)⟩) (fun u H locs hp w => ?_)
    obtain rfl := hp
    have w : gw D (gA L sz) s.heap H locs L (va_up f lo (c3 (lt3 (dL1 Q l0 i.toNat) (pX Q i * pX Q i + pY Q i * pY Q i) 1))) := by have w9 := w; dsimp only at w9; (try rw [bx_uu] at w9); rw [lTake_3] at w9; exact w9
    obtain ⟨hcl4, hcl4u⟩ := cls_lo G hc (o' := (lt3 (dL1 Q l0 i.toNat) (pX Q i * pX Q i + pY Q i * pY Q i) 1).1) (u' := (lt3 (dL1 Q l0 i.toNat) (pX Q i * pX Q i + pY Q i * pY Q i) 1).2.1) (b' := (lt3 (dL1 Q l0 i.toNat) (pX Q i * pX Q i + pY Q i * pY Q i) 1).2.2) hlb9.2.2.2.2
    have hcl4 : clsIs cI cR rx ry ra h ar ci lo (va_up f lo (c3 (lt3 (dL1 Q l0 i.toNat) (pX Q i * pX Q i + pY Q i * pY Q i) 1))) K t1 t2 S := hcl4
    refine lv_iinc (v := iN ((i + 1))) (lv' := [(2, .int (iN ((i + 1)))), (0, .ref h), (1, .ref (ra 11))]) hx hb d_H_takeDistancesFromZero_24 hl (k := 2) rfl (by rw [show (i + 1) = i + (1 : Int) by omega, ← iN_add]; rfl) (by decide) rfl (fun ls hl => ?_)
    refine lv_goto (tgt := 2) hx hb d_H_takeDistancesFromZero_27 (by decide) ?_
    have es : lt3 (dL1 Q l0 i.toNat) (pX Q i * pX Q i + pY Q i * pY Q i) 1 = dL1 Q l0 (i + 1).toNat := by rw [tn_s h0, dL1, tn_c h0]
    rw [es] at w
    exact ih (i + 1) _ _ _ (by omega) ⟨by omega, by omega⟩ w (lv_sub hl [1, 2, 0] rfl)
noncomputable def apL (H : List Pt) : L3 := if plc H 0 0 = 0 then dLow H (0, 1, 0) else (0, 1, 0)
theorem apL_b {H : List Pt} (h : pb 600 H) : l3b 2073600000000 2880000 (apL H) := by
  have h0 : l3b 2073600000000 2880000 ((0, 1, 0) : L3) := by unfold l3b; dsimp only; omega
  unfold apL
  split
  · exact dL2_b h (dL1_b h h0 _) _
  · exact h0
set_option maxHeartbeats 4000000 in
set_option maxRecDepth 100000 in
theorem c_H_apart (l : Launch) {D : va_G} {cI cR : ClassId} {L : List Nat} {f : Nat → va_E} {rx ry ra : Nat → Nat} {h ar ci lo : Nat} {K t1 t2 : Int} {S : Nat → List Pt} (G : geo L rx ry ra h ar ci lo) (hc : clsIs cI cR rx ry ra h ar ci lo f K t1 t2 S) (hok : okS K S) {z : Int} (hz : i3 z) {z2 : Int} (hz2 : i3 z2) (hHL : ∀ i : Nat, (i : Int) < K → (hullF (S i)).length ≤ 24 ∧ (hullF ((S i).map (sgm (-1)))).length ≤ 24) (hSM : ∀ a b : Nat, (a : Int) < K → (b : Int) < K → (S a).length ≠ 0 → (S b).length ≠ 0 → pbl 600 (sumF (hullF (S a)) (hullF ((S b).map (sgm (-1)))))) : gMi D cI cR l y_H_apart (Cond.code y_H_apart b_H_apart 4 (some .int) :: lw_g) { frames := 5, cells := 0, slots := 0, locals := 120 } [.ref h, .int (iN (z)), .int (iN (z2))] L f (fun r u => r = iN (if (flA K S z z2 = 0) then 1 else flA K S z z2) ∧ crT (flA K S z z2 = 0) (frac1 (apL (sumF (hullF (S z.toNat)) (hullF ((S z2.toNat).map (sgm (-1)))))).1 (apL (sumF (hullF (S z.toNat)) (hullF ((S z2.toNat).map (sgm (-1)))))).2.1) (frac2 (apL (sumF (hullF (S z.toNat)) (hullF ((S z2.toNat).map (sgm (-1)))))).1 (apL (sumF (hullF (S z.toNat)) (hullF ((S z2.toNat).map (sgm (-1)))))).2.1) t1 t2 (fun p q => hpost L cI cR rx ry ra h ar ci lo f K p q S u)) := by
  intro sz
  refine g_enter (by decide) rfl (Nat.le_of_ble_eq_true rfl) ?_
  intro p e s m below meth cd ls X hrt hlk hnm hl hsz w
  have X : gx p m cd b_H_apart 4 s _ "HullSums" D cI cR := X
  have hx := X.1.1
  have hb := X.1.2.1
  have hl : lv_has ls 4 [(0, .ref h), (1, .int (iN (z))), (2, .int (iN (z2)))] := hl
  have hK := hc.2.2.2.2.2
  refine lv_aload_n hx hb d_H_apart_0 rfl (lv_at hl 0 rfl) ?_
  refine lv_iload_n hx hb d_H_apart_1 rfl (lv_at hl 1 rfl) ?_
  refine lv_iload_n hx hb d_H_apart_2 rfl (lv_at hl 2 rfl) ?_
  refine lv_iconst (v := iN (-1)) hx hb d_H_apart_3 (by decide) ?_
  refine g_ci w (g_runV (As := [.int (iN (z)), .int (iN (z2)), .int (iN (-1))]) (rest := []) X w (c_H_fillSums l G hc hok (z := z) hz (z2 := z2) hz2 (sg := (-1)) (Or.inr rfl) hHL) k_H_fillSums v_H_fillSums lk_H_159 G.1.1 hc.1 rfl ⟨(Nat.le_of_ble_eq_true rfl), (Nat.le_of_ble_eq_true rfl)⟩ rfl hl.1 rfl (Nat.le_of_ble_eq_true rfl) d_H_apart_4 ⟨(Nat.le_of_ble_eq_true rfl), (Nat.le_of_ble_eq_true rfl)⟩) (fun r u H locs hp w => ?_)
  obtain ⟨rfl, g, S1, rfl, hcg, hSk, hug, hS9⟩ := hp
  have w : gw D (gA L sz) s.heap H locs L g := w
  have hfl : flA K S z z2 = 0 ∨ flA K S z z2 = -1 ∨ flA K S z z2 = -3 := by unfold flA; split; (split <;> omega); omega
  refine lv_istore_n (lv' := [(3, .int (iN ((flA K S z z2)))), (0, .ref h), (1, .int (iN (z))), (2, .int (iN (z2)))]) hx hb d_H_apart_7 rfl hl (by decide) rfl (fun ls hl => ?_)
  refine lv_iload_n hx hb d_H_apart_8 rfl (lv_at hl 0 rfl) ?_
  refine ri_zge (a := (flA K S z z2)) (tgt := 14) hx hb d_H_apart_9 (by decide) rfl (by unfold i3; omega) (fun c9 => ?_) (fun c9 => ?_)
  · skip
    have hf0 : flA K S z z2 = 0 := by omega
    have hf1 : (0 ≤ z ∧ z < K) ∧ (0 ≤ z2 ∧ z2 < K) := by by_cases q : (0 ≤ z ∧ z < K) ∧ (0 ≤ z2 ∧ z2 < K); exact q; unfold flA at hf0; rw [if_neg q] at hf0; omega
    have hf2 : (S z.toNat).length ≠ 0 ∧ (S z2.toNat).length ≠ 0 := by unfold flA at hf0; rw [if_pos hf1] at hf0; split at hf0 <;> omega
    obtain ⟨e9, e10, e11⟩ := hS9 hf0
    have hr9 : rowIs cI rx ry g (ra 9) (hullF (S z.toNat)) := by rw [← e9]; exact hcg.2.2.1 9 (by decide)
    have hr10 : rowIs cI rx ry g (ra 10) (hullF ((S z2.toNat).map (sgm (-1)))) := by rw [← e10]; exact hcg.2.2.1 10 (by decide)
    have hr11 : rowIs cI rx ry g (ra 11) (sumF (hullF (S z.toNat)) (hullF ((S z2.toNat).map (sgm (-1))))) := by rw [← e11]; exact hcg.2.2.1 11 (by decide)
    have hBS : pb 600 (sumF (hullF (S z.toNat)) (hullF ((S z2.toNat).map (sgm (-1))))) := pb_of (by decide) (hSM _ _ (by omega) (by omega) hf2.1 hf2.2)
    have hn48 := hr11.1
    obtain ⟨o0, u0, b0, hb0, hlo0⟩ := hcg.2.2.2.2.1
    have hlb := apL_b hBS
    refine lv_aload_n hx hb d_H_apart_14 rfl (lv_at hl 1 rfl) ?_
    refine gk_get X w G.1.1 hcg.1 rfl in_H 9 (by decide) lk_H_39 rfl d_H_apart_15 ?_
    refine g_cv w (g_runV (As := []) (rest := []) X w (c_L_forget l G.1.2.2.2 hlo0) k_L_forget v_L_forget lk_H_115 G.1.2.2.2 (show g lo = .inr (3, _) from hlo0) rfl ⟨(Nat.le_of_ble_eq_true rfl), (Nat.le_of_ble_eq_true rfl)⟩ rfl hl.1 rfl (Nat.le_of_ble_eq_true rfl) d_H_apart_18 ⟨(Nat.le_of_ble_eq_true rfl), (Nat.le_of_ble_eq_true rfl)⟩) (fun u H locs hp w => ?_)
    obtain rfl := hp
    have w : gw D (gA L sz) s.heap H locs L (va_up g lo (c3 ((0, 1, 0) : L3))) := by have w9 := w; dsimp only at w9; (try rw [bx_uu] at w9); exact w9
    obtain ⟨hcl1, hcl1u⟩ := cls_lo G hcg (o' := ((0, 1, 0) : L3).1) (u' := ((0, 1, 0) : L3).2.1) (b' := ((0, 1, 0) : L3).2.2) (Or.inl rfl)
    have hcl1 : clsIs cI cR rx ry ra h ar ci lo (va_up g lo (c3 ((0, 1, 0) : L3))) K t1 t2 S1 := hcl1
    refine lv_aload_n hx hb d_H_apart_21 rfl (lv_at hl 1 rfl) ?_
    refine gk_get X w G.1.1 hcl1.1 rfl in_H 7 (by decide) lk_H_26 rfl d_H_apart_22 ?_
    refine lv_iconst (v := iN (0)) hx hb d_H_apart_25 (by decide) ?_
    refine lv_iconst (v := iN (0)) hx hb d_H_apart_26 (by decide) ?_
    refine g_ci w (g_runV (As := [.int (iN (0)), .int (iN (0))]) (rest := []) X w (c_R_place l (G.2.2.1 11 (by decide)) (rowIs_up (c := c3 ((0, 1, 0) : L3)) (G.2.2.2.2 11 (by decide)).2.2.2 hr11) hBS (by omega) (by omega)) k_R_place v_R_place lk_H_97 (G.2.2.1 11 (by decide)).1 (rowIs_up (c := c3 ((0, 1, 0) : L3)) (G.2.2.2.2 11 (by decide)).2.2.2 hr11).2.1 rfl ⟨(Nat.le_of_ble_eq_true rfl), (Nat.le_of_ble_eq_true rfl)⟩ rfl hl.1 rfl (Nat.le_of_ble_eq_true rfl) d_H_apart_27 ⟨Nat.zero_le _, Nat.zero_le _⟩) (fun r u H locs hp w => ?_)
    obtain ⟨rfl, rfl⟩ := hp
    have w : gw D (gA L sz) s.heap H locs L (va_up g lo (c3 ((0, 1, 0) : L3))) := w
    refine ri_zne (a := (plc (sumF (hullF (S z.toNat)) (hullF ((S z2.toNat).map (sgm (-1))))) 0 0)) (tgt := 41) hx hb d_H_apart_30 (by decide) rfl (by have := plc_b (sumF (hullF (S z.toNat)) (hullF ((S z2.toNat).map (sgm (-1))))) 0 0; unfold i3; omega) (fun c30 => ?_) (fun c30 => ?_)
    · skip
      have eap : ((0, 1, 0) : L3) = apL (sumF (hullF (S z.toNat)) (hullF ((S z2.toNat).map (sgm (-1))))) := by unfold apL; rw [if_neg (by omega)]
      rw [eap] at w
      obtain ⟨hcl2, hcl2u⟩ := cls_lo G hcg (o' := (apL (sumF (hullF (S z.toNat)) (hullF ((S z2.toNat).map (sgm (-1)))))).1) (u' := (apL (sumF (hullF (S z.toNat)) (hullF ((S z2.toNat).map (sgm (-1)))))).2.1) (b' := (apL (sumF (hullF (S z.toNat)) (hullF ((S z2.toNat).map (sgm (-1)))))).2.2) hlb.2.2.2.2
      have hcl2 : clsIs cI cR rx ry ra h ar ci lo (va_up g lo (c3 (apL (sumF (hullF (S z.toNat)) (hullF ((S z2.toNat).map (sgm (-1)))))))) K t1 t2 S1 := hcl2
      refine lv_aload_n hx hb d_H_apart_41 rfl (lv_at hl 1 rfl) ?_
      refine lv_aload_n hx hb d_H_apart_42 rfl (lv_at hl 1 rfl) ?_
      refine gk_get X w G.1.1 hcl2.1 rfl in_H 9 (by decide) lk_H_39 rfl d_H_apart_43 ?_
      refine g_cl w (g_runV (As := []) (rest := [.ref h]) X w (c_L_over l G.1.2.2.2 (o := (apL (sumF (hullF (S z.toNat)) (hullF ((S z2.toNat).map (sgm (-1)))))).1) (u := (apL (sumF (hullF (S z.toNat)) (hullF ((S z2.toNat).map (sgm (-1)))))).2.1) (b := (apL (sumF (hullF (S z.toNat)) (hullF ((S z2.toNat).map (sgm (-1)))))).2.2) (va_up_self _ _ _)) k_L_over v_L_over lk_H_130 G.1.2.2.2 (show va_up g lo (c3 (apL (sumF (hullF (S z.toNat)) (hullF ((S z2.toNat).map (sgm (-1))))))) lo = .inr (3, _) from va_up_self _ _ _) rfl ⟨(Nat.le_of_ble_eq_true rfl), (Nat.le_of_ble_eq_true rfl)⟩ rfl hl.1 rfl (Nat.le_of_ble_eq_true rfl) d_H_apart_46 ⟨Nat.zero_le _, Nat.zero_le _⟩) (fun r u H locs hp w => ?_)
      obtain ⟨rfl, rfl⟩ := hp
      have w : gw D (gA L sz) s.heap H locs L (va_up g lo (c3 (apL (sumF (hullF (S z.toNat)) (hullF ((S z2.toNat).map (sgm (-1)))))))) := w
      refine lv_aload_n hx hb d_H_apart_49 rfl (lv_at hl 1 rfl) ?_
      refine gk_get X w G.1.1 hcl2.1 rfl in_H 9 (by decide) lk_H_39 rfl d_H_apart_50 ?_
      refine g_cl w (g_runV (As := []) (rest := [.long (jN ((apL (sumF (hullF (S z.toNat)) (hullF ((S z2.toNat).map (sgm (-1)))))).1)), .ref h]) X w (c_L_under l G.1.2.2.2 (o := (apL (sumF (hullF (S z.toNat)) (hullF ((S z2.toNat).map (sgm (-1)))))).1) (u := (apL (sumF (hullF (S z.toNat)) (hullF ((S z2.toNat).map (sgm (-1)))))).2.1) (b := (apL (sumF (hullF (S z.toNat)) (hullF ((S z2.toNat).map (sgm (-1)))))).2.2) (va_up_self _ _ _)) k_L_under v_L_under lk_H_134 G.1.2.2.2 (show va_up g lo (c3 (apL (sumF (hullF (S z.toNat)) (hullF ((S z2.toNat).map (sgm (-1))))))) lo = .inr (3, _) from va_up_self _ _ _) rfl ⟨(Nat.le_of_ble_eq_true rfl), (Nat.le_of_ble_eq_true rfl)⟩ rfl hl.1 rfl (Nat.le_of_ble_eq_true rfl) d_H_apart_53 ⟨Nat.zero_le _, Nat.zero_le _⟩) (fun r u H locs hp w => ?_)
      obtain ⟨rfl, rfl⟩ := hp
      have w : gw D (gA L sz) s.heap H locs L (va_up g lo (c3 (apL (sumF (hullF (S z.toNat)) (hullF ((S z2.toNat).map (sgm (-1)))))))) := w
      refine g_cv w (g_runV (As := [.long (jN ((apL (sumF (hullF (S z.toNat)) (hullF ((S z2.toNat).map (sgm (-1)))))).1)), .long (jN ((apL (sumF (hullF (S z.toNat)) (hullF ((S z2.toNat).map (sgm (-1)))))).2.1))]) (rest := []) X w (c_H_tellFraction l G hcl2 (x := (apL (sumF (hullF (S z.toNat)) (hullF ((S z2.toNat).map (sgm (-1)))))).1) (y := (apL (sumF (hullF (S z.toNat)) (hullF ((S z2.toNat).map (sgm (-1)))))).2.1) (by unfold l3b at hlb; unfold i6; omega) (by unfold l3b at hlb; omega)) k_H_tellFraction v_H_tellFraction lk_H_137 G.1.1 hcl2.1 rfl ⟨(Nat.le_of_ble_eq_true rfl), (Nat.le_of_ble_eq_true rfl)⟩ rfl hl.1 rfl (Nat.le_of_ble_eq_true rfl) d_H_apart_56 ⟨(Nat.le_of_ble_eq_true rfl), (Nat.le_of_ble_eq_true rfl)⟩) (fun u H locs hp w => ?_)
      obtain rfl := hp
      obtain ⟨hct, hut⟩ := cls_obj G hcl2 (K' := K) (t1' := frac1 (apL (sumF (hullF (S z.toNat)) (hullF ((S z2.toNat).map (sgm (-1)))))).1 (apL (sumF (hullF (S z.toNat)) (hullF ((S z2.toNat).map (sgm (-1)))))).2.1) (t2' := frac2 (apL (sumF (hullF (S z.toNat)) (hullF ((S z2.toNat).map (sgm (-1)))))).1 (apL (sumF (hullF (S z.toNat)) (hullF ((S z2.toNat).map (sgm (-1)))))).2.1) (by omega)
      refine lv_iconst (v := iN (1)) hx hb d_H_apart_59 (by decide) ?_
      exact g_iret X w hrt hlk d_H_apart_60 ⟨by rw [if_pos hf0], by unfold crT; rw [if_pos hf0]; exact ⟨_, _, rfl, hct, hSk, unch_tr (unch_tr hug hcl2u) hut⟩⟩
    · skip
      refine lv_aload_n hx hb d_H_apart_33 rfl (lv_at hl 1 rfl) ?_
      refine lv_aload_n hx hb d_H_apart_34 rfl (lv_at hl 1 rfl) ?_
      refine gk_get X w G.1.1 hcl1.1 rfl in_H 7 (by decide) lk_H_26 rfl d_H_apart_35 ?_
      refine g_cv w (g_runV (As := [.ref (ra 11)]) (rest := []) X w (c_H_takeDistancesFromZero l G hcl1 (rowIs_up (c := c3 ((0, 1, 0) : L3)) (G.2.2.2.2 11 (by decide)).2.2.2 hr11) hBS (l0 := (0, 1, 0)) (by unfold l3b; dsimp only; omega) (va_up_self _ _ _)) k_H_takeDistancesFromZero v_H_takeDistancesFromZero lk_H_175 G.1.1 hcl1.1 rfl ⟨(Nat.le_of_ble_eq_true rfl), (Nat.le_of_ble_eq_true rfl)⟩ rfl hl.1 rfl (Nat.le_of_ble_eq_true rfl) d_H_apart_38 ⟨(Nat.le_of_ble_eq_true rfl), (Nat.le_of_ble_eq_true rfl)⟩) (fun u H locs hp w => ?_)
      obtain rfl := hp
      have eap : dLow (sumF (hullF (S z.toNat)) (hullF ((S z2.toNat).map (sgm (-1))))) ((0, 1, 0) : L3) = apL (sumF (hullF (S z.toNat)) (hullF ((S z2.toNat).map (sgm (-1))))) := by unfold apL; rw [if_pos (by omega)]
      have w : gw D (gA L sz) s.heap H locs L (va_up g lo (c3 (apL (sumF (hullF (S z.toNat)) (hullF ((S z2.toNat).map (sgm (-1)))))))) := by have w9 := w; dsimp only at w9; rw [bx_uu, eap] at w9; exact w9
      obtain ⟨hcl3, hcl3u⟩ := cls_lo G hcg (o' := (apL (sumF (hullF (S z.toNat)) (hullF ((S z2.toNat).map (sgm (-1)))))).1) (u' := (apL (sumF (hullF (S z.toNat)) (hullF ((S z2.toNat).map (sgm (-1)))))).2.1) (b' := (apL (sumF (hullF (S z.toNat)) (hullF ((S z2.toNat).map (sgm (-1)))))).2.2) hlb.2.2.2.2
      have hcl3 : clsIs cI cR rx ry ra h ar ci lo (va_up g lo (c3 (apL (sumF (hullF (S z.toNat)) (hullF ((S z2.toNat).map (sgm (-1)))))))) K t1 t2 S1 := hcl3
      refine lv_aload_n hx hb d_H_apart_41 rfl (lv_at hl 1 rfl) ?_
      refine lv_aload_n hx hb d_H_apart_42 rfl (lv_at hl 1 rfl) ?_
      refine gk_get X w G.1.1 hcl3.1 rfl in_H 9 (by decide) lk_H_39 rfl d_H_apart_43 ?_
      refine g_cl w (g_runV (As := []) (rest := [.ref h]) X w (c_L_over l G.1.2.2.2 (o := (apL (sumF (hullF (S z.toNat)) (hullF ((S z2.toNat).map (sgm (-1)))))).1) (u := (apL (sumF (hullF (S z.toNat)) (hullF ((S z2.toNat).map (sgm (-1)))))).2.1) (b := (apL (sumF (hullF (S z.toNat)) (hullF ((S z2.toNat).map (sgm (-1)))))).2.2) (va_up_self _ _ _)) k_L_over v_L_over lk_H_130 G.1.2.2.2 (show va_up g lo (c3 (apL (sumF (hullF (S z.toNat)) (hullF ((S z2.toNat).map (sgm (-1))))))) lo = .inr (3, _) from va_up_self _ _ _) rfl ⟨(Nat.le_of_ble_eq_true rfl), (Nat.le_of_ble_eq_true rfl)⟩ rfl hl.1 rfl (Nat.le_of_ble_eq_true rfl) d_H_apart_46 ⟨Nat.zero_le _, Nat.zero_le _⟩) (fun r u H locs hp w => ?_)
      obtain ⟨rfl, rfl⟩ := hp
      have w : gw D (gA L sz) s.heap H locs L (va_up g lo (c3 (apL (sumF (hullF (S z.toNat)) (hullF ((S z2.toNat).map (sgm (-1)))))))) := w
      refine lv_aload_n hx hb d_H_apart_49 rfl (lv_at hl 1 rfl) ?_
      refine gk_get X w G.1.1 hcl3.1 rfl in_H 9 (by decide) lk_H_39 rfl d_H_apart_50 ?_
      refine g_cl w (g_runV (As := []) (rest := [.long (jN ((apL (sumF (hullF (S z.toNat)) (hullF ((S z2.toNat).map (sgm (-1)))))).1)), .ref h]) X w (c_L_under l G.1.2.2.2 (o := (apL (sumF (hullF (S z.toNat)) (hullF ((S z2.toNat).map (sgm (-1)))))).1) (u := (apL (sumF (hullF (S z.toNat)) (hullF ((S z2.toNat).map (sgm (-1)))))).2.1) (b := (apL (sumF (hullF (S z.toNat)) (hullF ((S z2.toNat).map (sgm (-1)))))).2.2) (va_up_self _ _ _)) k_L_under v_L_under lk_H_134 G.1.2.2.2 (show va_up g lo (c3 (apL (sumF (hullF (S z.toNat)) (hullF ((S z2.toNat).map (sgm (-1))))))) lo = .inr (3, _) from va_up_self _ _ _) rfl ⟨(Nat.le_of_ble_eq_true rfl), (Nat.le_of_ble_eq_true rfl)⟩ rfl hl.1 rfl (Nat.le_of_ble_eq_true rfl) d_H_apart_53 ⟨Nat.zero_le _, Nat.zero_le _⟩) (fun r u H locs hp w => ?_)
      obtain ⟨rfl, rfl⟩ := hp
      have w : gw D (gA L sz) s.heap H locs L (va_up g lo (c3 (apL (sumF (hullF (S z.toNat)) (hullF ((S z2.toNat).map (sgm (-1)))))))) := w
      refine g_cv w (g_runV (As := [.long (jN ((apL (sumF (hullF (S z.toNat)) (hullF ((S z2.toNat).map (sgm (-1)))))).1)), .long (jN ((apL (sumF (hullF (S z.toNat)) (hullF ((S z2.toNat).map (sgm (-1)))))).2.1))]) (rest := []) X w (c_H_tellFraction l G hcl3 (x := (apL (sumF (hullF (S z.toNat)) (hullF ((S z2.toNat).map (sgm (-1)))))).1) (y := (apL (sumF (hullF (S z.toNat)) (hullF ((S z2.toNat).map (sgm (-1)))))).2.1) (by unfold l3b at hlb; unfold i6; omega) (by unfold l3b at hlb; omega)) k_H_tellFraction v_H_tellFraction lk_H_137 G.1.1 hcl3.1 rfl ⟨(Nat.le_of_ble_eq_true rfl), (Nat.le_of_ble_eq_true rfl)⟩ rfl hl.1 rfl (Nat.le_of_ble_eq_true rfl) d_H_apart_56 ⟨(Nat.le_of_ble_eq_true rfl), (Nat.le_of_ble_eq_true rfl)⟩) (fun u H locs hp w => ?_)
      obtain rfl := hp
      obtain ⟨hct, hut⟩ := cls_obj G hcl3 (K' := K) (t1' := frac1 (apL (sumF (hullF (S z.toNat)) (hullF ((S z2.toNat).map (sgm (-1)))))).1 (apL (sumF (hullF (S z.toNat)) (hullF ((S z2.toNat).map (sgm (-1)))))).2.1) (t2' := frac2 (apL (sumF (hullF (S z.toNat)) (hullF ((S z2.toNat).map (sgm (-1)))))).1 (apL (sumF (hullF (S z.toNat)) (hullF ((S z2.toNat).map (sgm (-1)))))).2.1) (by omega)
      refine lv_iconst (v := iN (1)) hx hb d_H_apart_59 (by decide) ?_
      exact g_iret X w hrt hlk d_H_apart_60 ⟨by rw [if_pos hf0], by unfold crT; rw [if_pos hf0]; exact ⟨_, _, rfl, hct, hSk, unch_tr (unch_tr hug hcl3u) hut⟩⟩
  · skip
    refine lv_iload_n hx hb d_H_apart_12 rfl (lv_at hl 0 rfl) ?_
    exact g_iret X w hrt hlk d_H_apart_13 ⟨by rw [if_neg (by omega)], by unfold crT; rw [if_neg (by omega)]; exact ⟨g, S1, rfl, hcg, hSk, hug⟩⟩
