/-! HULLSUMS: its world. Rows 0 to 7 are the sets, 8 sorted, 9 left, 10 right, 11 sums. -/
def geo (L : List Nat) (rx ry ra : Nat → Nat) (h ar ci lo : Nat) : Prop :=
  (h ∈ L ∧ ar ∈ L ∧ ci ∈ L ∧ lo ∈ L) ∧ (h ≠ ar ∧ h ≠ ci ∧ h ≠ lo ∧ ar ≠ ci ∧ ar ≠ lo ∧ ci ≠ lo) ∧ (∀ i, i < 12 → ro L rx ry (ra i)) ∧ (∀ i j, i < 12 → j < 12 → i ≠ j → rd rx ry (ra i) (ra j)) ∧ (∀ i, i < 12 → oo rx ry h (ra i) ∧ oo rx ry ar (ra i) ∧ oo rx ry ci (ra i) ∧ oo rx ry lo (ra i))
def hCell (ra : Nat → Nat) (ar ci lo : Nat) (K t1 t2 : Int) : va_E := .inr (0, [.ref ar, .int (iN K), .long (jN t1), .long (jN t2), .ref (ra 8), .ref (ra 9), .ref (ra 10), .ref (ra 11), .ref ci, .ref lo])
def clsIs (cI cR : ClassId) (rx ry ra : Nat → Nat) (h ar ci lo : Nat) (f : Nat → va_E) (K t1 t2 : Int) (S : Nat → List Pt) : Prop :=
  f h = hCell ra ar ci lo K t1 t2 ∧ (∃ F : Nat → Option Nat, f ar = .inl (cR, 8, .inr (.inr (.inr (.inr F)))) ∧ ∀ i, i < 8 → F i = some (ra i)) ∧ (∀ i, i < 12 → rowIs cI rx ry f (ra i) (S i)) ∧ (∃ c : C5, f ci = c5 c) ∧ (∃ o u b : Int, (b = 0 ∨ b = 1) ∧ f lo = cL o u b) ∧ 0 ≤ K ∧ K ≤ 8
def hOwn (rx ry ra : Nat → Nat) (h ar ci lo : Nat) (q : Nat) : Prop := q = h ∨ q = ar ∨ q = ci ∨ q = lo ∨ ∃ i, i < 12 ∧ (q = ra i ∨ q = rx (ra i) ∨ q = ry (ra i))
def unch (rx ry ra : Nat → Nat) (h ar ci lo : Nat) (f g : Nat → va_E) : Prop := ∀ q, ¬ hOwn rx ry ra h ar ci lo q → g q = f q
def supd (S : Nat → List Pt) (i : Nat) (P : List Pt) : Nat → List Pt := fun j => if j = i then P else S j
theorem su_s {S : Nat → List Pt} {i : Nat} {P : List Pt} : supd S i P i = P := if_pos rfl
theorem su_n {S : Nat → List Pt} {i j : Nat} {P : List Pt} (h : j ≠ i) : supd S i P j = S j := if_neg h
/-- the sets that are there: small, near -/
def okS (K : Int) (S : Nat → List Pt) : Prop := ∀ i : Nat, (i : Int) < K → (S i).length ≤ 24 ∧ pbl 300 (S i)
section CW
variable {cI cR : ClassId} {rx ry ra : Nat → Nat} {h ar ci lo : Nat} {f g g2 : Nat → va_E} {K t1 t2 : Int} {S : Nat → List Pt} {L : List Nat}
theorem unch_rf : unch rx ry ra h ar ci lo f f := fun _ _ => rfl
theorem unch_tr (h1 : unch rx ry ra h ar ci lo f g) (h2 : unch rx ry ra h ar ci lo g g2) : unch rx ry ra h ar ci lo f g2 := fun q hq => (h2 q hq).trans (h1 q hq)
theorem cls_row (G : geo L rx ry ra h ar ci lo) (hc : clsIs cI cR rx ry ra h ar ci lo f K t1 t2 S) {i : Nat} (hi : i < 12) {P : List Pt} (hr : rowIs cI rx ry g (ra i) P) (hk : chg rx ry (ra i) f g) : clsIs cI cR rx ry ra h ar ci lo g K t1 t2 (supd S i P) ∧ unch rx ry ra h ar ci lo f g := by
  obtain ⟨h1, ⟨F, h2, h3⟩, h4, ⟨c, h5⟩, ⟨o, u, b, h6, h7⟩, h8⟩ := hc
  obtain ⟨o1, o2, o3, o4⟩ := G.2.2.2.2 i hi
  have e : ∀ q, oo rx ry q (ra i) → g q = f q := fun q hq => hk q (Ne.symm hq.1) (Ne.symm hq.2.1) (Ne.symm hq.2.2)
  refine ⟨⟨by rw [e h o1]; exact h1, ⟨F, by rw [e ar o2]; exact h2, h3⟩, fun j hj => ?_, ⟨c, by rw [e ci o3]; exact h5⟩, ⟨o, u, b, h6, by rw [e lo o4]; exact h7⟩, h8⟩, fun q hq => hk q (fun z => hq (Or.inr (Or.inr (Or.inr (Or.inr ⟨i, hi, Or.inl z⟩))))) (fun z => hq (Or.inr (Or.inr (Or.inr (Or.inr ⟨i, hi, Or.inr (Or.inl z)⟩))))) (fun z => hq (Or.inr (Or.inr (Or.inr (Or.inr ⟨i, hi, Or.inr (Or.inr z)⟩)))))⟩
  by_cases hji : j = i
  · subst hji; rw [su_s]; exact hr
  · rw [su_n hji]; exact rowIs_keep (G.2.2.2.1 j i hj hi hji) hk (h4 j hj)
theorem cls_row2 (G : geo L rx ry ra h ar ci lo) (hc : clsIs cI cR rx ry ra h ar ci lo f K t1 t2 S) {i k : Nat} (hi : i < 12) (hk12 : k < 12) (hik : k ≠ i) {P Q : List Pt} (hr : rowIs cI rx ry g (ra i) P) (hr2 : rowIs cI rx ry g (ra k) Q) (hk : chg2 rx ry (ra i) (ra k) f g) : clsIs cI cR rx ry ra h ar ci lo g K t1 t2 (supd (supd S k Q) i P) ∧ unch rx ry ra h ar ci lo f g := by
  obtain ⟨h1, ⟨F, h2, h3⟩, h4, ⟨c, h5⟩, ⟨o, u, b, h6, h7⟩, h8⟩ := hc
  obtain ⟨o1, o2, o3, o4⟩ := G.2.2.2.2 i hi
  obtain ⟨p1, p2, p3, p4⟩ := G.2.2.2.2 k hk12
  have e : ∀ q, oo rx ry q (ra i) → oo rx ry q (ra k) → g q = f q := fun q hq hp => hk q (Ne.symm hq.1) (Ne.symm hq.2.1) (Ne.symm hq.2.2) (Ne.symm hp.1) (Ne.symm hp.2.1) (Ne.symm hp.2.2)
  refine ⟨⟨by rw [e h o1 p1]; exact h1, ⟨F, by rw [e ar o2 p2]; exact h2, h3⟩, fun j hj => ?_, ⟨c, by rw [e ci o3 p3]; exact h5⟩, ⟨o, u, b, h6, by rw [e lo o4 p4]; exact h7⟩, h8⟩, fun q hq => hk q (fun z => hq (Or.inr (Or.inr (Or.inr (Or.inr ⟨i, hi, Or.inl z⟩))))) (fun z => hq (Or.inr (Or.inr (Or.inr (Or.inr ⟨i, hi, Or.inr (Or.inl z)⟩))))) (fun z => hq (Or.inr (Or.inr (Or.inr (Or.inr ⟨i, hi, Or.inr (Or.inr z)⟩))))) (fun z => hq (Or.inr (Or.inr (Or.inr (Or.inr ⟨k, hk12, Or.inl z⟩))))) (fun z => hq (Or.inr (Or.inr (Or.inr (Or.inr ⟨k, hk12, Or.inr (Or.inl z)⟩))))) (fun z => hq (Or.inr (Or.inr (Or.inr (Or.inr ⟨k, hk12, Or.inr (Or.inr z)⟩)))))⟩
  by_cases hji : j = i
  · subst hji; rw [su_s]; exact hr
  · rw [su_n hji]
    by_cases hjk : j = k
    · subst hjk; rw [su_s]; exact hr2
    · rw [su_n hjk]
      obtain ⟨h0, r1, F1, F2, r2, r3, r4⟩ := h4 j hj
      obtain ⟨d1, d2, d3, d4, d5, d6, d7, d8, d9⟩ := G.2.2.2.1 j i hj hi hji
      obtain ⟨b1, b2, b3, b4, b5, b6, b7, b8, b9⟩ := G.2.2.2.1 j k hj hk12 hjk
      exact ⟨h0, by rw [hk _ d1 d2 d3 b1 b2 b3]; exact r1, F1, F2, by rw [hk _ d4 d5 d6 b4 b5 b6]; exact r2, by rw [hk _ d7 d8 d9 b7 b8 b9]; exact r3, r4⟩
theorem cls_obj (G : geo L rx ry ra h ar ci lo) (hc : clsIs cI cR rx ry ra h ar ci lo f K t1 t2 S) {K' t1' t2' : Int} (hK : 0 ≤ K' ∧ K' ≤ 8) : clsIs cI cR rx ry ra h ar ci lo (va_up f h (hCell ra ar ci lo K' t1' t2')) K' t1' t2' S ∧ unch rx ry ra h ar ci lo f (va_up f h (hCell ra ar ci lo K' t1' t2')) := by
  obtain ⟨h1, ⟨F, h2, h3⟩, h4, ⟨c, h5⟩, ⟨o, u, b, h6, h7⟩, h8⟩ := hc
  obtain ⟨n1, n2, n3, n4, n5, n6⟩ := G.2.1
  exact ⟨⟨va_up_self _ _ _, ⟨F, by rw [va_up_ne _ _ (Ne.symm n1)]; exact h2, h3⟩, fun j hj => rowIs_up (G.2.2.2.2 j hj).1 (h4 j hj), ⟨c, by rw [va_up_ne _ _ (Ne.symm n2)]; exact h5⟩, ⟨o, u, b, h6, by rw [va_up_ne _ _ (Ne.symm n3)]; exact h7⟩, hK⟩, fun q hq => va_up_ne _ _ (fun z => hq (Or.inl z))⟩
theorem cls_ci (G : geo L rx ry ra h ar ci lo) (hc : clsIs cI cR rx ry ra h ar ci lo f K t1 t2 S) {c' : C5} : clsIs cI cR rx ry ra h ar ci lo (va_up f ci (c5 c')) K t1 t2 S ∧ unch rx ry ra h ar ci lo f (va_up f ci (c5 c')) := by
  obtain ⟨h1, ⟨F, h2, h3⟩, h4, ⟨c, h5⟩, ⟨o, u, b, h6, h7⟩, h8⟩ := hc
  obtain ⟨n1, n2, n3, n4, n5, n6⟩ := G.2.1
  exact ⟨⟨by rw [va_up_ne _ _ n2]; exact h1, ⟨F, by rw [va_up_ne _ _ n4]; exact h2, h3⟩, fun j hj => rowIs_up (G.2.2.2.2 j hj).2.2.1 (h4 j hj), ⟨c', va_up_self _ _ _⟩, ⟨o, u, b, h6, by rw [va_up_ne _ _ (Ne.symm n6)]; exact h7⟩, h8⟩, fun q hq => va_up_ne _ _ (fun z => hq (Or.inr (Or.inr (Or.inl z))))⟩
theorem cls_lo (G : geo L rx ry ra h ar ci lo) (hc : clsIs cI cR rx ry ra h ar ci lo f K t1 t2 S) {o' u' b' : Int} (hb' : b' = 0 ∨ b' = 1) : clsIs cI cR rx ry ra h ar ci lo (va_up f lo (cL o' u' b')) K t1 t2 S ∧ unch rx ry ra h ar ci lo f (va_up f lo (cL o' u' b')) := by
  obtain ⟨h1, ⟨F, h2, h3⟩, h4, ⟨c, h5⟩, ⟨o, u, b, h6, h7⟩, h8⟩ := hc
  obtain ⟨n1, n2, n3, n4, n5, n6⟩ := G.2.1
  exact ⟨⟨by rw [va_up_ne _ _ n3]; exact h1, ⟨F, by rw [va_up_ne _ _ n5]; exact h2, h3⟩, fun j hj => rowIs_up (G.2.2.2.2 j hj).2.2.2 (h4 j hj), ⟨c, by rw [va_up_ne _ _ n6]; exact h5⟩, ⟨o', u', b', hb', va_up_self _ _ _⟩, h8⟩, fun q hq => va_up_ne _ _ (fun z => hq (Or.inr (Or.inr (Or.inr (Or.inl z)))))⟩
end CW

set_option maxHeartbeats 4000000 in
set_option maxRecDepth 100000 in
theorem c_H_rowOf (l : Launch) {D : va_G} {cI cR : ClassId} {L : List Nat} {f : Nat → va_E} {rx ry ra : Nat → Nat} {h ar ci lo : Nat} {K t1 t2 : Int} {S : Nat → List Pt} (G : geo L rx ry ra h ar ci lo) (hc : clsIs cI cR rx ry ra h ar ci lo f K t1 t2 S) {z : Int} (hz : i3 z) : gMq D cI cR l y_H_rowOf (Cond.code y_H_rowOf b_H_rowOf 2 (some (.object "HullSums$Row")) :: lw_g) { frames := 0, cells := 0, slots := 0, locals := 0 } [.ref h, .int (iN (z))] L f (fun r u => r = (if 0 ≤ z ∧ z < K then some (ra z.toNat) else none) ∧ u = (L, f)) := by
  intro sz
  refine g_enter (by decide) rfl (Nat.le_of_ble_eq_true rfl) ?_
  intro p e s m below meth cd ls X hrt hlk hnm hl hsz w
  have X : gx p m cd b_H_rowOf 2 s _ "HullSums" D cI cR := X
  have hx := X.1.1
  have hb := X.1.2.1
  have hl : lv_has ls 2 [(0, .ref h), (1, .int (iN (z)))] := hl
  have hK := hc.2.2.2.2.2
  obtain ⟨F, hF, hFi⟩ := hc.2.1
  refine lv_iload_n hx hb d_H_rowOf_0 rfl (lv_at hl 1 rfl) ?_
  refine ri_zlt (a := z) (tgt := 21) hx hb d_H_rowOf_1 (by decide) rfl hz (fun c1 => ?_) (fun c1 => ?_)
  · skip
    refine lv_null hx hb d_H_rowOf_21 ?_
    exact g_qret (r := none) X w hrt (Or.inl ⟨_, rfl⟩) hlk d_H_rowOf_22 ⟨by rw [if_neg (by omega)], rfl⟩
  · skip
    refine lv_iload_n hx hb d_H_rowOf_4 rfl (lv_at hl 1 rfl) ?_
    refine lv_aload_n hx hb d_H_rowOf_5 rfl (lv_at hl 0 rfl) ?_
    refine gk_get X w G.1.1 hc.1 rfl in_H 1 (by decide) lk_H_43 rfl d_H_rowOf_6 ?_
    refine ri_cge (a := z) (b := K) (tgt := 21) hx hb d_H_rowOf_9 (by decide) rfl rfl hz (by unfold i3; omega) (fun c9 => ?_) (fun c9 => ?_)
    · skip
      refine lv_null hx hb d_H_rowOf_21 ?_
      exact g_qret (r := none) X w hrt (Or.inl ⟨_, rfl⟩) hlk d_H_rowOf_22 ⟨by rw [if_neg (by omega)], rfl⟩
    · skip
      refine lv_iload_n hx hb d_H_rowOf_12 rfl (lv_at hl 1 rfl) ?_
      refine lv_aload_n hx hb d_H_rowOf_13 rfl (lv_at hl 0 rfl) ?_
      refine gk_get X w G.1.1 hc.1 rfl in_H 0 (by decide) lk_H_11 rfl d_H_rowOf_14 ?_
      refine gk_alen X w 1 G.1.2.1 hF rfl (v := iN (8)) rfl d_H_rowOf_17 ?_
      refine ri_clt (a := z) (b := 8) (tgt := 23) hx hb d_H_rowOf_18 (by decide) rfl rfl hz (by unfold i3; omega) (fun c18 => ?_) (fun c18 => ?_)
      · skip
        refine lv_aload_n hx hb d_H_rowOf_23 rfl (lv_at hl 0 rfl) ?_
        refine gk_get X w G.1.1 hc.1 rfl in_H 0 (by decide) lk_H_11 rfl d_H_rowOf_24 ?_
        refine lv_iload_n hx hb d_H_rowOf_27 rfl (lv_at hl 1 rfl) ?_
        have hin : vp_in (iN z) 8 := by rw [show z = ((z.toNat : Nat) : Int) by omega]; exact iN_in (by omega) (by decide)
        have hcl : (iN z).toNatClampNeg = z.toNat := by (conv => lhs; rw [show z = ((z.toNat : Nat) : Int) by omega]); exact iN_cl (by omega)
        refine gk_aald X w 1 G.1.2.1 hF rfl hin d_H_rowOf_28 ?_
        rw [hcl, hFi _ (by omega)]
        exact g_qret (r := some (ra z.toNat)) X w hrt (Or.inl ⟨_, rfl⟩) hlk d_H_rowOf_29 ⟨by rw [if_pos (by omega)], rfl⟩
      · skip
        refine lv_null hx hb d_H_rowOf_21 ?_
        exact g_qret (r := none) X w hrt (Or.inl ⟨_, rfl⟩) hlk d_H_rowOf_22 ⟨by rw [if_neg (by omega)], rfl⟩
set_option maxHeartbeats 4000000 in
set_option maxRecDepth 100000 in
theorem c_H_tell (l : Launch) {D : va_G} {cI cR : ClassId} {L : List Nat} {f : Nat → va_E} {rx ry ra : Nat → Nat} {h ar ci lo : Nat} {K t1 t2 : Int} {S : Nat → List Pt} (G : geo L rx ry ra h ar ci lo) (hc : clsIs cI cR rx ry ra h ar ci lo f K t1 t2 S) {x y : Int} : gMv D cI cR l y_H_tell (Cond.code y_H_tell b_H_tell 5 none :: lw_g) { frames := 0, cells := 0, slots := 0, locals := 0 } [.ref h, .long (jN (x)), .long (jN (y))] L f (fun u => u = (L, va_up f h (hCell ra ar ci lo K x y))) := by
  intro sz
  refine g_enter (by decide) rfl (Nat.le_of_ble_eq_true rfl) ?_
  intro p e s m below meth cd ls X hrt hlk hnm hl hsz w
  have X : gx p m cd b_H_tell 5 s _ "HullSums" D cI cR := X
  have hx := X.1.1
  have hb := X.1.2.1
  have hl : lv_has ls 5 [(0, .ref h), (1, .long (jN (x))), (3, .long (jN (y)))] := hl
  have w : gw D (gA L sz) s.heap s.heap [] L (va_up f h (.inr (0, [.ref ar, .int (iN (K)), .long (jN (t1)), .long (jN (t2)), .ref (ra 8), .ref (ra 9), .ref (ra 10), .ref (ra 11), .ref ci, .ref lo]))) := by rw [va_same (c := .inr (0, [.ref ar, .int (iN (K)), .long (jN (t1)), .long (jN (t2)), .ref (ra 8), .ref (ra 9), .ref (ra 10), .ref (ra 11), .ref ci, .ref lo])) hc.1]; exact w
  refine lv_aload_n hx hb d_H_tell_0 rfl (lv_at hl 0 rfl) ?_
  refine lv_lload_n hx hb d_H_tell_1 rfl (lv_at hl 1 rfl) ?_
  refine gk_put X w G.1.1 (va_up_self _ _ _) rfl in_H ty_H tyok_H nm_H 2 (by decide) lk_H_47 rfl (ty := .long) (by decide +kernel) rfl rfl (Nat.le_of_ble_eq_true rfl) d_H_tell_2 (fun H locs w => ?_)
  have w : gw D (gA L sz) s.heap H locs L (va_up f h (.inr (0, [.ref ar, .int (iN (K)), .long (jN (x)), .long (jN (t2)), .ref (ra 8), .ref (ra 9), .ref (ra 10), .ref (ra 11), .ref ci, .ref lo]))) := by rw [bx_uu] at w; exact w
  refine lv_aload_n hx hb d_H_tell_5 rfl (lv_at hl 0 rfl) ?_
  refine lv_lload_n hx hb d_H_tell_6 rfl (lv_at hl 2 rfl) ?_
  refine gk_put X w G.1.1 (va_up_self _ _ _) rfl in_H ty_H tyok_H nm_H 3 (by decide) lk_H_51 rfl (ty := .long) (by decide +kernel) rfl rfl (Nat.le_of_ble_eq_true rfl) d_H_tell_7 (fun H locs w => ?_)
  have w : gw D (gA L sz) s.heap H locs L (va_up f h (.inr (0, [.ref ar, .int (iN (K)), .long (jN (x)), .long (jN (y)), .ref (ra 8), .ref (ra 9), .ref (ra 10), .ref (ra 11), .ref ci, .ref lo]))) := by rw [bx_uu] at w; exact w
  exact g_vret X w hrt hlk d_H_tell_10 rfl
def frac1 (x y : Int) : Int := if Int.gcd x y = 0 then 0 else x.tdiv (Int.gcd x y)
def frac2 (x y : Int) : Int := if Int.gcd x y = 0 then 1 else y.tdiv (Int.gcd x y)
theorem gcd_6 {x y : Int} (hy : -281474976710656 < y ∧ y < 281474976710656) (hx : i6 x ∧ -9223372036854775807 ≤ x) : i6 ((Int.gcd x y : Nat) : Int) := by
  obtain ⟨⟨h1, h2⟩, h3⟩ := hx
  have := gcd_b (a := x) (b := y) (B := 9223372036854775807) (by omega) (by omega)
  unfold i6; omega
set_option maxHeartbeats 4000000 in
set_option maxRecDepth 100000 in
theorem c_H_tellFraction (l : Launch) {D : va_G} {cI cR : ClassId} {L : List Nat} {f : Nat → va_E} {rx ry ra : Nat → Nat} {h ar ci lo : Nat} {K t1 t2 : Int} {S : Nat → List Pt} (G : geo L rx ry ra h ar ci lo) (hc : clsIs cI cR rx ry ra h ar ci lo f K t1 t2 S) {x y : Int} (hx6 : i6 x ∧ -9223372036854775807 ≤ x) (hy48 : -281474976710656 < y ∧ y < 281474976710656) : gMv D cI cR l y_H_tellFraction (Cond.code y_H_tellFraction b_H_tellFraction 7 none :: lw_g) { frames := 2, cells := 0, slots := 0, locals := 51 } [.ref h, .long (jN (x)), .long (jN (y))] L f (fun u => u = (L, va_up f h (hCell ra ar ci lo K (frac1 x y) (frac2 x y)))) := by
  intro sz
  refine g_enter (by decide) rfl (Nat.le_of_ble_eq_true rfl) ?_
  intro p e s m below meth cd ls X hrt hlk hnm hl hsz w
  have X : gx p m cd b_H_tellFraction 7 s _ "HullSums" D cI cR := X
  have hx := X.1.1
  have hb := X.1.2.1
  have hl : lv_has ls 7 [(0, .ref h), (1, .long (jN (x))), (3, .long (jN (y)))] := hl
  refine lv_lload_n hx hb d_H_tellFraction_0 rfl (lv_at hl 1 rfl) ?_
  refine lv_lload_n hx hb d_H_tellFraction_1 rfl (lv_at hl 2 rfl) ?_
  refine g_cl w (g_runS (As := [.long (jN (x)), .long (jN (y))]) (rest := []) X w (c_H_commonDivisor l hx6 hy48) k_H_commonDivisor lk_H_194 st_H_commonDivisor ⟨(Nat.le_of_ble_eq_true rfl), (Nat.le_of_ble_eq_true rfl)⟩ rfl hl.1 rfl (Nat.le_of_ble_eq_true rfl) d_H_tellFraction_2 ⟨Nat.zero_le _, Nat.zero_le _⟩) (fun r u H locs hp w => ?_)
  obtain ⟨rfl, rfl⟩ := hp
  have w : gw D (gA L sz) s.heap H locs L f := w
  refine lv_lstore (lv' := [(5, .long (jN (((Int.gcd x y : Nat) : Int)))), (0, .ref h), (1, .long (jN (x))), (3, .long (jN (y)))]) hx hb d_H_tellFraction_5 hl (by decide) rfl (fun ls hl => ?_)
  refine lv_lload hx hb d_H_tellFraction_7 (lv_at hl 0 rfl) ?_
  refine lv_lconst (v := jN (0)) hx hb d_H_tellFraction_9 (by decide) ?_
  refine rj_cne (a := ((Int.gcd x y : Nat) : Int)) (b := 0) (tgt := 21) hx hb d_H_tellFraction_10 d_H_tellFraction_11 (by decide) rfl rfl (gcd_6 hy48 hx6) (by unfold i6; omega) (fun c10 => ?_) (fun c10 => ?_)
  · skip
    refine lv_aload_n hx hb d_H_tellFraction_21 rfl (lv_at hl 1 rfl) ?_
    refine lv_lload_n hx hb d_H_tellFraction_22 rfl (lv_at hl 2 rfl) ?_
    refine lv_lload hx hb d_H_tellFraction_23 (lv_at hl 0 rfl) ?_
    refine rj_div (a := x) (b := ((Int.gcd x y : Nat) : Int)) hx hb d_H_tellFraction_25 rfl rfl hx6.1 (gcd_6 hy48 hx6) (by omega) ?_
    refine lv_lload_n hx hb d_H_tellFraction_26 rfl (lv_at hl 3 rfl) ?_
    refine lv_lload hx hb d_H_tellFraction_27 (lv_at hl 0 rfl) ?_
    refine rj_div (a := y) (b := ((Int.gcd x y : Nat) : Int)) hx hb d_H_tellFraction_29 rfl rfl (by unfold i6; omega) (gcd_6 hy48 hx6) (by omega) ?_
    refine g_cv w (g_runV (As := [.long (jN ((x.tdiv ((Int.gcd x y : Nat) : Int)))), .long (jN ((y.tdiv ((Int.gcd x y : Nat) : Int))))]) (rest := []) X w (c_H_tell l G hc (x := (x.tdiv ((Int.gcd x y : Nat) : Int))) (y := (y.tdiv ((Int.gcd x y : Nat) : Int)))) k_H_tell v_H_tell lk_H_54 G.1.1 hc.1 rfl ⟨(Nat.le_of_ble_eq_true rfl), (Nat.le_of_ble_eq_true rfl)⟩ rfl hl.1 rfl (Nat.le_of_ble_eq_true rfl) d_H_tellFraction_30 ⟨(Nat.le_of_ble_eq_true rfl), (Nat.le_of_ble_eq_true rfl)⟩) (fun u H locs hp w => ?_)
    obtain rfl := hp
    exact g_vret X w hrt hlk d_H_tellFraction_33 (by unfold frac1 frac2; rw [if_neg (by omega), if_neg (by omega)])
  · skip
    refine lv_aload_n hx hb d_H_tellFraction_14 rfl (lv_at hl 1 rfl) ?_
    refine lv_lconst (v := jN (0)) hx hb d_H_tellFraction_15 (by decide) ?_
    refine lv_lconst (v := jN (1)) hx hb d_H_tellFraction_16 (by decide) ?_
    refine g_cv w (g_runV (As := [.long (jN (0)), .long (jN (1))]) (rest := []) X w (c_H_tell l G hc (x := 0) (y := 1)) k_H_tell v_H_tell lk_H_54 G.1.1 hc.1 rfl ⟨(Nat.le_of_ble_eq_true rfl), (Nat.le_of_ble_eq_true rfl)⟩ rfl hl.1 rfl (Nat.le_of_ble_eq_true rfl) d_H_tellFraction_17 ⟨(Nat.le_of_ble_eq_true rfl), (Nat.le_of_ble_eq_true rfl)⟩) (fun u H locs hp w => ?_)
    obtain rfl := hp
    exact g_vret X w hrt hlk d_H_tellFraction_20 (by unfold frac1 frac2; rw [if_pos (by omega), if_pos (by omega)])
set_option maxHeartbeats 4000000 in
set_option maxRecDepth 100000 in
theorem c_H_clear (l : Launch) {D : va_G} {cI cR : ClassId} {L : List Nat} {f : Nat → va_E} {rx ry ra : Nat → Nat} {h ar ci lo : Nat} {K t1 t2 : Int} {S : Nat → List Pt} (G : geo L rx ry ra h ar ci lo) (hc : clsIs cI cR rx ry ra h ar ci lo f K t1 t2 S) : gMv D cI cR l y_H_clear (Cond.code y_H_clear b_H_clear 1 none :: lw_g) { frames := 1, cells := 0, slots := 0, locals := 24 } [.ref h] L f (fun u => u = (L, va_up f h (hCell ra ar ci lo 0 0 1))) := by
  intro sz
  refine g_enter (by decide) rfl (Nat.le_of_ble_eq_true rfl) ?_
  intro p e s m below meth cd ls X hrt hlk hnm hl hsz w
  have X : gx p m cd b_H_clear 1 s _ "HullSums" D cI cR := X
  have hx := X.1.1
  have hb := X.1.2.1
  have hl : lv_has ls 1 [(0, .ref h)] := hl
  have w : gw D (gA L sz) s.heap s.heap [] L (va_up f h (.inr (0, [.ref ar, .int (iN (K)), .long (jN (t1)), .long (jN (t2)), .ref (ra 8), .ref (ra 9), .ref (ra 10), .ref (ra 11), .ref ci, .ref lo]))) := by rw [va_same (c := .inr (0, [.ref ar, .int (iN (K)), .long (jN (t1)), .long (jN (t2)), .ref (ra 8), .ref (ra 9), .ref (ra 10), .ref (ra 11), .ref ci, .ref lo])) hc.1]; exact w
  refine lv_aload_n hx hb d_H_clear_0 rfl (lv_at hl 0 rfl) ?_
  refine lv_iconst (v := iN (0)) hx hb d_H_clear_1 (by decide) ?_
  refine gk_put X w G.1.1 (va_up_self _ _ _) rfl in_H ty_H tyok_H nm_H 1 (by decide) lk_H_43 rfl (ty := .int) (by decide +kernel) rfl rfl (Nat.le_of_ble_eq_true rfl) d_H_clear_2 (fun H locs w => ?_)
  have w : gw D (gA L sz) s.heap H locs L (va_up f h (.inr (0, [.ref ar, .int (iN (0)), .long (jN (t1)), .long (jN (t2)), .ref (ra 8), .ref (ra 9), .ref (ra 10), .ref (ra 11), .ref ci, .ref lo]))) := by rw [bx_uu] at w; exact w
  refine lv_aload_n hx hb d_H_clear_5 rfl (lv_at hl 0 rfl) ?_
  refine lv_lconst (v := jN (0)) hx hb d_H_clear_6 (by decide) ?_
  refine lv_lconst (v := jN (1)) hx hb d_H_clear_7 (by decide) ?_
  refine g_cv w (g_runV (As := [.long (jN (0)), .long (jN (1))]) (rest := []) X w (c_H_tell l G (cls_obj G hc (K' := 0) (t1' := t1) (t2' := t2) (by omega)).1 (x := 0) (y := 1)) k_H_tell v_H_tell lk_H_54 G.1.1 (va_up_self _ _ _) rfl ⟨(Nat.le_of_ble_eq_true rfl), (Nat.le_of_ble_eq_true rfl)⟩ rfl hl.1 rfl (Nat.le_of_ble_eq_true rfl) d_H_clear_8 ⟨(Nat.le_of_ble_eq_true rfl), (Nat.le_of_ble_eq_true rfl)⟩) (fun u H locs hp w => ?_)
  obtain rfl := hp
  exact g_vret X w hrt hlk d_H_clear_11 (by rw [bx_uu])
set_option maxHeartbeats 4000000 in
set_option maxRecDepth 100000 in
theorem c_H_first (l : Launch) {D : va_G} {cI cR : ClassId} {L : List Nat} {f : Nat → va_E} {rx ry ra : Nat → Nat} {h ar ci lo : Nat} {K t1 t2 : Int} {S : Nat → List Pt} (G : geo L rx ry ra h ar ci lo) (hc : clsIs cI cR rx ry ra h ar ci lo f K t1 t2 S) : gMl D cI cR l y_H_first (Cond.code y_H_first b_H_first 1 (some .long) :: lw_g) { frames := 0, cells := 0, slots := 0, locals := 0 } [.ref h] L f (fun r u => r = jN t1 ∧ u = (L, f)) := by
  intro sz
  refine g_enter (by decide) rfl (Nat.le_of_ble_eq_true rfl) ?_
  intro p e s m below meth cd ls X hrt hlk hnm hl hsz w
  have X : gx p m cd b_H_first 1 s _ "HullSums" D cI cR := X
  have hx := X.1.1
  have hb := X.1.2.1
  have hl : lv_has ls 1 [(0, .ref h)] := hl
  refine lv_aload_n hx hb d_H_first_0 rfl (lv_at hl 0 rfl) ?_
  refine gk_get X w G.1.1 hc.1 rfl in_H 2 (by decide) lk_H_47 rfl d_H_first_1 ?_
  exact g_lret X w hrt hlk d_H_first_4 ⟨rfl, rfl⟩
set_option maxHeartbeats 4000000 in
set_option maxRecDepth 100000 in
theorem c_H_second (l : Launch) {D : va_G} {cI cR : ClassId} {L : List Nat} {f : Nat → va_E} {rx ry ra : Nat → Nat} {h ar ci lo : Nat} {K t1 t2 : Int} {S : Nat → List Pt} (G : geo L rx ry ra h ar ci lo) (hc : clsIs cI cR rx ry ra h ar ci lo f K t1 t2 S) : gMl D cI cR l y_H_second (Cond.code y_H_second b_H_second 1 (some .long) :: lw_g) { frames := 0, cells := 0, slots := 0, locals := 0 } [.ref h] L f (fun r u => r = jN t2 ∧ u = (L, f)) := by
  intro sz
  refine g_enter (by decide) rfl (Nat.le_of_ble_eq_true rfl) ?_
  intro p e s m below meth cd ls X hrt hlk hnm hl hsz w
  have X : gx p m cd b_H_second 1 s _ "HullSums" D cI cR := X
  have hx := X.1.1
  have hb := X.1.2.1
  have hl : lv_has ls 1 [(0, .ref h)] := hl
  refine lv_aload_n hx hb d_H_second_0 rfl (lv_at hl 0 rfl) ?_
  refine gk_get X w G.1.1 hc.1 rfl in_H 3 (by decide) lk_H_51 rfl d_H_second_1 ?_
  exact g_lret X w hrt hlk d_H_second_4 ⟨rfl, rfl⟩
set_option maxHeartbeats 4000000 in
set_option maxRecDepth 100000 in
theorem c_H_points (l : Launch) {D : va_G} {cI cR : ClassId} {L : List Nat} {f : Nat → va_E} {rx ry ra : Nat → Nat} {h ar ci lo : Nat} {K t1 t2 : Int} {S : Nat → List Pt} (G : geo L rx ry ra h ar ci lo) (hc : clsIs cI cR rx ry ra h ar ci lo f K t1 t2 S) {z : Int} (hz : i3 z) : gMi D cI cR l y_H_points (Cond.code y_H_points b_H_points 3 (some .int) :: lw_g) { frames := 1, cells := 0, slots := 0, locals := 21 } [.ref h, .int (iN (z))] L f (fun r u => r = iN (if 0 ≤ z ∧ z < K then ((S z.toNat).length : Int) else -1) ∧ u = (L, f)) := by
  intro sz
  refine g_enter (by decide) rfl (Nat.le_of_ble_eq_true rfl) ?_
  intro p e s m below meth cd ls X hrt hlk hnm hl hsz w
  have X : gx p m cd b_H_points 3 s _ "HullSums" D cI cR := X
  have hx := X.1.1
  have hb := X.1.2.1
  have hl : lv_has ls 3 [(0, .ref h), (1, .int (iN (z)))] := hl
  refine lv_aload_n hx hb d_H_points_0 rfl (lv_at hl 0 rfl) ?_
  refine lv_iload_n hx hb d_H_points_1 rfl (lv_at hl 1 rfl) ?_
  refine g_cq w (g_runV (As := [.int (iN (z))]) (rest := []) X w (c_H_rowOf l G hc (z := z) hz) k_H_rowOf v_H_rowOf lk_H_58 G.1.1 hc.1 rfl ⟨(Nat.le_of_ble_eq_true rfl), (Nat.le_of_ble_eq_true rfl)⟩ rfl hl.1 rfl (Nat.le_of_ble_eq_true rfl) d_H_points_2 ⟨(Nat.le_of_ble_eq_true rfl), (Nat.le_of_ble_eq_true rfl)⟩) (fun r u H locs hp w => ?_)
  obtain ⟨hr9, rfl⟩ := hp
  have w : gw D (gA L sz) s.heap H locs L f := w
  by_cases hz1 : 0 ≤ z ∧ z < K
  · skip
    rw [if_pos hz1] at hr9
    subst hr9
    have hz18 : z.toNat < 8 := by have := hc.2.2.2.2.2; omega
    refine lv_astore_n (lv' := [(2, .ref (ra z.toNat)), (0, .ref h), (1, .int (iN (z)))]) hx hb d_H_points_5 rfl hl (by decide) rfl (fun ls hl => ?_)
    refine lv_aload_n hx hb d_H_points_6 rfl (lv_at hl 0 rfl) ?_
    refine lv_ifnonnull (tgt := 14) hx hb d_H_points_7 (by decide) ?_
    refine lv_aload_n hx hb d_H_points_14 rfl (lv_at hl 0 rfl) ?_
    refine g_ci w (g_runV (As := []) (rest := []) X w (c_R_size l (G.2.2.1 z.toNat (by omega)) (hc.2.2.1 z.toNat (by omega))) k_R_size v_R_size lk_H_72 (G.2.2.1 z.toNat (by omega)).1 (hc.2.2.1 z.toNat (by omega)).2.1 rfl ⟨(Nat.le_of_ble_eq_true rfl), (Nat.le_of_ble_eq_true rfl)⟩ rfl hl.1 rfl (Nat.le_of_ble_eq_true rfl) d_H_points_15 ⟨Nat.zero_le _, Nat.zero_le _⟩) (fun r u H locs hp w => ?_)
    obtain ⟨rfl, rfl⟩ := hp
    have w : gw D (gA L sz) s.heap H locs L f := w
    exact g_iret X w hrt hlk d_H_points_18 ⟨by rw [if_pos hz1], rfl⟩
  · skip
    rw [if_neg hz1] at hr9
    subst hr9
    refine lv_astore_nN (lv' := [(2, .null), (0, .ref h), (1, .int (iN (z)))]) hx hb d_H_points_5 rfl hl (by decide) rfl (fun ls hl => ?_)
    refine lv_aload_nN hx hb d_H_points_6 rfl (lv_at hl 0 rfl) ?_
    refine lv_ifnonnullN hx hb d_H_points_7 ?_
    refine lv_iconst (v := iN (-1)) hx hb d_H_points_10 (by decide) ?_
    refine lv_goto (tgt := 18) hx hb d_H_points_11 (by decide) ?_
    exact g_iret X w hrt hlk d_H_points_18 ⟨by rw [if_neg hz1], rfl⟩
