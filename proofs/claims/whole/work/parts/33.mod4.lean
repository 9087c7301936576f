/-! THE REFERENCE: sets in its arrays; load, loadBoth -/
def mInv (v : Nat → Int) (F : Nat → Nat → Int) (K : Int) (S : Nat → List Pt) : Prop := v 0 = 0 ∧ v 1 = K ∧ 0 ≤ K ∧ K ≤ 8 ∧ ∀ i : Nat, (i : Int) < K → F 4 i = (S i).length ∧ ∀ j q, (S i)[j]? = some q → F 2 (24 * i + j) = q.1 ∧ F 3 (24 * i + j) = q.2
def wld (F : Nat → Nat → Int) (W : List Pt) : Prop := ∀ (i : Nat) (q : Pt), W[i]? = some q → F 5 i = q.1 ∧ F 6 i = q.2
/-- H is the hull of the points W -/
def isHL (W H : List Pt) : Prop := isHW (fun j => pX W j) (fun j => pY W j) W.length H
def mLd (v : Nat → Int) (F : Nat → Nat → Int) (W H : List Pt) : Prop := v 7 = W.length ∧ v 10 = H.length ∧ wld F W ∧ hld F H H.length
theorem NXT_congr {GX GY GX' GY' : Nat → Int} {n : Nat} (h : ∀ j, j < n → GX j = GX' j ∧ GY j = GY' j) {p q : Pt} (hN : NXT GX GY n p q) : NXT GX' GY' n p q := by
  obtain ⟨h1, ⟨j, hj, hq⟩, h3⟩ := hN
  refine ⟨h1, ⟨j, hj, by rw [← (h j hj).1, ← (h j hj).2]; exact hq⟩, fun k hk => ?_⟩
  rw [← (h k hk).1, ← (h k hk).2]
  exact h3 k hk
theorem isHW_congr {GX GY GX' GY' : Nat → Int} {n : Nat} {H : List Pt} (h : ∀ j, j < n → GX j = GX' j ∧ GY j = GY' j) (hH : isHW GX GY n H) : isHW GX' GY' n H := by
  obtain ⟨h1, h2, h3, h4, h5, h6, h7⟩ := hH
  refine ⟨h1, h2, h3, h4, fun p hp => ?_, fun hl i p q hp hq => NXT_congr h (h6 hl i p q hp hq), fun p hp j hj => by rw [← (h j hj).1, ← (h j hj).2]; exact h7 p hp j hj⟩
  obtain ⟨⟨j, hj, hq⟩, h9⟩ := h5 p hp
  exact ⟨⟨j, hj, by rw [← (h j hj).1, ← (h j hj).2]; exact hq⟩, fun k hk => by rw [← (h k hk).1, ← (h k hk).2]; exact h9 k hk⟩
theorem wld_G {F : Nat → Nat → Int} {W : List Pt} (h : wld F W) : ∀ j, j < W.length → (fun j : Nat => pX W j) j = F 5 j ∧ (fun j : Nat => pY W j) j = F 6 j := by
  intro j hj
  have hq : W[j]? = some W[j] := List.getElem?_eq_getElem hj
  have := h j _ hq
  exact ⟨by show pX W j = _; rw [pX_nat hq, this.1], by show pY W j = _; rw [pY_nat hq, this.2]⟩
theorem wld_b {F : Nat → Nat → Int} {W : List Pt} (h : wld F W) (hb : pbl 600 W) : wbd (F 5) (F 6) W.length := by
  intro j hj
  have hq : W[j]? = some (W[j]'(by omega)) := List.getElem?_eq_getElem (by omega)
  have h1 := h j _ hq
  have h2 := hb _ (List.mem_of_getElem? hq)
  rw [h1.1, h1.2]; exact h2
theorem wld_snoc {F F' : Nat → Nat → Int} {W : List Pt} {x y : Int} (h : wld F W) (h5 : F' 5 = va_up (F 5) W.length x) (h6 : F' 6 = va_up (F 6) W.length y) : wld F' (W ++ [(x, y)]) := by
  intro i q hq
  rw [h5, h6]
  by_cases e : i = W.length
  · subst e
    simp at hq
    subst hq
    exact ⟨va_up_self _ _ _, va_up_self _ _ _⟩
  · rw [va_up_ne _ _ e, va_up_ne _ _ e]
    rw [List.getElem?_append] at hq
    split at hq
    · exact h i q hq
    · rw [List.getElem?_eq_none (by simp; omega)] at hq; exact absurd hq (by simp)
theorem mInv_k {v v' : Nat → Int} {F F' : Nat → Nat → Int} {K : Int} {S : Nat → List Pt} (h : mInv v F K S) (h0 : v' 0 = v 0) (h1 : v' 1 = v 1) (hF : ∀ j, j < 5 → F' j = F j) : mInv v' F' K S := by
  obtain ⟨a, b, c, d, e⟩ := h
  exact ⟨by rw [h0]; exact a, by rw [h1]; exact b, c, d, fun i hi => by rw [hF 4 (by decide), hF 2 (by decide), hF 3 (by decide)]; exact e i hi⟩
def lpost (L : List Nat) (cI : ClassId) (mo : Nat) (A : Nat → Nat) (f : Nat → va_E) (v : Nat → Int) (F : Nat → Nat → Int) (W H : List Pt) (u : List Nat × (Nat → va_E)) : Prop :=
  ∃ (v' : Nat → Int) (F' : Nat → Nat → Int), u = (L, mSt cI mo A f v' F') ∧ mLd v' F' W H ∧ (∀ j, j ≠ 7 → j ≠ 10 → v' j = v j) ∧ (∀ j, j < 5 → F' j = F j)

set_option maxHeartbeats 4000000 in
set_option maxRecDepth 100000 in
theorem c_M_load (l : Launch) {D : va_G} {cI cR : ClassId} {L : List Nat} {f : Nat → va_E} {mo : Nat} {A : Nat → Nat} {v : Nat → Int} {F : Nat → Nat → Int} (g : mg L mo A) {K : Int} {S : Nat → List Pt} (hI0 : mInv v F K S) {z : Int} (hz : 0 ≤ z ∧ z < K) (hl24 : (S z.toNat).length ≤ 24) (hpb : pbl 600 (S z.toNat)) {Hu : List Pt} (hH : isHL (S z.toNat) Hu) : gMv D cI cR l y_M_load (Cond.code y_M_load b_M_load 3 none :: lw_g) { frames := 3, cells := 0, slots := 0, locals := 80 } [.ref mo, .int (iN (z))] L (mSt cI mo A f v F) (fun u => lpost L cI mo A f v F (S z.toNat) Hu u) := by
  intro sz
  refine g_enter (by decide) rfl (Nat.le_of_ble_eq_true rfl) ?_
  intro p e s m below meth cd ls X hrt hlk hnm hl hsz w
  have X : gx p m cd b_M_load 3 s _ "HullSumsModel" D cI cR := X
  have hx := X.1.1
  have hb := X.1.2.1
  have hl : lv_has ls 3 [(0, .ref mo), (1, .int (iN (z)))] := hl
  obtain ⟨hi0, hi1, hi2, hi3, hi4⟩ := hI0
  obtain ⟨hz4, hzq⟩ := hi4 z.toNat (by omega)
  refine lv_aload_n hx hb d_M_load_0 rfl (lv_at hl 0 rfl) ?_
  refine lv_aload_n hx hb d_M_load_1 rfl (lv_at hl 0 rfl) ?_
  refine gk_get X w g.1.1 (show (mSt cI mo A f v F) mo = .inr (4, _) from mS_m) rfl in_M 4 (by decide) lk_M_16 rfl d_M_load_2 ?_
  refine lv_iload_n hx hb d_M_load_5 rfl (lv_at hl 1 rfl) ?_
  refine gk_iald X w 0 g.1.2.2.2.1 (mS_4 g) rfl (vin (by omega) (by omega) (by decide)) d_M_load_6 ?_
  rw [vclN 8 (by omega) (by omega) (by decide)]
  refine gk_put X w g.1.1 (show (mSt cI mo A f v F) mo = .inr (4, _) from mS_m) rfl in_M ty_M tyok_M nm_M 7 (by decide) lk_M_45 rfl (ty := .int) (by decide +kernel) rfl rfl (Nat.le_of_ble_eq_true rfl) d_M_load_7 (fun H locs w => ?_)
  obtain ⟨v1, hv1⟩ : ∃ q : Nat → Int, q = va_up v 7 ((F 4 z.toNat)) := ⟨_, rfl⟩
  have v1s : v1 7 = (F 4 z.toNat) := by rw [hv1, va_up_self]
  have v1n : ∀ j, j ≠ 7 → v1 j = v j := fun j hj => by rw [hv1, va_up_ne _ _ hj]
  have w : gw D (gA L sz) s.heap H locs L (mSt cI mo A f v1 F) := by rw [hv1, ← mU_m (v := v)]; exact w
  have e7 : v1 7 = (S z.toNat).length := by rw [v1s, hz4]
  refine lv_iconst (v := iN (0)) hx hb d_M_load_10 (by decide) ?_
  refine lv_istore_n (lv' := [(2, .int (iN (0))), (0, .ref mo), (1, .int (iN (z)))]) hx hb d_M_load_11 rfl hl (by decide) rfl (fun ls hl => ?_)
  refine g_loop (σ := Int × (Nat → Nat → Int)) (fun z9 => ((S z.toNat).length - z9.1).toNat) (fun z9 => [(0, .ref mo), (1, .int (iN (z))), (2, .int (iN (z9.1)))]) L (fun z9 => (mSt cI mo A f v1 z9.2)) (fun z9 => 0 ≤ z9.1 ∧ z9.1 ≤ (S z.toNat).length ∧ (∀ j, j ≠ 5 → j ≠ 6 → z9.2 j = F j) ∧ wld z9.2 ((S z.toNat).take z9.1.toNat)) ?_ (0, F) _ _ _ ⟨by (try dsimp only); omega, by (try dsimp only); omega, fun _ _ _ => rfl, fun i q h => by simp at h⟩ w (lv_sub hl [1, 2, 0] rfl)
  intro z9 H locs ls hI w hl ih
  obtain ⟨k, F9⟩ := z9
  have hl : lv_has ls 3 [(0, .ref mo), (1, .int (iN (z))), (2, .int (iN (k)))] := hl
  have w : gw D (gA L sz) s.heap H locs L ((mSt cI mo A f v1 F9)) := w
  have hI : 0 ≤ k ∧ k ≤ (S z.toNat).length ∧ (∀ j, j ≠ 5 → j ≠ 6 → F9 j = F j) ∧ wld F9 ((S z.toNat).take k.toNat) := hI
  obtain ⟨h0, h1, hF9, hw9⟩ := hI
  refine lv_iload_n hx hb d_M_load_12 rfl (lv_at hl 2 rfl) ?_
  refine lv_aload_n hx hb d_M_load_13 rfl (lv_at hl 0 rfl) ?_
  refine gk_get X w g.1.1 (show (mSt cI mo A f v1 F9) mo = .inr (4, _) from mS_m) rfl in_M 7 (by decide) lk_M_45 rfl d_M_load_14 ?_
  rw [show v1 7 = ((S z.toNat).length : Int) from e7]
  refine ri_cge (a := k) (b := ((S z.toNat).length : Int)) (tgt := 60) hx hb d_M_load_17 (by decide) rfl rfl (by unfold i3; omega) (by unfold i3; omega) (fun c17 => ?_) (fun c17 => ?_)
  · skip
    have hwF : wld F9 (S z.toNat) := by rw [show k.toNat = (S z.toNat).length by omega, List.take_length] at hw9; exact hw9
    refine lv_aload_n hx hb d_M_load_60 rfl (lv_at hl 0 rfl) ?_
    refine g_cv w (g_runV (As := []) (rest := []) X w (c_M_goRound l g (v := v1) (F := F9) (by rw [e7]; omega) (by rw [e7]; exact wld_b hwF hpb) (Hu := Hu) (by rw [e7, Int.toNat_natCast]; exact isHW_congr (wld_G hwF) hH)) k_M_goRound v_M_goRound lk_M_48 g.1.1 (show (mSt cI mo A f v1 F9) mo = .inr (4, _) from mS_m) rfl ⟨(Nat.le_of_ble_eq_true rfl), (Nat.le_of_ble_eq_true rfl)⟩ rfl hl.1 rfl (Nat.le_of_ble_eq_true rfl) d_M_load_61 ⟨(Nat.le_of_ble_eq_true rfl), (Nat.le_of_ble_eq_true rfl)⟩) (fun u H locs hp w => ?_)
    obtain ⟨v8, F8, rfl, hg1, hg2, hg3, hg4⟩ := hp
    have w : gw D (gA L sz) s.heap H locs L (mSt cI mo A f v8 F8) := w
    exact g_vret X w hrt hlk d_M_load_64 ⟨v8, F8, rfl, ⟨by rw [hg2 7 (by decide), e7], hg1, fun i q hq => by rw [hg3 5 (by decide) (by decide), hg3 6 (by decide) (by decide)]; exact hwF i q hq, hg4⟩, fun j q1 q2 => (hg2 j q2).trans (v1n j q1), fun j hj => (hg3 j (by omega) (by omega)).trans (hF9 j (by omega) (by omega))⟩
  · skip
    refine lv_aload_n hx hb d_M_load_20 rfl (lv_at hl 0 rfl) ?_
    refine gk_get X w g.1.1 (show (mSt cI mo A f v1 F9) mo = .inr (4, _) from mS_m) rfl in_M 5 (by decide) lk_M_19 rfl d_M_load_21 ?_
    refine lv_iload_n hx hb d_M_load_24 rfl (lv_at hl 2 rfl) ?_
    refine lv_aload_n hx hb d_M_load_25 rfl (lv_at hl 0 rfl) ?_
    refine gk_get X w g.1.1 (show (mSt cI mo A f v1 F9) mo = .inr (4, _) from mS_m) rfl in_M 2 (by decide) lk_M_7 rfl d_M_load_26 ?_
    refine lv_bipush (v := iN (24)) hx hb d_M_load_29 (by decide) ?_
    refine lv_iload_n hx hb d_M_load_31 rfl (lv_at hl 1 rfl) ?_
    refine ri_mul (a := 24) (b := z) hx hb d_M_load_32 rfl rfl ?_
    refine lv_iload_n hx hb d_M_load_33 rfl (lv_at hl 2 rfl) ?_
    refine ri_add (a := (24 * z)) (b := k) hx hb d_M_load_34 rfl rfl ?_
    refine gk_iald X w 0 g.1.2.1 (mS_2 g) rfl (vin (by omega) (by omega) (by decide)) d_M_load_35 ?_
    rw [vclN 192 (by omega) (by omega) (by decide)]
    refine gk_iast X w 0 g.1.2.2.2.2.1 (mS_5 g) rfl (vin (by omega) (by omega) (by decide)) d_M_load_36 (fun H locs w => ?_)
    rw [vclN 576 (by omega) (by omega) (by decide), upd_iN] at w
    obtain ⟨F2, hF2⟩ : ∃ q : Nat → Nat → Int, q = (va_up F9 5 (va_up (F9 5) k.toNat (F9 2 ((24 * z) + k).toNat))) := ⟨_, rfl⟩
    have w : gw D (gA L sz) s.heap H locs L (mSt cI mo A f v1 F2) := by rw [hF2, ← mU_5 (F := F9) g]; exact w
    refine lv_aload_n hx hb d_M_load_37 rfl (lv_at hl 0 rfl) ?_
    refine gk_get X w g.1.1 (show (mSt cI mo A f v1 F2) mo = .inr (4, _) from mS_m) rfl in_M 6 (by decide) lk_M_22 rfl d_M_load_38 ?_
    refine lv_iload_n hx hb d_M_load_41 rfl (lv_at hl 2 rfl) ?_
    refine lv_aload_n hx hb d_M_load_42 rfl (lv_at hl 0 rfl) ?_
    refine gk_get X w g.1.1 (show (mSt cI mo A f v1 F2) mo = .inr (4, _) from mS_m) rfl in_M 3 (by decide) lk_M_13 rfl d_M_load_43 ?_
    refine lv_bipush (v := iN (24)) hx hb d_M_load_46 (by decide) ?_
    refine lv_iload_n hx hb d_M_load_48 rfl (lv_at hl 1 rfl) ?_
    refine ri_mul (a := 24) (b := z) hx hb d_M_load_49 rfl rfl ?_
    refine lv_iload_n hx hb d_M_load_50 rfl (lv_at hl 2 rfl) ?_
    refine ri_add (a := (24 * z)) (b := k) hx hb d_M_load_51 rfl rfl ?_
    refine gk_iald X w 0 g.1.2.2.1 (mS_3 g) rfl (vin (by omega) (by omega) (by decide)) d_M_load_52 ?_
    rw [vclN 192 (by omega) (by omega) (by decide)]
    refine gk_iast X w 0 g.1.2.2.2.2.2.1 (mS_6 g) rfl (vin (by omega) (by omega) (by decide)) d_M_load_53 (fun H locs w => ?_)
    rw [vclN 576 (by omega) (by omega) (by decide), upd_iN] at w
    obtain ⟨F3, hF3⟩ : ∃ q : Nat → Nat → Int, q = (va_up F2 6 (va_up (F2 6) k.toNat (F2 3 ((24 * z) + k).toNat))) := ⟨_, rfl⟩
    have w : gw D (gA L sz) s.heap H locs L (mSt cI mo A f v1 F3) := by rw [hF3, ← mU_6 (F := F2) g]; exact w
    refine lv_iinc (v := iN ((k + 1))) (lv' := [(2, .int (iN ((k + 1)))), (0, .ref mo), (1, .int (iN (z)))]) hx hb d_M_load_54 hl (k := 2) rfl (by rw [show (k + 1) = k + (1 : Int) by omega, ← iN_add]; rfl) (by decide) rfl (fun ls hl => ?_)
    refine lv_goto (tgt := 12) hx hb d_M_load_57 (by decide) ?_
    have hNN : ∀ j, j ≠ 5 → j ≠ 6 → F3 j = F j := fun j q1 q2 => by rw [hF3, va_up_ne _ _ q2, hF2, va_up_ne _ _ q1]; exact hF9 j q1 q2
    obtain ⟨kk, qk, ekk, hqk, exk, eyk⟩ := px_get (P := (S z.toNat)) (i := k) h0 (by omega)
    have hzk := hzq kk qk hqk
    have eix : ((24 * z) + k).toNat = 24 * z.toNat + kk := by omega
    have hlt : ((S z.toNat).take k.toNat).length = k.toNat := by rw [List.length_take]; omega
    have hw' : wld F3 ((S z.toNat).take (k + 1).toNat) := by
      rw [tn_s h0, List.take_add_one, show k.toNat = kk by omega, hqk]
      refine wld_snoc (F := F9) (by rw [← show k.toNat = kk by omega]; exact hw9) ?_ ?_
      · rw [hF3, va_up_ne _ _ (by decide), hF2, va_up_self, eix, hF9 2 (by decide) (by decide), hzk.1, ← show k.toNat = kk by omega, hlt]
      · rw [hF3, va_up_self, hF2, va_up_ne _ _ (by decide), va_up_ne _ _ (by decide), eix, hF9 3 (by decide) (by decide), hzk.2, ← show k.toNat = kk by omega, hlt]
    have hI' : 0 ≤ (k + 1) ∧ (k + 1) ≤ (S z.toNat).length ∧ (∀ j, j ≠ 5 → j ≠ 6 → F3 j = F j) ∧ wld F3 ((S z.toNat).take (k + 1).toNat) := ⟨by omega, by omega, hNN, hw'⟩
    exact ih ((k + 1), F3) _ _ _ (by omega) hI' w (lv_sub hl [1, 2, 0] rfl)
def sumP (sg : Int) (a b : Pt) : Pt := (a.1 + sg * b.1, a.2 + sg * b.2)
def allS (A B : List Pt) (sg : Int) : List Pt := A.flatMap (fun a => B.map (sumP sg a))
theorem flat_take {A B : List Pt} {sg : Int} {i : Nat} {a : Pt} (h : A[i]? = some a) : (A.take (i + 1)).flatMap (fun a => B.map (sumP sg a)) = (A.take i).flatMap (fun a => B.map (sumP sg a)) ++ B.map (sumP sg a) := by
  rw [List.take_add_one, h, List.flatMap_append]; simp
theorem flat_len {A B : List Pt} {sg : Int} : (A.flatMap (fun a => B.map (sumP sg a))).length = A.length * B.length := by
  induction A with
  | nil => simp
  | cons a A ih => rw [List.flatMap_cons, List.length_append, ih, List.length_map, List.length_cons, Nat.succ_mul]; omega
set_option maxHeartbeats 4000000 in
set_option maxRecDepth 100000 in
theorem c_M_loadBoth (l : Launch) {D : va_G} {cI cR : ClassId} {L : List Nat} {f : Nat → va_E} {mo : Nat} {A : Nat → Nat} {v : Nat → Int} {F : Nat → Nat → Int} (g : mg L mo A) {K : Int} {S : Nat → List Pt} (hI0 : mInv v F K S) {z z2 sg : Int} (hz : 0 ≤ z ∧ z < K) (hz2 : 0 ≤ z2 ∧ z2 < K) (hl24 : (S z.toNat).length ≤ 24) (hl242 : (S z2.toNat).length ≤ 24) (hpb : pbl 600 (allS (S z.toNat) (S z2.toNat) sg)) {Hu : List Pt} (hH : isHL (allS (S z.toNat) (S z2.toNat) sg) Hu) : gMv D cI cR l y_M_loadBoth (Cond.code y_M_loadBoth b_M_loadBoth 6 none :: lw_g) { frames := 3, cells := 0, slots := 0, locals := 80 } [.ref mo, .int (iN (z)), .int (iN (z2)), .int (iN (sg))] L (mSt cI mo A f v F) (fun u => lpost L cI mo A f v F (allS (S z.toNat) (S z2.toNat) sg) Hu u) := by
  intro sz
  refine g_enter (by decide) rfl (Nat.le_of_ble_eq_true rfl) ?_
  intro p e s m below meth cd ls X hrt hlk hnm hl hsz w
  have X : gx p m cd b_M_loadBoth 6 s _ "HullSumsModel" D cI cR := X
  have hx := X.1.1
  have hb := X.1.2.1
  have hl : lv_has ls 6 [(0, .ref mo), (1, .int (iN (z))), (2, .int (iN (z2))), (3, .int (iN (sg)))] := hl
  obtain ⟨hi0, hi1, hi2, hi3, hi4⟩ := hI0
  obtain ⟨hz4, hzq⟩ := hi4 z.toNat (by omega)
  obtain ⟨hy4, hyq⟩ := hi4 z2.toNat (by omega)
  have hm576 : (S z.toNat).length * (S z2.toNat).length ≤ 576 := Nat.mul_le_mul hl24 hl242
  refine lv_aload_n hx hb d_M_loadBoth_0 rfl (lv_at hl 0 rfl) ?_
  refine lv_iconst (v := iN (0)) hx hb d_M_loadBoth_1 (by decide) ?_
  refine gk_put X w g.1.1 (show (mSt cI mo A f v F) mo = .inr (4, _) from mS_m) rfl in_M ty_M tyok_M nm_M 7 (by decide) lk_M_45 rfl (ty := .int) (by decide +kernel) rfl rfl (Nat.le_of_ble_eq_true rfl) d_M_loadBoth_2 (fun H locs w => ?_)
  obtain ⟨v1, hv1⟩ : ∃ q : Nat → Int, q = va_up v 7 (0) := ⟨_, rfl⟩
  have v1s : v1 7 = 0 := by rw [hv1, va_up_self]
  have v1n : ∀ j, j ≠ 7 → v1 j = v j := fun j hj => by rw [hv1, va_up_ne _ _ hj]
  have w : gw D (gA L sz) s.heap H locs L (mSt cI mo A f v1 F) := by rw [hv1, ← mU_m (v := v)]; exact w
  refine lv_iconst (v := iN (0)) hx hb d_M_loadBoth_5 (by decide) ?_
  refine lv_istore (lv' := [(4, .int (iN (0))), (0, .ref mo), (1, .int (iN (z))), (2, .int (iN (z2))), (3, .int (iN (sg)))]) hx hb d_M_loadBoth_6 hl (by decide) rfl (fun ls hl => ?_)
  refine g_loop (σ := Int × (Nat → Int) × (Nat → Nat → Int)) (fun z9 => ((S z.toNat).length - z9.1).toNat) (fun z9 => [(0, .ref mo), (1, .int (iN (z))), (2, .int (iN (z2))), (3, .int (iN (sg))), (4, .int (iN (z9.1)))]) L (fun z9 => (mSt cI mo A f z9.2.1 z9.2.2)) (fun z9 => 0 ≤ z9.1 ∧ z9.1 ≤ (S z.toNat).length ∧ z9.2.1 7 = (((S z.toNat).take z9.1.toNat).flatMap (fun a => (S z2.toNat).map (sumP sg a))).length ∧ (∀ j, j ≠ 7 → z9.2.1 j = v j) ∧ (∀ j, j ≠ 5 → j ≠ 6 → z9.2.2 j = F j) ∧ wld z9.2.2 (((S z.toNat).take z9.1.toNat).flatMap (fun a => (S z2.toNat).map (sumP sg a)))) ?_ (0, v1, F) _ _ _ ⟨by (try dsimp only); omega, by (try dsimp only); omega, by simp [v1s], fun j hj => v1n j hj, fun _ _ _ => rfl, fun i q h => by simp at h⟩ w (lv_sub hl [1, 2, 3, 4, 0] rfl)
  intro z9 H locs ls hI w hl ih
  obtain ⟨i, vA, FA⟩ := z9
  have hl : lv_has ls 6 [(0, .ref mo), (1, .int (iN (z))), (2, .int (iN (z2))), (3, .int (iN (sg))), (4, .int (iN (i)))] := hl
  have w : gw D (gA L sz) s.heap H locs L ((mSt cI mo A f vA FA)) := w
  have hI : 0 ≤ i ∧ i ≤ (S z.toNat).length ∧ vA 7 = (((S z.toNat).take i.toNat).flatMap (fun a => (S z2.toNat).map (sumP sg a))).length ∧ (∀ j, j ≠ 7 → vA j = v j) ∧ (∀ j, j ≠ 5 → j ≠ 6 → FA j = F j) ∧ wld FA (((S z.toNat).take i.toNat).flatMap (fun a => (S z2.toNat).map (sumP sg a))) := hI
  obtain ⟨h0, h1, h7, hn, hF, hw⟩ := hI
  have eA4 : FA 4 = F 4 := hF 4 (by decide) (by decide)
  refine lv_iload hx hb d_M_loadBoth_8 (lv_at hl 4 rfl) ?_
  refine lv_aload_n hx hb d_M_loadBoth_10 rfl (lv_at hl 0 rfl) ?_
  refine gk_get X w g.1.1 (show (mSt cI mo A f vA FA) mo = .inr (4, _) from mS_m) rfl in_M 4 (by decide) lk_M_16 rfl d_M_loadBoth_11 ?_
  refine lv_iload_n hx hb d_M_loadBoth_14 rfl (lv_at hl 1 rfl) ?_
  refine gk_iald X w 0 g.1.2.2.2.1 (mS_4 g) rfl (vin (by omega) (by omega) (by decide)) d_M_loadBoth_15 ?_
  rw [vclN 8 (by omega) (by omega) (by decide)]
  refine ri_cge (a := i) (b := (FA 4 z.toNat)) (tgt := 127) hx hb d_M_loadBoth_16 (by decide) rfl rfl (by unfold i3; omega) (by rw [eA4, hz4]; unfold i3; omega) (fun c16 => ?_) (fun c16 => ?_)
  · skip
    rw [eA4, hz4] at c16
    have hwF : wld FA (allS (S z.toNat) (S z2.toNat) sg) := by unfold allS; rw [show i.toNat = (S z.toNat).length by omega, List.take_length] at hw; exact hw
    have e7 : vA 7 = (allS (S z.toNat) (S z2.toNat) sg).length := by unfold allS; rw [show i.toNat = (S z.toNat).length by omega, List.take_length] at h7; exact h7
    have hW576 : (allS (S z.toNat) (S z2.toNat) sg).length ≤ 576 := by unfold allS; rw [flat_len]; exact hm576
    refine lv_aload_n hx hb d_M_loadBoth_127 rfl (lv_at hl 0 rfl) ?_
    refine g_cv w (g_runV (As := []) (rest := []) X w (c_M_goRound l g (v := vA) (F := FA) (by rw [e7]; omega) (by rw [e7]; exact wld_b hwF hpb) (Hu := Hu) (by rw [e7, Int.toNat_natCast]; exact isHW_congr (wld_G hwF) hH)) k_M_goRound v_M_goRound lk_M_48 g.1.1 (show (mSt cI mo A f vA FA) mo = .inr (4, _) from mS_m) rfl ⟨(Nat.le_of_ble_eq_true rfl), (Nat.le_of_ble_eq_true rfl)⟩ rfl hl.1 rfl (Nat.le_of_ble_eq_true rfl) d_M_loadBoth_128 ⟨(Nat.le_of_ble_eq_true rfl), (Nat.le_of_ble_eq_true rfl)⟩) (fun u H locs hp w => ?_)
    obtain ⟨v8, F8, rfl, hg1, hg2, hg3, hg4⟩ := hp
    have w : gw D (gA L sz) s.heap H locs L (mSt cI mo A f v8 F8) := w
    exact g_vret X w hrt hlk d_M_loadBoth_131 ⟨v8, F8, rfl, ⟨by rw [hg2 7 (by decide), e7], hg1, fun i q hq => by rw [hg3 5 (by decide) (by decide), hg3 6 (by decide) (by decide)]; exact hwF i q hq, hg4⟩, fun j q1 q2 => (hg2 j q2).trans (hn j q1), fun j hj => (hg3 j (by omega) (by omega)).trans (hF j (by omega) (by omega))⟩
  · skip
    rw [eA4, hz4] at c16
    obtain ⟨ki, ap, eki, hqi, exi, eyi⟩ := px_get (P := (S z.toNat)) (i := i) h0 (by omega)
    refine lv_iconst (v := iN (0)) hx hb d_M_loadBoth_19 (by decide) ?_
    refine lv_istore (lv' := [(5, .int (iN (0))), (0, .ref mo), (1, .int (iN (z))), (2, .int (iN (z2))), (3, .int (iN (sg))), (4, .int (iN (i)))]) hx hb d_M_loadBoth_20 hl (by decide) rfl (fun ls hl => ?_)
    refine g_loop (σ := Int × (Nat → Int) × (Nat → Nat → Int)) (fun z9 => ((S z2.toNat).length - z9.1).toNat) (fun z9 => [(0, .ref mo), (1, .int (iN (z))), (2, .int (iN (z2))), (3, .int (iN (sg))), (4, .int (iN (i))), (5, .int (iN (z9.1)))]) L (fun z9 => (mSt cI mo A f z9.2.1 z9.2.2)) (fun z9 => 0 ≤ z9.1 ∧ z9.1 ≤ (S z2.toNat).length ∧ z9.2.1 7 = ((((S z.toNat).take i.toNat).flatMap (fun a => (S z2.toNat).map (sumP sg a))) ++ ((S z2.toNat).take z9.1.toNat).map (sumP sg ap)).length ∧ (∀ j, j ≠ 7 → z9.2.1 j = v j) ∧ (∀ j, j ≠ 5 → j ≠ 6 → z9.2.2 j = F j) ∧ wld z9.2.2 ((((S z.toNat).take i.toNat).flatMap (fun a => (S z2.toNat).map (sumP sg a))) ++ ((S z2.toNat).take z9.1.toNat).map (sumP sg ap))) ?_ (0, vA, FA) _ _ _ ⟨by (try dsimp only); omega, by (try dsimp only); omega, by simpa using h7, hn, hF, by simpa using hw⟩ w (lv_sub hl [1, 2, 3, 4, 5, 0] rfl)
    intro z9 H locs ls hI w hl ih2
    obtain ⟨j, vB, FB⟩ := z9
    have hl : lv_has ls 6 [(0, .ref mo), (1, .int (iN (z))), (2, .int (iN (z2))), (3, .int (iN (sg))), (4, .int (iN (i))), (5, .int (iN (j)))] := hl
    have w : gw D (gA L sz) s.heap H locs L ((mSt cI mo A f vB FB)) := w
    have hI : 0 ≤ j ∧ j ≤ (S z2.toNat).length ∧ vB 7 = ((((S z.toNat).take i.toNat).flatMap (fun a => (S z2.toNat).map (sumP sg a))) ++ ((S z2.toNat).take j.toNat).map (sumP sg ap)).length ∧ (∀ j, j ≠ 7 → vB j = v j) ∧ (∀ j, j ≠ 5 → j ≠ 6 → FB j = F j) ∧ wld FB ((((S z.toNat).take i.toNat).flatMap (fun a => (S z2.toNat).map (sumP sg a))) ++ ((S z2.toNat).take j.toNat).map (sumP sg ap)) := hI
    obtain ⟨k0, k1, k7, kn, kF, kw⟩ := hI
    have eB4 : FB 4 = F 4 := kF 4 (by decide) (by decide)
    have hlb : ((((S z.toNat).take i.toNat).flatMap (fun a => (S z2.toNat).map (sumP sg a))) ++ ((S z2.toNat).take j.toNat).map (sumP sg ap)).length = ki * (S z2.toNat).length + j.toNat := by rw [List.length_append, flat_len, List.length_take, List.length_map, List.length_take]; have : min i.toNat (S z.toNat).length = ki := (by omega); rw [this]; omega
    have hmul : ki * (S z2.toNat).length + (S z2.toNat).length ≤ (S z.toNat).length * (S z2.toNat).length := by have h9 := Nat.mul_le_mul_right (S z2.toNat).length (show ki + 1 ≤ (S z.toNat).length by have := (List.getElem?_eq_some_iff.mp hqi).1; omega); rw [Nat.succ_mul] at h9; exact h9
    refine lv_iload hx hb d_M_loadBoth_22 (lv_at hl 5 rfl) ?_
    refine lv_aload_n hx hb d_M_loadBoth_24 rfl (lv_at hl 0 rfl) ?_
    refine gk_get X w g.1.1 (show (mSt cI mo A f vB FB) mo = .inr (4, _) from mS_m) rfl in_M 4 (by decide) lk_M_16 rfl d_M_loadBoth_25 ?_
    refine lv_iload_n hx hb d_M_loadBoth_28 rfl (lv_at hl 2 rfl) ?_
    refine gk_iald X w 0 g.1.2.2.2.1 (mS_4 g) rfl (vin (by omega) (by omega) (by decide)) d_M_loadBoth_29 ?_
    rw [vclN 8 (by omega) (by omega) (by decide)]
    refine ri_cge (a := j) (b := (FB 4 z2.toNat)) (tgt := 121) hx hb d_M_loadBoth_30 (by decide) rfl rfl (by unfold i3; omega) (by rw [eB4, hy4]; unfold i3; omega) (fun c30 => ?_) (fun c30 => ?_)
    · skip
      rw [eB4, hy4] at c30
      refine lv_iinc (v := iN ((i + 1))) (lv' := [(4, .int (iN ((i + 1)))), (0, .ref mo), (1, .int (iN (z))), (2, .int (iN (z2))), (3, .int (iN (sg))), (5, .int (iN (j)))]) hx hb d_M_loadBoth_121 hl (k := 4) rfl (by rw [show (i + 1) = i + (1 : Int) by omega, ← iN_add]; rfl) (by decide) rfl (fun ls hl => ?_)
      refine lv_goto (tgt := 8) hx hb d_M_loadBoth_124 (by decide) ?_
      have hw' : wld FB (((S z.toNat).take (i + 1).toNat).flatMap (fun a => (S z2.toNat).map (sumP sg a))) := by rw [tn_s h0, show i.toNat = ki by omega, flat_take hqi]; rw [show j.toNat = (S z2.toNat).length by omega, List.take_length, show i.toNat = ki by omega] at kw; exact kw
      have hl' : vB 7 = (((S z.toNat).take (i + 1).toNat).flatMap (fun a => (S z2.toNat).map (sumP sg a))).length := by rw [tn_s h0, show i.toNat = ki by omega, flat_take hqi]; rw [show j.toNat = (S z2.toNat).length by omega, List.take_length, show i.toNat = ki by omega] at k7; exact k7
      have hI' : 0 ≤ (i + 1) ∧ (i + 1) ≤ (S z.toNat).length ∧ vB 7 = (((S z.toNat).take (i + 1).toNat).flatMap (fun a => (S z2.toNat).map (sumP sg a))).length ∧ (∀ j, j ≠ 7 → vB j = v j) ∧ (∀ j, j ≠ 5 → j ≠ 6 → FB j = F j) ∧ wld FB (((S z.toNat).take (i + 1).toNat).flatMap (fun a => (S z2.toNat).map (sumP sg a))) := ⟨by omega, by omega, hl', kn, kF, hw'⟩
      exact ih ((i + 1), vB, FB) _ _ _ (by omega) hI' w (lv_sub hl [1, 2, 3, 4, 0] rfl)
    · skip
      rw [eB4, hy4] at c30
      obtain ⟨kj, bp, ekj, hqj, exj, eyj⟩ := px_get (P := (S z2.toNat)) (i := j) k0 (by omega)
      refine lv_aload_n hx hb d_M_loadBoth_33 rfl (lv_at hl 0 rfl) ?_
      refine gk_get X w g.1.1 (show (mSt cI mo A f vB FB) mo = .inr (4, _) from mS_m) rfl in_M 5 (by decide) lk_M_19 rfl d_M_loadBoth_34 ?_
      refine lv_aload_n hx hb d_M_loadBoth_37 rfl (lv_at hl 0 rfl) ?_
      refine gk_get X w g.1.1 (show (mSt cI mo A f vB FB) mo = .inr (4, _) from mS_m) rfl in_M 7 (by decide) lk_M_45 rfl d_M_loadBoth_38 ?_
      refine lv_aload_n hx hb d_M_loadBoth_41 rfl (lv_at hl 0 rfl) ?_
      refine gk_get X w g.1.1 (show (mSt cI mo A f vB FB) mo = .inr (4, _) from mS_m) rfl in_M 2 (by decide) lk_M_7 rfl d_M_loadBoth_42 ?_
      refine lv_bipush (v := iN (24)) hx hb d_M_loadBoth_45 (by decide) ?_
      refine lv_iload_n hx hb d_M_loadBoth_47 rfl (lv_at hl 1 rfl) ?_
      refine ri_mul (a := 24) (b := z) hx hb d_M_loadBoth_48 rfl rfl ?_
      refine lv_iload hx hb d_M_loadBoth_49 (lv_at hl 4 rfl) ?_
      refine ri_add (a := (24 * z)) (b := i) hx hb d_M_loadBoth_51 rfl rfl ?_
      refine gk_iald X w 0 g.1.2.1 (mS_2 g) rfl (vin (by omega) (by omega) (by decide)) d_M_loadBoth_52 ?_
      rw [vclN 192 (by omega) (by omega) (by decide)]
      refine lv_iload_n hx hb d_M_loadBoth_53 rfl (lv_at hl 3 rfl) ?_
      refine lv_aload_n hx hb d_M_loadBoth_54 rfl (lv_at hl 0 rfl) ?_
      refine gk_get X w g.1.1 (show (mSt cI mo A f vB FB) mo = .inr (4, _) from mS_m) rfl in_M 2 (by decide) lk_M_7 rfl d_M_loadBoth_55 ?_
      refine lv_bipush (v := iN (24)) hx hb d_M_loadBoth_58 (by decide) ?_
      refine lv_iload_n hx hb d_M_loadBoth_60 rfl (lv_at hl 2 rfl) ?_
      refine ri_mul (a := 24) (b := z2) hx hb d_M_loadBoth_61 rfl rfl ?_
      refine lv_iload hx hb d_M_loadBoth_62 (lv_at hl 5 rfl) ?_
      refine ri_add (a := (24 * z2)) (b := j) hx hb d_M_loadBoth_64 rfl rfl ?_
      refine gk_iald X w 0 g.1.2.1 (mS_2 g) rfl (vin (by omega) (by omega) (by decide)) d_M_loadBoth_65 ?_
      rw [vclN 192 (by omega) (by omega) (by decide)]
      refine ri_mul (a := sg) (b := (FB 2 ((24 * z2) + j).toNat)) hx hb d_M_loadBoth_66 rfl rfl ?_
      refine ri_add (a := (FB 2 ((24 * z) + i).toNat)) (b := (sg * (FB 2 ((24 * z2) + j).toNat))) hx hb d_M_loadBoth_67 rfl rfl ?_
      refine gk_iast X w 0 g.1.2.2.2.2.1 (mS_5 g) rfl (vin (by omega) (by omega) (by decide)) d_M_loadBoth_68 (fun H locs w => ?_)
      rw [vclN 576 (by omega) (by omega) (by decide), upd_iN] at w
      obtain ⟨F2, hF2⟩ : ∃ q : Nat → Nat → Int, q = (va_up FB 5 (va_up (FB 5) (vB 7).toNat ((FB 2 ((24 * z) + i).toNat) + (sg * (FB 2 ((24 * z2) + j).toNat))))) := ⟨_, rfl⟩
      have w : gw D (gA L sz) s.heap H locs L (mSt cI mo A f vB F2) := by rw [hF2, ← mU_5 (F := FB) g]; exact w
      refine lv_aload_n hx hb d_M_loadBoth_69 rfl (lv_at hl 0 rfl) ?_
      refine gk_get X w g.1.1 (show (mSt cI mo A f vB F2) mo = .inr (4, _) from mS_m) rfl in_M 6 (by decide) lk_M_22 rfl d_M_loadBoth_70 ?_
      refine lv_aload_n hx hb d_M_loadBoth_73 rfl (lv_at hl 0 rfl) ?_
      refine gk_get X w g.1.1 (show (mSt cI mo A f vB F2) mo = .inr (4, _) from mS_m) rfl in_M 7 (by decide) lk_M_45 rfl d_M_loadBoth_74 ?_
      refine lv_aload_n hx hb d_M_loadBoth_77 rfl (lv_at hl 0 rfl) ?_
      refine gk_get X w g.1.1 (show (mSt cI mo A f vB F2) mo = .inr (4, _) from mS_m) rfl in_M 3 (by decide) lk_M_13 rfl d_M_loadBoth_78 ?_
      refine lv_bipush (v := iN (24)) hx hb d_M_loadBoth_81 (by decide) ?_
      refine lv_iload_n hx hb d_M_loadBoth_83 rfl (lv_at hl 1 rfl) ?_
      refine ri_mul (a := 24) (b := z) hx hb d_M_loadBoth_84 rfl rfl ?_
      refine lv_iload hx hb d_M_loadBoth_85 (lv_at hl 4 rfl) ?_
      refine ri_add (a := (24 * z)) (b := i) hx hb d_M_loadBoth_87 rfl rfl ?_
      refine gk_iald X w 0 g.1.2.2.1 (mS_3 g) rfl (vin (by omega) (by omega) (by decide)) d_M_loadBoth_88 ?_
      rw [vclN 192 (by omega) (by omega) (by decide)]
      refine lv_iload_n hx hb d_M_loadBoth_89 rfl (lv_at hl 3 rfl) ?_
      refine lv_aload_n hx hb d_M_loadBoth_90 rfl (lv_at hl 0 rfl) ?_
      refine gk_get X w g.1.1 (show (mSt cI mo A f vB F2) mo = .inr (4, _) from mS_m) rfl in_M 3 (by decide) lk_M_13 rfl d_M_loadBoth_91 ?_
      refine lv_bipush (v := iN (24)) hx hb d_M_loadBoth_94 (by decide) ?_
      refine lv_iload_n hx hb d_M_loadBoth_96 rfl (lv_at hl 2 rfl) ?_
      refine ri_mul (a := 24) (b := z2) hx hb d_M_loadBoth_97 rfl rfl ?_
      refine lv_iload hx hb d_M_loadBoth_98 (lv_at hl 5 rfl) ?_
      refine ri_add (a := (24 * z2)) (b := j) hx hb d_M_loadBoth_100 rfl rfl ?_
      refine gk_iald X w 0 g.1.2.2.1 (mS_3 g) rfl (vin (by omega) (by omega) (by decide)) d_M_loadBoth_101 ?_
      rw [vclN 192 (by omega) (by omega) (by decide)]
      refine ri_mul (a := sg) (b := (F2 3 ((24 * z2) + j).toNat)) hx hb d_M_loadBoth_102 rfl rfl ?_
      refine ri_add (a := (F2 3 ((24 * z) + i).toNat)) (b := (sg * (F2 3 ((24 * z2) + j).toNat))) hx hb d_M_loadBoth_103 rfl rfl ?_
      refine gk_iast X w 0 g.1.2.2.2.2.2.1 (mS_6 g) rfl (vin (by omega) (by omega) (by decide)) d_M_loadBoth_104 (fun H locs w => ?_)
      rw [vclN 576 (by omega) (by omega) (by decide), upd_iN] at w
      obtain ⟨F3, hF3⟩ : ∃ q : Nat → Nat → Int, q = (va_up F2 6 (va_up (F2 6) (vB 7).toNat ((F2 3 ((24 * z) + i).toNat) + (sg * (F2 3 ((24 * z2) + j).toNat))))) := ⟨_, rfl⟩
      have w : gw D (gA L sz) s.heap H locs L (mSt cI mo A f vB F3) := by rw [hF3, ← mU_6 (F := F2) g]; exact w
      refine lv_aload_n hx hb d_M_loadBoth_105 rfl (lv_at hl 0 rfl) ?_
      refine lv_dup hx hb d_M_loadBoth_106 rfl ?_
      refine gk_get X w g.1.1 (show (mSt cI mo A f vB F3) mo = .inr (4, _) from mS_m) rfl in_M 7 (by decide) lk_M_45 rfl d_M_loadBoth_107 ?_
      refine lv_iconst (v := iN (1)) hx hb d_M_loadBoth_110 (by decide) ?_
      refine ri_add (a := (vB 7)) (b := 1) hx hb d_M_loadBoth_111 rfl rfl ?_
      refine gk_put X w g.1.1 (show (mSt cI mo A f vB F3) mo = .inr (4, _) from mS_m) rfl in_M ty_M tyok_M nm_M 7 (by decide) lk_M_45 rfl (ty := .int) (by decide +kernel) rfl rfl (Nat.le_of_ble_eq_true rfl) d_M_loadBoth_112 (fun H locs w => ?_)
      obtain ⟨v4, hv4⟩ : ∃ q : Nat → Int, q = va_up vB 7 (((vB 7) + 1)) := ⟨_, rfl⟩
      have v4s : v4 7 = ((vB 7) + 1) := by rw [hv4, va_up_self]
      have v4n : ∀ j, j ≠ 7 → v4 j = vB j := fun j hj => by rw [hv4, va_up_ne _ _ hj]
      have w : gw D (gA L sz) s.heap H locs L (mSt cI mo A f v4 F3) := by rw [hv4, ← mU_m (v := vB)]; exact w
      refine lv_iinc (v := iN ((j + 1))) (lv' := [(5, .int (iN ((j + 1)))), (0, .ref mo), (1, .int (iN (z))), (2, .int (iN (z2))), (3, .int (iN (sg))), (4, .int (iN (i)))]) hx hb d_M_loadBoth_115 hl (k := 5) rfl (by rw [show (j + 1) = j + (1 : Int) by omega, ← iN_add]; rfl) (by decide) rfl (fun ls hl => ?_)
      refine lv_goto (tgt := 22) hx hb d_M_loadBoth_118 (by decide) ?_
      have hNN : ∀ j9, j9 ≠ 5 → j9 ≠ 6 → F3 j9 = F j9 := fun j9 q1 q2 => by rw [hF3, va_up_ne _ _ q2, hF2, va_up_ne _ _ q1]; exact kF j9 q1 q2
      have eF2 : FB 2 = F 2 := kF 2 (by decide) (by decide)
      have eF3 : FB 3 = F 3 := kF 3 (by decide) (by decide)
      have ha1 := hzq ki ap hqi
      have hb1 := hyq kj bp hqj
      have eia : ((24 * z) + i).toNat = 24 * z.toNat + ki := by omega
      have eib : ((24 * z2) + j).toNat = 24 * z2.toNat + kj := by omega
      have eT : ((((S z.toNat).take i.toNat).flatMap (fun a => (S z2.toNat).map (sumP sg a))) ++ ((S z2.toNat).take (j + 1).toNat).map (sumP sg ap)) = ((((S z.toNat).take i.toNat).flatMap (fun a => (S z2.toNat).map (sumP sg a))) ++ ((S z2.toNat).take j.toNat).map (sumP sg ap)) ++ [(ap.1 + sg * bp.1, ap.2 + sg * bp.2)] := by rw [tn_s k0, List.take_add_one, show j.toNat = kj by omega, hqj]; simp [sumP]
      have hw' : wld F3 ((((S z.toNat).take i.toNat).flatMap (fun a => (S z2.toNat).map (sumP sg a))) ++ ((S z2.toNat).take (j + 1).toNat).map (sumP sg ap)) := by
        rw [eT]
        refine wld_snoc (F := FB) kw ?_ ?_
        · rw [hF3, va_up_ne _ _ (by decide), hF2, va_up_self, eia, eib, eF2, ha1.1, hb1.1, k7, Int.toNat_natCast]
        · rw [hF3, va_up_self, hF2, va_up_ne _ _ (by decide), va_up_ne _ _ (by decide), eia, eib, eF3, ha1.2, hb1.2, k7, Int.toNat_natCast]
      have hl' : v4 7 = ((((S z.toNat).take i.toNat).flatMap (fun a => (S z2.toNat).map (sumP sg a))) ++ ((S z2.toNat).take (j + 1).toNat).map (sumP sg ap)).length := by rw [eT, List.length_append, v4s, k7]; simp
      have hI' : 0 ≤ (j + 1) ∧ (j + 1) ≤ (S z2.toNat).length ∧ v4 7 = ((((S z.toNat).take i.toNat).flatMap (fun a => (S z2.toNat).map (sumP sg a))) ++ ((S z2.toNat).take (j + 1).toNat).map (sumP sg ap)).length ∧ (∀ j, j ≠ 7 → v4 j = v j) ∧ (∀ j, j ≠ 5 → j ≠ 6 → F3 j = F j) ∧ wld F3 ((((S z.toNat).take i.toNat).flatMap (fun a => (S z2.toNat).map (sumP sg a))) ++ ((S z2.toNat).take (j + 1).toNat).map (sumP sg ap)) := ⟨by omega, by omega, hl', fun j9 q9 => (v4n j9 q9).trans (kn j9 q9), hNN, hw'⟩
      exact ih2 ((j + 1), v4, F3) _ _ _ (by omega) hI' w (lv_sub hl [1, 2, 3, 4, 5, 0] rfl)
