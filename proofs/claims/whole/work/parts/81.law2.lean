/-! THE LAW: its cases -/
def lwA (s : State) : Nat → Prop := fun q => s.heap.size ≤ q
def lst (p : Program) (m : MethodId) (c : Code) (s : State) (b n : Nat) (xs : Nat → Int32) (D : va_G) (cI cR : ClassId) (L : List Nat) (rx ry ra : Nat → Nat) (h ar ci lo mo : Nat) (A : Nat → Nat) : Prop :=
  gx p m c code 4 s #[Value.ref b] "HullSumsLaw" D cI cR ∧ va_X b n xs s s.heap ∧ b < s.heap.size ∧ geo L rx ry ra h ar ci lo ∧ mg L mo A ∧ dj rx ry ra h ar ci lo mo A ∧ n ≤ 2048 ∧ MTH
section LC
variable {p : Program} {l : Launch} {e : Env} {s : State} {m : MethodId} {below : List Frame} {meth : Method} {c : Code} {H : Heap} {locs : List Loc} {ls : Array Slot} {Q : State → Prop} {D : va_G} {cI cR : ClassId} {L : List Nat} {rx ry ra : Nat → Nat} {h ar ci lo mo : Nat} {A : Nat → Nat} {f : Nat → va_E} {v : Nat → Int} {F : Nat → Nat → Int} {K t1 t2 : Int} {S : Nat → List Pt} {b n : Nat} {xs : Nat → Int32} {i : Int}
theorem wth_pbl {C : List Pt} (h : wth C C.length 300) : pbl 300 C := by
  intro q hq
  obtain ⟨k, hk⟩ := List.getElem?_of_mem hq
  have hl := (List.getElem?_eq_some_iff.mp hk).1
  have := h k (by omega) (by omega)
  rw [pX_nat hk, pY_nat hk] at this
  unfold bq; omega
theorem wi_eq (M : MTH) {P Q : List Pt} (hQ : gset Q) : 1 - bI (wiA P (hullF Q) P.length) = bI (∀ i9 : Int, 0 ≤ i9 → i9 < P.length → 0 < plM (hullF Q) (pX P i9) (pY P i9)) := by
  have hp := fun x y => M.pla Q x y hQ
  by_cases h : wiA P (hullF Q) P.length
  · rw [bI_t h, bI_f]
    · rfl
    · intro h2
      obtain ⟨i, h0, h1, h3⟩ := h
      rw [hp] at h3
      have := h2 i h0 h1
      omega
  · rw [bI_f h, bI_t]
    · rfl
    · intro i h0 h1
      have hb := plM_b (hullF Q) (pX P i) (pY P i)
      by_cases e : plM (hullF Q) (pX P i) (pY P i) = 0
      · exact absurd ⟨i, h0, h1, by rw [hp]; exact e⟩ h
      · omega
set_option maxHeartbeats 4000000 in
set_option maxRecDepth 100000 in
theorem lc_3 (T : lst p m c s b n xs D cI cR L rx ry ra h ar ci lo mo A) (J : JS cI cR rx ry ra h ar ci lo mo A f v F K t1 t2 S) (w : gw D (lwA s) s.heap H locs L f) (hl : lv_has ls 4 [(3, .int (iN (i))), (2, .ref mo), (1, .ref h), (0, .ref b)]) (hi : 0 ≤ i ∧ i + 4 ≤ n) (kk : ∀ (H' : Heap) (locs' : List Loc) (f' : Nat → va_E) (v' : Nat → Int) (F' : Nat → Nat → Int) (K' t1' t2' : Int) (S' : Nat → List Pt), JS cI cR rx ry ra h ar ci lo mo A f' v' F' K' t1' t2' S' → gw D (lwA s) s.heap H' locs' L f' → W p l e room_1 s m #[Value.ref b] below meth c H' locs' 600000 7302250 Q (F0 m 877 ls [])) : W p l e room_1 s m #[Value.ref b] below meth c H locs 600000 7302250 Q (F0 m 223 ls []) := by
  obtain ⟨X, hX, hbl, G, g0, d0, hn, M⟩ := T
  obtain ⟨hJ, hc, hI, h11, h12, hgs⟩ := J
  have hx := X.1.1
  have hb := X.1.2.1
  have hbA : ¬ lwA s b := Nat.not_le.mpr hbl
  have hok := js_ok hgs
  have hhu := js_hu M hgs
  have hK : 0 ≤ K ∧ K ≤ 8 := ⟨hI.2.2.1, hI.2.2.2.1⟩
  obtain ⟨z1, hz1, ez1⟩ := iN_ex (xs (iN (i + 1)).toNatClampNeg)
  obtain ⟨z2, hz2, ez2⟩ := iN_ex (xs (iN (i + 2)).toNatClampNeg)
  obtain ⟨z3, hz3, ez3⟩ := iN_ex (xs (iN (i + 3)).toNatClampNeg)
  refine lv_aload_n hx hb d_law_223 rfl (lv_at hl 2 rfl) ?_
  refine lv_aload_n hx hb d_law_224 rfl (lv_at hl 3 rfl) ?_
  refine lv_iload_n hx hb d_law_225 rfl (lv_at hl 0 rfl) ?_
  refine lv_iconst (v := iN (1)) hx hb d_law_226 (by decide) ?_
  refine ri_add (a := i) (b := 1) hx hb d_law_227 rfl rfl ?_
  refine va_sld hx hb hX hbl hbA w.2.2.1 (i := iN (i + 1)) (vin (by omega) (by omega) (by omega)) d_law_228 ?_
  rw [ez1]
  refine g_ci w (g_runV (As := [.int (iN z1)]) (rest := []) X w (c_H_points l G hc (z := z1) hz1) k_H_points v_H_points lk_law_27 G.1.1 hc.1 rfl ⟨(Nat.le_of_ble_eq_true rfl), (Nat.le_of_ble_eq_true rfl)⟩ rfl hl.1 rfl (Nat.le_of_ble_eq_true rfl) d_law_229 ⟨Nat.le_refl _, Nat.le_refl _⟩) (fun r1 u H locs hp w => ?_)
  obtain ⟨hr1, rfl⟩ := hp
  have w : gw D (lwA s) s.heap H locs L f := w
  obtain ⟨g1, S1, hc1, hS1, hu1, eg1⟩ : ∃ (g1 : Nat → va_E) (S1 : Nat → List Pt), clsIs cI cR rx ry ra h ar ci lo g1 K t1 t2 S1 ∧ (∀ i, i < 8 → S1 i = S i) ∧ unch rx ry ra h ar ci lo f g1 ∧ g1 = f := ⟨f, S, hc, fun _ _ => rfl, unch_rf, rfl⟩
  have w : gw D (lwA s) s.heap H locs L g1 := by rw [eg1]; exact w
  have hg1 := js_cls g0 d0 hJ hu1
  have w : gw D (lwA s) s.heap H locs L (mSt cI mo A g1 v F) := by rw [hg1]; exact w
  refine lv_aload_n hx hb d_law_232 rfl (lv_at hl 1 rfl) ?_
  refine lv_aload_n hx hb d_law_233 rfl (lv_at hl 3 rfl) ?_
  refine lv_iload_n hx hb d_law_234 rfl (lv_at hl 0 rfl) ?_
  refine lv_iconst (v := iN (1)) hx hb d_law_235 (by decide) ?_
  refine ri_add (a := i) (b := 1) hx hb d_law_236 rfl rfl ?_
  refine va_sld hx hb hX hbl hbA w.2.2.1 (i := iN (i + 1)) (vin (by omega) (by omega) (by omega)) d_law_237 ?_
  rw [ez1]
  refine g_ci w (g_runV (As := [.int (iN z1)]) (rest := [.int r1]) X w (c_M_points l (f := g1) g0 hI h11 h12 hok hhu (z := z1) hz1) k_M_points v_M_points lk_law_31 g0.1.1 (show mSt cI mo A g1 v F mo = .inr (4, _) from mS_m) rfl ⟨(Nat.le_of_ble_eq_true rfl), (Nat.le_of_ble_eq_true rfl)⟩ rfl hl.1 rfl (Nat.le_of_ble_eq_true rfl) d_law_238 ⟨Nat.le_refl _, Nat.le_refl _⟩) (fun r2 u H locs hp w => ?_)
  obtain ⟨hr2, hm⟩ := hp
  obtain ⟨f2, v2, F2, rfl, J2⟩ := js_mk g0 d0 hc1 (fun i9 h9 => hS1 i9 (by omega)) hm hgs
  have w : gw D (lwA s) s.heap H locs L f2 := w
  refine lv_icmp_eq (tgt := 877) hx hb d_law_241 (by decide) (fun c9 => ?_) (fun c9 => ?_)
  · exact kk _ _ _ _ _ _ _ _ _ J2 w
  · exact absurd (by rw [hr1, hr2]) c9
set_option maxHeartbeats 4000000 in
set_option maxRecDepth 100000 in
theorem lc_4 (T : lst p m c s b n xs D cI cR L rx ry ra h ar ci lo mo A) (J : JS cI cR rx ry ra h ar ci lo mo A f v F K t1 t2 S) (w : gw D (lwA s) s.heap H locs L f) (hl : lv_has ls 4 [(3, .int (iN (i))), (2, .ref mo), (1, .ref h), (0, .ref b)]) (hi : 0 ≤ i ∧ i + 4 ≤ n) (kk : ∀ (H' : Heap) (locs' : List Loc) (f' : Nat → va_E) (v' : Nat → Int) (F' : Nat → Nat → Int) (K' t1' t2' : Int) (S' : Nat → List Pt), JS cI cR rx ry ra h ar ci lo mo A f' v' F' K' t1' t2' S' → gw D (lwA s) s.heap H' locs' L f' → W p l e room_1 s m #[Value.ref b] below meth c H' locs' 600000 7302250 Q (F0 m 877 ls [])) : W p l e room_1 s m #[Value.ref b] below meth c H locs 600000 7302250 Q (F0 m 246 ls []) := by
  obtain ⟨X, hX, hbl, G, g0, d0, hn, M⟩ := T
  obtain ⟨hJ, hc, hI, h11, h12, hgs⟩ := J
  have hx := X.1.1
  have hb := X.1.2.1
  have hbA : ¬ lwA s b := Nat.not_le.mpr hbl
  have hok := js_ok hgs
  have hhu := js_hu M hgs
  have hK : 0 ≤ K ∧ K ≤ 8 := ⟨hI.2.2.1, hI.2.2.2.1⟩
  obtain ⟨z1, hz1, ez1⟩ := iN_ex (xs (iN (i + 1)).toNatClampNeg)
  obtain ⟨z2, hz2, ez2⟩ := iN_ex (xs (iN (i + 2)).toNatClampNeg)
  obtain ⟨z3, hz3, ez3⟩ := iN_ex (xs (iN (i + 3)).toNatClampNeg)
  refine lv_aload_n hx hb d_law_246 rfl (lv_at hl 2 rfl) ?_
  refine lv_aload_n hx hb d_law_247 rfl (lv_at hl 3 rfl) ?_
  refine lv_iload_n hx hb d_law_248 rfl (lv_at hl 0 rfl) ?_
  refine lv_iconst (v := iN (1)) hx hb d_law_249 (by decide) ?_
  refine ri_add (a := i) (b := 1) hx hb d_law_250 rfl rfl ?_
  refine va_sld hx hb hX hbl hbA w.2.2.1 (i := iN (i + 1)) (vin (by omega) (by omega) (by omega)) d_law_251 ?_
  rw [ez1]
  refine g_ci w (g_runV (As := [.int (iN z1)]) (rest := []) X w (c_H_kind l G hc hok (z := z1) hz1) k_H_kind v_H_kind lk_law_32 G.1.1 hc.1 rfl ⟨(Nat.le_of_ble_eq_true rfl), (Nat.le_of_ble_eq_true rfl)⟩ rfl hl.1 rfl (Nat.le_of_ble_eq_true rfl) d_law_252 ⟨Nat.le_refl _, Nat.le_refl _⟩) (fun r1 u H locs hp w => ?_)
  obtain ⟨hr1, hp⟩ := hp
  obtain ⟨g1, S1, rfl, hc1, hS1, hu1⟩ := hp
  have w : gw D (lwA s) s.heap H locs L g1 := w
  have hg1 := js_cls g0 d0 hJ hu1
  have w : gw D (lwA s) s.heap H locs L (mSt cI mo A g1 v F) := by rw [hg1]; exact w
  refine lv_aload_n hx hb d_law_255 rfl (lv_at hl 1 rfl) ?_
  refine lv_aload_n hx hb d_law_256 rfl (lv_at hl 3 rfl) ?_
  refine lv_iload_n hx hb d_law_257 rfl (lv_at hl 0 rfl) ?_
  refine lv_iconst (v := iN (1)) hx hb d_law_258 (by decide) ?_
  refine ri_add (a := i) (b := 1) hx hb d_law_259 rfl rfl ?_
  refine va_sld hx hb hX hbl hbA w.2.2.1 (i := iN (i + 1)) (vin (by omega) (by omega) (by omega)) d_law_260 ?_
  rw [ez1]
  refine g_ci w (g_runV (As := [.int (iN z1)]) (rest := [.int r1]) X w (c_M_kind l (f := g1) g0 hI h11 h12 hok hhu (z := z1) hz1) k_M_kind v_M_kind lk_law_35 g0.1.1 (show mSt cI mo A g1 v F mo = .inr (4, _) from mS_m) rfl ⟨(Nat.le_of_ble_eq_true rfl), (Nat.le_of_ble_eq_true rfl)⟩ rfl hl.1 rfl (Nat.le_of_ble_eq_true rfl) d_law_261 ⟨Nat.le_refl _, Nat.le_refl _⟩) (fun r2 u H locs hp w => ?_)
  obtain ⟨hr2, hm⟩ := hp
  obtain ⟨f2, v2, F2, rfl, J2⟩ := js_mk g0 d0 hc1 (fun i9 h9 => hS1 i9 (by omega)) hm hgs
  have w : gw D (lwA s) s.heap H locs L f2 := w
  refine lv_icmp_eq (tgt := 877) hx hb d_law_264 (by decide) (fun c9 => ?_) (fun c9 => ?_)
  · exact kk _ _ _ _ _ _ _ _ _ J2 w
  · exact absurd (by rw [hr1, hr2]) c9
set_option maxHeartbeats 4000000 in
set_option maxRecDepth 100000 in
theorem lc_5 (T : lst p m c s b n xs D cI cR L rx ry ra h ar ci lo mo A) (J : JS cI cR rx ry ra h ar ci lo mo A f v F K t1 t2 S) (w : gw D (lwA s) s.heap H locs L f) (hl : lv_has ls 4 [(3, .int (iN (i))), (2, .ref mo), (1, .ref h), (0, .ref b)]) (hi : 0 ≤ i ∧ i + 4 ≤ n) (kk : ∀ (H' : Heap) (locs' : List Loc) (f' : Nat → va_E) (v' : Nat → Int) (F' : Nat → Nat → Int) (K' t1' t2' : Int) (S' : Nat → List Pt), JS cI cR rx ry ra h ar ci lo mo A f' v' F' K' t1' t2' S' → gw D (lwA s) s.heap H' locs' L f' → W p l e room_1 s m #[Value.ref b] below meth c H' locs' 600000 7302250 Q (F0 m 877 ls [])) : W p l e room_1 s m #[Value.ref b] below meth c H locs 600000 7302250 Q (F0 m 269 ls []) := by
  obtain ⟨X, hX, hbl, G, g0, d0, hn, M⟩ := T
  obtain ⟨hJ, hc, hI, h11, h12, hgs⟩ := J
  have hx := X.1.1
  have hb := X.1.2.1
  have hbA : ¬ lwA s b := Nat.not_le.mpr hbl
  have hok := js_ok hgs
  have hhu := js_hu M hgs
  have hK : 0 ≤ K ∧ K ≤ 8 := ⟨hI.2.2.1, hI.2.2.2.1⟩
  obtain ⟨z1, hz1, ez1⟩ := iN_ex (xs (iN (i + 1)).toNatClampNeg)
  obtain ⟨z2, hz2, ez2⟩ := iN_ex (xs (iN (i + 2)).toNatClampNeg)
  obtain ⟨z3, hz3, ez3⟩ := iN_ex (xs (iN (i + 3)).toNatClampNeg)
  refine lv_aload_n hx hb d_law_269 rfl (lv_at hl 2 rfl) ?_
  refine lv_aload_n hx hb d_law_270 rfl (lv_at hl 3 rfl) ?_
  refine lv_iload_n hx hb d_law_271 rfl (lv_at hl 0 rfl) ?_
  refine lv_iconst (v := iN (1)) hx hb d_law_272 (by decide) ?_
  refine ri_add (a := i) (b := 1) hx hb d_law_273 rfl rfl ?_
  refine va_sld hx hb hX hbl hbA w.2.2.1 (i := iN (i + 1)) (vin (by omega) (by omega) (by omega)) d_law_274 ?_
  rw [ez1]
  refine g_ci w (g_runV (As := [.int (iN z1)]) (rest := []) X w (c_H_corners l G hc hok (z := z1) hz1) k_H_corners v_H_corners lk_law_36 G.1.1 hc.1 rfl ⟨(Nat.le_of_ble_eq_true rfl), (Nat.le_of_ble_eq_true rfl)⟩ rfl hl.1 rfl (Nat.le_of_ble_eq_true rfl) d_law_275 ⟨Nat.le_refl _, Nat.le_refl _⟩) (fun r1 u H locs hp w => ?_)
  obtain ⟨hr1, hp⟩ := hp
  obtain ⟨g1, S1, rfl, hc1, hS1, hu1⟩ := hp
  have w : gw D (lwA s) s.heap H locs L g1 := w
  have hg1 := js_cls g0 d0 hJ hu1
  have w : gw D (lwA s) s.heap H locs L (mSt cI mo A g1 v F) := by rw [hg1]; exact w
  refine lv_aload_n hx hb d_law_278 rfl (lv_at hl 1 rfl) ?_
  refine lv_aload_n hx hb d_law_279 rfl (lv_at hl 3 rfl) ?_
  refine lv_iload_n hx hb d_law_280 rfl (lv_at hl 0 rfl) ?_
  refine lv_iconst (v := iN (1)) hx hb d_law_281 (by decide) ?_
  refine ri_add (a := i) (b := 1) hx hb d_law_282 rfl rfl ?_
  refine va_sld hx hb hX hbl hbA w.2.2.1 (i := iN (i + 1)) (vin (by omega) (by omega) (by omega)) d_law_283 ?_
  rw [ez1]
  refine g_ci w (g_runV (As := [.int (iN z1)]) (rest := [.int r1]) X w (c_M_corners l (f := g1) g0 hI h11 h12 hok hhu (z := z1) hz1) k_M_corners v_M_corners lk_law_39 g0.1.1 (show mSt cI mo A g1 v F mo = .inr (4, _) from mS_m) rfl ⟨(Nat.le_of_ble_eq_true rfl), (Nat.le_of_ble_eq_true rfl)⟩ rfl hl.1 rfl (Nat.le_of_ble_eq_true rfl) d_law_284 ⟨Nat.le_refl _, Nat.le_refl _⟩) (fun r2 u H locs hp w => ?_)
  obtain ⟨hr2, hm⟩ := hp
  obtain ⟨f2, v2, F2, rfl, J2⟩ := js_mk g0 d0 hc1 (fun i9 h9 => hS1 i9 (by omega)) hm hgs
  have w : gw D (lwA s) s.heap H locs L f2 := w
  refine lv_icmp_eq (tgt := 877) hx hb d_law_287 (by decide) (fun c9 => ?_) (fun c9 => ?_)
  · exact kk _ _ _ _ _ _ _ _ _ J2 w
  · exact absurd (by rw [hr1, hr2]) c9
set_option maxHeartbeats 4000000 in
set_option maxRecDepth 100000 in
theorem lc_7 (T : lst p m c s b n xs D cI cR L rx ry ra h ar ci lo mo A) (J : JS cI cR rx ry ra h ar ci lo mo A f v F K t1 t2 S) (w : gw D (lwA s) s.heap H locs L f) (hl : lv_has ls 4 [(3, .int (iN (i))), (2, .ref mo), (1, .ref h), (0, .ref b)]) (hi : 0 ≤ i ∧ i + 4 ≤ n) (kk : ∀ (H' : Heap) (locs' : List Loc) (f' : Nat → va_E) (v' : Nat → Int) (F' : Nat → Nat → Int) (K' t1' t2' : Int) (S' : Nat → List Pt), JS cI cR rx ry ra h ar ci lo mo A f' v' F' K' t1' t2' S' → gw D (lwA s) s.heap H' locs' L f' → W p l e room_1 s m #[Value.ref b] below meth c H' locs' 600000 7302250 Q (F0 m 877 ls [])) : W p l e room_1 s m #[Value.ref b] below meth c H locs 600000 7302250 Q (F0 m 325 ls []) := by
  obtain ⟨X, hX, hbl, G, g0, d0, hn, M⟩ := T
  obtain ⟨hJ, hc, hI, h11, h12, hgs⟩ := J
  have hx := X.1.1
  have hb := X.1.2.1
  have hbA : ¬ lwA s b := Nat.not_le.mpr hbl
  have hok := js_ok hgs
  have hhu := js_hu M hgs
  have hK : 0 ≤ K ∧ K ≤ 8 := ⟨hI.2.2.1, hI.2.2.2.1⟩
  obtain ⟨z1, hz1, ez1⟩ := iN_ex (xs (iN (i + 1)).toNatClampNeg)
  obtain ⟨z2, hz2, ez2⟩ := iN_ex (xs (iN (i + 2)).toNatClampNeg)
  obtain ⟨z3, hz3, ez3⟩ := iN_ex (xs (iN (i + 3)).toNatClampNeg)
  refine lv_aload_n hx hb d_law_325 rfl (lv_at hl 2 rfl) ?_
  refine lv_aload_n hx hb d_law_326 rfl (lv_at hl 3 rfl) ?_
  refine lv_iload_n hx hb d_law_327 rfl (lv_at hl 0 rfl) ?_
  refine lv_iconst (v := iN (1)) hx hb d_law_328 (by decide) ?_
  refine ri_add (a := i) (b := 1) hx hb d_law_329 rfl rfl ?_
  refine va_sld hx hb hX hbl hbA w.2.2.1 (i := iN (i + 1)) (vin (by omega) (by omega) (by omega)) d_law_330 ?_
  rw [ez1]
  refine g_ci w (g_runV (As := [.int (iN z1)]) (rest := []) X w (c_H_beside l G hc hok (z := z1) hz1) k_H_beside v_H_beside lk_law_45 G.1.1 hc.1 rfl ⟨(Nat.le_of_ble_eq_true rfl), (Nat.le_of_ble_eq_true rfl)⟩ rfl hl.1 rfl (Nat.le_of_ble_eq_true rfl) d_law_331 ⟨Nat.le_refl _, Nat.le_refl _⟩) (fun r1 u H locs hp w => ?_)
  obtain ⟨hr1, hp⟩ := hp
  obtain ⟨g1, S1, rfl, hc1, hS1, hu1⟩ := hp
  have w : gw D (lwA s) s.heap H locs L g1 := w
  have hg1 := js_cls g0 d0 hJ hu1
  have w : gw D (lwA s) s.heap H locs L (mSt cI mo A g1 v F) := by rw [hg1]; exact w
  refine lv_aload_n hx hb d_law_334 rfl (lv_at hl 1 rfl) ?_
  refine lv_aload_n hx hb d_law_335 rfl (lv_at hl 3 rfl) ?_
  refine lv_iload_n hx hb d_law_336 rfl (lv_at hl 0 rfl) ?_
  refine lv_iconst (v := iN (1)) hx hb d_law_337 (by decide) ?_
  refine ri_add (a := i) (b := 1) hx hb d_law_338 rfl rfl ?_
  refine va_sld hx hb hX hbl hbA w.2.2.1 (i := iN (i + 1)) (vin (by omega) (by omega) (by omega)) d_law_339 ?_
  rw [ez1]
  refine g_ci w (g_runV (As := [.int (iN z1)]) (rest := [.int r1]) X w (c_M_beside l (f := g1) g0 hI h11 h12 hok hhu (z := z1) hz1) k_M_beside v_M_beside lk_law_48 g0.1.1 (show mSt cI mo A g1 v F mo = .inr (4, _) from mS_m) rfl ⟨(Nat.le_of_ble_eq_true rfl), (Nat.le_of_ble_eq_true rfl)⟩ rfl hl.1 rfl (Nat.le_of_ble_eq_true rfl) d_law_340 ⟨Nat.le_refl _, Nat.le_refl _⟩) (fun r2 u H locs hp w => ?_)
  obtain ⟨hr2, hm⟩ := hp
  obtain ⟨f2, v2, F2, rfl, J2⟩ := js_mk g0 d0 hc1 (fun i9 h9 => hS1 i9 (by omega)) hm hgs
  have w : gw D (lwA s) s.heap H locs L f2 := w
  refine lv_icmp_eq (tgt := 877) hx hb d_law_343 (by decide) (fun c9 => ?_) (fun c9 => ?_)
  · exact kk _ _ _ _ _ _ _ _ _ J2 w
  · exact absurd (by rw [hr1, hr2]; by_cases q9 : 0 ≤ z1 ∧ z1 < K; (rw [if_pos q9, if_pos q9]; have hG := hgs z1.toNat (by omega); rw [M.bes _ hG]); rw [if_neg q9, if_neg q9]) c9
set_option maxHeartbeats 4000000 in
set_option maxRecDepth 100000 in
theorem lc_8 (T : lst p m c s b n xs D cI cR L rx ry ra h ar ci lo mo A) (J : JS cI cR rx ry ra h ar ci lo mo A f v F K t1 t2 S) (w : gw D (lwA s) s.heap H locs L f) (hl : lv_has ls 4 [(3, .int (iN (i))), (2, .ref mo), (1, .ref h), (0, .ref b)]) (hi : 0 ≤ i ∧ i + 4 ≤ n) (kk : ∀ (H' : Heap) (locs' : List Loc) (f' : Nat → va_E) (v' : Nat → Int) (F' : Nat → Nat → Int) (K' t1' t2' : Int) (S' : Nat → List Pt), JS cI cR rx ry ra h ar ci lo mo A f' v' F' K' t1' t2' S' → gw D (lwA s) s.heap H' locs' L f' → W p l e room_1 s m #[Value.ref b] below meth c H' locs' 600000 7302250 Q (F0 m 877 ls [])) : W p l e room_1 s m #[Value.ref b] below meth c H locs 600000 7302250 Q (F0 m 348 ls []) := by
  obtain ⟨X, hX, hbl, G, g0, d0, hn, M⟩ := T
  obtain ⟨hJ, hc, hI, h11, h12, hgs⟩ := J
  have hx := X.1.1
  have hb := X.1.2.1
  have hbA : ¬ lwA s b := Nat.not_le.mpr hbl
  have hok := js_ok hgs
  have hhu := js_hu M hgs
  have hK : 0 ≤ K ∧ K ≤ 8 := ⟨hI.2.2.1, hI.2.2.2.1⟩
  obtain ⟨z1, hz1, ez1⟩ := iN_ex (xs (iN (i + 1)).toNatClampNeg)
  obtain ⟨z2, hz2, ez2⟩ := iN_ex (xs (iN (i + 2)).toNatClampNeg)
  obtain ⟨z3, hz3, ez3⟩ := iN_ex (xs (iN (i + 3)).toNatClampNeg)
  refine lv_aload_n hx hb d_law_348 rfl (lv_at hl 2 rfl) ?_
  refine lv_aload_n hx hb d_law_349 rfl (lv_at hl 3 rfl) ?_
  refine lv_iload_n hx hb d_law_350 rfl (lv_at hl 0 rfl) ?_
  refine lv_iconst (v := iN (1)) hx hb d_law_351 (by decide) ?_
  refine ri_add (a := i) (b := 1) hx hb d_law_352 rfl rfl ?_
  refine va_sld hx hb hX hbl hbA w.2.2.1 (i := iN (i + 1)) (vin (by omega) (by omega) (by omega)) d_law_353 ?_
  rw [ez1]
  refine g_ci w (g_runV (As := [.int (iN z1)]) (rest := []) X w (c_H_area l G hc hok (z := z1) hz1) k_H_area v_H_area lk_law_49 G.1.1 hc.1 rfl ⟨(Nat.le_of_ble_eq_true rfl), (Nat.le_of_ble_eq_true rfl)⟩ rfl hl.1 rfl (Nat.le_of_ble_eq_true rfl) d_law_354 ⟨Nat.le_refl _, Nat.le_refl _⟩) (fun r1 u H locs hp w => ?_)
  obtain ⟨hr1, hp⟩ := hp
  obtain ⟨g1, S1, rfl, hc1, hS1, hu1⟩ := hp
  have w : gw D (lwA s) s.heap H locs L g1 := w
  have hg1 := js_cls g0 d0 hJ hu1
  have w : gw D (lwA s) s.heap H locs L (mSt cI mo A g1 v F) := by rw [hg1]; exact w
  refine lv_aload_n hx hb d_law_357 rfl (lv_at hl 1 rfl) ?_
  refine lv_aload_n hx hb d_law_358 rfl (lv_at hl 3 rfl) ?_
  refine lv_iload_n hx hb d_law_359 rfl (lv_at hl 0 rfl) ?_
  refine lv_iconst (v := iN (1)) hx hb d_law_360 (by decide) ?_
  refine ri_add (a := i) (b := 1) hx hb d_law_361 rfl rfl ?_
  refine va_sld hx hb hX hbl hbA w.2.2.1 (i := iN (i + 1)) (vin (by omega) (by omega) (by omega)) d_law_362 ?_
  rw [ez1]
  refine g_ci w (g_runV (As := [.int (iN z1)]) (rest := [.int r1]) X w (c_M_area l (f := g1) g0 hI h11 h12 hok hhu (z := z1) hz1) k_M_area v_M_area lk_law_52 g0.1.1 (show mSt cI mo A g1 v F mo = .inr (4, _) from mS_m) rfl ⟨(Nat.le_of_ble_eq_true rfl), (Nat.le_of_ble_eq_true rfl)⟩ rfl hl.1 rfl (Nat.le_of_ble_eq_true rfl) d_law_363 ⟨Nat.le_refl _, Nat.le_refl _⟩) (fun r2 u H locs hp w => ?_)
  obtain ⟨hr2, hm⟩ := hp
  obtain ⟨f2, v2, F2, rfl, J2⟩ := js_mk g0 d0 hc1 (fun i9 h9 => hS1 i9 (by omega)) hm hgs
  have w : gw D (lwA s) s.heap H locs L f2 := w
  refine lv_icmp_eq (tgt := 877) hx hb d_law_366 (by decide) (fun c9 => ?_) (fun c9 => ?_)
  · exact kk _ _ _ _ _ _ _ _ _ J2 w
  · exact absurd (by rw [hr1, hr2]; by_cases q9 : 0 ≤ z1 ∧ z1 < K; (rw [if_pos q9, if_pos q9]; have hG := hgs z1.toNat (by omega); rw [M.are]); rw [if_neg q9, if_neg q9]) c9
set_option maxHeartbeats 4000000 in
set_option maxRecDepth 100000 in
theorem lc_9 (T : lst p m c s b n xs D cI cR L rx ry ra h ar ci lo mo A) (J : JS cI cR rx ry ra h ar ci lo mo A f v F K t1 t2 S) (w : gw D (lwA s) s.heap H locs L f) (hl : lv_has ls 4 [(3, .int (iN (i))), (2, .ref mo), (1, .ref h), (0, .ref b)]) (hi : 0 ≤ i ∧ i + 4 ≤ n) (kk : ∀ (H' : Heap) (locs' : List Loc) (f' : Nat → va_E) (v' : Nat → Int) (F' : Nat → Nat → Int) (K' t1' t2' : Int) (S' : Nat → List Pt), JS cI cR rx ry ra h ar ci lo mo A f' v' F' K' t1' t2' S' → gw D (lwA s) s.heap H' locs' L f' → W p l e room_1 s m #[Value.ref b] below meth c H' locs' 600000 7302250 Q (F0 m 877 ls [])) : W p l e room_1 s m #[Value.ref b] below meth c H locs 600000 7302250 Q (F0 m 371 ls []) := by
  obtain ⟨X, hX, hbl, G, g0, d0, hn, M⟩ := T
  obtain ⟨hJ, hc, hI, h11, h12, hgs⟩ := J
  have hx := X.1.1
  have hb := X.1.2.1
  have hbA : ¬ lwA s b := Nat.not_le.mpr hbl
  have hok := js_ok hgs
  have hhu := js_hu M hgs
  have hK : 0 ≤ K ∧ K ≤ 8 := ⟨hI.2.2.1, hI.2.2.2.1⟩
  obtain ⟨z1, hz1, ez1⟩ := iN_ex (xs (iN (i + 1)).toNatClampNeg)
  obtain ⟨z2, hz2, ez2⟩ := iN_ex (xs (iN (i + 2)).toNatClampNeg)
  obtain ⟨z3, hz3, ez3⟩ := iN_ex (xs (iN (i + 3)).toNatClampNeg)
  refine lv_aload_n hx hb d_law_371 rfl (lv_at hl 2 rfl) ?_
  refine lv_aload_n hx hb d_law_372 rfl (lv_at hl 3 rfl) ?_
  refine lv_iload_n hx hb d_law_373 rfl (lv_at hl 0 rfl) ?_
  refine lv_iconst (v := iN (1)) hx hb d_law_374 (by decide) ?_
  refine ri_add (a := i) (b := 1) hx hb d_law_375 rfl rfl ?_
  refine va_sld hx hb hX hbl hbA w.2.2.1 (i := iN (i + 1)) (vin (by omega) (by omega) (by omega)) d_law_376 ?_
  rw [ez1]
  refine g_ci w (g_runV (As := [.int (iN z1)]) (rest := []) X w (c_H_border l G hc hok (z := z1) hz1) k_H_border v_H_border lk_law_53 G.1.1 hc.1 rfl ⟨(Nat.le_of_ble_eq_true rfl), (Nat.le_of_ble_eq_true rfl)⟩ rfl hl.1 rfl (Nat.le_of_ble_eq_true rfl) d_law_377 ⟨Nat.le_refl _, Nat.le_refl _⟩) (fun r1 u H locs hp w => ?_)
  obtain ⟨hr1, hp⟩ := hp
  obtain ⟨g1, S1, rfl, hc1, hS1, hu1⟩ := hp
  have w : gw D (lwA s) s.heap H locs L g1 := w
  have hg1 := js_cls g0 d0 hJ hu1
  have w : gw D (lwA s) s.heap H locs L (mSt cI mo A g1 v F) := by rw [hg1]; exact w
  refine lv_aload_n hx hb d_law_380 rfl (lv_at hl 1 rfl) ?_
  refine lv_aload_n hx hb d_law_381 rfl (lv_at hl 3 rfl) ?_
  refine lv_iload_n hx hb d_law_382 rfl (lv_at hl 0 rfl) ?_
  refine lv_iconst (v := iN (1)) hx hb d_law_383 (by decide) ?_
  refine ri_add (a := i) (b := 1) hx hb d_law_384 rfl rfl ?_
  refine va_sld hx hb hX hbl hbA w.2.2.1 (i := iN (i + 1)) (vin (by omega) (by omega) (by omega)) d_law_385 ?_
  rw [ez1]
  refine g_ci w (g_runV (As := [.int (iN z1)]) (rest := [.int r1]) X w (c_M_border l (f := g1) g0 hI h11 h12 hok hhu (z := z1) hz1) k_M_border v_M_border lk_law_56 g0.1.1 (show mSt cI mo A g1 v F mo = .inr (4, _) from mS_m) rfl ⟨(Nat.le_of_ble_eq_true rfl), (Nat.le_of_ble_eq_true rfl)⟩ rfl hl.1 rfl (Nat.le_of_ble_eq_true rfl) d_law_386 ⟨Nat.le_refl _, Nat.le_refl _⟩) (fun r2 u H locs hp w => ?_)
  obtain ⟨hr2, hm⟩ := hp
  obtain ⟨f2, v2, F2, rfl, J2⟩ := js_mk g0 d0 hc1 (fun i9 h9 => hS1 i9 (by omega)) hm hgs
  have w : gw D (lwA s) s.heap H locs L f2 := w
  refine lv_icmp_eq (tgt := 877) hx hb d_law_389 (by decide) (fun c9 => ?_) (fun c9 => ?_)
  · exact kk _ _ _ _ _ _ _ _ _ J2 w
  · exact absurd (by rw [hr1, hr2]; by_cases q9 : 0 ≤ z1 ∧ z1 < K; (rw [if_pos q9, if_pos q9]; have hG := hgs z1.toNat (by omega); rw [M.bor]); rw [if_neg q9, if_neg q9]) c9
set_option maxHeartbeats 4000000 in
set_option maxRecDepth 100000 in
theorem lc_10 (T : lst p m c s b n xs D cI cR L rx ry ra h ar ci lo mo A) (J : JS cI cR rx ry ra h ar ci lo mo A f v F K t1 t2 S) (w : gw D (lwA s) s.heap H locs L f) (hl : lv_has ls 4 [(3, .int (iN (i))), (2, .ref mo), (1, .ref h), (0, .ref b)]) (hi : 0 ≤ i ∧ i + 4 ≤ n) (kk : ∀ (H' : Heap) (locs' : List Loc) (f' : Nat → va_E) (v' : Nat → Int) (F' : Nat → Nat → Int) (K' t1' t2' : Int) (S' : Nat → List Pt), JS cI cR rx ry ra h ar ci lo mo A f' v' F' K' t1' t2' S' → gw D (lwA s) s.heap H' locs' L f' → W p l e room_1 s m #[Value.ref b] below meth c H' locs' 600000 7302250 Q (F0 m 877 ls [])) : W p l e room_1 s m #[Value.ref b] below meth c H locs 600000 7302250 Q (F0 m 394 ls []) := by
  obtain ⟨X, hX, hbl, G, g0, d0, hn, M⟩ := T
  obtain ⟨hJ, hc, hI, h11, h12, hgs⟩ := J
  have hx := X.1.1
  have hb := X.1.2.1
  have hbA : ¬ lwA s b := Nat.not_le.mpr hbl
  have hok := js_ok hgs
  have hhu := js_hu M hgs
  have hK : 0 ≤ K ∧ K ≤ 8 := ⟨hI.2.2.1, hI.2.2.2.1⟩
  obtain ⟨z1, hz1, ez1⟩ := iN_ex (xs (iN (i + 1)).toNatClampNeg)
  obtain ⟨z2, hz2, ez2⟩ := iN_ex (xs (iN (i + 2)).toNatClampNeg)
  obtain ⟨z3, hz3, ez3⟩ := iN_ex (xs (iN (i + 3)).toNatClampNeg)
  refine lv_aload_n hx hb d_law_394 rfl (lv_at hl 2 rfl) ?_
  refine lv_aload_n hx hb d_law_395 rfl (lv_at hl 3 rfl) ?_
  refine lv_iload_n hx hb d_law_396 rfl (lv_at hl 0 rfl) ?_
  refine lv_iconst (v := iN (1)) hx hb d_law_397 (by decide) ?_
  refine ri_add (a := i) (b := 1) hx hb d_law_398 rfl rfl ?_
  refine va_sld hx hb hX hbl hbA w.2.2.1 (i := iN (i + 1)) (vin (by omega) (by omega) (by omega)) d_law_399 ?_
  rw [ez1]
  refine g_ci w (g_runV (As := [.int (iN z1)]) (rest := []) X w (c_H_inside l G hc hok (z := z1) hz1) k_H_inside v_H_inside lk_law_57 G.1.1 hc.1 rfl ⟨(Nat.le_of_ble_eq_true rfl), (Nat.le_of_ble_eq_true rfl)⟩ rfl hl.1 rfl (Nat.le_of_ble_eq_true rfl) d_law_400 ⟨Nat.le_refl _, Nat.le_refl _⟩) (fun r1 u H locs hp w => ?_)
  obtain ⟨hr1, hp⟩ := hp
  obtain ⟨g1, S1, rfl, hc1, hS1, hu1⟩ := hp
  have w : gw D (lwA s) s.heap H locs L g1 := w
  have hg1 := js_cls g0 d0 hJ hu1
  have w : gw D (lwA s) s.heap H locs L (mSt cI mo A g1 v F) := by rw [hg1]; exact w
  refine lv_aload_n hx hb d_law_403 rfl (lv_at hl 1 rfl) ?_
  refine lv_aload_n hx hb d_law_404 rfl (lv_at hl 3 rfl) ?_
  refine lv_iload_n hx hb d_law_405 rfl (lv_at hl 0 rfl) ?_
  refine lv_iconst (v := iN (1)) hx hb d_law_406 (by decide) ?_
  refine ri_add (a := i) (b := 1) hx hb d_law_407 rfl rfl ?_
  refine va_sld hx hb hX hbl hbA w.2.2.1 (i := iN (i + 1)) (vin (by omega) (by omega) (by omega)) d_law_408 ?_
  rw [ez1]
  refine g_ci w (g_runV (As := [.int (iN z1)]) (rest := [.int r1]) X w (c_M_inside l (f := g1) g0 hI h11 h12 hok hhu (z := z1) hz1) k_M_inside v_M_inside lk_law_60 g0.1.1 (show mSt cI mo A g1 v F mo = .inr (4, _) from mS_m) rfl ⟨(Nat.le_of_ble_eq_true rfl), (Nat.le_of_ble_eq_true rfl)⟩ rfl hl.1 rfl (Nat.le_of_ble_eq_true rfl) d_law_409 ⟨Nat.le_refl _, Nat.le_refl _⟩) (fun r2 u H locs hp w => ?_)
  obtain ⟨hr2, hm⟩ := hp
  obtain ⟨f2, v2, F2, rfl, J2⟩ := js_mk g0 d0 hc1 (fun i9 h9 => hS1 i9 (by omega)) hm hgs
  have w : gw D (lwA s) s.heap H locs L f2 := w
  refine lv_icmp_eq (tgt := 877) hx hb d_law_412 (by decide) (fun c9 => ?_) (fun c9 => ?_)
  · exact kk _ _ _ _ _ _ _ _ _ J2 w
  · exact absurd (by rw [hr1, hr2]; by_cases q9 : 0 ≤ z1 ∧ z1 < K; (rw [if_pos q9, if_pos q9]; have hG := hgs z1.toNat (by omega); rw [M.bor, M.gro _ 1 hG (by decide) (by decide)]); rw [if_neg q9, if_neg q9]) c9
set_option maxHeartbeats 4000000 in
set_option maxRecDepth 100000 in
theorem lc_11 (T : lst p m c s b n xs D cI cR L rx ry ra h ar ci lo mo A) (J : JS cI cR rx ry ra h ar ci lo mo A f v F K t1 t2 S) (w : gw D (lwA s) s.heap H locs L f) (hl : lv_has ls 4 [(3, .int (iN (i))), (2, .ref mo), (1, .ref h), (0, .ref b)]) (hi : 0 ≤ i ∧ i + 4 ≤ n) (kk : ∀ (H' : Heap) (locs' : List Loc) (f' : Nat → va_E) (v' : Nat → Int) (F' : Nat → Nat → Int) (K' t1' t2' : Int) (S' : Nat → List Pt), JS cI cR rx ry ra h ar ci lo mo A f' v' F' K' t1' t2' S' → gw D (lwA s) s.heap H' locs' L f' → W p l e room_1 s m #[Value.ref b] below meth c H' locs' 600000 7302250 Q (F0 m 877 ls [])) : W p l e room_1 s m #[Value.ref b] below meth c H locs 600000 7302250 Q (F0 m 417 ls []) := by
  obtain ⟨X, hX, hbl, G, g0, d0, hn, M⟩ := T
  obtain ⟨hJ, hc, hI, h11, h12, hgs⟩ := J
  have hx := X.1.1
  have hb := X.1.2.1
  have hbA : ¬ lwA s b := Nat.not_le.mpr hbl
  have hok := js_ok hgs
  have hhu := js_hu M hgs
  have hK : 0 ≤ K ∧ K ≤ 8 := ⟨hI.2.2.1, hI.2.2.2.1⟩
  obtain ⟨z1, hz1, ez1⟩ := iN_ex (xs (iN (i + 1)).toNatClampNeg)
  obtain ⟨z2, hz2, ez2⟩ := iN_ex (xs (iN (i + 2)).toNatClampNeg)
  obtain ⟨z3, hz3, ez3⟩ := iN_ex (xs (iN (i + 3)).toNatClampNeg)
  refine lv_aload_n hx hb d_law_417 rfl (lv_at hl 2 rfl) ?_
  refine lv_aload_n hx hb d_law_418 rfl (lv_at hl 3 rfl) ?_
  refine lv_iload_n hx hb d_law_419 rfl (lv_at hl 0 rfl) ?_
  refine lv_iconst (v := iN (1)) hx hb d_law_420 (by decide) ?_
  refine ri_add (a := i) (b := 1) hx hb d_law_421 rfl rfl ?_
  refine va_sld hx hb hX hbl hbA w.2.2.1 (i := iN (i + 1)) (vin (by omega) (by omega) (by omega)) d_law_422 ?_
  rw [ez1]
  refine lv_aload_n hx hb d_law_423 rfl (lv_at hl 3 rfl) ?_
  refine lv_iload_n hx hb d_law_424 rfl (lv_at hl 0 rfl) ?_
  refine lv_iconst (v := iN (2)) hx hb d_law_425 (by decide) ?_
  refine ri_add (a := i) (b := 2) hx hb d_law_426 rfl rfl ?_
  refine va_sld hx hb hX hbl hbA w.2.2.1 (i := iN (i + 2)) (vin (by omega) (by omega) (by omega)) d_law_427 ?_
  rw [ez2]
  refine g_ci w (g_runV (As := [.int (iN z1), .int (iN z2)]) (rest := []) X w (c_H_grown l G hc hok (z := z1) hz1 (k := z2) hz2) k_H_grown v_H_grown lk_law_61 G.1.1 hc.1 rfl ⟨(Nat.le_of_ble_eq_true rfl), (Nat.le_of_ble_eq_true rfl)⟩ rfl hl.1 rfl (Nat.le_of_ble_eq_true rfl) d_law_428 ⟨Nat.le_refl _, Nat.le_refl _⟩) (fun r1 u H locs hp w => ?_)
  obtain ⟨hr1, hp⟩ := hp
  obtain ⟨g1, S1, rfl, hc1, hS1, hu1⟩ := hp
  have w : gw D (lwA s) s.heap H locs L g1 := w
  have hg1 := js_cls g0 d0 hJ hu1
  have w : gw D (lwA s) s.heap H locs L (mSt cI mo A g1 v F) := by rw [hg1]; exact w
  refine lv_aload_n hx hb d_law_431 rfl (lv_at hl 1 rfl) ?_
  refine lv_aload_n hx hb d_law_432 rfl (lv_at hl 3 rfl) ?_
  refine lv_iload_n hx hb d_law_433 rfl (lv_at hl 0 rfl) ?_
  refine lv_iconst (v := iN (1)) hx hb d_law_434 (by decide) ?_
  refine ri_add (a := i) (b := 1) hx hb d_law_435 rfl rfl ?_
  refine va_sld hx hb hX hbl hbA w.2.2.1 (i := iN (i + 1)) (vin (by omega) (by omega) (by omega)) d_law_436 ?_
  rw [ez1]
  refine lv_aload_n hx hb d_law_437 rfl (lv_at hl 3 rfl) ?_
  refine lv_iload_n hx hb d_law_438 rfl (lv_at hl 0 rfl) ?_
  refine lv_iconst (v := iN (2)) hx hb d_law_439 (by decide) ?_
  refine ri_add (a := i) (b := 2) hx hb d_law_440 rfl rfl ?_
  refine va_sld hx hb hX hbl hbA w.2.2.1 (i := iN (i + 2)) (vin (by omega) (by omega) (by omega)) d_law_441 ?_
  rw [ez2]
  refine g_ci w (g_runV (As := [.int (iN z1), .int (iN z2)]) (rest := [.int r1]) X w (c_M_grown l (f := g1) g0 hI h11 h12 hok hhu (z := z1) hz1 (k := z2) hz2) k_M_grown v_M_grown lk_law_64 g0.1.1 (show mSt cI mo A g1 v F mo = .inr (4, _) from mS_m) rfl ⟨(Nat.le_of_ble_eq_true rfl), (Nat.le_of_ble_eq_true rfl)⟩ rfl hl.1 rfl (Nat.le_of_ble_eq_true rfl) d_law_442 ⟨Nat.le_refl _, Nat.le_refl _⟩) (fun r2 u H locs hp w => ?_)
  obtain ⟨hr2, hm⟩ := hp
  obtain ⟨f2, v2, F2, rfl, J2⟩ := js_mk g0 d0 hc1 (fun i9 h9 => hS1 i9 (by omega)) hm hgs
  have w : gw D (lwA s) s.heap H locs L f2 := w
  refine lv_icmp_eq (tgt := 877) hx hb d_law_445 (by decide) (fun c9 => ?_) (fun c9 => ?_)
  · exact kk _ _ _ _ _ _ _ _ _ J2 w
  · exact absurd (by rw [hr1, hr2]; by_cases q9 : 0 ≤ z1 ∧ z1 < K; (rw [if_pos q9, if_pos q9]; have hG := hgs z1.toNat (by omega); by_cases q8 : 0 ≤ z2 ∧ z2 ≤ 6; (rw [if_pos q8, if_pos q8, M.gro _ z2 hG q8.1 q8.2]); rw [if_neg q8, if_neg q8]); rw [if_neg q9, if_neg q9]) c9
set_option maxHeartbeats 4000000 in
set_option maxRecDepth 100000 in
theorem lc_12 (T : lst p m c s b n xs D cI cR L rx ry ra h ar ci lo mo A) (J : JS cI cR rx ry ra h ar ci lo mo A f v F K t1 t2 S) (w : gw D (lwA s) s.heap H locs L f) (hl : lv_has ls 4 [(3, .int (iN (i))), (2, .ref mo), (1, .ref h), (0, .ref b)]) (hi : 0 ≤ i ∧ i + 4 ≤ n) (kk : ∀ (H' : Heap) (locs' : List Loc) (f' : Nat → va_E) (v' : Nat → Int) (F' : Nat → Nat → Int) (K' t1' t2' : Int) (S' : Nat → List Pt), JS cI cR rx ry ra h ar ci lo mo A f' v' F' K' t1' t2' S' → gw D (lwA s) s.heap H' locs' L f' → W p l e room_1 s m #[Value.ref b] below meth c H' locs' 600000 7302250 Q (F0 m 877 ls [])) : W p l e room_1 s m #[Value.ref b] below meth c H locs 600000 7302250 Q (F0 m 450 ls []) := by
  obtain ⟨X, hX, hbl, G, g0, d0, hn, M⟩ := T
  obtain ⟨hJ, hc, hI, h11, h12, hgs⟩ := J
  have hx := X.1.1
  have hb := X.1.2.1
  have hbA : ¬ lwA s b := Nat.not_le.mpr hbl
  have hok := js_ok hgs
  have hhu := js_hu M hgs
  have hK : 0 ≤ K ∧ K ≤ 8 := ⟨hI.2.2.1, hI.2.2.2.1⟩
  obtain ⟨z1, hz1, ez1⟩ := iN_ex (xs (iN (i + 1)).toNatClampNeg)
  obtain ⟨z2, hz2, ez2⟩ := iN_ex (xs (iN (i + 2)).toNatClampNeg)
  obtain ⟨z3, hz3, ez3⟩ := iN_ex (xs (iN (i + 3)).toNatClampNeg)
  refine lv_aload_n hx hb d_law_450 rfl (lv_at hl 2 rfl) ?_
  refine lv_aload_n hx hb d_law_451 rfl (lv_at hl 3 rfl) ?_
  refine lv_iload_n hx hb d_law_452 rfl (lv_at hl 0 rfl) ?_
  refine lv_iconst (v := iN (1)) hx hb d_law_453 (by decide) ?_
  refine ri_add (a := i) (b := 1) hx hb d_law_454 rfl rfl ?_
  refine va_sld hx hb hX hbl hbA w.2.2.1 (i := iN (i + 1)) (vin (by omega) (by omega) (by omega)) d_law_455 ?_
  rw [ez1]
  refine g_ci w (g_runV (As := [.int (iN z1)]) (rest := []) X w (c_H_wide l G hc hok (z := z1) hz1) k_H_wide v_H_wide lk_law_65 G.1.1 hc.1 rfl ⟨(Nat.le_of_ble_eq_true rfl), (Nat.le_of_ble_eq_true rfl)⟩ rfl hl.1 rfl (Nat.le_of_ble_eq_true rfl) d_law_456 ⟨Nat.le_refl _, Nat.le_refl _⟩) (fun r1 u H locs hp w => ?_)
  obtain ⟨hr1, hp⟩ := hp
  obtain ⟨g1, S1, rfl, hc1, hS1, hu1⟩ := hp
  have w : gw D (lwA s) s.heap H locs L g1 := w
  have hg1 := js_cls g0 d0 hJ hu1
  have w : gw D (lwA s) s.heap H locs L (mSt cI mo A g1 v F) := by rw [hg1]; exact w
  refine lv_aload_n hx hb d_law_459 rfl (lv_at hl 1 rfl) ?_
  refine lv_aload_n hx hb d_law_460 rfl (lv_at hl 3 rfl) ?_
  refine lv_iload_n hx hb d_law_461 rfl (lv_at hl 0 rfl) ?_
  refine lv_iconst (v := iN (1)) hx hb d_law_462 (by decide) ?_
  refine ri_add (a := i) (b := 1) hx hb d_law_463 rfl rfl ?_
  refine va_sld hx hb hX hbl hbA w.2.2.1 (i := iN (i + 1)) (vin (by omega) (by omega) (by omega)) d_law_464 ?_
  rw [ez1]
  refine g_ci w (g_runV (As := [.int (iN z1)]) (rest := [.int r1]) X w (c_M_wide l (f := g1) g0 hI h11 h12 hok hhu (z := z1) hz1) k_M_wide v_M_wide lk_law_68 g0.1.1 (show mSt cI mo A g1 v F mo = .inr (4, _) from mS_m) rfl ⟨(Nat.le_of_ble_eq_true rfl), (Nat.le_of_ble_eq_true rfl)⟩ rfl hl.1 rfl (Nat.le_of_ble_eq_true rfl) d_law_465 ⟨Nat.le_refl _, Nat.le_refl _⟩) (fun r2 u H locs hp w => ?_)
  obtain ⟨hr2, hm⟩ := hp
  obtain ⟨f2, v2, F2, rfl, J2⟩ := js_mk g0 d0 hc1 (fun i9 h9 => hS1 i9 (by omega)) hm hgs
  have w : gw D (lwA s) s.heap H locs L f2 := w
  refine lv_icmp_eq (tgt := 877) hx hb d_law_468 (by decide) (fun c9 => ?_) (fun c9 => ?_)
  · exact kk _ _ _ _ _ _ _ _ _ J2 w
  · exact absurd (by rw [hr1, hr2]; by_cases q9 : 0 ≤ z1 ∧ z1 < K; (rw [if_pos q9, if_pos q9]; have hG := hgs z1.toNat (by omega); rw [M.wid]); rw [if_neg q9, if_neg q9]) c9
set_option maxHeartbeats 4000000 in
set_option maxRecDepth 100000 in
theorem lc_22 (T : lst p m c s b n xs D cI cR L rx ry ra h ar ci lo mo A) (J : JS cI cR rx ry ra h ar ci lo mo A f v F K t1 t2 S) (w : gw D (lwA s) s.heap H locs L f) (hl : lv_has ls 4 [(3, .int (iN (i))), (2, .ref mo), (1, .ref h), (0, .ref b)]) (hi : 0 ≤ i ∧ i + 4 ≤ n) (kk : ∀ (H' : Heap) (locs' : List Loc) (f' : Nat → va_E) (v' : Nat → Int) (F' : Nat → Nat → Int) (K' t1' t2' : Int) (S' : Nat → List Pt), JS cI cR rx ry ra h ar ci lo mo A f' v' F' K' t1' t2' S' → gw D (lwA s) s.heap H' locs' L f' → W p l e room_1 s m #[Value.ref b] below meth c H' locs' 600000 7302250 Q (F0 m 877 ls [])) : W p l e room_1 s m #[Value.ref b] below meth c H locs 600000 7302250 Q (F0 m 770 ls []) := by
  obtain ⟨X, hX, hbl, G, g0, d0, hn, M⟩ := T
  obtain ⟨hJ, hc, hI, h11, h12, hgs⟩ := J
  have hx := X.1.1
  have hb := X.1.2.1
  have hbA : ¬ lwA s b := Nat.not_le.mpr hbl
  have hok := js_ok hgs
  have hhu := js_hu M hgs
  have hK : 0 ≤ K ∧ K ≤ 8 := ⟨hI.2.2.1, hI.2.2.2.1⟩
  obtain ⟨z1, hz1, ez1⟩ := iN_ex (xs (iN (i + 1)).toNatClampNeg)
  obtain ⟨z2, hz2, ez2⟩ := iN_ex (xs (iN (i + 2)).toNatClampNeg)
  obtain ⟨z3, hz3, ez3⟩ := iN_ex (xs (iN (i + 3)).toNatClampNeg)
  refine lv_aload_n hx hb d_law_770 rfl (lv_at hl 2 rfl) ?_
  refine lv_aload_n hx hb d_law_771 rfl (lv_at hl 3 rfl) ?_
  refine lv_iload_n hx hb d_law_772 rfl (lv_at hl 0 rfl) ?_
  refine lv_iconst (v := iN (1)) hx hb d_law_773 (by decide) ?_
  refine ri_add (a := i) (b := 1) hx hb d_law_774 rfl rfl ?_
  refine va_sld hx hb hX hbl hbA w.2.2.1 (i := iN (i + 1)) (vin (by omega) (by omega) (by omega)) d_law_775 ?_
  rw [ez1]
  refine g_ci w (g_runV (As := [.int (iN z1)]) (rest := []) X w (c_H_nearest l G hc hok (z := z1) hz1) k_H_nearest v_H_nearest lk_law_105 G.1.1 hc.1 rfl ⟨(Nat.le_of_ble_eq_true rfl), (Nat.le_of_ble_eq_true rfl)⟩ rfl hl.1 rfl (Nat.le_of_ble_eq_true rfl) d_law_776 ⟨Nat.le_refl _, Nat.le_refl _⟩) (fun r1 u H locs hp w => ?_)
  obtain ⟨hr1, hp⟩ := hp
  obtain ⟨g1, S1, rfl, hc1, hS1, hu1⟩ := hp
  have w : gw D (lwA s) s.heap H locs L g1 := w
  have hg1 := js_cls g0 d0 hJ hu1
  have w : gw D (lwA s) s.heap H locs L (mSt cI mo A g1 v F) := by rw [hg1]; exact w
  refine lv_aload_n hx hb d_law_779 rfl (lv_at hl 1 rfl) ?_
  refine lv_aload_n hx hb d_law_780 rfl (lv_at hl 3 rfl) ?_
  refine lv_iload_n hx hb d_law_781 rfl (lv_at hl 0 rfl) ?_
  refine lv_iconst (v := iN (1)) hx hb d_law_782 (by decide) ?_
  refine ri_add (a := i) (b := 1) hx hb d_law_783 rfl rfl ?_
  refine va_sld hx hb hX hbl hbA w.2.2.1 (i := iN (i + 1)) (vin (by omega) (by omega) (by omega)) d_law_784 ?_
  rw [ez1]
  refine g_ci w (g_runV (As := [.int (iN z1)]) (rest := [.int r1]) X w (c_M_nearest l (f := g1) g0 hI h11 h12 hok hhu (z := z1) hz1) k_M_nearest v_M_nearest lk_law_108 g0.1.1 (show mSt cI mo A g1 v F mo = .inr (4, _) from mS_m) rfl ⟨(Nat.le_of_ble_eq_true rfl), (Nat.le_of_ble_eq_true rfl)⟩ rfl hl.1 rfl (Nat.le_of_ble_eq_true rfl) d_law_785 ⟨Nat.le_refl _, Nat.le_refl _⟩) (fun r2 u H locs hp w => ?_)
  obtain ⟨hr2, hm⟩ := hp
  obtain ⟨f2, v2, F2, rfl, J2⟩ := js_mk g0 d0 hc1 (fun i9 h9 => hS1 i9 (by omega)) hm hgs
  have w : gw D (lwA s) s.heap H locs L f2 := w
  refine lv_icmp_eq (tgt := 877) hx hb d_law_788 (by decide) (fun c9 => ?_) (fun c9 => ?_)
  · exact kk _ _ _ _ _ _ _ _ _ J2 w
  · exact absurd (by rw [hr1, hr2]; by_cases q9 : 0 ≤ z1 ∧ z1 < K; (rw [if_pos q9, if_pos q9]; have hG := hgs z1.toNat (by omega); by_cases q8 : (S z1.toNat).length < 2; (rw [if_pos q8, if_pos q8]); rw [if_neg q8, if_neg q8, M.nea _ (by omega)]); rw [if_neg q9, if_neg q9]) c9
set_option maxHeartbeats 4000000 in
set_option maxRecDepth 100000 in
theorem lc_19 (T : lst p m c s b n xs D cI cR L rx ry ra h ar ci lo mo A) (J : JS cI cR rx ry ra h ar ci lo mo A f v F K t1 t2 S) (w : gw D (lwA s) s.heap H locs L f) (hl : lv_has ls 4 [(3, .int (iN (i))), (2, .ref mo), (1, .ref h), (0, .ref b)]) (hi : 0 ≤ i ∧ i + 4 ≤ n) (kk : ∀ (H' : Heap) (locs' : List Loc) (f' : Nat → va_E) (v' : Nat → Int) (F' : Nat → Nat → Int) (K' t1' t2' : Int) (S' : Nat → List Pt), JS cI cR rx ry ra h ar ci lo mo A f' v' F' K' t1' t2' S' → gw D (lwA s) s.heap H' locs' L f' → W p l e room_1 s m #[Value.ref b] below meth c H' locs' 600000 7302250 Q (F0 m 877 ls [])) : W p l e room_1 s m #[Value.ref b] below meth c H locs 600000 7302250 Q (F0 m 651 ls []) := by
  obtain ⟨X, hX, hbl, G, g0, d0, hn, M⟩ := T
  obtain ⟨hJ, hc, hI, h11, h12, hgs⟩ := J
  have hx := X.1.1
  have hb := X.1.2.1
  have hbA : ¬ lwA s b := Nat.not_le.mpr hbl
  have hok := js_ok hgs
  have hhu := js_hu M hgs
  have hK : 0 ≤ K ∧ K ≤ 8 := ⟨hI.2.2.1, hI.2.2.2.1⟩
  obtain ⟨z1, hz1, ez1⟩ := iN_ex (xs (iN (i + 1)).toNatClampNeg)
  obtain ⟨z2, hz2, ez2⟩ := iN_ex (xs (iN (i + 2)).toNatClampNeg)
  obtain ⟨z3, hz3, ez3⟩ := iN_ex (xs (iN (i + 3)).toNatClampNeg)
  refine lv_aload_n hx hb d_law_651 rfl (lv_at hl 2 rfl) ?_
  refine lv_aload_n hx hb d_law_652 rfl (lv_at hl 3 rfl) ?_
  refine lv_iload_n hx hb d_law_653 rfl (lv_at hl 0 rfl) ?_
  refine lv_iconst (v := iN (1)) hx hb d_law_654 (by decide) ?_
  refine ri_add (a := i) (b := 1) hx hb d_law_655 rfl rfl ?_
  refine va_sld hx hb hX hbl hbA w.2.2.1 (i := iN (i + 1)) (vin (by omega) (by omega) (by omega)) d_law_656 ?_
  rw [ez1]
  refine lv_aload_n hx hb d_law_657 rfl (lv_at hl 3 rfl) ?_
  refine lv_iload_n hx hb d_law_658 rfl (lv_at hl 0 rfl) ?_
  refine lv_iconst (v := iN (2)) hx hb d_law_659 (by decide) ?_
  refine ri_add (a := i) (b := 2) hx hb d_law_660 rfl rfl ?_
  refine va_sld hx hb hX hbl hbA w.2.2.1 (i := iN (i + 2)) (vin (by omega) (by omega) (by omega)) d_law_661 ?_
  rw [ez2]
  refine lv_aload_n hx hb d_law_662 rfl (lv_at hl 3 rfl) ?_
  refine lv_iload_n hx hb d_law_663 rfl (lv_at hl 0 rfl) ?_
  refine lv_iconst (v := iN (3)) hx hb d_law_664 (by decide) ?_
  refine ri_add (a := i) (b := 3) hx hb d_law_665 rfl rfl ?_
  refine va_sld hx hb hX hbl hbA w.2.2.1 (i := iN (i + 3)) (vin (by omega) (by omega) (by omega)) d_law_666 ?_
  rw [ez3]
  refine g_ci w (g_runV (As := [.int (iN z1), .int (iN z2), .int (iN z3)]) (rest := []) X w (c_H_holds l G hc hok (z := z1) hz1 (x := z2) (y := z3) hz2 hz3) k_H_holds v_H_holds lk_law_93 G.1.1 hc.1 rfl ⟨(Nat.le_of_ble_eq_true rfl), (Nat.le_of_ble_eq_true rfl)⟩ rfl hl.1 rfl (Nat.le_of_ble_eq_true rfl) d_law_667 ⟨Nat.le_refl _, Nat.le_refl _⟩) (fun r1 u H locs hp w => ?_)
  obtain ⟨hr1, hp⟩ := hp
  obtain ⟨g1, S1, rfl, hc1, hS1, hu1⟩ := hp
  have w : gw D (lwA s) s.heap H locs L g1 := w
  have hg1 := js_cls g0 d0 hJ hu1
  have w : gw D (lwA s) s.heap H locs L (mSt cI mo A g1 v F) := by rw [hg1]; exact w
  refine lv_aload_n hx hb d_law_670 rfl (lv_at hl 1 rfl) ?_
  refine lv_aload_n hx hb d_law_671 rfl (lv_at hl 3 rfl) ?_
  refine lv_iload_n hx hb d_law_672 rfl (lv_at hl 0 rfl) ?_
  refine lv_iconst (v := iN (1)) hx hb d_law_673 (by decide) ?_
  refine ri_add (a := i) (b := 1) hx hb d_law_674 rfl rfl ?_
  refine va_sld hx hb hX hbl hbA w.2.2.1 (i := iN (i + 1)) (vin (by omega) (by omega) (by omega)) d_law_675 ?_
  rw [ez1]
  refine lv_aload_n hx hb d_law_676 rfl (lv_at hl 3 rfl) ?_
  refine lv_iload_n hx hb d_law_677 rfl (lv_at hl 0 rfl) ?_
  refine lv_iconst (v := iN (2)) hx hb d_law_678 (by decide) ?_
  refine ri_add (a := i) (b := 2) hx hb d_law_679 rfl rfl ?_
  refine va_sld hx hb hX hbl hbA w.2.2.1 (i := iN (i + 2)) (vin (by omega) (by omega) (by omega)) d_law_680 ?_
  rw [ez2]
  refine lv_aload_n hx hb d_law_681 rfl (lv_at hl 3 rfl) ?_
  refine lv_iload_n hx hb d_law_682 rfl (lv_at hl 0 rfl) ?_
  refine lv_iconst (v := iN (3)) hx hb d_law_683 (by decide) ?_
  refine ri_add (a := i) (b := 3) hx hb d_law_684 rfl rfl ?_
  refine va_sld hx hb hX hbl hbA w.2.2.1 (i := iN (i + 3)) (vin (by omega) (by omega) (by omega)) d_law_685 ?_
  rw [ez3]
  refine g_ci w (g_runV (As := [.int (iN z1), .int (iN z2), .int (iN z3)]) (rest := [.int r1]) X w (c_M_holds l (f := g1) g0 hI h11 h12 hok hhu (z := z1) hz1 (x := z2) (y := z3) hz2 hz3) k_M_holds v_M_holds lk_law_96 g0.1.1 (show mSt cI mo A g1 v F mo = .inr (4, _) from mS_m) rfl ⟨(Nat.le_of_ble_eq_true rfl), (Nat.le_of_ble_eq_true rfl)⟩ rfl hl.1 rfl (Nat.le_of_ble_eq_true rfl) d_law_686 ⟨Nat.le_refl _, Nat.le_refl _⟩) (fun r2 u H locs hp w => ?_)
  obtain ⟨hr2, hm⟩ := hp
  obtain ⟨f2, v2, F2, rfl, J2⟩ := js_mk g0 d0 hc1 (fun i9 h9 => hS1 i9 (by omega)) hm hgs
  have w : gw D (lwA s) s.heap H locs L f2 := w
  refine lv_icmp_eq (tgt := 877) hx hb d_law_689 (by decide) (fun c9 => ?_) (fun c9 => ?_)
  · exact kk _ _ _ _ _ _ _ _ _ J2 w
  · exact absurd (by rw [hr1, hr2]; by_cases q9 : 0 ≤ z1 ∧ z1 < K; (rw [if_pos q9, if_pos q9]; have hG := hgs z1.toNat (by omega); rw [M.pla _ z2 z3 hG]); rw [if_neg q9, if_neg q9]) c9
set_option maxHeartbeats 4000000 in
set_option maxRecDepth 100000 in
theorem lc_23 (T : lst p m c s b n xs D cI cR L rx ry ra h ar ci lo mo A) (J : JS cI cR rx ry ra h ar ci lo mo A f v F K t1 t2 S) (w : gw D (lwA s) s.heap H locs L f) (hl : lv_has ls 4 [(3, .int (iN (i))), (2, .ref mo), (1, .ref h), (0, .ref b)]) (hi : 0 ≤ i ∧ i + 4 ≤ n) (kk : ∀ (H' : Heap) (locs' : List Loc) (f' : Nat → va_E) (v' : Nat → Int) (F' : Nat → Nat → Int) (K' t1' t2' : Int) (S' : Nat → List Pt), JS cI cR rx ry ra h ar ci lo mo A f' v' F' K' t1' t2' S' → gw D (lwA s) s.heap H' locs' L f' → W p l e room_1 s m #[Value.ref b] below meth c H' locs' 600000 7302250 Q (F0 m 877 ls [])) : W p l e room_1 s m #[Value.ref b] below meth c H locs 600000 7302250 Q (F0 m 793 ls []) := by
  obtain ⟨X, hX, hbl, G, g0, d0, hn, M⟩ := T
  obtain ⟨hJ, hc, hI, h11, h12, hgs⟩ := J
  have hx := X.1.1
  have hb := X.1.2.1
  have hbA : ¬ lwA s b := Nat.not_le.mpr hbl
  have hok := js_ok hgs
  have hhu := js_hu M hgs
  have hK : 0 ≤ K ∧ K ≤ 8 := ⟨hI.2.2.1, hI.2.2.2.1⟩
  obtain ⟨z1, hz1, ez1⟩ := iN_ex (xs (iN (i + 1)).toNatClampNeg)
  obtain ⟨z2, hz2, ez2⟩ := iN_ex (xs (iN (i + 2)).toNatClampNeg)
  obtain ⟨z3, hz3, ez3⟩ := iN_ex (xs (iN (i + 3)).toNatClampNeg)
  refine lv_aload_n hx hb d_law_793 rfl (lv_at hl 2 rfl) ?_
  refine lv_aload_n hx hb d_law_794 rfl (lv_at hl 3 rfl) ?_
  refine lv_iload_n hx hb d_law_795 rfl (lv_at hl 0 rfl) ?_
  refine lv_iconst (v := iN (1)) hx hb d_law_796 (by decide) ?_
  refine ri_add (a := i) (b := 1) hx hb d_law_797 rfl rfl ?_
  refine va_sld hx hb hX hbl hbA w.2.2.1 (i := iN (i + 1)) (vin (by omega) (by omega) (by omega)) d_law_798 ?_
  rw [ez1]
  refine lv_aload_n hx hb d_law_799 rfl (lv_at hl 3 rfl) ?_
  refine lv_iload_n hx hb d_law_800 rfl (lv_at hl 0 rfl) ?_
  refine lv_iconst (v := iN (2)) hx hb d_law_801 (by decide) ?_
  refine ri_add (a := i) (b := 2) hx hb d_law_802 rfl rfl ?_
  refine va_sld hx hb hX hbl hbA w.2.2.1 (i := iN (i + 2)) (vin (by omega) (by omega) (by omega)) d_law_803 ?_
  rw [ez2]
  refine g_ci w (g_runV (As := [.int (iN z1), .int (iN z2)]) (rest := []) X w (c_H_within l G hc hok (z := z1) hz1 (z2 := z2) hz2) k_H_within v_H_within lk_law_109 G.1.1 hc.1 rfl ⟨(Nat.le_of_ble_eq_true rfl), (Nat.le_of_ble_eq_true rfl)⟩ rfl hl.1 rfl (Nat.le_of_ble_eq_true rfl) d_law_804 ⟨Nat.le_refl _, Nat.le_refl _⟩) (fun r1 u H locs hp w => ?_)
  obtain ⟨hr1, hp⟩ := hp
  obtain ⟨g1, S1, rfl, hc1, hS1, hu1⟩ := hp
  have w : gw D (lwA s) s.heap H locs L g1 := w
  have hg1 := js_cls g0 d0 hJ hu1
  have w : gw D (lwA s) s.heap H locs L (mSt cI mo A g1 v F) := by rw [hg1]; exact w
  refine lv_aload_n hx hb d_law_807 rfl (lv_at hl 1 rfl) ?_
  refine lv_aload_n hx hb d_law_808 rfl (lv_at hl 3 rfl) ?_
  refine lv_iload_n hx hb d_law_809 rfl (lv_at hl 0 rfl) ?_
  refine lv_iconst (v := iN (1)) hx hb d_law_810 (by decide) ?_
  refine ri_add (a := i) (b := 1) hx hb d_law_811 rfl rfl ?_
  refine va_sld hx hb hX hbl hbA w.2.2.1 (i := iN (i + 1)) (vin (by omega) (by omega) (by omega)) d_law_812 ?_
  rw [ez1]
  refine lv_aload_n hx hb d_law_813 rfl (lv_at hl 3 rfl) ?_
  refine lv_iload_n hx hb d_law_814 rfl (lv_at hl 0 rfl) ?_
  refine lv_iconst (v := iN (2)) hx hb d_law_815 (by decide) ?_
  refine ri_add (a := i) (b := 2) hx hb d_law_816 rfl rfl ?_
  refine va_sld hx hb hX hbl hbA w.2.2.1 (i := iN (i + 2)) (vin (by omega) (by omega) (by omega)) d_law_817 ?_
  rw [ez2]
  refine g_ci w (g_runV (As := [.int (iN z1), .int (iN z2)]) (rest := [.int r1]) X w (c_M_within l (f := g1) g0 hI h11 h12 hok hhu (z := z1) hz1 (z2 := z2) hz2) k_M_within v_M_within lk_law_112 g0.1.1 (show mSt cI mo A g1 v F mo = .inr (4, _) from mS_m) rfl ⟨(Nat.le_of_ble_eq_true rfl), (Nat.le_of_ble_eq_true rfl)⟩ rfl hl.1 rfl (Nat.le_of_ble_eq_true rfl) d_law_818 ⟨Nat.le_refl _, Nat.le_refl _⟩) (fun r2 u H locs hp w => ?_)
  obtain ⟨hr2, hm⟩ := hp
  obtain ⟨f2, v2, F2, rfl, J2⟩ := js_mk g0 d0 hc1 (fun i9 h9 => hS1 i9 (by omega)) hm hgs
  have w : gw D (lwA s) s.heap H locs L f2 := w
  refine lv_icmp_eq (tgt := 877) hx hb d_law_821 (by decide) (fun c9 => ?_) (fun c9 => ?_)
  · exact kk _ _ _ _ _ _ _ _ _ J2 w
  · exact absurd (by rw [hr1, hr2]; by_cases q9 : (0 ≤ z1 ∧ z1 < K) ∧ (0 ≤ z2 ∧ z2 < K); (rw [if_pos q9, if_pos q9, wi_eq M (hgs z2.toNat (by omega))]); rw [if_neg q9, if_neg q9]) c9
set_option maxHeartbeats 4000000 in
set_option maxRecDepth 100000 in
theorem lc_17 (T : lst p m c s b n xs D cI cR L rx ry ra h ar ci lo mo A) (J : JS cI cR rx ry ra h ar ci lo mo A f v F K t1 t2 S) (w : gw D (lwA s) s.heap H locs L f) (hl : lv_has ls 4 [(3, .int (iN (i))), (2, .ref mo), (1, .ref h), (0, .ref b)]) (hi : 0 ≤ i ∧ i + 4 ≤ n) (kk : ∀ (H' : Heap) (locs' : List Loc) (f' : Nat → va_E) (v' : Nat → Int) (F' : Nat → Nat → Int) (K' t1' t2' : Int) (S' : Nat → List Pt), JS cI cR rx ry ra h ar ci lo mo A f' v' F' K' t1' t2' S' → gw D (lwA s) s.heap H' locs' L f' → W p l e room_1 s m #[Value.ref b] below meth c H' locs' 600000 7302250 Q (F0 m 877 ls [])) : W p l e room_1 s m #[Value.ref b] below meth c H locs 600000 7302250 Q (F0 m 585 ls []) := by
  obtain ⟨X, hX, hbl, G, g0, d0, hn, M⟩ := T
  obtain ⟨hJ, hc, hI, h11, h12, hgs⟩ := J
  have hx := X.1.1
  have hb := X.1.2.1
  have hbA : ¬ lwA s b := Nat.not_le.mpr hbl
  have hok := js_ok hgs
  have hhu := js_hu M hgs
  have hK : 0 ≤ K ∧ K ≤ 8 := ⟨hI.2.2.1, hI.2.2.2.1⟩
  obtain ⟨z1, hz1, ez1⟩ := iN_ex (xs (iN (i + 1)).toNatClampNeg)
  obtain ⟨z2, hz2, ez2⟩ := iN_ex (xs (iN (i + 2)).toNatClampNeg)
  obtain ⟨z3, hz3, ez3⟩ := iN_ex (xs (iN (i + 3)).toNatClampNeg)
  refine lv_aload_n hx hb d_law_585 rfl (lv_at hl 2 rfl) ?_
  refine lv_aload_n hx hb d_law_586 rfl (lv_at hl 3 rfl) ?_
  refine lv_iload_n hx hb d_law_587 rfl (lv_at hl 0 rfl) ?_
  refine lv_iconst (v := iN (1)) hx hb d_law_588 (by decide) ?_
  refine ri_add (a := i) (b := 1) hx hb d_law_589 rfl rfl ?_
  refine va_sld hx hb hX hbl hbA w.2.2.1 (i := iN (i + 1)) (vin (by omega) (by omega) (by omega)) d_law_590 ?_
  rw [ez1]
  refine lv_aload_n hx hb d_law_591 rfl (lv_at hl 3 rfl) ?_
  refine lv_iload_n hx hb d_law_592 rfl (lv_at hl 0 rfl) ?_
  refine lv_iconst (v := iN (2)) hx hb d_law_593 (by decide) ?_
  refine ri_add (a := i) (b := 2) hx hb d_law_594 rfl rfl ?_
  refine va_sld hx hb hX hbl hbA w.2.2.1 (i := iN (i + 2)) (vin (by omega) (by omega) (by omega)) d_law_595 ?_
  rw [ez2]
  refine g_ci w (g_runV (As := [.int (iN z1), .int (iN z2)]) (rest := []) X w (c_H_meets l G hc hok (z := z1) hz1 (z2 := z2) hz2 (js_HL M hgs (Or.inr rfl)) (js_SM M hgs (Or.inr rfl))) k_H_meets v_H_meets lk_law_85 G.1.1 hc.1 rfl ⟨(Nat.le_of_ble_eq_true rfl), (Nat.le_of_ble_eq_true rfl)⟩ rfl hl.1 rfl (Nat.le_of_ble_eq_true rfl) d_law_596 ⟨Nat.le_refl _, Nat.le_refl _⟩) (fun r1 u H locs hp w => ?_)
  obtain ⟨hr1, hp⟩ := hp
  obtain ⟨g1, S1, rfl, hc1, hS1, hu1⟩ := hp
  have w : gw D (lwA s) s.heap H locs L g1 := w
  have hg1 := js_cls g0 d0 hJ hu1
  have w : gw D (lwA s) s.heap H locs L (mSt cI mo A g1 v F) := by rw [hg1]; exact w
  refine lv_aload_n hx hb d_law_599 rfl (lv_at hl 1 rfl) ?_
  refine lv_aload_n hx hb d_law_600 rfl (lv_at hl 3 rfl) ?_
  refine lv_iload_n hx hb d_law_601 rfl (lv_at hl 0 rfl) ?_
  refine lv_iconst (v := iN (1)) hx hb d_law_602 (by decide) ?_
  refine ri_add (a := i) (b := 1) hx hb d_law_603 rfl rfl ?_
  refine va_sld hx hb hX hbl hbA w.2.2.1 (i := iN (i + 1)) (vin (by omega) (by omega) (by omega)) d_law_604 ?_
  rw [ez1]
  refine lv_aload_n hx hb d_law_605 rfl (lv_at hl 3 rfl) ?_
  refine lv_iload_n hx hb d_law_606 rfl (lv_at hl 0 rfl) ?_
  refine lv_iconst (v := iN (2)) hx hb d_law_607 (by decide) ?_
  refine ri_add (a := i) (b := 2) hx hb d_law_608 rfl rfl ?_
  refine va_sld hx hb hX hbl hbA w.2.2.1 (i := iN (i + 2)) (vin (by omega) (by omega) (by omega)) d_law_609 ?_
  rw [ez2]
  refine g_ci w (g_runV (As := [.int (iN z1), .int (iN z2)]) (rest := [.int r1]) X w (c_M_meets l (f := g1) g0 hI h11 h12 hok hhu (z := z1) hz1 (z2 := z2) hz2 (js_su M hgs (Or.inr rfl))) k_M_meets v_M_meets lk_law_88 g0.1.1 (show mSt cI mo A g1 v F mo = .inr (4, _) from mS_m) rfl ⟨(Nat.le_of_ble_eq_true rfl), (Nat.le_of_ble_eq_true rfl)⟩ rfl hl.1 rfl (Nat.le_of_ble_eq_true rfl) d_law_610 ⟨Nat.le_refl _, Nat.le_refl _⟩) (fun r2 u H locs hp w => ?_)
  obtain ⟨hr2, hm⟩ := hp
  obtain ⟨f2, v2, F2, rfl, J2⟩ := js_mk g0 d0 hc1 (fun i9 h9 => hS1 i9 (by omega)) hm hgs
  have w : gw D (lwA s) s.heap H locs L f2 := w
  refine lv_icmp_eq (tgt := 877) hx hb d_law_613 (by decide) (fun c9 => ?_) (fun c9 => ?_)
  · exact kk _ _ _ _ _ _ _ _ _ J2 w
  · exact absurd (by rw [hr1, hr2]; by_cases q9 : flA K S z1 z2 = 0; (rw [if_pos q9, if_pos q9]; obtain ⟨⟨hA, hB⟩, hnA, hnB⟩ := flA_0 q9; have hGA := hgs z1.toNat (by omega); have hGB := hgs z2.toNat (by omega); rw [show sumF (hullF (S z1.toNat)) (hullF ((S z2.toNat).map (sgm (-1)))) = sumH (S z1.toNat) (S z2.toNat) (-1) from rfl, M.pls _ _ _ 0 0 (Or.inr rfl) hGA hGB hnA hnB]; have hpb := plM_b (sumH (S z1.toNat) (S z2.toNat) (-1)) 0 0; by_cases q8 : plM (sumH (S z1.toNat) (S z2.toNat) (-1)) 0 0 = 0; (rw [if_pos q8, if_neg (by omega)]); rw [if_neg q8, if_pos (by omega)]); rw [if_neg q9, if_neg q9]) c9
set_option maxHeartbeats 4000000 in
set_option maxRecDepth 100000 in
theorem lc_21 (T : lst p m c s b n xs D cI cR L rx ry ra h ar ci lo mo A) (J : JS cI cR rx ry ra h ar ci lo mo A f v F K t1 t2 S) (w : gw D (lwA s) s.heap H locs L f) (hl : lv_has ls 4 [(3, .int (iN (i))), (2, .ref mo), (1, .ref h), (0, .ref b)]) (hi : 0 ≤ i ∧ i + 4 ≤ n) (kk : ∀ (H' : Heap) (locs' : List Loc) (f' : Nat → va_E) (v' : Nat → Int) (F' : Nat → Nat → Int) (K' t1' t2' : Int) (S' : Nat → List Pt), JS cI cR rx ry ra h ar ci lo mo A f' v' F' K' t1' t2' S' → gw D (lwA s) s.heap H' locs' L f' → W p l e room_1 s m #[Value.ref b] below meth c H' locs' 600000 7302250 Q (F0 m 877 ls [])) : W p l e room_1 s m #[Value.ref b] below meth c H locs 600000 7302250 Q (F0 m 737 ls []) := by
  obtain ⟨X, hX, hbl, G, g0, d0, hn, M⟩ := T
  obtain ⟨hJ, hc, hI, h11, h12, hgs⟩ := J
  have hx := X.1.1
  have hb := X.1.2.1
  have hbA : ¬ lwA s b := Nat.not_le.mpr hbl
  have hok := js_ok hgs
  have hhu := js_hu M hgs
  have hK : 0 ≤ K ∧ K ≤ 8 := ⟨hI.2.2.1, hI.2.2.2.1⟩
  obtain ⟨z1, hz1, ez1⟩ := iN_ex (xs (iN (i + 1)).toNatClampNeg)
  obtain ⟨z2, hz2, ez2⟩ := iN_ex (xs (iN (i + 2)).toNatClampNeg)
  obtain ⟨z3, hz3, ez3⟩ := iN_ex (xs (iN (i + 3)).toNatClampNeg)
  refine lv_aload_n hx hb d_law_737 rfl (lv_at hl 2 rfl) ?_
  refine lv_aload_n hx hb d_law_738 rfl (lv_at hl 3 rfl) ?_
  refine lv_iload_n hx hb d_law_739 rfl (lv_at hl 0 rfl) ?_
  refine lv_iconst (v := iN (1)) hx hb d_law_740 (by decide) ?_
  refine ri_add (a := i) (b := 1) hx hb d_law_741 rfl rfl ?_
  refine va_sld hx hb hX hbl hbA w.2.2.1 (i := iN (i + 1)) (vin (by omega) (by omega) (by omega)) d_law_742 ?_
  rw [ez1]
  refine lv_aload_n hx hb d_law_743 rfl (lv_at hl 3 rfl) ?_
  refine lv_iload_n hx hb d_law_744 rfl (lv_at hl 0 rfl) ?_
  refine lv_iconst (v := iN (2)) hx hb d_law_745 (by decide) ?_
  refine ri_add (a := i) (b := 2) hx hb d_law_746 rfl rfl ?_
  refine va_sld hx hb hX hbl hbA w.2.2.1 (i := iN (i + 2)) (vin (by omega) (by omega) (by omega)) d_law_747 ?_
  rw [ez2]
  refine g_ci w (g_runV (As := [.int (iN z1), .int (iN z2)]) (rest := []) X w (c_H_mixed l G hc hok (z := z1) hz1 (z2 := z2) hz2 (js_HL M hgs (Or.inl rfl))) k_H_mixed v_H_mixed lk_law_101 G.1.1 hc.1 rfl ⟨(Nat.le_of_ble_eq_true rfl), (Nat.le_of_ble_eq_true rfl)⟩ rfl hl.1 rfl (Nat.le_of_ble_eq_true rfl) d_law_748 ⟨Nat.le_refl _, Nat.le_refl _⟩) (fun r1 u H locs hp w => ?_)
  obtain ⟨hr1, hp⟩ := hp
  obtain ⟨g1, S1, rfl, hc1, hS1, hu1⟩ := hp
  have w : gw D (lwA s) s.heap H locs L g1 := w
  have hg1 := js_cls g0 d0 hJ hu1
  have w : gw D (lwA s) s.heap H locs L (mSt cI mo A g1 v F) := by rw [hg1]; exact w
  refine lv_aload_n hx hb d_law_751 rfl (lv_at hl 1 rfl) ?_
  refine lv_aload_n hx hb d_law_752 rfl (lv_at hl 3 rfl) ?_
  refine lv_iload_n hx hb d_law_753 rfl (lv_at hl 0 rfl) ?_
  refine lv_iconst (v := iN (1)) hx hb d_law_754 (by decide) ?_
  refine ri_add (a := i) (b := 1) hx hb d_law_755 rfl rfl ?_
  refine va_sld hx hb hX hbl hbA w.2.2.1 (i := iN (i + 1)) (vin (by omega) (by omega) (by omega)) d_law_756 ?_
  rw [ez1]
  refine lv_aload_n hx hb d_law_757 rfl (lv_at hl 3 rfl) ?_
  refine lv_iload_n hx hb d_law_758 rfl (lv_at hl 0 rfl) ?_
  refine lv_iconst (v := iN (2)) hx hb d_law_759 (by decide) ?_
  refine ri_add (a := i) (b := 2) hx hb d_law_760 rfl rfl ?_
  refine va_sld hx hb hX hbl hbA w.2.2.1 (i := iN (i + 2)) (vin (by omega) (by omega) (by omega)) d_law_761 ?_
  rw [ez2]
  refine g_ci w (g_runV (As := [.int (iN z1), .int (iN z2)]) (rest := [.int r1]) X w (c_M_mixed l (f := g1) g0 hI h11 h12 hok hhu (z := z1) hz1 (z2 := z2) hz2 (js_su M hgs (Or.inl rfl))) k_M_mixed v_M_mixed lk_law_104 g0.1.1 (show mSt cI mo A g1 v F mo = .inr (4, _) from mS_m) rfl ⟨(Nat.le_of_ble_eq_true rfl), (Nat.le_of_ble_eq_true rfl)⟩ rfl hl.1 rfl (Nat.le_of_ble_eq_true rfl) d_law_762 ⟨Nat.le_refl _, Nat.le_refl _⟩) (fun r2 u H locs hp w => ?_)
  obtain ⟨hr2, hm⟩ := hp
  obtain ⟨f2, v2, F2, rfl, J2⟩ := js_mk g0 d0 hc1 (fun i9 h9 => hS1 i9 (by omega)) hm hgs
  have w : gw D (lwA s) s.heap H locs L f2 := w
  refine lv_icmp_eq (tgt := 877) hx hb d_law_765 (by decide) (fun c9 => ?_) (fun c9 => ?_)
  · exact kk _ _ _ _ _ _ _ _ _ J2 w
  · exact absurd (by rw [hr1, hr2]; by_cases q9 : flA K S z1 z2 = 0; (rw [if_pos q9, if_pos q9]; obtain ⟨⟨hA, hB⟩, hnA, hnB⟩ := flA_0 q9; have hGA := hgs z1.toNat (by omega); have hGB := hgs z2.toNat (by omega); rw [show sumF (hullF (S z1.toNat)) (hullF ((S z2.toNat).map (sgm 1))) = sumH (S z1.toNat) (S z2.toNat) 1 from rfl, M.are, M.are, M.are, sgm_1]); rw [if_neg q9, if_neg q9]) c9
set_option maxHeartbeats 4000000 in
set_option maxRecDepth 100000 in
theorem lc_26 (T : lst p m c s b n xs D cI cR L rx ry ra h ar ci lo mo A) (J : JS cI cR rx ry ra h ar ci lo mo A f v F K t1 t2 S) (w : gw D (lwA s) s.heap H locs L f) (hl : lv_has ls 4 [(3, .int (iN (i))), (2, .ref mo), (1, .ref h), (0, .ref b)]) (hi : 0 ≤ i ∧ i + 4 ≤ n) (kk : ∀ (H' : Heap) (locs' : List Loc) (f' : Nat → va_E) (v' : Nat → Int) (F' : Nat → Nat → Int) (K' t1' t2' : Int) (S' : Nat → List Pt), JS cI cR rx ry ra h ar ci lo mo A f' v' F' K' t1' t2' S' → gw D (lwA s) s.heap H' locs' L f' → W p l e room_1 s m #[Value.ref b] below meth c H' locs' 600000 7302250 Q (F0 m 877 ls [])) : W p l e room_1 s m #[Value.ref b] below meth c H locs 600000 7302250 Q (F0 m 854 ls []) := by
  obtain ⟨X, hX, hbl, G, g0, d0, hn, M⟩ := T
  obtain ⟨hJ, hc, hI, h11, h12, hgs⟩ := J
  have hx := X.1.1
  have hb := X.1.2.1
  have hbA : ¬ lwA s b := Nat.not_le.mpr hbl
  have hok := js_ok hgs
  have hhu := js_hu M hgs
  have hK : 0 ≤ K ∧ K ≤ 8 := ⟨hI.2.2.1, hI.2.2.2.1⟩
  obtain ⟨z1, hz1, ez1⟩ := iN_ex (xs (iN (i + 1)).toNatClampNeg)
  obtain ⟨z2, hz2, ez2⟩ := iN_ex (xs (iN (i + 2)).toNatClampNeg)
  obtain ⟨z3, hz3, ez3⟩ := iN_ex (xs (iN (i + 3)).toNatClampNeg)
  refine lv_aload_n hx hb d_law_854 rfl (lv_at hl 2 rfl) ?_
  refine lv_aload_n hx hb d_law_855 rfl (lv_at hl 3 rfl) ?_
  refine lv_iload_n hx hb d_law_856 rfl (lv_at hl 0 rfl) ?_
  refine lv_iconst (v := iN (1)) hx hb d_law_857 (by decide) ?_
  refine ri_add (a := i) (b := 1) hx hb d_law_858 rfl rfl ?_
  refine va_sld hx hb hX hbl hbA w.2.2.1 (i := iN (i + 1)) (vin (by omega) (by omega) (by omega)) d_law_859 ?_
  rw [ez1]
  refine g_ci w (g_runV (As := [.int (iN z1)]) (rest := []) X w (c_H_told l G hc hok (wh := z1) hz1) k_H_told v_H_told lk_law_122 G.1.1 hc.1 rfl ⟨(Nat.le_of_ble_eq_true rfl), (Nat.le_of_ble_eq_true rfl)⟩ rfl hl.1 rfl (Nat.le_of_ble_eq_true rfl) d_law_860 ⟨Nat.le_refl _, Nat.le_refl _⟩) (fun r1 u H locs hp w => ?_)
  obtain ⟨hr1, rfl⟩ := hp
  have w : gw D (lwA s) s.heap H locs L f := w
  obtain ⟨g1, S1, hc1, hS1, hu1, eg1⟩ : ∃ (g1 : Nat → va_E) (S1 : Nat → List Pt), clsIs cI cR rx ry ra h ar ci lo g1 K t1 t2 S1 ∧ (∀ i, i < 8 → S1 i = S i) ∧ unch rx ry ra h ar ci lo f g1 ∧ g1 = f := ⟨f, S, hc, fun _ _ => rfl, unch_rf, rfl⟩
  have w : gw D (lwA s) s.heap H locs L g1 := by rw [eg1]; exact w
  have hg1 := js_cls g0 d0 hJ hu1
  have w : gw D (lwA s) s.heap H locs L (mSt cI mo A g1 v F) := by rw [hg1]; exact w
  refine lv_aload_n hx hb d_law_863 rfl (lv_at hl 1 rfl) ?_
  refine lv_aload_n hx hb d_law_864 rfl (lv_at hl 3 rfl) ?_
  refine lv_iload_n hx hb d_law_865 rfl (lv_at hl 0 rfl) ?_
  refine lv_iconst (v := iN (1)) hx hb d_law_866 (by decide) ?_
  refine ri_add (a := i) (b := 1) hx hb d_law_867 rfl rfl ?_
  refine va_sld hx hb hX hbl hbA w.2.2.1 (i := iN (i + 1)) (vin (by omega) (by omega) (by omega)) d_law_868 ?_
  rw [ez1]
  refine g_ci w (g_runV (As := [.int (iN z1)]) (rest := [.int r1]) X w (c_M_told l (f := g1) g0 hI h11 h12 (wh := z1) hz1) k_M_told v_M_told lk_law_125 g0.1.1 (show mSt cI mo A g1 v F mo = .inr (4, _) from mS_m) rfl ⟨(Nat.le_of_ble_eq_true rfl), (Nat.le_of_ble_eq_true rfl)⟩ rfl hl.1 rfl (Nat.le_of_ble_eq_true rfl) d_law_869 ⟨Nat.le_refl _, Nat.le_refl _⟩) (fun r2 u H locs hp w => ?_)
  obtain ⟨hr2, hu2⟩ := hp
  have hm : mpost L cI mo A g1 K t1 t2 S u := ⟨v, F, hu2, hI, h11, h12⟩
  obtain ⟨f2, v2, F2, rfl, J2⟩ := js_mk g0 d0 hc1 (fun i9 h9 => hS1 i9 (by omega)) hm hgs
  have w : gw D (lwA s) s.heap H locs L f2 := w
  refine lv_icmp_eq (tgt := 877) hx hb d_law_872 (by decide) (fun c9 => ?_) (fun c9 => ?_)
  · exact kk _ _ _ _ _ _ _ _ _ J2 w
  · exact absurd (by rw [hr1, hr2]) c9
set_option maxHeartbeats 4000000 in
set_option maxRecDepth 100000 in
theorem lc_6 (T : lst p m c s b n xs D cI cR L rx ry ra h ar ci lo mo A) (J : JS cI cR rx ry ra h ar ci lo mo A f v F K t1 t2 S) (w : gw D (lwA s) s.heap H locs L f) (hl : lv_has ls 4 [(3, .int (iN (i))), (2, .ref mo), (1, .ref h), (0, .ref b)]) (hi : 0 ≤ i ∧ i + 4 ≤ n) (kk : ∀ (H' : Heap) (locs' : List Loc) (f' : Nat → va_E) (v' : Nat → Int) (F' : Nat → Nat → Int) (K' t1' t2' : Int) (S' : Nat → List Pt), JS cI cR rx ry ra h ar ci lo mo A f' v' F' K' t1' t2' S' → gw D (lwA s) s.heap H' locs' L f' → W p l e room_1 s m #[Value.ref b] below meth c H' locs' 600000 7302250 Q (F0 m 877 ls [])) : W p l e room_1 s m #[Value.ref b] below meth c H locs 600000 7302250 Q (F0 m 292 ls []) := by
  obtain ⟨X, hX, hbl, G, g0, d0, hn, M⟩ := T
  obtain ⟨hJ, hc, hI, h11, h12, hgs⟩ := J
  have hx := X.1.1
  have hb := X.1.2.1
  have hbA : ¬ lwA s b := Nat.not_le.mpr hbl
  have hok := js_ok hgs
  have hhu := js_hu M hgs
  have hK : 0 ≤ K ∧ K ≤ 8 := ⟨hI.2.2.1, hI.2.2.2.1⟩
  obtain ⟨z1, hz1, ez1⟩ := iN_ex (xs (iN (i + 1)).toNatClampNeg)
  obtain ⟨z2, hz2, ez2⟩ := iN_ex (xs (iN (i + 2)).toNatClampNeg)
  obtain ⟨z3, hz3, ez3⟩ := iN_ex (xs (iN (i + 3)).toNatClampNeg)
  refine lv_aload_n hx hb d_law_292 rfl (lv_at hl 2 rfl) ?_
  refine lv_aload_n hx hb d_law_293 rfl (lv_at hl 3 rfl) ?_
  refine lv_iload_n hx hb d_law_294 rfl (lv_at hl 0 rfl) ?_
  refine lv_iconst (v := iN (1)) hx hb d_law_295 (by decide) ?_
  refine ri_add (a := i) (b := 1) hx hb d_law_296 rfl rfl ?_
  refine va_sld hx hb hX hbl hbA w.2.2.1 (i := iN (i + 1)) (vin (by omega) (by omega) (by omega)) d_law_297 ?_
  rw [ez1]
  refine lv_aload_n hx hb d_law_298 rfl (lv_at hl 3 rfl) ?_
  refine lv_iload_n hx hb d_law_299 rfl (lv_at hl 0 rfl) ?_
  refine lv_iconst (v := iN (2)) hx hb d_law_300 (by decide) ?_
  refine ri_add (a := i) (b := 2) hx hb d_law_301 rfl rfl ?_
  refine va_sld hx hb hX hbl hbA w.2.2.1 (i := iN (i + 2)) (vin (by omega) (by omega) (by omega)) d_law_302 ?_
  rw [ez2]
  refine g_ci w (g_runV (As := [.int (iN z1), .int (iN z2)]) (rest := []) X w (c_H_corner l G hc hok (z := z1) hz1 (i := z2) hz2) k_H_corner v_H_corner lk_law_40 G.1.1 hc.1 rfl ⟨(Nat.le_of_ble_eq_true rfl), (Nat.le_of_ble_eq_true rfl)⟩ rfl hl.1 rfl (Nat.le_of_ble_eq_true rfl) d_law_303 ⟨Nat.le_refl _, Nat.le_refl _⟩) (fun r1 u H locs hp w => ?_)
  obtain ⟨hr1, hp⟩ := hp
  unfold crT at hp
  by_cases c8 : (0 ≤ z1 ∧ z1 < K) ∧ 0 ≤ z2 ∧ z2 < (hullF (S z1.toNat)).length
  · skip
    rw [if_pos c8] at hp
    obtain ⟨g1, S1, rfl, hc1, hS1, hu1⟩ := hp
    have w : gw D (lwA s) s.heap H locs L g1 := w
    have hg1 := js_cls g0 d0 hJ hu1
    have w : gw D (lwA s) s.heap H locs L (mSt cI mo A g1 v F) := by rw [hg1]; exact w
    refine lv_aload_n hx hb d_law_306 rfl (lv_at hl 1 rfl) ?_
    refine lv_aload_n hx hb d_law_307 rfl (lv_at hl 3 rfl) ?_
    refine lv_iload_n hx hb d_law_308 rfl (lv_at hl 0 rfl) ?_
    refine lv_iconst (v := iN (1)) hx hb d_law_309 (by decide) ?_
    refine ri_add (a := i) (b := 1) hx hb d_law_310 rfl rfl ?_
    refine va_sld hx hb hX hbl hbA w.2.2.1 (i := iN (i + 1)) (vin (by omega) (by omega) (by omega)) d_law_311 ?_
    rw [ez1]
    refine lv_aload_n hx hb d_law_312 rfl (lv_at hl 3 rfl) ?_
    refine lv_iload_n hx hb d_law_313 rfl (lv_at hl 0 rfl) ?_
    refine lv_iconst (v := iN (2)) hx hb d_law_314 (by decide) ?_
    refine ri_add (a := i) (b := 2) hx hb d_law_315 rfl rfl ?_
    refine va_sld hx hb hX hbl hbA w.2.2.1 (i := iN (i + 2)) (vin (by omega) (by omega) (by omega)) d_law_316 ?_
    rw [ez2]
    refine g_ci w (g_runV (As := [.int (iN z1), .int (iN z2)]) (rest := [.int r1]) X w (c_M_corner l (f := g1) g0 hI h11 h12 hok hhu (z := z1) hz1 (i := z2) hz2) k_M_corner v_M_corner lk_law_44 g0.1.1 (show mSt cI mo A g1 v F mo = .inr (4, _) from mS_m) rfl ⟨(Nat.le_of_ble_eq_true rfl), (Nat.le_of_ble_eq_true rfl)⟩ rfl hl.1 rfl (Nat.le_of_ble_eq_true rfl) d_law_317 ⟨Nat.le_refl _, Nat.le_refl _⟩) (fun r2 u H locs hp w => ?_)
    obtain ⟨hr2, hm⟩ := hp
    unfold crT at hm
    rw [if_pos c8] at hm
    obtain ⟨f2, v2, F2, rfl, J2⟩ := js_mk g0 d0 hc1 (fun i9 h9 => hS1 i9 (by omega)) hm hgs
    have w : gw D (lwA s) s.heap H locs L f2 := w
    refine lv_icmp_eq (tgt := 877) hx hb d_law_320 (by decide) (fun c9 => ?_) (fun c9 => ?_)
    · exact kk _ _ _ _ _ _ _ _ _ J2 w
    · exact absurd (by rw [hr1, hr2]) c9
  · skip
    rw [if_neg c8] at hp
    obtain ⟨g1, S1, rfl, hc1, hS1, hu1⟩ := hp
    have w : gw D (lwA s) s.heap H locs L g1 := w
    have hg1 := js_cls g0 d0 hJ hu1
    have w : gw D (lwA s) s.heap H locs L (mSt cI mo A g1 v F) := by rw [hg1]; exact w
    refine lv_aload_n hx hb d_law_306 rfl (lv_at hl 1 rfl) ?_
    refine lv_aload_n hx hb d_law_307 rfl (lv_at hl 3 rfl) ?_
    refine lv_iload_n hx hb d_law_308 rfl (lv_at hl 0 rfl) ?_
    refine lv_iconst (v := iN (1)) hx hb d_law_309 (by decide) ?_
    refine ri_add (a := i) (b := 1) hx hb d_law_310 rfl rfl ?_
    refine va_sld hx hb hX hbl hbA w.2.2.1 (i := iN (i + 1)) (vin (by omega) (by omega) (by omega)) d_law_311 ?_
    rw [ez1]
    refine lv_aload_n hx hb d_law_312 rfl (lv_at hl 3 rfl) ?_
    refine lv_iload_n hx hb d_law_313 rfl (lv_at hl 0 rfl) ?_
    refine lv_iconst (v := iN (2)) hx hb d_law_314 (by decide) ?_
    refine ri_add (a := i) (b := 2) hx hb d_law_315 rfl rfl ?_
    refine va_sld hx hb hX hbl hbA w.2.2.1 (i := iN (i + 2)) (vin (by omega) (by omega) (by omega)) d_law_316 ?_
    rw [ez2]
    refine g_ci w (g_runV (As := [.int (iN z1), .int (iN z2)]) (rest := [.int r1]) X w (c_M_corner l (f := g1) g0 hI h11 h12 hok hhu (z := z1) hz1 (i := z2) hz2) k_M_corner v_M_corner lk_law_44 g0.1.1 (show mSt cI mo A g1 v F mo = .inr (4, _) from mS_m) rfl ⟨(Nat.le_of_ble_eq_true rfl), (Nat.le_of_ble_eq_true rfl)⟩ rfl hl.1 rfl (Nat.le_of_ble_eq_true rfl) d_law_317 ⟨Nat.le_refl _, Nat.le_refl _⟩) (fun r2 u H locs hp w => ?_)
    obtain ⟨hr2, hm⟩ := hp
    unfold crT at hm
    rw [if_neg c8] at hm
    obtain ⟨f2, v2, F2, rfl, J2⟩ := js_mk g0 d0 hc1 (fun i9 h9 => hS1 i9 (by omega)) hm hgs
    have w : gw D (lwA s) s.heap H locs L f2 := w
    refine lv_icmp_eq (tgt := 877) hx hb d_law_320 (by decide) (fun c9 => ?_) (fun c9 => ?_)
    · exact kk _ _ _ _ _ _ _ _ _ J2 w
    · exact absurd (by rw [hr1, hr2]) c9
set_option maxHeartbeats 4000000 in
set_option maxRecDepth 100000 in
theorem lc_13 (T : lst p m c s b n xs D cI cR L rx ry ra h ar ci lo mo A) (J : JS cI cR rx ry ra h ar ci lo mo A f v F K t1 t2 S) (w : gw D (lwA s) s.heap H locs L f) (hl : lv_has ls 4 [(3, .int (iN (i))), (2, .ref mo), (1, .ref h), (0, .ref b)]) (hi : 0 ≤ i ∧ i + 4 ≤ n) (kk : ∀ (H' : Heap) (locs' : List Loc) (f' : Nat → va_E) (v' : Nat → Int) (F' : Nat → Nat → Int) (K' t1' t2' : Int) (S' : Nat → List Pt), JS cI cR rx ry ra h ar ci lo mo A f' v' F' K' t1' t2' S' → gw D (lwA s) s.heap H' locs' L f' → W p l e room_1 s m #[Value.ref b] below meth c H' locs' 600000 7302250 Q (F0 m 877 ls [])) : W p l e room_1 s m #[Value.ref b] below meth c H locs 600000 7302250 Q (F0 m 473 ls []) := by
  obtain ⟨X, hX, hbl, G, g0, d0, hn, M⟩ := T
  obtain ⟨hJ, hc, hI, h11, h12, hgs⟩ := J
  have hx := X.1.1
  have hb := X.1.2.1
  have hbA : ¬ lwA s b := Nat.not_le.mpr hbl
  have hok := js_ok hgs
  have hhu := js_hu M hgs
  have hK : 0 ≤ K ∧ K ≤ 8 := ⟨hI.2.2.1, hI.2.2.2.1⟩
  obtain ⟨z1, hz1, ez1⟩ := iN_ex (xs (iN (i + 1)).toNatClampNeg)
  obtain ⟨z2, hz2, ez2⟩ := iN_ex (xs (iN (i + 2)).toNatClampNeg)
  obtain ⟨z3, hz3, ez3⟩ := iN_ex (xs (iN (i + 3)).toNatClampNeg)
  refine lv_aload_n hx hb d_law_473 rfl (lv_at hl 2 rfl) ?_
  refine lv_aload_n hx hb d_law_474 rfl (lv_at hl 3 rfl) ?_
  refine lv_iload_n hx hb d_law_475 rfl (lv_at hl 0 rfl) ?_
  refine lv_iconst (v := iN (1)) hx hb d_law_476 (by decide) ?_
  refine ri_add (a := i) (b := 1) hx hb d_law_477 rfl rfl ?_
  refine va_sld hx hb hX hbl hbA w.2.2.1 (i := iN (i + 1)) (vin (by omega) (by omega) (by omega)) d_law_478 ?_
  rw [ez1]
  refine g_ci w (g_runV (As := [.int (iN z1)]) (rest := []) X w (c_H_width l G hc hok (z := z1) hz1) k_H_width v_H_width lk_law_69 G.1.1 hc.1 rfl ⟨(Nat.le_of_ble_eq_true rfl), (Nat.le_of_ble_eq_true rfl)⟩ rfl hl.1 rfl (Nat.le_of_ble_eq_true rfl) d_law_479 ⟨Nat.le_refl _, Nat.le_refl _⟩) (fun r1 u H locs hp w => ?_)
  obtain ⟨hr1, hp⟩ := hp
  unfold crT at hp
  by_cases c8 : (0 ≤ z1 ∧ z1 < K) ∧ (S z1.toNat).length ≠ 0
  · skip
    rw [if_pos c8] at hp
    obtain ⟨g1, S1, rfl, hc1, hS1, hu1⟩ := hp
    have w : gw D (lwA s) s.heap H locs L g1 := w
    have hg1 := js_cls g0 d0 hJ hu1
    have w : gw D (lwA s) s.heap H locs L (mSt cI mo A g1 v F) := by rw [hg1]; exact w
    refine lv_aload_n hx hb d_law_482 rfl (lv_at hl 1 rfl) ?_
    refine lv_aload_n hx hb d_law_483 rfl (lv_at hl 3 rfl) ?_
    refine lv_iload_n hx hb d_law_484 rfl (lv_at hl 0 rfl) ?_
    refine lv_iconst (v := iN (1)) hx hb d_law_485 (by decide) ?_
    refine ri_add (a := i) (b := 1) hx hb d_law_486 rfl rfl ?_
    refine va_sld hx hb hX hbl hbA w.2.2.1 (i := iN (i + 1)) (vin (by omega) (by omega) (by omega)) d_law_487 ?_
    rw [ez1]
    refine g_ci w (g_runV (As := [.int (iN z1)]) (rest := [.int r1]) X w (c_M_width l (f := g1) g0 hI h11 h12 hok hhu (z := z1) hz1 (js_nd hgs)) k_M_width v_M_width lk_law_72 g0.1.1 (show mSt cI mo A g1 v F mo = .inr (4, _) from mS_m) rfl ⟨(Nat.le_of_ble_eq_true rfl), (Nat.le_of_ble_eq_true rfl)⟩ rfl hl.1 rfl (Nat.le_of_ble_eq_true rfl) d_law_488 ⟨Nat.le_refl _, Nat.le_refl _⟩) (fun r2 u H locs hp w => ?_)
    obtain ⟨hr2, hm⟩ := hp
    unfold crT at hm
    rw [if_pos c8] at hm
    obtain ⟨e1, e2⟩ := M.wdt _ (hgs z1.toNat (by omega)) c8.2
    rw [← e1, ← e2] at hm
    obtain ⟨f2, v2, F2, rfl, J2⟩ := js_mk g0 d0 hc1 (fun i9 h9 => hS1 i9 (by omega)) hm hgs
    have w : gw D (lwA s) s.heap H locs L f2 := w
    refine lv_icmp_eq (tgt := 877) hx hb d_law_491 (by decide) (fun c9 => ?_) (fun c9 => ?_)
    · exact kk _ _ _ _ _ _ _ _ _ J2 w
    · exact absurd (by rw [hr1, hr2]) c9
  · skip
    rw [if_neg c8] at hp
    obtain ⟨g1, S1, rfl, hc1, hS1, hu1⟩ := hp
    have w : gw D (lwA s) s.heap H locs L g1 := w
    have hg1 := js_cls g0 d0 hJ hu1
    have w : gw D (lwA s) s.heap H locs L (mSt cI mo A g1 v F) := by rw [hg1]; exact w
    refine lv_aload_n hx hb d_law_482 rfl (lv_at hl 1 rfl) ?_
    refine lv_aload_n hx hb d_law_483 rfl (lv_at hl 3 rfl) ?_
    refine lv_iload_n hx hb d_law_484 rfl (lv_at hl 0 rfl) ?_
    refine lv_iconst (v := iN (1)) hx hb d_law_485 (by decide) ?_
    refine ri_add (a := i) (b := 1) hx hb d_law_486 rfl rfl ?_
    refine va_sld hx hb hX hbl hbA w.2.2.1 (i := iN (i + 1)) (vin (by omega) (by omega) (by omega)) d_law_487 ?_
    rw [ez1]
    refine g_ci w (g_runV (As := [.int (iN z1)]) (rest := [.int r1]) X w (c_M_width l (f := g1) g0 hI h11 h12 hok hhu (z := z1) hz1 (js_nd hgs)) k_M_width v_M_width lk_law_72 g0.1.1 (show mSt cI mo A g1 v F mo = .inr (4, _) from mS_m) rfl ⟨(Nat.le_of_ble_eq_true rfl), (Nat.le_of_ble_eq_true rfl)⟩ rfl hl.1 rfl (Nat.le_of_ble_eq_true rfl) d_law_488 ⟨Nat.le_refl _, Nat.le_refl _⟩) (fun r2 u H locs hp w => ?_)
    obtain ⟨hr2, hm⟩ := hp
    unfold crT at hm
    rw [if_neg c8] at hm
    obtain ⟨f2, v2, F2, rfl, J2⟩ := js_mk g0 d0 hc1 (fun i9 h9 => hS1 i9 (by omega)) hm hgs
    have w : gw D (lwA s) s.heap H locs L f2 := w
    refine lv_icmp_eq (tgt := 877) hx hb d_law_491 (by decide) (fun c9 => ?_) (fun c9 => ?_)
    · exact kk _ _ _ _ _ _ _ _ _ J2 w
    · exact absurd (by rw [hr1, hr2]) c9
set_option maxHeartbeats 4000000 in
set_option maxRecDepth 100000 in
theorem lc_20 (T : lst p m c s b n xs D cI cR L rx ry ra h ar ci lo mo A) (J : JS cI cR rx ry ra h ar ci lo mo A f v F K t1 t2 S) (w : gw D (lwA s) s.heap H locs L f) (hl : lv_has ls 4 [(3, .int (iN (i))), (2, .ref mo), (1, .ref h), (0, .ref b)]) (hi : 0 ≤ i ∧ i + 4 ≤ n) (kk : ∀ (H' : Heap) (locs' : List Loc) (f' : Nat → va_E) (v' : Nat → Int) (F' : Nat → Nat → Int) (K' t1' t2' : Int) (S' : Nat → List Pt), JS cI cR rx ry ra h ar ci lo mo A f' v' F' K' t1' t2' S' → gw D (lwA s) s.heap H' locs' L f' → W p l e room_1 s m #[Value.ref b] below meth c H' locs' 600000 7302250 Q (F0 m 877 ls [])) : W p l e room_1 s m #[Value.ref b] below meth c H locs 600000 7302250 Q (F0 m 694 ls []) := by
  obtain ⟨X, hX, hbl, G, g0, d0, hn, M⟩ := T
  obtain ⟨hJ, hc, hI, h11, h12, hgs⟩ := J
  have hx := X.1.1
  have hb := X.1.2.1
  have hbA : ¬ lwA s b := Nat.not_le.mpr hbl
  have hok := js_ok hgs
  have hhu := js_hu M hgs
  have hK : 0 ≤ K ∧ K ≤ 8 := ⟨hI.2.2.1, hI.2.2.2.1⟩
  obtain ⟨z1, hz1, ez1⟩ := iN_ex (xs (iN (i + 1)).toNatClampNeg)
  obtain ⟨z2, hz2, ez2⟩ := iN_ex (xs (iN (i + 2)).toNatClampNeg)
  obtain ⟨z3, hz3, ez3⟩ := iN_ex (xs (iN (i + 3)).toNatClampNeg)
  refine lv_aload_n hx hb d_law_694 rfl (lv_at hl 2 rfl) ?_
  refine lv_aload_n hx hb d_law_695 rfl (lv_at hl 3 rfl) ?_
  refine lv_iload_n hx hb d_law_696 rfl (lv_at hl 0 rfl) ?_
  refine lv_iconst (v := iN (1)) hx hb d_law_697 (by decide) ?_
  refine ri_add (a := i) (b := 1) hx hb d_law_698 rfl rfl ?_
  refine va_sld hx hb hX hbl hbA w.2.2.1 (i := iN (i + 1)) (vin (by omega) (by omega) (by omega)) d_law_699 ?_
  rw [ez1]
  refine lv_aload_n hx hb d_law_700 rfl (lv_at hl 3 rfl) ?_
  refine lv_iload_n hx hb d_law_701 rfl (lv_at hl 0 rfl) ?_
  refine lv_iconst (v := iN (2)) hx hb d_law_702 (by decide) ?_
  refine ri_add (a := i) (b := 2) hx hb d_law_703 rfl rfl ?_
  refine va_sld hx hb hX hbl hbA w.2.2.1 (i := iN (i + 2)) (vin (by omega) (by omega) (by omega)) d_law_704 ?_
  rw [ez2]
  refine lv_aload_n hx hb d_law_705 rfl (lv_at hl 3 rfl) ?_
  refine lv_iload_n hx hb d_law_706 rfl (lv_at hl 0 rfl) ?_
  refine lv_iconst (v := iN (3)) hx hb d_law_707 (by decide) ?_
  refine ri_add (a := i) (b := 3) hx hb d_law_708 rfl rfl ?_
  refine va_sld hx hb hX hbl hbA w.2.2.1 (i := iN (i + 3)) (vin (by omega) (by omega) (by omega)) d_law_709 ?_
  rw [ez3]
  refine g_ci w (g_runV (As := [.int (iN z1), .int (iN z2), .int (iN z3)]) (rest := []) X w (c_H_supports l G hc hok (z := z1) hz1 (x := z2) (y := z3) hz2 hz3) k_H_supports v_H_supports lk_law_97 G.1.1 hc.1 rfl ⟨(Nat.le_of_ble_eq_true rfl), (Nat.le_of_ble_eq_true rfl)⟩ rfl hl.1 rfl (Nat.le_of_ble_eq_true rfl) d_law_710 ⟨Nat.le_refl _, Nat.le_refl _⟩) (fun r1 u H locs hp w => ?_)
  obtain ⟨hr1, hp⟩ := hp
  unfold crT at hp
  by_cases c8 : (0 ≤ z1 ∧ z1 < K) ∧ ((-100 ≤ z2 ∧ z2 ≤ 100) ∧ (-100 ≤ z3 ∧ z3 ≤ 100)) ∧ (S z1.toNat).length ≠ 0
  · skip
    rw [if_pos c8] at hp
    obtain ⟨g1, S1, rfl, hc1, hS1, hu1⟩ := hp
    have w : gw D (lwA s) s.heap H locs L g1 := w
    have hg1 := js_cls g0 d0 hJ hu1
    have w : gw D (lwA s) s.heap H locs L (mSt cI mo A g1 v F) := by rw [hg1]; exact w
    refine lv_aload_n hx hb d_law_713 rfl (lv_at hl 1 rfl) ?_
    refine lv_aload_n hx hb d_law_714 rfl (lv_at hl 3 rfl) ?_
    refine lv_iload_n hx hb d_law_715 rfl (lv_at hl 0 rfl) ?_
    refine lv_iconst (v := iN (1)) hx hb d_law_716 (by decide) ?_
    refine ri_add (a := i) (b := 1) hx hb d_law_717 rfl rfl ?_
    refine va_sld hx hb hX hbl hbA w.2.2.1 (i := iN (i + 1)) (vin (by omega) (by omega) (by omega)) d_law_718 ?_
    rw [ez1]
    refine lv_aload_n hx hb d_law_719 rfl (lv_at hl 3 rfl) ?_
    refine lv_iload_n hx hb d_law_720 rfl (lv_at hl 0 rfl) ?_
    refine lv_iconst (v := iN (2)) hx hb d_law_721 (by decide) ?_
    refine ri_add (a := i) (b := 2) hx hb d_law_722 rfl rfl ?_
    refine va_sld hx hb hX hbl hbA w.2.2.1 (i := iN (i + 2)) (vin (by omega) (by omega) (by omega)) d_law_723 ?_
    rw [ez2]
    refine lv_aload_n hx hb d_law_724 rfl (lv_at hl 3 rfl) ?_
    refine lv_iload_n hx hb d_law_725 rfl (lv_at hl 0 rfl) ?_
    refine lv_iconst (v := iN (3)) hx hb d_law_726 (by decide) ?_
    refine ri_add (a := i) (b := 3) hx hb d_law_727 rfl rfl ?_
    refine va_sld hx hb hX hbl hbA w.2.2.1 (i := iN (i + 3)) (vin (by omega) (by omega) (by omega)) d_law_728 ?_
    rw [ez3]
    refine g_ci w (g_runV (As := [.int (iN z1), .int (iN z2), .int (iN z3)]) (rest := [.int r1]) X w (c_M_supports l (f := g1) g0 hI h11 h12 hok hhu (z := z1) hz1 (x := z2) (y := z3) hz2 hz3) k_M_supports v_M_supports lk_law_100 g0.1.1 (show mSt cI mo A g1 v F mo = .inr (4, _) from mS_m) rfl ⟨(Nat.le_of_ble_eq_true rfl), (Nat.le_of_ble_eq_true rfl)⟩ rfl hl.1 rfl (Nat.le_of_ble_eq_true rfl) d_law_729 ⟨Nat.le_refl _, Nat.le_refl _⟩) (fun r2 u H locs hp w => ?_)
    obtain ⟨hr2, hm⟩ := hp
    unfold crT at hm
    rw [if_pos c8] at hm
    have eS := M.sup _ z2 z3 (hgs z1.toNat (by omega)) c8.2.2
    have e1 := congrArg Prod.fst eS
    have e2 := congrArg Prod.snd eS
    dsimp only at e1 e2
    rw [← e2] at hm
    rw [← e1] at hm
    obtain ⟨f2, v2, F2, rfl, J2⟩ := js_mk g0 d0 hc1 (fun i9 h9 => hS1 i9 (by omega)) hm hgs
    have w : gw D (lwA s) s.heap H locs L f2 := w
    refine lv_icmp_eq (tgt := 877) hx hb d_law_732 (by decide) (fun c9 => ?_) (fun c9 => ?_)
    · exact kk _ _ _ _ _ _ _ _ _ J2 w
    · exact absurd (by rw [hr1, hr2]) c9
  · skip
    rw [if_neg c8] at hp
    obtain ⟨g1, S1, rfl, hc1, hS1, hu1⟩ := hp
    have w : gw D (lwA s) s.heap H locs L g1 := w
    have hg1 := js_cls g0 d0 hJ hu1
    have w : gw D (lwA s) s.heap H locs L (mSt cI mo A g1 v F) := by rw [hg1]; exact w
    refine lv_aload_n hx hb d_law_713 rfl (lv_at hl 1 rfl) ?_
    refine lv_aload_n hx hb d_law_714 rfl (lv_at hl 3 rfl) ?_
    refine lv_iload_n hx hb d_law_715 rfl (lv_at hl 0 rfl) ?_
    refine lv_iconst (v := iN (1)) hx hb d_law_716 (by decide) ?_
    refine ri_add (a := i) (b := 1) hx hb d_law_717 rfl rfl ?_
    refine va_sld hx hb hX hbl hbA w.2.2.1 (i := iN (i + 1)) (vin (by omega) (by omega) (by omega)) d_law_718 ?_
    rw [ez1]
    refine lv_aload_n hx hb d_law_719 rfl (lv_at hl 3 rfl) ?_
    refine lv_iload_n hx hb d_law_720 rfl (lv_at hl 0 rfl) ?_
    refine lv_iconst (v := iN (2)) hx hb d_law_721 (by decide) ?_
    refine ri_add (a := i) (b := 2) hx hb d_law_722 rfl rfl ?_
    refine va_sld hx hb hX hbl hbA w.2.2.1 (i := iN (i + 2)) (vin (by omega) (by omega) (by omega)) d_law_723 ?_
    rw [ez2]
    refine lv_aload_n hx hb d_law_724 rfl (lv_at hl 3 rfl) ?_
    refine lv_iload_n hx hb d_law_725 rfl (lv_at hl 0 rfl) ?_
    refine lv_iconst (v := iN (3)) hx hb d_law_726 (by decide) ?_
    refine ri_add (a := i) (b := 3) hx hb d_law_727 rfl rfl ?_
    refine va_sld hx hb hX hbl hbA w.2.2.1 (i := iN (i + 3)) (vin (by omega) (by omega) (by omega)) d_law_728 ?_
    rw [ez3]
    refine g_ci w (g_runV (As := [.int (iN z1), .int (iN z2), .int (iN z3)]) (rest := [.int r1]) X w (c_M_supports l (f := g1) g0 hI h11 h12 hok hhu (z := z1) hz1 (x := z2) (y := z3) hz2 hz3) k_M_supports v_M_supports lk_law_100 g0.1.1 (show mSt cI mo A g1 v F mo = .inr (4, _) from mS_m) rfl ⟨(Nat.le_of_ble_eq_true rfl), (Nat.le_of_ble_eq_true rfl)⟩ rfl hl.1 rfl (Nat.le_of_ble_eq_true rfl) d_law_729 ⟨Nat.le_refl _, Nat.le_refl _⟩) (fun r2 u H locs hp w => ?_)
    obtain ⟨hr2, hm⟩ := hp
    unfold crT at hm
    rw [if_neg c8] at hm
    obtain ⟨f2, v2, F2, rfl, J2⟩ := js_mk g0 d0 hc1 (fun i9 h9 => hS1 i9 (by omega)) hm hgs
    have w : gw D (lwA s) s.heap H locs L f2 := w
    refine lv_icmp_eq (tgt := 877) hx hb d_law_732 (by decide) (fun c9 => ?_) (fun c9 => ?_)
    · exact kk _ _ _ _ _ _ _ _ _ J2 w
    · exact absurd (by rw [hr1, hr2]) c9
set_option maxHeartbeats 4000000 in
set_option maxRecDepth 100000 in
theorem lc_18 (T : lst p m c s b n xs D cI cR L rx ry ra h ar ci lo mo A) (J : JS cI cR rx ry ra h ar ci lo mo A f v F K t1 t2 S) (w : gw D (lwA s) s.heap H locs L f) (hl : lv_has ls 4 [(3, .int (iN (i))), (2, .ref mo), (1, .ref h), (0, .ref b)]) (hi : 0 ≤ i ∧ i + 4 ≤ n) (kk : ∀ (H' : Heap) (locs' : List Loc) (f' : Nat → va_E) (v' : Nat → Int) (F' : Nat → Nat → Int) (K' t1' t2' : Int) (S' : Nat → List Pt), JS cI cR rx ry ra h ar ci lo mo A f' v' F' K' t1' t2' S' → gw D (lwA s) s.heap H' locs' L f' → W p l e room_1 s m #[Value.ref b] below meth c H' locs' 600000 7302250 Q (F0 m 877 ls [])) : W p l e room_1 s m #[Value.ref b] below meth c H locs 600000 7302250 Q (F0 m 618 ls []) := by
  obtain ⟨X, hX, hbl, G, g0, d0, hn, M⟩ := T
  obtain ⟨hJ, hc, hI, h11, h12, hgs⟩ := J
  have hx := X.1.1
  have hb := X.1.2.1
  have hbA : ¬ lwA s b := Nat.not_le.mpr hbl
  have hok := js_ok hgs
  have hhu := js_hu M hgs
  have hK : 0 ≤ K ∧ K ≤ 8 := ⟨hI.2.2.1, hI.2.2.2.1⟩
  obtain ⟨z1, hz1, ez1⟩ := iN_ex (xs (iN (i + 1)).toNatClampNeg)
  obtain ⟨z2, hz2, ez2⟩ := iN_ex (xs (iN (i + 2)).toNatClampNeg)
  obtain ⟨z3, hz3, ez3⟩ := iN_ex (xs (iN (i + 3)).toNatClampNeg)
  refine lv_aload_n hx hb d_law_618 rfl (lv_at hl 2 rfl) ?_
  refine lv_aload_n hx hb d_law_619 rfl (lv_at hl 3 rfl) ?_
  refine lv_iload_n hx hb d_law_620 rfl (lv_at hl 0 rfl) ?_
  refine lv_iconst (v := iN (1)) hx hb d_law_621 (by decide) ?_
  refine ri_add (a := i) (b := 1) hx hb d_law_622 rfl rfl ?_
  refine va_sld hx hb hX hbl hbA w.2.2.1 (i := iN (i + 1)) (vin (by omega) (by omega) (by omega)) d_law_623 ?_
  rw [ez1]
  refine lv_aload_n hx hb d_law_624 rfl (lv_at hl 3 rfl) ?_
  refine lv_iload_n hx hb d_law_625 rfl (lv_at hl 0 rfl) ?_
  refine lv_iconst (v := iN (2)) hx hb d_law_626 (by decide) ?_
  refine ri_add (a := i) (b := 2) hx hb d_law_627 rfl rfl ?_
  refine va_sld hx hb hX hbl hbA w.2.2.1 (i := iN (i + 2)) (vin (by omega) (by omega) (by omega)) d_law_628 ?_
  rw [ez2]
  refine g_ci w (g_runV (As := [.int (iN z1), .int (iN z2)]) (rest := []) X w (c_H_apart l G hc hok (z := z1) hz1 (z2 := z2) hz2 (js_HL M hgs (Or.inr rfl)) (js_SM M hgs (Or.inr rfl))) k_H_apart v_H_apart lk_law_89 G.1.1 hc.1 rfl ⟨(Nat.le_of_ble_eq_true rfl), (Nat.le_of_ble_eq_true rfl)⟩ rfl hl.1 rfl (Nat.le_of_ble_eq_true rfl) d_law_629 ⟨Nat.le_refl _, Nat.le_refl _⟩) (fun r1 u H locs hp w => ?_)
  obtain ⟨hr1, hp⟩ := hp
  unfold crT at hp
  by_cases c8 : flA K S z1 z2 = 0
  · skip
    rw [if_pos c8] at hp
    obtain ⟨g1, S1, rfl, hc1, hS1, hu1⟩ := hp
    have w : gw D (lwA s) s.heap H locs L g1 := w
    have hg1 := js_cls g0 d0 hJ hu1
    have w : gw D (lwA s) s.heap H locs L (mSt cI mo A g1 v F) := by rw [hg1]; exact w
    refine lv_aload_n hx hb d_law_632 rfl (lv_at hl 1 rfl) ?_
    refine lv_aload_n hx hb d_law_633 rfl (lv_at hl 3 rfl) ?_
    refine lv_iload_n hx hb d_law_634 rfl (lv_at hl 0 rfl) ?_
    refine lv_iconst (v := iN (1)) hx hb d_law_635 (by decide) ?_
    refine ri_add (a := i) (b := 1) hx hb d_law_636 rfl rfl ?_
    refine va_sld hx hb hX hbl hbA w.2.2.1 (i := iN (i + 1)) (vin (by omega) (by omega) (by omega)) d_law_637 ?_
    rw [ez1]
    refine lv_aload_n hx hb d_law_638 rfl (lv_at hl 3 rfl) ?_
    refine lv_iload_n hx hb d_law_639 rfl (lv_at hl 0 rfl) ?_
    refine lv_iconst (v := iN (2)) hx hb d_law_640 (by decide) ?_
    refine ri_add (a := i) (b := 2) hx hb d_law_641 rfl rfl ?_
    refine va_sld hx hb hX hbl hbA w.2.2.1 (i := iN (i + 2)) (vin (by omega) (by omega) (by omega)) d_law_642 ?_
    rw [ez2]
    refine g_ci w (g_runV (As := [.int (iN z1), .int (iN z2)]) (rest := [.int r1]) X w (c_M_apart l (f := g1) g0 hI h11 h12 hok hhu (z := z1) hz1 (z2 := z2) hz2 (js_su M hgs (Or.inr rfl))) k_M_apart v_M_apart lk_law_92 g0.1.1 (show mSt cI mo A g1 v F mo = .inr (4, _) from mS_m) rfl ⟨(Nat.le_of_ble_eq_true rfl), (Nat.le_of_ble_eq_true rfl)⟩ rfl hl.1 rfl (Nat.le_of_ble_eq_true rfl) d_law_643 ⟨Nat.le_refl _, Nat.le_refl _⟩) (fun r2 u H locs hp w => ?_)
    obtain ⟨hr2, hm⟩ := hp
    unfold crT at hm
    rw [if_pos c8] at hm
    obtain ⟨⟨hA, hB⟩, hnA, hnB⟩ := flA_0 c8
    obtain ⟨e1, e2⟩ := M.apa _ _ (hgs z1.toNat (by omega)) (hgs z2.toNat (by omega)) hnA hnB
    rw [← e1, ← e2] at hm
    obtain ⟨f2, v2, F2, rfl, J2⟩ := js_mk g0 d0 hc1 (fun i9 h9 => hS1 i9 (by omega)) hm hgs
    have w : gw D (lwA s) s.heap H locs L f2 := w
    refine lv_icmp_eq (tgt := 877) hx hb d_law_646 (by decide) (fun c9 => ?_) (fun c9 => ?_)
    · exact kk _ _ _ _ _ _ _ _ _ J2 w
    · exact absurd (by rw [hr1, hr2]) c9
  · skip
    rw [if_neg c8] at hp
    obtain ⟨g1, S1, rfl, hc1, hS1, hu1⟩ := hp
    have w : gw D (lwA s) s.heap H locs L g1 := w
    have hg1 := js_cls g0 d0 hJ hu1
    have w : gw D (lwA s) s.heap H locs L (mSt cI mo A g1 v F) := by rw [hg1]; exact w
    refine lv_aload_n hx hb d_law_632 rfl (lv_at hl 1 rfl) ?_
    refine lv_aload_n hx hb d_law_633 rfl (lv_at hl 3 rfl) ?_
    refine lv_iload_n hx hb d_law_634 rfl (lv_at hl 0 rfl) ?_
    refine lv_iconst (v := iN (1)) hx hb d_law_635 (by decide) ?_
    refine ri_add (a := i) (b := 1) hx hb d_law_636 rfl rfl ?_
    refine va_sld hx hb hX hbl hbA w.2.2.1 (i := iN (i + 1)) (vin (by omega) (by omega) (by omega)) d_law_637 ?_
    rw [ez1]
    refine lv_aload_n hx hb d_law_638 rfl (lv_at hl 3 rfl) ?_
    refine lv_iload_n hx hb d_law_639 rfl (lv_at hl 0 rfl) ?_
    refine lv_iconst (v := iN (2)) hx hb d_law_640 (by decide) ?_
    refine ri_add (a := i) (b := 2) hx hb d_law_641 rfl rfl ?_
    refine va_sld hx hb hX hbl hbA w.2.2.1 (i := iN (i + 2)) (vin (by omega) (by omega) (by omega)) d_law_642 ?_
    rw [ez2]
    refine g_ci w (g_runV (As := [.int (iN z1), .int (iN z2)]) (rest := [.int r1]) X w (c_M_apart l (f := g1) g0 hI h11 h12 hok hhu (z := z1) hz1 (z2 := z2) hz2 (js_su M hgs (Or.inr rfl))) k_M_apart v_M_apart lk_law_92 g0.1.1 (show mSt cI mo A g1 v F mo = .inr (4, _) from mS_m) rfl ⟨(Nat.le_of_ble_eq_true rfl), (Nat.le_of_ble_eq_true rfl)⟩ rfl hl.1 rfl (Nat.le_of_ble_eq_true rfl) d_law_643 ⟨Nat.le_refl _, Nat.le_refl _⟩) (fun r2 u H locs hp w => ?_)
    obtain ⟨hr2, hm⟩ := hp
    unfold crT at hm
    rw [if_neg c8] at hm
    obtain ⟨f2, v2, F2, rfl, J2⟩ := js_mk g0 d0 hc1 (fun i9 h9 => hS1 i9 (by omega)) hm hgs
    have w : gw D (lwA s) s.heap H locs L f2 := w
    refine lv_icmp_eq (tgt := 877) hx hb d_law_646 (by decide) (fun c9 => ?_) (fun c9 => ?_)
    · exact kk _ _ _ _ _ _ _ _ _ J2 w
    · exact absurd (by rw [hr1, hr2]) c9
set_option maxHeartbeats 4000000 in
set_option maxRecDepth 100000 in
theorem lc_14 (T : lst p m c s b n xs D cI cR L rx ry ra h ar ci lo mo A) (J : JS cI cR rx ry ra h ar ci lo mo A f v F K t1 t2 S) (w : gw D (lwA s) s.heap H locs L f) (hl : lv_has ls 4 [(3, .int (iN (i))), (2, .ref mo), (1, .ref h), (0, .ref b)]) (hi : 0 ≤ i ∧ i + 4 ≤ n) (kk : ∀ (H' : Heap) (locs' : List Loc) (f' : Nat → va_E) (v' : Nat → Int) (F' : Nat → Nat → Int) (K' t1' t2' : Int) (S' : Nat → List Pt), JS cI cR rx ry ra h ar ci lo mo A f' v' F' K' t1' t2' S' → gw D (lwA s) s.heap H' locs' L f' → W p l e room_1 s m #[Value.ref b] below meth c H' locs' 600000 7302250 Q (F0 m 877 ls [])) : W p l e room_1 s m #[Value.ref b] below meth c H locs 600000 7302250 Q (F0 m 496 ls []) := by
  obtain ⟨X, hX, hbl, G, g0, d0, hn, M⟩ := T
  obtain ⟨hJ, hc, hI, h11, h12, hgs⟩ := J
  have hx := X.1.1
  have hb := X.1.2.1
  have hbA : ¬ lwA s b := Nat.not_le.mpr hbl
  have hok := js_ok hgs
  have hhu := js_hu M hgs
  have hK : 0 ≤ K ∧ K ≤ 8 := ⟨hI.2.2.1, hI.2.2.2.1⟩
  obtain ⟨z1, hz1, ez1⟩ := iN_ex (xs (iN (i + 1)).toNatClampNeg)
  obtain ⟨z2, hz2, ez2⟩ := iN_ex (xs (iN (i + 2)).toNatClampNeg)
  obtain ⟨z3, hz3, ez3⟩ := iN_ex (xs (iN (i + 3)).toNatClampNeg)
  refine lv_aload_n hx hb d_law_496 rfl (lv_at hl 2 rfl) ?_
  refine lv_aload_n hx hb d_law_497 rfl (lv_at hl 3 rfl) ?_
  refine lv_iload_n hx hb d_law_498 rfl (lv_at hl 0 rfl) ?_
  refine lv_iconst (v := iN (1)) hx hb d_law_499 (by decide) ?_
  refine ri_add (a := i) (b := 1) hx hb d_law_500 rfl rfl ?_
  refine va_sld hx hb hX hbl hbA w.2.2.1 (i := iN (i + 1)) (vin (by omega) (by omega) (by omega)) d_law_501 ?_
  rw [ez1]
  refine lv_aload_n hx hb d_law_502 rfl (lv_at hl 3 rfl) ?_
  refine lv_iload_n hx hb d_law_503 rfl (lv_at hl 0 rfl) ?_
  refine lv_iconst (v := iN (2)) hx hb d_law_504 (by decide) ?_
  refine ri_add (a := i) (b := 2) hx hb d_law_505 rfl rfl ?_
  refine va_sld hx hb hX hbl hbA w.2.2.1 (i := iN (i + 2)) (vin (by omega) (by omega) (by omega)) d_law_506 ?_
  rw [ez2]
  refine g_ci w (g_runV (As := [.int (iN z1), .int (iN z2)]) (rest := []) X w (c_H_circle l G hc hok (z := z1) hz1 (wh := z2) hz2 (fun Q _ h9 => M.hne Q h9)) k_H_circle v_H_circle lk_law_73 G.1.1 hc.1 rfl ⟨(Nat.le_of_ble_eq_true rfl), (Nat.le_of_ble_eq_true rfl)⟩ rfl hl.1 rfl (Nat.le_of_ble_eq_true rfl) d_law_507 ⟨Nat.le_refl _, Nat.le_refl _⟩) (fun r1 u H locs hp w => ?_)
  obtain ⟨hr1, hp⟩ := hp
  unfold crT at hp
  by_cases c8 : (0 ≤ z1 ∧ z1 < K) ∧ (0 ≤ z2 ∧ z2 ≤ 2) ∧ (S z1.toNat).length ≠ 0
  · skip
    rw [if_pos c8] at hp
    obtain ⟨g1, S1, rfl, hc1, hS1, hu1⟩ := hp
    have w : gw D (lwA s) s.heap H locs L g1 := w
    have hg1 := js_cls g0 d0 hJ hu1
    have w : gw D (lwA s) s.heap H locs L (mSt cI mo A g1 v F) := by rw [hg1]; exact w
    refine lv_aload_n hx hb d_law_510 rfl (lv_at hl 1 rfl) ?_
    refine lv_aload_n hx hb d_law_511 rfl (lv_at hl 3 rfl) ?_
    refine lv_iload_n hx hb d_law_512 rfl (lv_at hl 0 rfl) ?_
    refine lv_iconst (v := iN (1)) hx hb d_law_513 (by decide) ?_
    refine ri_add (a := i) (b := 1) hx hb d_law_514 rfl rfl ?_
    refine va_sld hx hb hX hbl hbA w.2.2.1 (i := iN (i + 1)) (vin (by omega) (by omega) (by omega)) d_law_515 ?_
    rw [ez1]
    refine lv_aload_n hx hb d_law_516 rfl (lv_at hl 3 rfl) ?_
    refine lv_iload_n hx hb d_law_517 rfl (lv_at hl 0 rfl) ?_
    refine lv_iconst (v := iN (2)) hx hb d_law_518 (by decide) ?_
    refine ri_add (a := i) (b := 2) hx hb d_law_519 rfl rfl ?_
    refine va_sld hx hb hX hbl hbA w.2.2.1 (i := iN (i + 2)) (vin (by omega) (by omega) (by omega)) d_law_520 ?_
    rw [ez2]
    refine g_ci w (g_runV (As := [.int (iN z1), .int (iN z2)]) (rest := [.int r1]) X w (c_M_circle l (f := g1) g0 hI h11 h12 hok hhu (z := z1) hz1 (wh := z2) hz2 (js_cx M hgs)) k_M_circle v_M_circle lk_law_76 g0.1.1 (show mSt cI mo A g1 v F mo = .inr (4, _) from mS_m) rfl ⟨(Nat.le_of_ble_eq_true rfl), (Nat.le_of_ble_eq_true rfl)⟩ rfl hl.1 rfl (Nat.le_of_ble_eq_true rfl) d_law_521 ⟨Nat.le_refl _, Nat.le_refl _⟩) (fun r2 u H locs hp w => ?_)
    obtain ⟨hr2, x9, y9, q9, t9, s9, hcr, hm⟩ : r2 = iN 1 ∧ ∃ x y q t s, crc (S z1.toNat) x y q t s ∧ mpost L cI mo A g1 K (frac1 (ciN x y t z2) (ciD q s z2)) (frac2 (ciN x y t z2) (ciD q s z2)) S u := by rcases hp with ⟨h9, _⟩ | ⟨_, h9⟩; (exact absurd c8 h9); exact h9
    obtain ⟨e1, e2⟩ := M.cir _ x9 y9 q9 t9 s9 z2 (hgs z1.toNat (by omega)) hcr c8.2.1.1 c8.2.1.2
    rw [← e1, ← e2] at hm
    obtain ⟨f2, v2, F2, rfl, J2⟩ := js_mk g0 d0 hc1 (fun i9 h9 => hS1 i9 (by omega)) hm hgs
    have w : gw D (lwA s) s.heap H locs L f2 := w
    refine lv_icmp_eq (tgt := 877) hx hb d_law_524 (by decide) (fun c9 => ?_) (fun c9 => ?_)
    · exact kk _ _ _ _ _ _ _ _ _ J2 w
    · exact absurd (by rw [hr1, hr2]; rw [if_pos c8.1, if_pos c8.2.1, if_neg c8.2.2]) c9
  · skip
    rw [if_neg c8] at hp
    obtain ⟨g1, S1, rfl, hc1, hS1, hu1⟩ := hp
    have w : gw D (lwA s) s.heap H locs L g1 := w
    have hg1 := js_cls g0 d0 hJ hu1
    have w : gw D (lwA s) s.heap H locs L (mSt cI mo A g1 v F) := by rw [hg1]; exact w
    refine lv_aload_n hx hb d_law_510 rfl (lv_at hl 1 rfl) ?_
    refine lv_aload_n hx hb d_law_511 rfl (lv_at hl 3 rfl) ?_
    refine lv_iload_n hx hb d_law_512 rfl (lv_at hl 0 rfl) ?_
    refine lv_iconst (v := iN (1)) hx hb d_law_513 (by decide) ?_
    refine ri_add (a := i) (b := 1) hx hb d_law_514 rfl rfl ?_
    refine va_sld hx hb hX hbl hbA w.2.2.1 (i := iN (i + 1)) (vin (by omega) (by omega) (by omega)) d_law_515 ?_
    rw [ez1]
    refine lv_aload_n hx hb d_law_516 rfl (lv_at hl 3 rfl) ?_
    refine lv_iload_n hx hb d_law_517 rfl (lv_at hl 0 rfl) ?_
    refine lv_iconst (v := iN (2)) hx hb d_law_518 (by decide) ?_
    refine ri_add (a := i) (b := 2) hx hb d_law_519 rfl rfl ?_
    refine va_sld hx hb hX hbl hbA w.2.2.1 (i := iN (i + 2)) (vin (by omega) (by omega) (by omega)) d_law_520 ?_
    rw [ez2]
    refine g_ci w (g_runV (As := [.int (iN z1), .int (iN z2)]) (rest := [.int r1]) X w (c_M_circle l (f := g1) g0 hI h11 h12 hok hhu (z := z1) hz1 (wh := z2) hz2 (js_cx M hgs)) k_M_circle v_M_circle lk_law_76 g0.1.1 (show mSt cI mo A g1 v F mo = .inr (4, _) from mS_m) rfl ⟨(Nat.le_of_ble_eq_true rfl), (Nat.le_of_ble_eq_true rfl)⟩ rfl hl.1 rfl (Nat.le_of_ble_eq_true rfl) d_law_521 ⟨Nat.le_refl _, Nat.le_refl _⟩) (fun r2 u H locs hp w => ?_)
    obtain ⟨hr2, hm⟩ : r2 = iN (ciA K S z1 z2) ∧ mpost L cI mo A g1 K t1 t2 S u := by rcases hp with ⟨_, h9⟩ | ⟨h9, _⟩; (exact h9); exact absurd h9 c8
    obtain ⟨f2, v2, F2, rfl, J2⟩ := js_mk g0 d0 hc1 (fun i9 h9 => hS1 i9 (by omega)) hm hgs
    have w : gw D (lwA s) s.heap H locs L f2 := w
    refine lv_icmp_eq (tgt := 877) hx hb d_law_524 (by decide) (fun c9 => ?_) (fun c9 => ?_)
    · exact kk _ _ _ _ _ _ _ _ _ J2 w
    · exact absurd (by rw [hr1, hr2]; unfold ciA; rfl) c9
set_option maxHeartbeats 4000000 in
set_option maxRecDepth 100000 in
theorem lc_24 (T : lst p m c s b n xs D cI cR L rx ry ra h ar ci lo mo A) (J : JS cI cR rx ry ra h ar ci lo mo A f v F K t1 t2 S) (w : gw D (lwA s) s.heap H locs L f) (hl : lv_has ls 4 [(3, .int (iN (i))), (2, .ref mo), (1, .ref h), (0, .ref b)]) (hi : 0 ≤ i ∧ i + 4 ≤ n) (kk : ∀ (H' : Heap) (locs' : List Loc) (f' : Nat → va_E) (v' : Nat → Int) (F' : Nat → Nat → Int) (K' t1' t2' : Int) (S' : Nat → List Pt), JS cI cR rx ry ra h ar ci lo mo A f' v' F' K' t1' t2' S' → gw D (lwA s) s.heap H' locs' L f' → W p l e room_1 s m #[Value.ref b] below meth c H' locs' 600000 7302250 Q (F0 m 877 ls [])) : W p l e room_1 s m #[Value.ref b] below meth c H locs 600000 7302250 Q (F0 m 826 ls []) := by
  obtain ⟨X, hX, hbl, G, g0, d0, hn, M⟩ := T
  obtain ⟨hJ, hc, hI, h11, h12, hgs⟩ := J
  have hx := X.1.1
  have hb := X.1.2.1
  have hbA : ¬ lwA s b := Nat.not_le.mpr hbl
  have hok := js_ok hgs
  have hhu := js_hu M hgs
  have hK : 0 ≤ K ∧ K ≤ 8 := ⟨hI.2.2.1, hI.2.2.2.1⟩
  obtain ⟨z1, hz1, ez1⟩ := iN_ex (xs (iN (i + 1)).toNatClampNeg)
  obtain ⟨z2, hz2, ez2⟩ := iN_ex (xs (iN (i + 2)).toNatClampNeg)
  obtain ⟨z3, hz3, ez3⟩ := iN_ex (xs (iN (i + 3)).toNatClampNeg)
  refine lv_aload_n hx hb d_law_826 rfl (lv_at hl 2 rfl) ?_
  refine g_cl w (g_runV (As := []) (rest := []) X w (c_H_first l G hc) k_H_first v_H_first lk_law_113 G.1.1 hc.1 rfl ⟨(Nat.le_of_ble_eq_true rfl), (Nat.le_of_ble_eq_true rfl)⟩ rfl hl.1 rfl (Nat.le_of_ble_eq_true rfl) d_law_827 ⟨Nat.le_refl _, Nat.le_refl _⟩) (fun r1 u H locs hp w => ?_)
  obtain ⟨hr1, rfl⟩ := hp
  have w : gw D (lwA s) s.heap H locs L (mSt cI mo A f v F) := by rw [hJ]; exact w
  refine lv_aload_n hx hb d_law_830 rfl (lv_at hl 1 rfl) ?_
  refine g_cl w (g_runV (As := []) (rest := [.long r1]) X w (c_M_first l (f := f) g0 hI h11 h12) k_M_first v_M_first lk_law_117 g0.1.1 (show mSt cI mo A f v F mo = .inr (4, _) from mS_m) rfl ⟨(Nat.le_of_ble_eq_true rfl), (Nat.le_of_ble_eq_true rfl)⟩ rfl hl.1 rfl (Nat.le_of_ble_eq_true rfl) d_law_831 ⟨Nat.le_refl _, Nat.le_refl _⟩) (fun r2 u H locs hp w => ?_)
  obtain ⟨hr2, hu2⟩ := hp
  have hm : mpost L cI mo A f K t1 t2 S u := ⟨v, F, hu2, hI, h11, h12⟩
  obtain ⟨f2, v2, F2, rfl, J2⟩ := js_mk g0 d0 hc (fun _ _ => rfl) hm hgs
  have w : gw D (lwA s) s.heap H locs L f2 := w
  refine rj_ceq (a := (jN t1).toInt) (b := (jN t1).toInt) (tgt := 877) hx hb d_law_834 d_law_835 (by decide) (by rw [hr1, jN_self]) (by rw [hr2, jN_self]) (jN_i6 _) (jN_i6 _) (fun _ => ?_) (fun c9 => absurd rfl c9)
  exact kk _ _ _ _ _ _ _ _ _ J2 w
set_option maxHeartbeats 4000000 in
set_option maxRecDepth 100000 in
theorem lc_25 (T : lst p m c s b n xs D cI cR L rx ry ra h ar ci lo mo A) (J : JS cI cR rx ry ra h ar ci lo mo A f v F K t1 t2 S) (w : gw D (lwA s) s.heap H locs L f) (hl : lv_has ls 4 [(3, .int (iN (i))), (2, .ref mo), (1, .ref h), (0, .ref b)]) (hi : 0 ≤ i ∧ i + 4 ≤ n) (kk : ∀ (H' : Heap) (locs' : List Loc) (f' : Nat → va_E) (v' : Nat → Int) (F' : Nat → Nat → Int) (K' t1' t2' : Int) (S' : Nat → List Pt), JS cI cR rx ry ra h ar ci lo mo A f' v' F' K' t1' t2' S' → gw D (lwA s) s.heap H' locs' L f' → W p l e room_1 s m #[Value.ref b] below meth c H' locs' 600000 7302250 Q (F0 m 877 ls [])) : W p l e room_1 s m #[Value.ref b] below meth c H locs 600000 7302250 Q (F0 m 840 ls []) := by
  obtain ⟨X, hX, hbl, G, g0, d0, hn, M⟩ := T
  obtain ⟨hJ, hc, hI, h11, h12, hgs⟩ := J
  have hx := X.1.1
  have hb := X.1.2.1
  have hbA : ¬ lwA s b := Nat.not_le.mpr hbl
  have hok := js_ok hgs
  have hhu := js_hu M hgs
  have hK : 0 ≤ K ∧ K ≤ 8 := ⟨hI.2.2.1, hI.2.2.2.1⟩
  obtain ⟨z1, hz1, ez1⟩ := iN_ex (xs (iN (i + 1)).toNatClampNeg)
  obtain ⟨z2, hz2, ez2⟩ := iN_ex (xs (iN (i + 2)).toNatClampNeg)
  obtain ⟨z3, hz3, ez3⟩ := iN_ex (xs (iN (i + 3)).toNatClampNeg)
  refine lv_aload_n hx hb d_law_840 rfl (lv_at hl 2 rfl) ?_
  refine g_cl w (g_runV (As := []) (rest := []) X w (c_H_second l G hc) k_H_second v_H_second lk_law_118 G.1.1 hc.1 rfl ⟨(Nat.le_of_ble_eq_true rfl), (Nat.le_of_ble_eq_true rfl)⟩ rfl hl.1 rfl (Nat.le_of_ble_eq_true rfl) d_law_841 ⟨Nat.le_refl _, Nat.le_refl _⟩) (fun r1 u H locs hp w => ?_)
  obtain ⟨hr1, rfl⟩ := hp
  have w : gw D (lwA s) s.heap H locs L (mSt cI mo A f v F) := by rw [hJ]; exact w
  refine lv_aload_n hx hb d_law_844 rfl (lv_at hl 1 rfl) ?_
  refine g_cl w (g_runV (As := []) (rest := [.long r1]) X w (c_M_second l (f := f) g0 hI h11 h12) k_M_second v_M_second lk_law_121 g0.1.1 (show mSt cI mo A f v F mo = .inr (4, _) from mS_m) rfl ⟨(Nat.le_of_ble_eq_true rfl), (Nat.le_of_ble_eq_true rfl)⟩ rfl hl.1 rfl (Nat.le_of_ble_eq_true rfl) d_law_845 ⟨Nat.le_refl _, Nat.le_refl _⟩) (fun r2 u H locs hp w => ?_)
  obtain ⟨hr2, hu2⟩ := hp
  have hm : mpost L cI mo A f K t1 t2 S u := ⟨v, F, hu2, hI, h11, h12⟩
  obtain ⟨f2, v2, F2, rfl, J2⟩ := js_mk g0 d0 hc (fun _ _ => rfl) hm hgs
  have w : gw D (lwA s) s.heap H locs L f2 := w
  refine rj_ceq (a := (jN t2).toInt) (b := (jN t2).toInt) (tgt := 877) hx hb d_law_848 d_law_849 (by decide) (by rw [hr1, jN_self]) (by rw [hr2, jN_self]) (jN_i6 _) (jN_i6 _) (fun _ => ?_) (fun c9 => absurd rfl c9)
  exact kk _ _ _ _ _ _ _ _ _ J2 w
set_option maxHeartbeats 4000000 in
set_option maxRecDepth 100000 in
theorem lc_0 (T : lst p m c s b n xs D cI cR L rx ry ra h ar ci lo mo A) (J : JS cI cR rx ry ra h ar ci lo mo A f v F K t1 t2 S) (w : gw D (lwA s) s.heap H locs L f) (hl : lv_has ls 4 [(3, .int (iN (i))), (2, .ref mo), (1, .ref h), (0, .ref b)]) (hi : 0 ≤ i ∧ i + 4 ≤ n) (kk : ∀ (H' : Heap) (locs' : List Loc) (f' : Nat → va_E) (v' : Nat → Int) (F' : Nat → Nat → Int) (K' t1' t2' : Int) (S' : Nat → List Pt), JS cI cR rx ry ra h ar ci lo mo A f' v' F' K' t1' t2' S' → gw D (lwA s) s.heap H' locs' L f' → W p l e room_1 s m #[Value.ref b] below meth c H' locs' 600000 7302250 Q (F0 m 877 ls [])) : W p l e room_1 s m #[Value.ref b] below meth c H locs 600000 7302250 Q (F0 m 156 ls []) := by
  obtain ⟨X, hX, hbl, G, g0, d0, hn, M⟩ := T
  obtain ⟨hJ, hc, hI, h11, h12, hgs⟩ := J
  have hx := X.1.1
  have hb := X.1.2.1
  have hbA : ¬ lwA s b := Nat.not_le.mpr hbl
  have hok := js_ok hgs
  have hhu := js_hu M hgs
  have hK : 0 ≤ K ∧ K ≤ 8 := ⟨hI.2.2.1, hI.2.2.2.1⟩
  obtain ⟨z1, hz1, ez1⟩ := iN_ex (xs (iN (i + 1)).toNatClampNeg)
  obtain ⟨z2, hz2, ez2⟩ := iN_ex (xs (iN (i + 2)).toNatClampNeg)
  obtain ⟨z3, hz3, ez3⟩ := iN_ex (xs (iN (i + 3)).toNatClampNeg)
  refine lv_aload_n hx hb d_law_156 rfl (lv_at hl 2 rfl) ?_
  refine g_cv w (g_runV (As := []) (rest := []) X w (c_H_clear l G hc) k_H_clear v_H_clear lk_law_13 G.1.1 hc.1 rfl ⟨(Nat.le_of_ble_eq_true rfl), (Nat.le_of_ble_eq_true rfl)⟩ rfl hl.1 rfl (Nat.le_of_ble_eq_true rfl) d_law_157 ⟨Nat.le_refl _, Nat.le_refl _⟩) (fun u H locs hp w => ?_)
  subst hp
  have w : gw D (lwA s) s.heap H locs L (va_up f h (hCell ra ar ci lo 0 0 1)) := w
  obtain ⟨hc1, hu1⟩ := cls_obj G hc (K' := 0) (t1' := 0) (t2' := 1) (by omega)
  obtain ⟨g1, eg1⟩ : ∃ g1, g1 = va_up f h (hCell ra ar ci lo 0 0 1) := ⟨_, rfl⟩
  rw [← eg1] at hc1 hu1 w
  have hg1 := js_cls g0 d0 hJ hu1
  have w : gw D (lwA s) s.heap H locs L (mSt cI mo A g1 v F) := by rw [hg1]; exact w
  refine lv_aload_n hx hb d_law_160 rfl (lv_at hl 1 rfl) ?_
  refine g_cv w (g_runV (As := []) (rest := []) X w (c_M_clear l (f := g1) (v := v) (F := F) g0) k_M_clear v_M_clear lk_law_16 g0.1.1 (show mSt cI mo A g1 v F mo = .inr (4, _) from mS_m) rfl ⟨(Nat.le_of_ble_eq_true rfl), (Nat.le_of_ble_eq_true rfl)⟩ rfl hl.1 rfl (Nat.le_of_ble_eq_true rfl) d_law_161 ⟨Nat.le_refl _, Nat.le_refl _⟩) (fun u H locs hp w => ?_)
  obtain ⟨v2, hu2, q0, q1, q11, q12, qo⟩ := hp
  have hm : mpost L cI mo A g1 0 0 1 S u := ⟨v2, F, hu2, ⟨q0, q1, by decide, by decide, fun i9 h9 => by omega⟩, q11, q12⟩
  obtain ⟨f2, v3, F2, rfl, J2⟩ := js_mk g0 d0 hc1 (fun _ _ => rfl) hm (fun i9 h9 => by omega)
  have w : gw D (lwA s) s.heap H locs L f2 := w
  refine lv_goto (tgt := 877) hx hb d_law_164 (by decide) ?_
  exact kk _ _ _ _ _ _ _ _ _ J2 w
set_option maxHeartbeats 4000000 in
set_option maxRecDepth 100000 in
theorem lc_1 (T : lst p m c s b n xs D cI cR L rx ry ra h ar ci lo mo A) (J : JS cI cR rx ry ra h ar ci lo mo A f v F K t1 t2 S) (w : gw D (lwA s) s.heap H locs L f) (hl : lv_has ls 4 [(3, .int (iN (i))), (2, .ref mo), (1, .ref h), (0, .ref b)]) (hi : 0 ≤ i ∧ i + 4 ≤ n) (kk : ∀ (H' : Heap) (locs' : List Loc) (f' : Nat → va_E) (v' : Nat → Int) (F' : Nat → Nat → Int) (K' t1' t2' : Int) (S' : Nat → List Pt), JS cI cR rx ry ra h ar ci lo mo A f' v' F' K' t1' t2' S' → gw D (lwA s) s.heap H' locs' L f' → W p l e room_1 s m #[Value.ref b] below meth c H' locs' 600000 7302250 Q (F0 m 877 ls [])) : W p l e room_1 s m #[Value.ref b] below meth c H locs 600000 7302250 Q (F0 m 167 ls []) := by
  obtain ⟨X, hX, hbl, G, g0, d0, hn, M⟩ := T
  obtain ⟨hJ, hc, hI, h11, h12, hgs⟩ := J
  have hx := X.1.1
  have hb := X.1.2.1
  have hbA : ¬ lwA s b := Nat.not_le.mpr hbl
  have hok := js_ok hgs
  have hhu := js_hu M hgs
  have hK : 0 ≤ K ∧ K ≤ 8 := ⟨hI.2.2.1, hI.2.2.2.1⟩
  obtain ⟨z1, hz1, ez1⟩ := iN_ex (xs (iN (i + 1)).toNatClampNeg)
  obtain ⟨z2, hz2, ez2⟩ := iN_ex (xs (iN (i + 2)).toNatClampNeg)
  obtain ⟨z3, hz3, ez3⟩ := iN_ex (xs (iN (i + 3)).toNatClampNeg)
  refine lv_aload_n hx hb d_law_167 rfl (lv_at hl 2 rfl) ?_
  refine g_ci w (g_runV (As := []) (rest := []) X w (c_H_set l G hc) k_H_set v_H_set lk_law_17 G.1.1 hc.1 rfl ⟨(Nat.le_of_ble_eq_true rfl), (Nat.le_of_ble_eq_true rfl)⟩ rfl hl.1 rfl (Nat.le_of_ble_eq_true rfl) d_law_168 ⟨Nat.le_refl _, Nat.le_refl _⟩) (fun r1 u H locs hp w => ?_)
  rcases hp with ⟨hk, hr1, rfl⟩ | ⟨hk, hr1, g1, rfl, hc1, hu1⟩
  · skip
    have w : gw D (lwA s) s.heap H locs L (mSt cI mo A f v F) := by rw [hJ]; exact w
    refine lv_aload_n hx hb d_law_171 rfl (lv_at hl 1 rfl) ?_
    refine g_ci w (g_runV (As := []) (rest := [.int r1]) X w (c_M_set l (f := f) g0 hI h11 h12) k_M_set v_M_set lk_law_21 g0.1.1 (show mSt cI mo A f v F mo = .inr (4, _) from mS_m) rfl ⟨(Nat.le_of_ble_eq_true rfl), (Nat.le_of_ble_eq_true rfl)⟩ rfl hl.1 rfl (Nat.le_of_ble_eq_true rfl) d_law_172 ⟨Nat.le_refl _, Nat.le_refl _⟩) (fun r2 u H locs hp w => ?_)
    obtain ⟨hr2, hm⟩ : r2 = iN (-5) ∧ mpost L cI mo A f K t1 t2 S u := by rcases hp with ⟨_, h9⟩ | ⟨h9, _⟩; (exact h9); omega
    obtain ⟨f2, v2, F2, rfl, J2⟩ := js_mk g0 d0 hc (fun _ _ => rfl) hm hgs
    have w : gw D (lwA s) s.heap H locs L f2 := w
    refine lv_icmp_eq (tgt := 877) hx hb d_law_175 (by decide) (fun c9 => ?_) (fun c9 => ?_)
    · exact kk _ _ _ _ _ _ _ _ _ J2 w
    · exact absurd (by rw [hr1, hr2]) c9
  · skip
    have w : gw D (lwA s) s.heap H locs L g1 := w
    have hg1 := js_cls g0 d0 hJ hu1
    have w : gw D (lwA s) s.heap H locs L (mSt cI mo A g1 v F) := by rw [hg1]; exact w
    refine lv_aload_n hx hb d_law_171 rfl (lv_at hl 1 rfl) ?_
    refine g_ci w (g_runV (As := []) (rest := [.int r1]) X w (c_M_set l (f := g1) g0 hI h11 h12) k_M_set v_M_set lk_law_21 g0.1.1 (show mSt cI mo A g1 v F mo = .inr (4, _) from mS_m) rfl ⟨(Nat.le_of_ble_eq_true rfl), (Nat.le_of_ble_eq_true rfl)⟩ rfl hl.1 rfl (Nat.le_of_ble_eq_true rfl) d_law_172 ⟨Nat.le_refl _, Nat.le_refl _⟩) (fun r2 u H locs hp w => ?_)
    obtain ⟨hr2, hm⟩ : r2 = iN K ∧ mpost L cI mo A g1 (K + 1) t1 t2 (supd S K.toNat []) u := by rcases hp with ⟨h9, _⟩ | ⟨_, h9⟩; (omega); exact h9
    obtain ⟨f2, v2, F2, rfl, J2⟩ := js_mk g0 d0 hc1 (fun _ _ => rfl) hm (gset_su hgs ⟨by decide, fun q9 h9 => by simp at h9, List.nodup_nil⟩ hK.1)
    have w : gw D (lwA s) s.heap H locs L f2 := w
    refine lv_icmp_eq (tgt := 877) hx hb d_law_175 (by decide) (fun c9 => ?_) (fun c9 => ?_)
    · exact kk _ _ _ _ _ _ _ _ _ J2 w
    · exact absurd (by rw [hr1, hr2]) c9
set_option maxHeartbeats 4000000 in
set_option maxRecDepth 100000 in
theorem lc_2 (T : lst p m c s b n xs D cI cR L rx ry ra h ar ci lo mo A) (J : JS cI cR rx ry ra h ar ci lo mo A f v F K t1 t2 S) (w : gw D (lwA s) s.heap H locs L f) (hl : lv_has ls 4 [(3, .int (iN (i))), (2, .ref mo), (1, .ref h), (0, .ref b)]) (hi : 0 ≤ i ∧ i + 4 ≤ n) (kk : ∀ (H' : Heap) (locs' : List Loc) (f' : Nat → va_E) (v' : Nat → Int) (F' : Nat → Nat → Int) (K' t1' t2' : Int) (S' : Nat → List Pt), JS cI cR rx ry ra h ar ci lo mo A f' v' F' K' t1' t2' S' → gw D (lwA s) s.heap H' locs' L f' → W p l e room_1 s m #[Value.ref b] below meth c H' locs' 600000 7302250 Q (F0 m 877 ls [])) : W p l e room_1 s m #[Value.ref b] below meth c H locs 600000 7302250 Q (F0 m 180 ls []) := by
  obtain ⟨X, hX, hbl, G, g0, d0, hn, M⟩ := T
  obtain ⟨hJ, hc, hI, h11, h12, hgs⟩ := J
  have hx := X.1.1
  have hb := X.1.2.1
  have hbA : ¬ lwA s b := Nat.not_le.mpr hbl
  have hok := js_ok hgs
  have hhu := js_hu M hgs
  have hK : 0 ≤ K ∧ K ≤ 8 := ⟨hI.2.2.1, hI.2.2.2.1⟩
  obtain ⟨z1, hz1, ez1⟩ := iN_ex (xs (iN (i + 1)).toNatClampNeg)
  obtain ⟨z2, hz2, ez2⟩ := iN_ex (xs (iN (i + 2)).toNatClampNeg)
  obtain ⟨z3, hz3, ez3⟩ := iN_ex (xs (iN (i + 3)).toNatClampNeg)
  refine lv_aload_n hx hb d_law_180 rfl (lv_at hl 2 rfl) ?_
  refine lv_aload_n hx hb d_law_181 rfl (lv_at hl 3 rfl) ?_
  refine lv_iload_n hx hb d_law_182 rfl (lv_at hl 0 rfl) ?_
  refine lv_iconst (v := iN (1)) hx hb d_law_183 (by decide) ?_
  refine ri_add (a := i) (b := 1) hx hb d_law_184 rfl rfl ?_
  refine va_sld hx hb hX hbl hbA w.2.2.1 (i := iN (i + 1)) (vin (by omega) (by omega) (by omega)) d_law_185 ?_
  rw [ez1]
  refine lv_aload_n hx hb d_law_186 rfl (lv_at hl 3 rfl) ?_
  refine lv_iload_n hx hb d_law_187 rfl (lv_at hl 0 rfl) ?_
  refine lv_iconst (v := iN (2)) hx hb d_law_188 (by decide) ?_
  refine ri_add (a := i) (b := 2) hx hb d_law_189 rfl rfl ?_
  refine va_sld hx hb hX hbl hbA w.2.2.1 (i := iN (i + 2)) (vin (by omega) (by omega) (by omega)) d_law_190 ?_
  rw [ez2]
  refine lv_aload_n hx hb d_law_191 rfl (lv_at hl 3 rfl) ?_
  refine lv_iload_n hx hb d_law_192 rfl (lv_at hl 0 rfl) ?_
  refine lv_iconst (v := iN (3)) hx hb d_law_193 (by decide) ?_
  refine ri_add (a := i) (b := 3) hx hb d_law_194 rfl rfl ?_
  refine va_sld hx hb hX hbl hbA w.2.2.1 (i := iN (i + 3)) (vin (by omega) (by omega) (by omega)) d_law_195 ?_
  rw [ez3]
  refine g_ci w (g_runV (As := [.int (iN z1), .int (iN z2), .int (iN z3)]) (rest := []) X w (c_H_point l G hc hok (z := z1) hz1 (x := z2) (y := z3) hz2 hz3) k_H_point v_H_point lk_law_22 G.1.1 hc.1 rfl ⟨(Nat.le_of_ble_eq_true rfl), (Nat.le_of_ble_eq_true rfl)⟩ rfl hl.1 rfl (Nat.le_of_ble_eq_true rfl) d_law_196 ⟨Nat.le_refl _, Nat.le_refl _⟩) (fun r1 u H locs hp w => ?_)
  obtain ⟨hr1, g1, rfl, hc1, hu1⟩ := hp
  have w : gw D (lwA s) s.heap H locs L g1 := w
  have hg1 := js_cls g0 d0 hJ hu1
  have w : gw D (lwA s) s.heap H locs L (mSt cI mo A g1 v F) := by rw [hg1]; exact w
  refine lv_aload_n hx hb d_law_199 rfl (lv_at hl 1 rfl) ?_
  refine lv_aload_n hx hb d_law_200 rfl (lv_at hl 3 rfl) ?_
  refine lv_iload_n hx hb d_law_201 rfl (lv_at hl 0 rfl) ?_
  refine lv_iconst (v := iN (1)) hx hb d_law_202 (by decide) ?_
  refine ri_add (a := i) (b := 1) hx hb d_law_203 rfl rfl ?_
  refine va_sld hx hb hX hbl hbA w.2.2.1 (i := iN (i + 1)) (vin (by omega) (by omega) (by omega)) d_law_204 ?_
  rw [ez1]
  refine lv_aload_n hx hb d_law_205 rfl (lv_at hl 3 rfl) ?_
  refine lv_iload_n hx hb d_law_206 rfl (lv_at hl 0 rfl) ?_
  refine lv_iconst (v := iN (2)) hx hb d_law_207 (by decide) ?_
  refine ri_add (a := i) (b := 2) hx hb d_law_208 rfl rfl ?_
  refine va_sld hx hb hX hbl hbA w.2.2.1 (i := iN (i + 2)) (vin (by omega) (by omega) (by omega)) d_law_209 ?_
  rw [ez2]
  refine lv_aload_n hx hb d_law_210 rfl (lv_at hl 3 rfl) ?_
  refine lv_iload_n hx hb d_law_211 rfl (lv_at hl 0 rfl) ?_
  refine lv_iconst (v := iN (3)) hx hb d_law_212 (by decide) ?_
  refine ri_add (a := i) (b := 3) hx hb d_law_213 rfl rfl ?_
  refine va_sld hx hb hX hbl hbA w.2.2.1 (i := iN (i + 3)) (vin (by omega) (by omega) (by omega)) d_law_214 ?_
  rw [ez3]
  refine g_ci w (g_runV (As := [.int (iN z1), .int (iN z2), .int (iN z3)]) (rest := [.int r1]) X w (c_M_point l (f := g1) g0 hI h11 h12 hok hhu (z := z1) hz1 (x := z2) (y := z3) hz2 hz3) k_M_point v_M_point lk_law_26 g0.1.1 (show mSt cI mo A g1 v F mo = .inr (4, _) from mS_m) rfl ⟨(Nat.le_of_ble_eq_true rfl), (Nat.le_of_ble_eq_true rfl)⟩ rfl hl.1 rfl (Nat.le_of_ble_eq_true rfl) d_law_215 ⟨Nat.le_refl _, Nat.le_refl _⟩) (fun r2 u H locs hp w => ?_)
  obtain ⟨hr2, hm⟩ := hp
  obtain ⟨f2, v2, F2, rfl, J2⟩ := js_mk g0 d0 hc1 (fun _ _ => rfl) hm (gset_pt hgs)
  have w : gw D (lwA s) s.heap H locs L f2 := w
  refine lv_icmp_eq (tgt := 877) hx hb d_law_218 (by decide) (fun c9 => ?_) (fun c9 => ?_)
  · exact kk _ _ _ _ _ _ _ _ _ J2 w
  · exact absurd (by rw [hr1, hr2]) c9
set_option maxHeartbeats 4000000 in
set_option maxRecDepth 100000 in
theorem lc_15 (T : lst p m c s b n xs D cI cR L rx ry ra h ar ci lo mo A) (J : JS cI cR rx ry ra h ar ci lo mo A f v F K t1 t2 S) (w : gw D (lwA s) s.heap H locs L f) (hl : lv_has ls 4 [(3, .int (iN (i))), (2, .ref mo), (1, .ref h), (0, .ref b)]) (hi : 0 ≤ i ∧ i + 4 ≤ n) (kk : ∀ (H' : Heap) (locs' : List Loc) (f' : Nat → va_E) (v' : Nat → Int) (F' : Nat → Nat → Int) (K' t1' t2' : Int) (S' : Nat → List Pt), JS cI cR rx ry ra h ar ci lo mo A f' v' F' K' t1' t2' S' → gw D (lwA s) s.heap H' locs' L f' → W p l e room_1 s m #[Value.ref b] below meth c H' locs' 600000 7302250 Q (F0 m 877 ls [])) : W p l e room_1 s m #[Value.ref b] below meth c H locs 600000 7302250 Q (F0 m 529 ls []) := by
  obtain ⟨X, hX, hbl, G, g0, d0, hn, M⟩ := T
  obtain ⟨hJ, hc, hI, h11, h12, hgs⟩ := J
  have hx := X.1.1
  have hb := X.1.2.1
  have hbA : ¬ lwA s b := Nat.not_le.mpr hbl
  have hok := js_ok hgs
  have hhu := js_hu M hgs
  have hK : 0 ≤ K ∧ K ≤ 8 := ⟨hI.2.2.1, hI.2.2.2.1⟩
  obtain ⟨z1, hz1, ez1⟩ := iN_ex (xs (iN (i + 1)).toNatClampNeg)
  obtain ⟨z2, hz2, ez2⟩ := iN_ex (xs (iN (i + 2)).toNatClampNeg)
  obtain ⟨z3, hz3, ez3⟩ := iN_ex (xs (iN (i + 3)).toNatClampNeg)
  refine lv_aload_n hx hb d_law_529 rfl (lv_at hl 2 rfl) ?_
  refine lv_aload_n hx hb d_law_530 rfl (lv_at hl 3 rfl) ?_
  refine lv_iload_n hx hb d_law_531 rfl (lv_at hl 0 rfl) ?_
  refine lv_iconst (v := iN (1)) hx hb d_law_532 (by decide) ?_
  refine ri_add (a := i) (b := 1) hx hb d_law_533 rfl rfl ?_
  refine va_sld hx hb hX hbl hbA w.2.2.1 (i := iN (i + 1)) (vin (by omega) (by omega) (by omega)) d_law_534 ?_
  rw [ez1]
  refine lv_aload_n hx hb d_law_535 rfl (lv_at hl 3 rfl) ?_
  refine lv_iload_n hx hb d_law_536 rfl (lv_at hl 0 rfl) ?_
  refine lv_iconst (v := iN (2)) hx hb d_law_537 (by decide) ?_
  refine ri_add (a := i) (b := 2) hx hb d_law_538 rfl rfl ?_
  refine va_sld hx hb hX hbl hbA w.2.2.1 (i := iN (i + 2)) (vin (by omega) (by omega) (by omega)) d_law_539 ?_
  rw [ez2]
  refine g_ci w (g_runV (As := [.int (iN z1), .int (iN z2)]) (rest := []) X w (c_H_sum l G hc hok (z := z1) hz1 (z2 := z2) hz2 (js_HL M hgs (Or.inl rfl)) (js_SM M hgs (Or.inl rfl))) k_H_sum v_H_sum lk_law_77 G.1.1 hc.1 rfl ⟨(Nat.le_of_ble_eq_true rfl), (Nat.le_of_ble_eq_true rfl)⟩ rfl hl.1 rfl (Nat.le_of_ble_eq_true rfl) d_law_540 ⟨Nat.le_refl _, Nat.le_refl _⟩) (fun r1 u H locs hp w => ?_)
  rw [show sumF (hullF (S z1.toNat)) (hullF ((S z2.toNat).map (sgm 1))) = (sumH (S z1.toNat) (S z2.toNat) 1) from rfl] at hp
  rcases hp with ⟨hf, hr1, hp⟩ | ⟨hf, hw, hr1, hp⟩ | ⟨hf, hw, hk, hr1, hp⟩ | ⟨hf, hw, hl24, hk, hr1, g1, S1, rfl, hc1, hS1, hS2, hu1⟩
  · skip
    obtain ⟨g1, S1, rfl, hc1, hS1, hu1⟩ := hp
    have w : gw D (lwA s) s.heap H locs L g1 := w
    have hg1 := js_cls g0 d0 hJ hu1
    have w : gw D (lwA s) s.heap H locs L (mSt cI mo A g1 v F) := by rw [hg1]; exact w
    refine lv_aload_n hx hb d_law_543 rfl (lv_at hl 1 rfl) ?_
    refine lv_aload_n hx hb d_law_544 rfl (lv_at hl 3 rfl) ?_
    refine lv_iload_n hx hb d_law_545 rfl (lv_at hl 0 rfl) ?_
    refine lv_iconst (v := iN (1)) hx hb d_law_546 (by decide) ?_
    refine ri_add (a := i) (b := 1) hx hb d_law_547 rfl rfl ?_
    refine va_sld hx hb hX hbl hbA w.2.2.1 (i := iN (i + 1)) (vin (by omega) (by omega) (by omega)) d_law_548 ?_
    rw [ez1]
    refine lv_aload_n hx hb d_law_549 rfl (lv_at hl 3 rfl) ?_
    refine lv_iload_n hx hb d_law_550 rfl (lv_at hl 0 rfl) ?_
    refine lv_iconst (v := iN (2)) hx hb d_law_551 (by decide) ?_
    refine ri_add (a := i) (b := 2) hx hb d_law_552 rfl rfl ?_
    refine va_sld hx hb hX hbl hbA w.2.2.1 (i := iN (i + 2)) (vin (by omega) (by omega) (by omega)) d_law_553 ?_
    rw [ez2]
    refine g_ci w (g_runV (As := [.int (iN z1), .int (iN z2)]) (rest := [.int r1]) X w (c_M_sum l (f := g1) g0 hI h11 h12 hok hhu (z := z1) hz1 (z2 := z2) hz2 (js_su M hgs (Or.inl rfl))) k_M_sum v_M_sum lk_law_80 g0.1.1 (show mSt cI mo A g1 v F mo = .inr (4, _) from mS_m) rfl ⟨(Nat.le_of_ble_eq_true rfl), (Nat.le_of_ble_eq_true rfl)⟩ rfl hl.1 rfl (Nat.le_of_ble_eq_true rfl) d_law_554 ⟨Nat.le_refl _, Nat.le_refl _⟩) (fun r2 u H locs hp w => ?_)
    obtain ⟨hr2, hm⟩ : r2 = iN (flA K S z1 z2) ∧ mpost L cI mo A g1 K t1 t2 S u := by rcases hp with ⟨_, h9⟩ | ⟨h9, _⟩ | ⟨h9, _⟩; (exact h9); (exact absurd h9 hf); exact absurd h9 hf
    obtain ⟨f2, v2, F2, rfl, J2⟩ := js_mk g0 d0 hc1 (fun i9 h9 => hS1 i9 (by omega)) hm hgs
    have w : gw D (lwA s) s.heap H locs L f2 := w
    refine lv_icmp_eq (tgt := 877) hx hb d_law_557 (by decide) (fun c9 => ?_) (fun c9 => ?_)
    · exact kk _ _ _ _ _ _ _ _ _ J2 w
    · exact absurd (by rw [hr1, hr2]) c9
  · skip
    have hla := (let ⟨⟨hA, hB⟩, hnA, hnB⟩ := flA_0 hf; M.lar _ _ (hgs z1.toNat (by omega)) (hgs z2.toNat (by omega)) hnA hnB)
    obtain ⟨g1, S1, rfl, hc1, hS1, hu1⟩ := hp
    have w : gw D (lwA s) s.heap H locs L g1 := w
    have hg1 := js_cls g0 d0 hJ hu1
    have w : gw D (lwA s) s.heap H locs L (mSt cI mo A g1 v F) := by rw [hg1]; exact w
    refine lv_aload_n hx hb d_law_543 rfl (lv_at hl 1 rfl) ?_
    refine lv_aload_n hx hb d_law_544 rfl (lv_at hl 3 rfl) ?_
    refine lv_iload_n hx hb d_law_545 rfl (lv_at hl 0 rfl) ?_
    refine lv_iconst (v := iN (1)) hx hb d_law_546 (by decide) ?_
    refine ri_add (a := i) (b := 1) hx hb d_law_547 rfl rfl ?_
    refine va_sld hx hb hX hbl hbA w.2.2.1 (i := iN (i + 1)) (vin (by omega) (by omega) (by omega)) d_law_548 ?_
    rw [ez1]
    refine lv_aload_n hx hb d_law_549 rfl (lv_at hl 3 rfl) ?_
    refine lv_iload_n hx hb d_law_550 rfl (lv_at hl 0 rfl) ?_
    refine lv_iconst (v := iN (2)) hx hb d_law_551 (by decide) ?_
    refine ri_add (a := i) (b := 2) hx hb d_law_552 rfl rfl ?_
    refine va_sld hx hb hX hbl hbA w.2.2.1 (i := iN (i + 2)) (vin (by omega) (by omega) (by omega)) d_law_553 ?_
    rw [ez2]
    refine g_ci w (g_runV (As := [.int (iN z1), .int (iN z2)]) (rest := [.int r1]) X w (c_M_sum l (f := g1) g0 hI h11 h12 hok hhu (z := z1) hz1 (z2 := z2) hz2 (js_su M hgs (Or.inl rfl))) k_M_sum v_M_sum lk_law_80 g0.1.1 (show mSt cI mo A g1 v F mo = .inr (4, _) from mS_m) rfl ⟨(Nat.le_of_ble_eq_true rfl), (Nat.le_of_ble_eq_true rfl)⟩ rfl hl.1 rfl (Nat.le_of_ble_eq_true rfl) d_law_554 ⟨Nat.le_refl _, Nat.le_refl _⟩) (fun r2 u H locs hp w => ?_)
    obtain ⟨hr2, hm⟩ : r2 = iN (-6) ∧ mpost L cI mo A g1 K t1 t2 S u := by rcases hp with ⟨h9, _⟩ | ⟨_, _, h9⟩ | ⟨_, h9, _⟩; (exact absurd hf h9); (exact h9); exact absurd (hla.mpr h9) hw
    obtain ⟨f2, v2, F2, rfl, J2⟩ := js_mk g0 d0 hc1 (fun i9 h9 => hS1 i9 (by omega)) hm hgs
    have w : gw D (lwA s) s.heap H locs L f2 := w
    refine lv_icmp_eq (tgt := 877) hx hb d_law_557 (by decide) (fun c9 => ?_) (fun c9 => ?_)
    · exact kk _ _ _ _ _ _ _ _ _ J2 w
    · exact absurd (by rw [hr1, hr2]) c9
  · skip
    have hla := (let ⟨⟨hA, hB⟩, hnA, hnB⟩ := flA_0 hf; M.lar _ _ (hgs z1.toNat (by omega)) (hgs z2.toNat (by omega)) hnA hnB)
    obtain ⟨g1, S1, rfl, hc1, hS1, hu1⟩ := hp
    have w : gw D (lwA s) s.heap H locs L g1 := w
    have hg1 := js_cls g0 d0 hJ hu1
    have w : gw D (lwA s) s.heap H locs L (mSt cI mo A g1 v F) := by rw [hg1]; exact w
    refine lv_aload_n hx hb d_law_543 rfl (lv_at hl 1 rfl) ?_
    refine lv_aload_n hx hb d_law_544 rfl (lv_at hl 3 rfl) ?_
    refine lv_iload_n hx hb d_law_545 rfl (lv_at hl 0 rfl) ?_
    refine lv_iconst (v := iN (1)) hx hb d_law_546 (by decide) ?_
    refine ri_add (a := i) (b := 1) hx hb d_law_547 rfl rfl ?_
    refine va_sld hx hb hX hbl hbA w.2.2.1 (i := iN (i + 1)) (vin (by omega) (by omega) (by omega)) d_law_548 ?_
    rw [ez1]
    refine lv_aload_n hx hb d_law_549 rfl (lv_at hl 3 rfl) ?_
    refine lv_iload_n hx hb d_law_550 rfl (lv_at hl 0 rfl) ?_
    refine lv_iconst (v := iN (2)) hx hb d_law_551 (by decide) ?_
    refine ri_add (a := i) (b := 2) hx hb d_law_552 rfl rfl ?_
    refine va_sld hx hb hX hbl hbA w.2.2.1 (i := iN (i + 2)) (vin (by omega) (by omega) (by omega)) d_law_553 ?_
    rw [ez2]
    refine g_ci w (g_runV (As := [.int (iN z1), .int (iN z2)]) (rest := [.int r1]) X w (c_M_sum l (f := g1) g0 hI h11 h12 hok hhu (z := z1) hz1 (z2 := z2) hz2 (js_su M hgs (Or.inl rfl))) k_M_sum v_M_sum lk_law_80 g0.1.1 (show mSt cI mo A g1 v F mo = .inr (4, _) from mS_m) rfl ⟨(Nat.le_of_ble_eq_true rfl), (Nat.le_of_ble_eq_true rfl)⟩ rfl hl.1 rfl (Nat.le_of_ble_eq_true rfl) d_law_554 ⟨Nat.le_refl _, Nat.le_refl _⟩) (fun r2 u H locs hp w => ?_)
    obtain ⟨hr2, hm⟩ : r2 = iN (-5) ∧ mpost L cI mo A g1 K t1 t2 S u := by rcases hp with ⟨h9, _⟩ | ⟨_, h9, _⟩ | ⟨_, _, h9⟩; (exact absurd hf h9); (exact absurd (hla.mp hw) h9); rcases h9 with ⟨_, h9⟩ | ⟨h8, h9, _⟩; (exact h9); (exfalso; omega)
    obtain ⟨f2, v2, F2, rfl, J2⟩ := js_mk g0 d0 hc1 (fun i9 h9 => hS1 i9 (by omega)) hm hgs
    have w : gw D (lwA s) s.heap H locs L f2 := w
    refine lv_icmp_eq (tgt := 877) hx hb d_law_557 (by decide) (fun c9 => ?_) (fun c9 => ?_)
    · exact kk _ _ _ _ _ _ _ _ _ J2 w
    · exact absurd (by rw [hr1, hr2]) c9
  · skip
    have hla := (let ⟨⟨hA, hB⟩, hnA, hnB⟩ := flA_0 hf; M.lar _ _ (hgs z1.toNat (by omega)) (hgs z2.toNat (by omega)) hnA hnB)
    have w : gw D (lwA s) s.heap H locs L g1 := w
    have hg1 := js_cls g0 d0 hJ hu1
    have w : gw D (lwA s) s.heap H locs L (mSt cI mo A g1 v F) := by rw [hg1]; exact w
    refine lv_aload_n hx hb d_law_543 rfl (lv_at hl 1 rfl) ?_
    refine lv_aload_n hx hb d_law_544 rfl (lv_at hl 3 rfl) ?_
    refine lv_iload_n hx hb d_law_545 rfl (lv_at hl 0 rfl) ?_
    refine lv_iconst (v := iN (1)) hx hb d_law_546 (by decide) ?_
    refine ri_add (a := i) (b := 1) hx hb d_law_547 rfl rfl ?_
    refine va_sld hx hb hX hbl hbA w.2.2.1 (i := iN (i + 1)) (vin (by omega) (by omega) (by omega)) d_law_548 ?_
    rw [ez1]
    refine lv_aload_n hx hb d_law_549 rfl (lv_at hl 3 rfl) ?_
    refine lv_iload_n hx hb d_law_550 rfl (lv_at hl 0 rfl) ?_
    refine lv_iconst (v := iN (2)) hx hb d_law_551 (by decide) ?_
    refine ri_add (a := i) (b := 2) hx hb d_law_552 rfl rfl ?_
    refine va_sld hx hb hX hbl hbA w.2.2.1 (i := iN (i + 2)) (vin (by omega) (by omega) (by omega)) d_law_553 ?_
    rw [ez2]
    refine g_ci w (g_runV (As := [.int (iN z1), .int (iN z2)]) (rest := [.int r1]) X w (c_M_sum l (f := g1) g0 hI h11 h12 hok hhu (z := z1) hz1 (z2 := z2) hz2 (js_su M hgs (Or.inl rfl))) k_M_sum v_M_sum lk_law_80 g0.1.1 (show mSt cI mo A g1 v F mo = .inr (4, _) from mS_m) rfl ⟨(Nat.le_of_ble_eq_true rfl), (Nat.le_of_ble_eq_true rfl)⟩ rfl hl.1 rfl (Nat.le_of_ble_eq_true rfl) d_law_554 ⟨Nat.le_refl _, Nat.le_refl _⟩) (fun r2 u H locs hp w => ?_)
    obtain ⟨hr2, hm⟩ : r2 = iN K ∧ mpost L cI mo A g1 (K + 1) t1 t2 (supd S K.toNat (sumH (S z1.toNat) (S z2.toNat) 1)) u := by rcases hp with ⟨h9, _⟩ | ⟨_, h9, _⟩ | ⟨_, _, h9⟩; (exact absurd hf h9); (exact absurd (hla.mp hw) h9); rcases h9 with ⟨h9, _⟩ | ⟨_, _, h9⟩; (exfalso; omega); exact h9
    have hgC : gset (sumH (S z1.toNat) (S z2.toNat) 1) := by obtain ⟨⟨hA, hB⟩, hnA, hnB⟩ := flA_0 hf; exact ⟨hl24, wth_pbl hw, (M.sums _ _ 1 (Or.inl rfl) (hgs z1.toNat (by omega)) (hgs z2.toNat (by omega)) hnA hnB).1.2.2.2.1⟩
    obtain ⟨f2, v2, F2, rfl, J2⟩ := js_mk g0 d0 hc1 (fun i9 h9 => by by_cases e9 : i9 = K.toNat; (rw [e9, su_s]; exact hS2); rw [su_n e9]; exact hS1 i9 (by omega) e9) hm (gset_su hgs hgC hK.1)
    have w : gw D (lwA s) s.heap H locs L f2 := w
    refine lv_icmp_eq (tgt := 877) hx hb d_law_557 (by decide) (fun c9 => ?_) (fun c9 => ?_)
    · exact kk _ _ _ _ _ _ _ _ _ J2 w
    · exact absurd (by rw [hr1, hr2]) c9
set_option maxHeartbeats 4000000 in
set_option maxRecDepth 100000 in
theorem lc_16 (T : lst p m c s b n xs D cI cR L rx ry ra h ar ci lo mo A) (J : JS cI cR rx ry ra h ar ci lo mo A f v F K t1 t2 S) (w : gw D (lwA s) s.heap H locs L f) (hl : lv_has ls 4 [(3, .int (iN (i))), (2, .ref mo), (1, .ref h), (0, .ref b)]) (hi : 0 ≤ i ∧ i + 4 ≤ n) (kk : ∀ (H' : Heap) (locs' : List Loc) (f' : Nat → va_E) (v' : Nat → Int) (F' : Nat → Nat → Int) (K' t1' t2' : Int) (S' : Nat → List Pt), JS cI cR rx ry ra h ar ci lo mo A f' v' F' K' t1' t2' S' → gw D (lwA s) s.heap H' locs' L f' → W p l e room_1 s m #[Value.ref b] below meth c H' locs' 600000 7302250 Q (F0 m 877 ls [])) : W p l e room_1 s m #[Value.ref b] below meth c H locs 600000 7302250 Q (F0 m 562 ls []) := by
  obtain ⟨X, hX, hbl, G, g0, d0, hn, M⟩ := T
  obtain ⟨hJ, hc, hI, h11, h12, hgs⟩ := J
  have hx := X.1.1
  have hb := X.1.2.1
  have hbA : ¬ lwA s b := Nat.not_le.mpr hbl
  have hok := js_ok hgs
  have hhu := js_hu M hgs
  have hK : 0 ≤ K ∧ K ≤ 8 := ⟨hI.2.2.1, hI.2.2.2.1⟩
  obtain ⟨z1, hz1, ez1⟩ := iN_ex (xs (iN (i + 1)).toNatClampNeg)
  obtain ⟨z2, hz2, ez2⟩ := iN_ex (xs (iN (i + 2)).toNatClampNeg)
  obtain ⟨z3, hz3, ez3⟩ := iN_ex (xs (iN (i + 3)).toNatClampNeg)
  refine lv_aload_n hx hb d_law_562 rfl (lv_at hl 2 rfl) ?_
  refine lv_aload_n hx hb d_law_563 rfl (lv_at hl 3 rfl) ?_
  refine lv_iload_n hx hb d_law_564 rfl (lv_at hl 0 rfl) ?_
  refine lv_iconst (v := iN (1)) hx hb d_law_565 (by decide) ?_
  refine ri_add (a := i) (b := 1) hx hb d_law_566 rfl rfl ?_
  refine va_sld hx hb hX hbl hbA w.2.2.1 (i := iN (i + 1)) (vin (by omega) (by omega) (by omega)) d_law_567 ?_
  rw [ez1]
  refine g_ci w (g_runV (As := [.int (iN z1)]) (rest := []) X w (c_H_turned l G hc hok (z := z1) hz1 (fun i9 h9 => (js_HL M hgs (Or.inr rfl) i9 h9).2)) k_H_turned v_H_turned lk_law_81 G.1.1 hc.1 rfl ⟨(Nat.le_of_ble_eq_true rfl), (Nat.le_of_ble_eq_true rfl)⟩ rfl hl.1 rfl (Nat.le_of_ble_eq_true rfl) d_law_568 ⟨Nat.le_refl _, Nat.le_refl _⟩) (fun r1 u H locs hp w => ?_)
  rcases hp with ⟨hq, hr1, hp⟩ | ⟨hq, h0, hr1, hp⟩ | ⟨hq, h0, hk, hr1, hp⟩ | ⟨hq, h0, hk, hr1, g1, S1, rfl, hc1, hS1, hS2, hu1⟩
  · skip
    have htu : tuA K S z1 = -1 := by unfold tuA; rw [if_neg hq]
    obtain ⟨g1, S1, rfl, hc1, hS1, hu1⟩ := hp
    have w : gw D (lwA s) s.heap H locs L g1 := w
    have hg1 := js_cls g0 d0 hJ hu1
    have w : gw D (lwA s) s.heap H locs L (mSt cI mo A g1 v F) := by rw [hg1]; exact w
    refine lv_aload_n hx hb d_law_571 rfl (lv_at hl 1 rfl) ?_
    refine lv_aload_n hx hb d_law_572 rfl (lv_at hl 3 rfl) ?_
    refine lv_iload_n hx hb d_law_573 rfl (lv_at hl 0 rfl) ?_
    refine lv_iconst (v := iN (1)) hx hb d_law_574 (by decide) ?_
    refine ri_add (a := i) (b := 1) hx hb d_law_575 rfl rfl ?_
    refine va_sld hx hb hX hbl hbA w.2.2.1 (i := iN (i + 1)) (vin (by omega) (by omega) (by omega)) d_law_576 ?_
    rw [ez1]
    refine g_ci w (g_runV (As := [.int (iN z1)]) (rest := [.int r1]) X w (c_M_turned l (f := g1) g0 hI h11 h12 hok hhu (z := z1) hz1 (js_tu M hgs)) k_M_turned v_M_turned lk_law_84 g0.1.1 (show mSt cI mo A g1 v F mo = .inr (4, _) from mS_m) rfl ⟨(Nat.le_of_ble_eq_true rfl), (Nat.le_of_ble_eq_true rfl)⟩ rfl hl.1 rfl (Nat.le_of_ble_eq_true rfl) d_law_577 ⟨Nat.le_refl _, Nat.le_refl _⟩) (fun r2 u H locs hp w => ?_)
    obtain ⟨hr2, hm⟩ : r2 = iN (-1) ∧ mpost L cI mo A g1 K t1 t2 S u := by rcases hp with ⟨_, h9, h8⟩ | ⟨h9, _⟩; (rw [htu] at h9; exact ⟨h9, h8⟩); (exfalso; omega)
    obtain ⟨f2, v2, F2, rfl, J2⟩ := js_mk g0 d0 hc1 (fun i9 h9 => hS1 i9 (by omega)) hm hgs
    have w : gw D (lwA s) s.heap H locs L f2 := w
    refine lv_icmp_eq (tgt := 877) hx hb d_law_580 (by decide) (fun c9 => ?_) (fun c9 => ?_)
    · exact kk _ _ _ _ _ _ _ _ _ J2 w
    · exact absurd (by rw [hr1, hr2]) c9
  · skip
    have htu : tuA K S z1 = -3 := by unfold tuA; rw [if_pos hq, if_pos h0]
    obtain ⟨g1, S1, rfl, hc1, hS1, hu1⟩ := hp
    have w : gw D (lwA s) s.heap H locs L g1 := w
    have hg1 := js_cls g0 d0 hJ hu1
    have w : gw D (lwA s) s.heap H locs L (mSt cI mo A g1 v F) := by rw [hg1]; exact w
    refine lv_aload_n hx hb d_law_571 rfl (lv_at hl 1 rfl) ?_
    refine lv_aload_n hx hb d_law_572 rfl (lv_at hl 3 rfl) ?_
    refine lv_iload_n hx hb d_law_573 rfl (lv_at hl 0 rfl) ?_
    refine lv_iconst (v := iN (1)) hx hb d_law_574 (by decide) ?_
    refine ri_add (a := i) (b := 1) hx hb d_law_575 rfl rfl ?_
    refine va_sld hx hb hX hbl hbA w.2.2.1 (i := iN (i + 1)) (vin (by omega) (by omega) (by omega)) d_law_576 ?_
    rw [ez1]
    refine g_ci w (g_runV (As := [.int (iN z1)]) (rest := [.int r1]) X w (c_M_turned l (f := g1) g0 hI h11 h12 hok hhu (z := z1) hz1 (js_tu M hgs)) k_M_turned v_M_turned lk_law_84 g0.1.1 (show mSt cI mo A g1 v F mo = .inr (4, _) from mS_m) rfl ⟨(Nat.le_of_ble_eq_true rfl), (Nat.le_of_ble_eq_true rfl)⟩ rfl hl.1 rfl (Nat.le_of_ble_eq_true rfl) d_law_577 ⟨Nat.le_refl _, Nat.le_refl _⟩) (fun r2 u H locs hp w => ?_)
    obtain ⟨hr2, hm⟩ : r2 = iN (-3) ∧ mpost L cI mo A g1 K t1 t2 S u := by rcases hp with ⟨_, h9, h8⟩ | ⟨h9, _⟩; (rw [htu] at h9; exact ⟨h9, h8⟩); (exfalso; omega)
    obtain ⟨f2, v2, F2, rfl, J2⟩ := js_mk g0 d0 hc1 (fun i9 h9 => hS1 i9 (by omega)) hm hgs
    have w : gw D (lwA s) s.heap H locs L f2 := w
    refine lv_icmp_eq (tgt := 877) hx hb d_law_580 (by decide) (fun c9 => ?_) (fun c9 => ?_)
    · exact kk _ _ _ _ _ _ _ _ _ J2 w
    · exact absurd (by rw [hr1, hr2]) c9
  · skip
    have htu : tuA K S z1 = 0 := by unfold tuA; rw [if_pos hq, if_neg h0]
    obtain ⟨g1, S1, rfl, hc1, hS1, hu1⟩ := hp
    have w : gw D (lwA s) s.heap H locs L g1 := w
    have hg1 := js_cls g0 d0 hJ hu1
    have w : gw D (lwA s) s.heap H locs L (mSt cI mo A g1 v F) := by rw [hg1]; exact w
    refine lv_aload_n hx hb d_law_571 rfl (lv_at hl 1 rfl) ?_
    refine lv_aload_n hx hb d_law_572 rfl (lv_at hl 3 rfl) ?_
    refine lv_iload_n hx hb d_law_573 rfl (lv_at hl 0 rfl) ?_
    refine lv_iconst (v := iN (1)) hx hb d_law_574 (by decide) ?_
    refine ri_add (a := i) (b := 1) hx hb d_law_575 rfl rfl ?_
    refine va_sld hx hb hX hbl hbA w.2.2.1 (i := iN (i + 1)) (vin (by omega) (by omega) (by omega)) d_law_576 ?_
    rw [ez1]
    refine g_ci w (g_runV (As := [.int (iN z1)]) (rest := [.int r1]) X w (c_M_turned l (f := g1) g0 hI h11 h12 hok hhu (z := z1) hz1 (js_tu M hgs)) k_M_turned v_M_turned lk_law_84 g0.1.1 (show mSt cI mo A g1 v F mo = .inr (4, _) from mS_m) rfl ⟨(Nat.le_of_ble_eq_true rfl), (Nat.le_of_ble_eq_true rfl)⟩ rfl hl.1 rfl (Nat.le_of_ble_eq_true rfl) d_law_577 ⟨Nat.le_refl _, Nat.le_refl _⟩) (fun r2 u H locs hp w => ?_)
    obtain ⟨hr2, hm⟩ : r2 = iN (-5) ∧ mpost L cI mo A g1 K t1 t2 S u := by rcases hp with ⟨h9, _⟩ | ⟨_, h9⟩; (exact absurd htu h9); rcases h9 with ⟨_, h9⟩ | ⟨h8, h9, _⟩; (exact h9); (exfalso; omega)
    obtain ⟨f2, v2, F2, rfl, J2⟩ := js_mk g0 d0 hc1 (fun i9 h9 => hS1 i9 (by omega)) hm hgs
    have w : gw D (lwA s) s.heap H locs L f2 := w
    refine lv_icmp_eq (tgt := 877) hx hb d_law_580 (by decide) (fun c9 => ?_) (fun c9 => ?_)
    · exact kk _ _ _ _ _ _ _ _ _ J2 w
    · exact absurd (by rw [hr1, hr2]) c9
  · skip
    have htu : tuA K S z1 = 0 := by unfold tuA; rw [if_pos hq, if_neg h0]
    have w : gw D (lwA s) s.heap H locs L g1 := w
    have hg1 := js_cls g0 d0 hJ hu1
    have w : gw D (lwA s) s.heap H locs L (mSt cI mo A g1 v F) := by rw [hg1]; exact w
    refine lv_aload_n hx hb d_law_571 rfl (lv_at hl 1 rfl) ?_
    refine lv_aload_n hx hb d_law_572 rfl (lv_at hl 3 rfl) ?_
    refine lv_iload_n hx hb d_law_573 rfl (lv_at hl 0 rfl) ?_
    refine lv_iconst (v := iN (1)) hx hb d_law_574 (by decide) ?_
    refine ri_add (a := i) (b := 1) hx hb d_law_575 rfl rfl ?_
    refine va_sld hx hb hX hbl hbA w.2.2.1 (i := iN (i + 1)) (vin (by omega) (by omega) (by omega)) d_law_576 ?_
    rw [ez1]
    refine g_ci w (g_runV (As := [.int (iN z1)]) (rest := [.int r1]) X w (c_M_turned l (f := g1) g0 hI h11 h12 hok hhu (z := z1) hz1 (js_tu M hgs)) k_M_turned v_M_turned lk_law_84 g0.1.1 (show mSt cI mo A g1 v F mo = .inr (4, _) from mS_m) rfl ⟨(Nat.le_of_ble_eq_true rfl), (Nat.le_of_ble_eq_true rfl)⟩ rfl hl.1 rfl (Nat.le_of_ble_eq_true rfl) d_law_577 ⟨Nat.le_refl _, Nat.le_refl _⟩) (fun r2 u H locs hp w => ?_)
    have hgC : gset (hullF ((S z1.toNat).map (sgm (-1)))) := gset_hull M (gset_m (hgs z1.toNat (by omega)))
    obtain ⟨hr2, hm⟩ : r2 = iN K ∧ mpost L cI mo A g1 (K + 1) t1 t2 (supd S K.toNat (hullF ((S z1.toNat).map (sgm (-1))))) u := by rcases hp with ⟨h9, _⟩ | ⟨_, h9⟩; (exact absurd htu h9); rcases h9 with ⟨h9, _⟩ | ⟨_, _, h9⟩; (have := hgC.1; exfalso; omega); exact h9
    obtain ⟨f2, v2, F2, rfl, J2⟩ := js_mk g0 d0 hc1 (fun i9 h9 => by by_cases e9 : i9 = K.toNat; (rw [e9, su_s]; exact hS2); rw [su_n e9]; exact hS1 i9 (by omega) e9) hm (gset_su hgs hgC hK.1)
    have w : gw D (lwA s) s.heap H locs L f2 := w
    refine lv_icmp_eq (tgt := 877) hx hb d_law_580 (by decide) (fun c9 => ?_) (fun c9 => ?_)
    · exact kk _ _ _ _ _ _ _ _ _ J2 w
    · exact absurd (by rw [hr1, hr2]) c9
end LC
