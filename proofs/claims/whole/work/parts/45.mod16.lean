/-! THE REFERENCE: findCircle, circle -/
def crc (W : List Pt) (x y q r s : Int) : Prop :=
  (∃ a b : Int, 0 ≤ b ∧ b ≤ a ∧ a < W.length ∧ acr W a b W.length ∧ x = pX W a + pX W b ∧ y = pY W a + pY W b ∧ q = 2 ∧ r = sq W a b ∧ s = 4) ∨
  (∃ a b d : Int, (0 ≤ a ∧ a < W.length) ∧ (0 ≤ b ∧ b < W.length) ∧ (0 ≤ d ∧ d < W.length) ∧ rnd W a b d ∧ x = pX W a * rBy W a b d + rUx W a b d ∧ y = pY W a * rBy W a b d + rUy W a b d ∧ q = rBy W a b d ∧ r = rUx W a b d * rUx W a b d + rUy W a b d * rUy W a b d ∧ s = rBy W a b d * rBy W a b d)
def na2 (W : List Pt) (a b : Int) : Prop := ∀ x y : Int, 0 ≤ y → y ≤ x → x < W.length → (x < a ∨ (x = a ∧ y < b)) → ¬ acr W x y W.length
def nr3 (W : List Pt) (a b d : Int) : Prop := ∀ x y z : Int, (0 ≤ x ∧ x < W.length) → (0 ≤ y ∧ y < W.length) → (0 ≤ z ∧ z < W.length) → x ≠ y → y ≠ z → x ≠ z → (x < a ∨ (x = a ∧ (y < b ∨ (y = b ∧ z < d)))) → ¬ rnd W x y z
def noC (W : List Pt) : Prop := na2 W W.length 0 ∧ nr3 W W.length 0 0
theorem na2_s {W : List Pt} {a b : Int} (h : na2 W a b) (h1 : ¬ acr W a b W.length) : na2 W a (b + 1) := by
  intro x y q0 q1 q2 q3
  by_cases e : x = a ∧ y = b
  · rw [e.1, e.2]; exact h1
  · exact h x y q0 q1 q2 (by omega)
theorem na2_n {W : List Pt} {a b : Int} (h : na2 W a b) (h1 : a < b) : na2 W (a + 1) 0 := fun x y q0 q1 q2 q3 => h x y q0 q1 q2 (by omega)
theorem nr3_s {W : List Pt} {a b d : Int} (h : nr3 W a b d) (h1 : a ≠ b → b ≠ d → a ≠ d → ¬ rnd W a b d) : nr3 W a b (d + 1) := by
  intro x y z q0 q1 q2 q3 q4 q5 q6
  by_cases e : x = a ∧ y = b ∧ z = d
  · obtain ⟨rfl, rfl, rfl⟩ := e; exact h1 q3 q4 q5
  · exact h x y z q0 q1 q2 q3 q4 q5 (by omega)
theorem nr3_n {W : List Pt} {a b d : Int} (h : nr3 W a b d) (h1 : W.length ≤ d) : nr3 W a (b + 1) 0 := fun x y z q0 q1 q2 q3 q4 q5 q6 => h x y z q0 q1 q2 q3 q4 q5 (by omega)
theorem nr3_m {W : List Pt} {a b : Int} (h : nr3 W a b 0) (h1 : W.length ≤ b) : nr3 W (a + 1) 0 0 := fun x y z q0 q1 q2 q3 q4 q5 q6 => h x y z q0 q1 q2 q3 q4 q5 (by omega)
theorem mLd_k {v v' : Nat → Int} {F : Nat → Nat → Int} {W H : List Pt} (h : mLd v F W H) (h7 : v' 7 = v 7) (h10 : v' 10 = v 10) : mLd v' F W H := ⟨h7.trans h.1, h10.trans h.2.1, h.2.2.1, h.2.2.2⟩

set_option maxHeartbeats 4000000 in
set_option maxRecDepth 100000 in
theorem c_M_findCircle (l : Launch) {D : va_G} {cI cR : ClassId} {L : List Nat} {f : Nat → va_E} {mo : Nat} {A : Nat → Nat} {v : Nat → Int} {F : Nat → Nat → Int} (g : mg L mo A) {Wl Hu : List Pt} (hL : mLd v F Wl Hu) (hH576 : Hu.length ≤ 576) (hHb : pb 600 Hu) (hWb : pb 300 Wl) (hW24 : Wl.length ≤ 24) : gMi D cI cR l y_M_findCircle (Cond.code y_M_findCircle b_M_findCircle 4 (some .boolean) :: lw_g) { frames := 2, cells := 0, slots := 0, locals := 70 } [.ref mo] L (mSt cI mo A f v F) (fun r u => ∃ v' : Nat → Int, u = (L, mSt cI mo A f v' F) ∧ (∀ q, q < 18 → v' q = v q) ∧ ((r = iN 1 ∧ crc Wl (v' 18) (v' 19) (v' 20) (v' 21) (v' 22)) ∨ (r = iN 0 ∧ noC Wl))) := by
  intro sz
  refine g_enter (by decide) rfl (Nat.le_of_ble_eq_true rfl) ?_
  intro p e s m below meth cd ls X hrt hlk hnm hl hsz w
  have X : gx p m cd b_M_findCircle 4 s _ "HullSumsModel" D cI cR := X
  have hx := X.1.1
  have hb := X.1.2.1
  have hl : lv_has ls 4 [(0, .ref mo)] := hl
  have hL0 := hL
  obtain ⟨h7, h10, hwF, hhF⟩ := hL
  refine lv_iconst (v := iN (0)) hx hb d_M_findCircle_0 (by decide) ?_
  refine lv_istore_n (lv' := [(1, .int (iN (0))), (0, .ref mo)]) hx hb d_M_findCircle_1 rfl hl (by decide) rfl (fun ls hl => ?_)
  refine g_loop (σ := Int) (fun z9 => ((Wl.length : Int) - z9).toNat) (fun z9 => [(0, .ref mo), (1, .int (iN (z9)))]) L (fun z9 => (mSt cI mo A f v F)) (fun z9 => 0 ≤ z9 ∧ z9 ≤ Wl.length ∧ na2 Wl z9 0) ?_ 0 _ _ _ ⟨by omega, by omega, fun x y q0 q1 q2 q3 => by omega⟩ w (lv_sub hl [1, 0] rfl)
  intro a H locs ls hI w hl ih
  have hl : lv_has ls 4 [(0, .ref mo), (1, .int (iN (a)))] := hl
  have w : gw D (gA L sz) s.heap H locs L ((mSt cI mo A f v F)) := w
  have hI : 0 ≤ a ∧ a ≤ Wl.length ∧ na2 Wl a 0 := hI
  obtain ⟨h0, h1, h2⟩ := hI
  refine lv_iload_n hx hb d_M_findCircle_2 rfl (lv_at hl 1 rfl) ?_
  refine lv_aload_n hx hb d_M_findCircle_3 rfl (lv_at hl 0 rfl) ?_
  refine gk_get X w g.1.1 (show (mSt cI mo A f v F) mo = .inr (4, _) from mS_m) rfl in_M 7 (by decide) lk_M_45 rfl d_M_findCircle_4 ?_
  rw [show v 7 = (Wl.length : Int) from h7]
  refine ri_cge (a := a) (b := (Wl.length : Int)) (tgt := 125) hx hb d_M_findCircle_7 (by decide) rfl rfl (by unfold i3; omega) (by unfold i3; omega) (fun c7 => ?_) (fun c7 => ?_)
  · skip
    have hna : na2 Wl Wl.length 0 := by rw [show (Wl.length : Int) = a by omega]; exact h2
    have h7o := h7
    refine lv_iconst (v := iN (0)) hx hb d_M_findCircle_125 (by decide) ?_
    refine lv_istore_n (lv' := [(1, .int (iN (0))), (0, .ref mo)]) hx hb d_M_findCircle_126 rfl hl (by decide) rfl (fun ls hl => ?_)
    refine g_loop (σ := Int × (Nat → Int)) (fun z9 => ((Wl.length : Int) - z9.1).toNat) (fun z9 => [(0, .ref mo), (1, .int (iN (z9.1)))]) L (fun z9 => (mSt cI mo A f z9.2 F)) (fun z9 => 0 ≤ z9.1 ∧ z9.1 ≤ Wl.length ∧ nr3 Wl z9.1 0 0 ∧ (∀ q, q < 18 → z9.2 q = v q)) ?_ (0, v) _ _ _ ⟨by (try dsimp only); omega, by (try dsimp only); omega, fun x y z q0 q1 q2 q3 q4 q5 q6 => by (try dsimp only at q6); omega, fun _ _ => rfl⟩ w (lv_sub hl [1, 0] rfl)
    intro z9 H locs ls hI w hl ih3
    obtain ⟨a, v1⟩ := z9
    have hl : lv_has ls 4 [(0, .ref mo), (1, .int (iN (a)))] := hl
    have w : gw D (gA L sz) s.heap H locs L ((mSt cI mo A f v1 F)) := w
    have hI : 0 ≤ a ∧ a ≤ Wl.length ∧ nr3 Wl a 0 0 ∧ (∀ q, q < 18 → v1 q = v q) := hI
    obtain ⟨h0, h1, h2, h3⟩ := hI
    have h7 : v1 7 = Wl.length := (h3 7 (by decide)).trans h7o
    refine lv_iload_n hx hb d_M_findCircle_127 rfl (lv_at hl 1 rfl) ?_
    refine lv_aload_n hx hb d_M_findCircle_128 rfl (lv_at hl 0 rfl) ?_
    refine gk_get X w g.1.1 (show (mSt cI mo A f v1 F) mo = .inr (4, _) from mS_m) rfl in_M 7 (by decide) lk_M_45 rfl d_M_findCircle_129 ?_
    rw [show v1 7 = (Wl.length : Int) from h7]
    refine ri_cge (a := a) (b := (Wl.length : Int)) (tgt := 200) hx hb d_M_findCircle_132 (by decide) rfl rfl (by unfold i3; omega) (by unfold i3; omega) (fun c132 => ?_) (fun c132 => ?_)
    · skip
      refine lv_iconst (v := iN (0)) hx hb d_M_findCircle_200 (by decide) ?_
      exact g_zret X w hrt hlk d_M_findCircle_201 rfl ⟨v1, rfl, h3, Or.inr ⟨rfl, hna, by rw [show (Wl.length : Int) = a by omega]; exact h2⟩⟩
    · skip
      refine lv_iconst (v := iN (0)) hx hb d_M_findCircle_135 (by decide) ?_
      refine lv_istore_n (lv' := [(2, .int (iN (0))), (0, .ref mo), (1, .int (iN (a)))]) hx hb d_M_findCircle_136 rfl hl (by decide) rfl (fun ls hl => ?_)
      refine g_loop (σ := Int × (Nat → Int)) (fun z9 => ((Wl.length : Int) - z9.1).toNat) (fun z9 => [(0, .ref mo), (1, .int (iN (a))), (2, .int (iN (z9.1)))]) L (fun z9 => (mSt cI mo A f z9.2 F)) (fun z9 => 0 ≤ z9.1 ∧ z9.1 ≤ Wl.length ∧ nr3 Wl a z9.1 0 ∧ (∀ q, q < 18 → z9.2 q = v q)) ?_ (0, v1) _ _ _ ⟨by (try dsimp only); omega, by (try dsimp only); omega, h2, h3⟩ w (lv_sub hl [1, 2, 0] rfl)
      intro z9 H locs ls hI w hl ih4
      obtain ⟨b, v2⟩ := z9
      have hl : lv_has ls 4 [(0, .ref mo), (1, .int (iN (a))), (2, .int (iN (b)))] := hl
      have w : gw D (gA L sz) s.heap H locs L ((mSt cI mo A f v2 F)) := w
      have hI : 0 ≤ b ∧ b ≤ Wl.length ∧ nr3 Wl a b 0 ∧ (∀ q, q < 18 → v2 q = v q) := hI
      obtain ⟨i0, i1, i2, i3'⟩ := hI
      have h7 : v2 7 = Wl.length := (i3' 7 (by decide)).trans h7o
      refine lv_iload_n hx hb d_M_findCircle_137 rfl (lv_at hl 2 rfl) ?_
      refine lv_aload_n hx hb d_M_findCircle_138 rfl (lv_at hl 0 rfl) ?_
      refine gk_get X w g.1.1 (show (mSt cI mo A f v2 F) mo = .inr (4, _) from mS_m) rfl in_M 7 (by decide) lk_M_45 rfl d_M_findCircle_139 ?_
      rw [show v2 7 = (Wl.length : Int) from h7]
      refine ri_cge (a := b) (b := (Wl.length : Int)) (tgt := 194) hx hb d_M_findCircle_142 (by decide) rfl rfl (by unfold i3; omega) (by unfold i3; omega) (fun c142 => ?_) (fun c142 => ?_)
      · skip
        refine lv_iinc (v := iN ((a + 1))) (lv' := [(1, .int (iN ((a + 1)))), (0, .ref mo), (2, .int (iN (b)))]) hx hb d_M_findCircle_194 hl (k := 1) rfl (by rw [show (a + 1) = a + (1 : Int) by omega, ← iN_add]; rfl) (by decide) rfl (fun ls hl => ?_)
        refine lv_goto (tgt := 127) hx hb d_M_findCircle_197 (by decide) ?_
        have hI' : 0 ≤ (a + 1) ∧ (a + 1) ≤ Wl.length ∧ nr3 Wl (a + 1) 0 0 ∧ (∀ q, q < 18 → v2 q = v q) := ⟨by omega, by omega, nr3_m i2 (by omega), i3'⟩
        exact ih3 ((a + 1), v2) _ _ _ (by omega) hI' w (lv_sub hl [1, 0] rfl)
      · skip
        refine lv_iconst (v := iN (0)) hx hb d_M_findCircle_145 (by decide) ?_
        refine lv_istore_n (lv' := [(3, .int (iN (0))), (0, .ref mo), (1, .int (iN (a))), (2, .int (iN (b)))]) hx hb d_M_findCircle_146 rfl hl (by decide) rfl (fun ls hl => ?_)
        refine g_loop (σ := Int × (Nat → Int)) (fun z9 => ((Wl.length : Int) - z9.1).toNat) (fun z9 => [(0, .ref mo), (1, .int (iN (a))), (2, .int (iN (b))), (3, .int (iN (z9.1)))]) L (fun z9 => (mSt cI mo A f z9.2 F)) (fun z9 => 0 ≤ z9.1 ∧ z9.1 ≤ Wl.length ∧ nr3 Wl a b z9.1 ∧ (∀ q, q < 18 → z9.2 q = v q)) ?_ (0, v2) _ _ _ ⟨by (try dsimp only); omega, by (try dsimp only); omega, i2, i3'⟩ w (lv_sub hl [1, 2, 3, 0] rfl)
        intro z9 H locs ls hI w hl ih5
        obtain ⟨d, v3⟩ := z9
        have hl : lv_has ls 4 [(0, .ref mo), (1, .int (iN (a))), (2, .int (iN (b))), (3, .int (iN (d)))] := hl
        have w : gw D (gA L sz) s.heap H locs L ((mSt cI mo A f v3 F)) := w
        have hI : 0 ≤ d ∧ d ≤ Wl.length ∧ nr3 Wl a b d ∧ (∀ q, q < 18 → v3 q = v q) := hI
        obtain ⟨j0, j1, j2, j3⟩ := hI
        have h7 : v3 7 = Wl.length := (j3 7 (by decide)).trans h7o
        refine lv_iload_n hx hb d_M_findCircle_147 rfl (lv_at hl 3 rfl) ?_
        refine lv_aload_n hx hb d_M_findCircle_148 rfl (lv_at hl 0 rfl) ?_
        refine gk_get X w g.1.1 (show (mSt cI mo A f v3 F) mo = .inr (4, _) from mS_m) rfl in_M 7 (by decide) lk_M_45 rfl d_M_findCircle_149 ?_
        rw [show v3 7 = (Wl.length : Int) from h7]
        refine ri_cge (a := d) (b := (Wl.length : Int)) (tgt := 188) hx hb d_M_findCircle_152 (by decide) rfl rfl (by unfold i3; omega) (by unfold i3; omega) (fun c152 => ?_) (fun c152 => ?_)
        · skip
          refine lv_iinc (v := iN ((b + 1))) (lv' := [(2, .int (iN ((b + 1)))), (0, .ref mo), (1, .int (iN (a))), (3, .int (iN (d)))]) hx hb d_M_findCircle_188 hl (k := 2) rfl (by rw [show (b + 1) = b + (1 : Int) by omega, ← iN_add]; rfl) (by decide) rfl (fun ls hl => ?_)
          refine lv_goto (tgt := 137) hx hb d_M_findCircle_191 (by decide) ?_
          have hI' : 0 ≤ (b + 1) ∧ (b + 1) ≤ Wl.length ∧ nr3 Wl a (b + 1) 0 ∧ (∀ q, q < 18 → v3 q = v q) := ⟨by omega, by omega, nr3_n j2 (by omega), j3⟩
          exact ih4 ((b + 1), v3) _ _ _ (by omega) hI' w (lv_sub hl [1, 2, 0] rfl)
        · skip
          refine lv_iload_n hx hb d_M_findCircle_155 rfl (lv_at hl 1 rfl) ?_
          refine lv_iload_n hx hb d_M_findCircle_156 rfl (lv_at hl 2 rfl) ?_
          refine ri_ceq (a := a) (b := b) (tgt := 182) hx hb d_M_findCircle_157 (by decide) rfl rfl (by unfold i3; omega) (by unfold i3; omega) (fun c157 => ?_) (fun c157 => ?_)
          · skip
            refine lv_iinc (v := iN ((d + 1))) (lv' := [(3, .int (iN ((d + 1)))), (0, .ref mo), (1, .int (iN (a))), (2, .int (iN (b)))]) hx hb d_M_findCircle_182 hl (k := 3) rfl (by rw [show (d + 1) = d + (1 : Int) by omega, ← iN_add]; rfl) (by decide) rfl (fun ls hl => ?_)
            refine lv_goto (tgt := 147) hx hb d_M_findCircle_185 (by decide) ?_
            have hI' : 0 ≤ (d + 1) ∧ (d + 1) ≤ Wl.length ∧ nr3 Wl a b (d + 1) ∧ (∀ q, q < 18 → v3 q = v q) := ⟨by omega, by omega, nr3_s j2 (fun _ _ _ => by omega), j3⟩
            exact ih5 ((d + 1), v3) _ _ _ (by omega) hI' w (lv_sub hl [1, 2, 3, 0] rfl)
          · skip
            refine lv_iload_n hx hb d_M_findCircle_160 rfl (lv_at hl 2 rfl) ?_
            refine lv_iload_n hx hb d_M_findCircle_161 rfl (lv_at hl 3 rfl) ?_
            refine ri_ceq (a := b) (b := d) (tgt := 182) hx hb d_M_findCircle_162 (by decide) rfl rfl (by unfold i3; omega) (by unfold i3; omega) (fun c162 => ?_) (fun c162 => ?_)
            · skip
              refine lv_iinc (v := iN ((d + 1))) (lv' := [(3, .int (iN ((d + 1)))), (0, .ref mo), (1, .int (iN (a))), (2, .int (iN (b)))]) hx hb d_M_findCircle_182 hl (k := 3) rfl (by rw [show (d + 1) = d + (1 : Int) by omega, ← iN_add]; rfl) (by decide) rfl (fun ls hl => ?_)
              refine lv_goto (tgt := 147) hx hb d_M_findCircle_185 (by decide) ?_
              have hI' : 0 ≤ (d + 1) ∧ (d + 1) ≤ Wl.length ∧ nr3 Wl a b (d + 1) ∧ (∀ q, q < 18 → v3 q = v q) := ⟨by omega, by omega, nr3_s j2 (fun _ _ _ => by omega), j3⟩
              exact ih5 ((d + 1), v3) _ _ _ (by omega) hI' w (lv_sub hl [1, 2, 3, 0] rfl)
            · skip
              refine lv_iload_n hx hb d_M_findCircle_165 rfl (lv_at hl 1 rfl) ?_
              refine lv_iload_n hx hb d_M_findCircle_166 rfl (lv_at hl 3 rfl) ?_
              refine ri_ceq (a := a) (b := d) (tgt := 182) hx hb d_M_findCircle_167 (by decide) rfl rfl (by unfold i3; omega) (by unfold i3; omega) (fun c167 => ?_) (fun c167 => ?_)
              · skip
                refine lv_iinc (v := iN ((d + 1))) (lv' := [(3, .int (iN ((d + 1)))), (0, .ref mo), (1, .int (iN (a))), (2, .int (iN (b)))]) hx hb d_M_findCircle_182 hl (k := 3) rfl (by rw [show (d + 1) = d + (1 : Int) by omega, ← iN_add]; rfl) (by decide) rfl (fun ls hl => ?_)
                refine lv_goto (tgt := 147) hx hb d_M_findCircle_185 (by decide) ?_
                have hI' : 0 ≤ (d + 1) ∧ (d + 1) ≤ Wl.length ∧ nr3 Wl a b (d + 1) ∧ (∀ q, q < 18 → v3 q = v q) := ⟨by omega, by omega, nr3_s j2 (fun _ _ _ => by omega), j3⟩
                exact ih5 ((d + 1), v3) _ _ _ (by omega) hI' w (lv_sub hl [1, 2, 3, 0] rfl)
              · skip
                refine lv_aload_n hx hb d_M_findCircle_170 rfl (lv_at hl 0 rfl) ?_
                refine lv_iload_n hx hb d_M_findCircle_171 rfl (lv_at hl 1 rfl) ?_
                refine lv_iload_n hx hb d_M_findCircle_172 rfl (lv_at hl 2 rfl) ?_
                refine lv_iload_n hx hb d_M_findCircle_173 rfl (lv_at hl 3 rfl) ?_
                refine g_ci w (g_runV (As := [.int (iN (a)), .int (iN (b)), .int (iN (d))]) (rest := []) X w (c_M_isRound l g (v := v3) (F := F) (mLd_k hL0 (j3 7 (by decide)) (j3 10 (by decide))) hH576 hHb hWb hW24 (a := a) (b := b) (d := d) (by omega) (by omega) (by omega)) k_M_isRound v_M_isRound lk_M_170 g.1.1 (show (mSt cI mo A f v3 F) mo = .inr (4, _) from mS_m) rfl ⟨(Nat.le_of_ble_eq_true rfl), (Nat.le_of_ble_eq_true rfl)⟩ rfl hl.1 rfl (Nat.le_of_ble_eq_true rfl) d_M_findCircle_174 ⟨(Nat.le_of_ble_eq_true rfl), (Nat.le_of_ble_eq_true rfl)⟩) (fun r u H locs hp w => ?_)
                obtain ⟨rfl, vR, rfl, hR, hRf⟩ := hp
                have w : gw D (gA L sz) s.heap H locs L (mSt cI mo A f vR F) := w
                refine ri_zeq (a := (bI (rnd Wl a b d))) (tgt := 182) hx hb d_M_findCircle_177 (by decide) rfl (bI_3 _) (fun c177 => ?_) (fun c177 => ?_)
                · skip
                  refine lv_iinc (v := iN ((d + 1))) (lv' := [(3, .int (iN ((d + 1)))), (0, .ref mo), (1, .int (iN (a))), (2, .int (iN (b)))]) hx hb d_M_findCircle_182 hl (k := 3) rfl (by rw [show (d + 1) = d + (1 : Int) by omega, ← iN_add]; rfl) (by decide) rfl (fun ls hl => ?_)
                  refine lv_goto (tgt := 147) hx hb d_M_findCircle_185 (by decide) ?_
                  have hI' : 0 ≤ (d + 1) ∧ (d + 1) ≤ Wl.length ∧ nr3 Wl a b (d + 1) ∧ (∀ q, q < 18 → vR q = v q) := ⟨by omega, by omega, nr3_s j2 (fun _ _ _ => bI_0 (by omega)), fun q hq => (hR q hq).trans (j3 q hq)⟩
                  exact ih5 ((d + 1), vR) _ _ _ (by omega) hI' w (lv_sub hl [1, 2, 3, 0] rfl)
                · skip
                  refine lv_iconst (v := iN (1)) hx hb d_M_findCircle_180 (by decide) ?_
                  obtain ⟨e1, e2, e3, e4, e5⟩ := hRf (bI_n (by omega))
                  exact g_zret X w hrt hlk d_M_findCircle_181 rfl ⟨vR, rfl, fun q hq => (hR q hq).trans (j3 q hq), Or.inl ⟨rfl, Or.inr ⟨a, b, d, by omega, by omega, by omega, bI_n (by omega), e1, e2, e3, e4, e5⟩⟩⟩
  · skip
    refine lv_iconst (v := iN (0)) hx hb d_M_findCircle_10 (by decide) ?_
    refine lv_istore_n (lv' := [(2, .int (iN (0))), (0, .ref mo), (1, .int (iN (a)))]) hx hb d_M_findCircle_11 rfl hl (by decide) rfl (fun ls hl => ?_)
    refine g_loop (σ := Int) (fun z9 => (a + 1 - z9).toNat) (fun z9 => [(0, .ref mo), (1, .int (iN (a))), (2, .int (iN (z9)))]) L (fun z9 => (mSt cI mo A f v F)) (fun z9 => 0 ≤ z9 ∧ z9 ≤ a + 1 ∧ na2 Wl a z9) ?_ 0 _ _ _ ⟨by omega, by omega, h2⟩ w (lv_sub hl [1, 2, 0] rfl)
    intro b H locs ls hI w hl ih2
    have hl : lv_has ls 4 [(0, .ref mo), (1, .int (iN (a))), (2, .int (iN (b)))] := hl
    have w : gw D (gA L sz) s.heap H locs L ((mSt cI mo A f v F)) := w
    have hI : 0 ≤ b ∧ b ≤ a + 1 ∧ na2 Wl a b := hI
    obtain ⟨k0, k1, k2⟩ := hI
    refine lv_iload_n hx hb d_M_findCircle_12 rfl (lv_at hl 2 rfl) ?_
    refine lv_iload_n hx hb d_M_findCircle_13 rfl (lv_at hl 1 rfl) ?_
    refine ri_cgt (a := b) (b := a) (tgt := 119) hx hb d_M_findCircle_14 (by decide) rfl rfl (by unfold i3; omega) (by unfold i3; omega) (fun c14 => ?_) (fun c14 => ?_)
    · skip
      refine lv_iinc (v := iN ((a + 1))) (lv' := [(1, .int (iN ((a + 1)))), (0, .ref mo), (2, .int (iN (b)))]) hx hb d_M_findCircle_119 hl (k := 1) rfl (by rw [show (a + 1) = a + (1 : Int) by omega, ← iN_add]; rfl) (by decide) rfl (fun ls hl => ?_)
      refine lv_goto (tgt := 2) hx hb d_M_findCircle_122 (by decide) ?_
      exact ih (a + 1) _ _ _ (by omega) ⟨by omega, by omega, na2_n k2 (by omega)⟩ w (lv_sub hl [1, 0] rfl)
    · skip
      refine lv_aload_n hx hb d_M_findCircle_17 rfl (lv_at hl 0 rfl) ?_
      refine lv_iload_n hx hb d_M_findCircle_18 rfl (lv_at hl 1 rfl) ?_
      refine lv_iload_n hx hb d_M_findCircle_19 rfl (lv_at hl 2 rfl) ?_
      refine g_ci w (g_runV (As := [.int (iN (a)), .int (iN (b))]) (rest := []) X w (c_M_isAcross l g (v := v) (F := F) hL0 hH576 hHb hWb hW24 (a := a) (b := b) (by omega) (by omega)) k_M_isAcross v_M_isAcross lk_M_164 g.1.1 (show (mSt cI mo A f v F) mo = .inr (4, _) from mS_m) rfl ⟨(Nat.le_of_ble_eq_true rfl), (Nat.le_of_ble_eq_true rfl)⟩ rfl hl.1 rfl (Nat.le_of_ble_eq_true rfl) d_M_findCircle_20 ⟨Nat.zero_le _, Nat.zero_le _⟩) (fun r u H locs hp w => ?_)
      obtain ⟨rfl, rfl⟩ := hp
      have w : gw D (gA L sz) s.heap H locs L (mSt cI mo A f v F) := w
      refine ri_zeq (a := (bI (acr Wl a b Wl.length))) (tgt := 113) hx hb d_M_findCircle_23 (by decide) rfl (bI_3 _) (fun c23 => ?_) (fun c23 => ?_)
      · skip
        refine lv_iinc (v := iN ((b + 1))) (lv' := [(2, .int (iN ((b + 1)))), (0, .ref mo), (1, .int (iN (a)))]) hx hb d_M_findCircle_113 hl (k := 2) rfl (by rw [show (b + 1) = b + (1 : Int) by omega, ← iN_add]; rfl) (by decide) rfl (fun ls hl => ?_)
        refine lv_goto (tgt := 12) hx hb d_M_findCircle_116 (by decide) ?_
        exact ih2 (b + 1) _ _ _ (by omega) ⟨by omega, by omega, na2_s k2 (bI_0 (by omega))⟩ w (lv_sub hl [1, 2, 0] rfl)
      · skip
        refine lv_aload_n hx hb d_M_findCircle_26 rfl (lv_at hl 0 rfl) ?_
        refine lv_aload_n hx hb d_M_findCircle_27 rfl (lv_at hl 0 rfl) ?_
        refine gk_get X w g.1.1 (show (mSt cI mo A f v F) mo = .inr (4, _) from mS_m) rfl in_M 5 (by decide) lk_M_19 rfl d_M_findCircle_28 ?_
        refine lv_iload_n hx hb d_M_findCircle_31 rfl (lv_at hl 1 rfl) ?_
        refine gk_iald X w 0 g.1.2.2.2.2.1 (mS_5 g) rfl (vin (by omega) (show (a : Int) < 576 by have h9 : (a : Int) < Wl.length := (by omega); omega) (by decide)) d_M_findCircle_32 ?_
        rw [vcl (z := a) (by omega) (by have h9 : (a : Int) < Wl.length := (by omega); omega), wld_x hwF (i := a) (by omega) (by omega)]
        refine lv_aload_n hx hb d_M_findCircle_33 rfl (lv_at hl 0 rfl) ?_
        refine gk_get X w g.1.1 (show (mSt cI mo A f v F) mo = .inr (4, _) from mS_m) rfl in_M 5 (by decide) lk_M_19 rfl d_M_findCircle_34 ?_
        refine lv_iload_n hx hb d_M_findCircle_37 rfl (lv_at hl 2 rfl) ?_
        refine gk_iald X w 0 g.1.2.2.2.2.1 (mS_5 g) rfl (vin (by omega) (show (b : Int) < 576 by have h9 : (b : Int) < Wl.length := (by omega); omega) (by decide)) d_M_findCircle_38 ?_
        rw [vcl (z := b) (by omega) (by have h9 : (b : Int) < Wl.length := (by omega); omega), wld_x hwF (i := b) (by omega) (by omega)]
        refine ri_add (a := (pX Wl a)) (b := (pX Wl b)) hx hb d_M_findCircle_39 rfl rfl ?_
        refine ri_i2l (a := ((pX Wl a) + (pX Wl b))) hx hb d_M_findCircle_40 rfl (by have := hWb a; have := hWb b; unfold i3; omega) ?_
        refine gk_put X w g.1.1 (show (mSt cI mo A f v F) mo = .inr (4, _) from mS_m) rfl in_M ty_M tyok_M nm_M 18 (by decide) lk_M_149 rfl (ty := .long) (by decide +kernel) rfl rfl (Nat.le_of_ble_eq_true rfl) d_M_findCircle_41 (fun H locs w => ?_)
        obtain ⟨v1, hv1⟩ : ∃ q : Nat → Int, q = va_up v 18 (((pX Wl a) + (pX Wl b))) := ⟨_, rfl⟩
        have v1s : v1 18 = ((pX Wl a) + (pX Wl b)) := by rw [hv1, va_up_self]
        have v1n : ∀ j, j ≠ 18 → v1 j = v j := fun j hj => by rw [hv1, va_up_ne _ _ hj]
        have w : gw D (gA L sz) s.heap H locs L (mSt cI mo A f v1 F) := by rw [hv1, ← mU_m (v := v)]; exact w
        refine lv_aload_n hx hb d_M_findCircle_44 rfl (lv_at hl 0 rfl) ?_
        refine lv_aload_n hx hb d_M_findCircle_45 rfl (lv_at hl 0 rfl) ?_
        refine gk_get X w g.1.1 (show (mSt cI mo A f v1 F) mo = .inr (4, _) from mS_m) rfl in_M 6 (by decide) lk_M_22 rfl d_M_findCircle_46 ?_
        refine lv_iload_n hx hb d_M_findCircle_49 rfl (lv_at hl 1 rfl) ?_
        refine gk_iald X w 0 g.1.2.2.2.2.2.1 (mS_6 g) rfl (vin (by omega) (show (a : Int) < 576 by have h9 : (a : Int) < Wl.length := (by omega); omega) (by decide)) d_M_findCircle_50 ?_
        rw [vcl (z := a) (by omega) (by have h9 : (a : Int) < Wl.length := (by omega); omega), wld_y hwF (i := a) (by omega) (by omega)]
        refine lv_aload_n hx hb d_M_findCircle_51 rfl (lv_at hl 0 rfl) ?_
        refine gk_get X w g.1.1 (show (mSt cI mo A f v1 F) mo = .inr (4, _) from mS_m) rfl in_M 6 (by decide) lk_M_22 rfl d_M_findCircle_52 ?_
        refine lv_iload_n hx hb d_M_findCircle_55 rfl (lv_at hl 2 rfl) ?_
        refine gk_iald X w 0 g.1.2.2.2.2.2.1 (mS_6 g) rfl (vin (by omega) (show (b : Int) < 576 by have h9 : (b : Int) < Wl.length := (by omega); omega) (by decide)) d_M_findCircle_56 ?_
        rw [vcl (z := b) (by omega) (by have h9 : (b : Int) < Wl.length := (by omega); omega), wld_y hwF (i := b) (by omega) (by omega)]
        refine ri_add (a := (pY Wl a)) (b := (pY Wl b)) hx hb d_M_findCircle_57 rfl rfl ?_
        refine ri_i2l (a := ((pY Wl a) + (pY Wl b))) hx hb d_M_findCircle_58 rfl (by have := hWb a; have := hWb b; unfold i3; omega) ?_
        refine gk_put X w g.1.1 (show (mSt cI mo A f v1 F) mo = .inr (4, _) from mS_m) rfl in_M ty_M tyok_M nm_M 19 (by decide) lk_M_152 rfl (ty := .long) (by decide +kernel) rfl rfl (Nat.le_of_ble_eq_true rfl) d_M_findCircle_59 (fun H locs w => ?_)
        obtain ⟨v2, hv2⟩ : ∃ q : Nat → Int, q = va_up v1 19 (((pY Wl a) + (pY Wl b))) := ⟨_, rfl⟩
        have v2s : v2 19 = ((pY Wl a) + (pY Wl b)) := by rw [hv2, va_up_self]
        have v2n : ∀ j, j ≠ 19 → v2 j = v1 j := fun j hj => by rw [hv2, va_up_ne _ _ hj]
        have w : gw D (gA L sz) s.heap H locs L (mSt cI mo A f v2 F) := by rw [hv2, ← mU_m (v := v1)]; exact w
        refine lv_aload_n hx hb d_M_findCircle_62 rfl (lv_at hl 0 rfl) ?_
        refine lv_ldc2 hx hb X.1.2.2.2.1 (X.1.2.2.2.2 _ lk_M_99) d_M_findCircle_63 ?_
        refine gk_put X w g.1.1 (show (mSt cI mo A f v2 F) mo = .inr (4, _) from mS_m) rfl in_M ty_M tyok_M nm_M 20 (by decide) lk_M_155 rfl (ty := .long) (by decide +kernel) rfl rfl (Nat.le_of_ble_eq_true rfl) d_M_findCircle_66 (fun H locs w => ?_)
        obtain ⟨v3, hv3⟩ : ∃ q : Nat → Int, q = va_up v2 20 (2) := ⟨_, rfl⟩
        have v3s : v3 20 = 2 := by rw [hv3, va_up_self]
        have v3n : ∀ j, j ≠ 20 → v3 j = v2 j := fun j hj => by rw [hv3, va_up_ne _ _ hj]
        have w : gw D (gA L sz) s.heap H locs L (mSt cI mo A f v3 F) := by rw [hv3, ← mU_m (v := v2)]; exact w
        refine lv_aload_n hx hb d_M_findCircle_69 rfl (lv_at hl 0 rfl) ?_
        refine lv_aload_n hx hb d_M_findCircle_70 rfl (lv_at hl 0 rfl) ?_
        refine gk_get X w g.1.1 (show (mSt cI mo A f v3 F) mo = .inr (4, _) from mS_m) rfl in_M 5 (by decide) lk_M_19 rfl d_M_findCircle_71 ?_
        refine lv_iload_n hx hb d_M_findCircle_74 rfl (lv_at hl 1 rfl) ?_
        refine gk_iald X w 0 g.1.2.2.2.2.1 (mS_5 g) rfl (vin (by omega) (show (a : Int) < 576 by have h9 : (a : Int) < Wl.length := (by omega); omega) (by decide)) d_M_findCircle_75 ?_
        rw [vcl (z := a) (by omega) (by have h9 : (a : Int) < Wl.length := (by omega); omega), wld_x hwF (i := a) (by omega) (by omega)]
        refine ri_i2l (a := (pX Wl a)) hx hb d_M_findCircle_76 rfl (by have := hWb a; have := hWb b; unfold i3; omega) ?_
        refine lv_aload_n hx hb d_M_findCircle_77 rfl (lv_at hl 0 rfl) ?_
        refine gk_get X w g.1.1 (show (mSt cI mo A f v3 F) mo = .inr (4, _) from mS_m) rfl in_M 6 (by decide) lk_M_22 rfl d_M_findCircle_78 ?_
        refine lv_iload_n hx hb d_M_findCircle_81 rfl (lv_at hl 1 rfl) ?_
        refine gk_iald X w 0 g.1.2.2.2.2.2.1 (mS_6 g) rfl (vin (by omega) (show (a : Int) < 576 by have h9 : (a : Int) < Wl.length := (by omega); omega) (by decide)) d_M_findCircle_82 ?_
        rw [vcl (z := a) (by omega) (by have h9 : (a : Int) < Wl.length := (by omega); omega), wld_y hwF (i := a) (by omega) (by omega)]
        refine ri_i2l (a := (pY Wl a)) hx hb d_M_findCircle_83 rfl (by have := hWb a; have := hWb b; unfold i3; omega) ?_
        refine lv_aload_n hx hb d_M_findCircle_84 rfl (lv_at hl 0 rfl) ?_
        refine gk_get X w g.1.1 (show (mSt cI mo A f v3 F) mo = .inr (4, _) from mS_m) rfl in_M 5 (by decide) lk_M_19 rfl d_M_findCircle_85 ?_
        refine lv_iload_n hx hb d_M_findCircle_88 rfl (lv_at hl 2 rfl) ?_
        refine gk_iald X w 0 g.1.2.2.2.2.1 (mS_5 g) rfl (vin (by omega) (show (b : Int) < 576 by have h9 : (b : Int) < Wl.length := (by omega); omega) (by decide)) d_M_findCircle_89 ?_
        rw [vcl (z := b) (by omega) (by have h9 : (b : Int) < Wl.length := (by omega); omega), wld_x hwF (i := b) (by omega) (by omega)]
        refine ri_i2l (a := (pX Wl b)) hx hb d_M_findCircle_90 rfl (by have := hWb a; have := hWb b; unfold i3; omega) ?_
        refine lv_aload_n hx hb d_M_findCircle_91 rfl (lv_at hl 0 rfl) ?_
        refine gk_get X w g.1.1 (show (mSt cI mo A f v3 F) mo = .inr (4, _) from mS_m) rfl in_M 6 (by decide) lk_M_22 rfl d_M_findCircle_92 ?_
        refine lv_iload_n hx hb d_M_findCircle_95 rfl (lv_at hl 2 rfl) ?_
        refine gk_iald X w 0 g.1.2.2.2.2.2.1 (mS_6 g) rfl (vin (by omega) (show (b : Int) < 576 by have h9 : (b : Int) < Wl.length := (by omega); omega) (by decide)) d_M_findCircle_96 ?_
        rw [vcl (z := b) (by omega) (by have h9 : (b : Int) < Wl.length := (by omega); omega), wld_y hwF (i := b) (by omega) (by omega)]
        refine ri_i2l (a := (pY Wl b)) hx hb d_M_findCircle_97 rfl (by have := hWb a; have := hWb b; unfold i3; omega) ?_
        refine g_cl w (g_runS (As := [.long (jN ((pX Wl a))), .long (jN ((pY Wl a))), .long (jN ((pX Wl b))), .long (jN ((pY Wl b)))]) (rest := [.ref mo]) X w (c_M_square l (px := (pX Wl a)) (py := (pY Wl a)) (ax := (pX Wl b)) (ay := (pY Wl b))) k_M_square lk_M_62 st_M_square ⟨(Nat.le_of_ble_eq_true rfl), (Nat.le_of_ble_eq_true rfl)⟩ rfl hl.1 rfl (Nat.le_of_ble_eq_true rfl) d_M_findCircle_98 ⟨Nat.zero_le _, Nat.zero_le _⟩) (fun r u H locs hp w => ?_)
        obtain ⟨rfl, rfl⟩ := hp
        have w : gw D (gA L sz) s.heap H locs L (mSt cI mo A f v3 F) := w
        refine gk_put X w g.1.1 (show (mSt cI mo A f v3 F) mo = .inr (4, _) from mS_m) rfl in_M ty_M tyok_M nm_M 21 (by decide) lk_M_158 rfl (ty := .long) (by decide +kernel) rfl rfl (Nat.le_of_ble_eq_true rfl) d_M_findCircle_101 (fun H locs w => ?_)
        obtain ⟨v4, hv4⟩ : ∃ q : Nat → Int, q = va_up v3 21 ((((pX Wl a) - (pX Wl b)) * ((pX Wl a) - (pX Wl b)) + ((pY Wl a) - (pY Wl b)) * ((pY Wl a) - (pY Wl b)))) := ⟨_, rfl⟩
        have v4s : v4 21 = (((pX Wl a) - (pX Wl b)) * ((pX Wl a) - (pX Wl b)) + ((pY Wl a) - (pY Wl b)) * ((pY Wl a) - (pY Wl b))) := by rw [hv4, va_up_self]
        have v4n : ∀ j, j ≠ 21 → v4 j = v3 j := fun j hj => by rw [hv4, va_up_ne _ _ hj]
        have w : gw D (gA L sz) s.heap H locs L (mSt cI mo A f v4 F) := by rw [hv4, ← mU_m (v := v3)]; exact w
        refine lv_aload_n hx hb d_M_findCircle_104 rfl (lv_at hl 0 rfl) ?_
        refine lv_ldc2 hx hb X.1.2.2.2.1 (X.1.2.2.2.2 _ lk_M_168) d_M_findCircle_105 ?_
        refine gk_put X w g.1.1 (show (mSt cI mo A f v4 F) mo = .inr (4, _) from mS_m) rfl in_M ty_M tyok_M nm_M 22 (by decide) lk_M_161 rfl (ty := .long) (by decide +kernel) rfl rfl (Nat.le_of_ble_eq_true rfl) d_M_findCircle_108 (fun H locs w => ?_)
        obtain ⟨v5, hv5⟩ : ∃ q : Nat → Int, q = va_up v4 22 (4) := ⟨_, rfl⟩
        have v5s : v5 22 = 4 := by rw [hv5, va_up_self]
        have v5n : ∀ j, j ≠ 22 → v5 j = v4 j := fun j hj => by rw [hv5, va_up_ne _ _ hj]
        have w : gw D (gA L sz) s.heap H locs L (mSt cI mo A f v5 F) := by rw [hv5, ← mU_m (v := v4)]; exact w
        refine lv_iconst (v := iN (1)) hx hb d_M_findCircle_111 (by decide) ?_
        exact g_zret X w hrt hlk d_M_findCircle_112 rfl ⟨v5, rfl, fun q hq => (((((v5n q (by omega)).trans (v4n q (by omega))).trans (v3n q (by omega))).trans (v2n q (by omega))).trans (v1n q (by omega))), Or.inl ⟨rfl, Or.inl ⟨a, b, k0, by omega, by omega, bI_n (by omega), (((((v5n 18 (by decide)).trans (v4n 18 (by decide))).trans (v3n 18 (by decide))).trans (v2n 18 (by decide))).trans (v1s)), ((((v5n 19 (by decide)).trans (v4n 19 (by decide))).trans (v3n 19 (by decide))).trans (v2s)), (((v5n 20 (by decide)).trans (v4n 20 (by decide))).trans (v3s)), ((v5n 21 (by decide)).trans (v4s)), (v5s)⟩⟩⟩
theorem crc_b {W : List Pt} (h : pb 300 W) {x y q r s : Int} (hc : crc W x y q r s) : (i6 x ∧ -9223372036854775807 ≤ x) ∧ (i6 y ∧ -9223372036854775807 ≤ y) ∧ (0 < q ∧ q < 281474976710656) ∧ (i6 r ∧ -9223372036854775807 ≤ r) ∧ (0 < s ∧ s < 281474976710656) := by
  rcases hc with ⟨a, b, _, _, _, _, rfl, rfl, rfl, rfl, rfl⟩ | ⟨a, b, d, _, _, _, hr, rfl, rfl, rfl, rfl, rfl⟩
  · have p := h a; have q := h b; have := sq_b3 h a b
    unfold i6; omega
  · have p := h a
    have u := rU_b h a b d; have v := rBy_b h a b d
    have hp := hr.1
    have q1 := mbc (a := pX W a) (b := rBy W a b d) 300 1440000 432000000 (by omega) (by omega) (by omega) (by omega) (by decide)
    have q2 := mbc (a := pY W a) (b := rBy W a b d) 300 1440000 432000000 (by omega) (by omega) (by omega) (by omega) (by decide)
    have q3 := mbc (a := rUx W a b d) (b := rUx W a b d) 864000000 864000000 746496000000000000 (by omega) (by omega) (by omega) (by omega) (by decide)
    have q4 := mbc (a := rUy W a b d) (b := rUy W a b d) 864000000 864000000 746496000000000000 (by omega) (by omega) (by omega) (by omega) (by decide)
    have q5 := mbc (a := rBy W a b d) (b := rBy W a b d) 1440000 1440000 2073600000000 (by omega) (by omega) (by omega) (by omega) (by decide)
    have q6 := Int.mul_pos hp hp
    unfold i6; omega

def ciA (K : Int) (S : Nat → List Pt) (z wh : Int) : Int := if 0 ≤ z ∧ z < K then (if 0 ≤ wh ∧ wh ≤ 2 then (if (S z.toNat).length = 0 then -3 else 1) else -2) else -1
def ciN (x y r wh : Int) : Int := if wh = 0 then x else if wh = 1 then y else r
def ciD (q s wh : Int) : Int := if wh = 0 then q else if wh = 1 then q else s
def cirX (K : Int) (S : Nat → List Pt) : Prop := ∀ i : Nat, (i : Int) < K → (S i).length ≠ 0 → ¬ noC (S i)
set_option maxHeartbeats 4000000 in
set_option maxRecDepth 100000 in
theorem c_M_circle (l : Launch) {D : va_G} {cI cR : ClassId} {L : List Nat} {f : Nat → va_E} {mo : Nat} {A : Nat → Nat} {v : Nat → Int} {F : Nat → Nat → Int} (g : mg L mo A) {K t1 t2 : Int} {S : Nat → List Pt} (hI0 : mInv v F K S) (h11 : v 11 = t1) (h12 : v 12 = t2) (hok : okS K S) (hhu : hulS K S) {z : Int} (hz : i3 z) {wh : Int} (hw3 : i3 wh) (hcx : cirX K S) : gMi D cI cR l y_M_circle (Cond.code y_M_circle b_M_circle 3 (some .int) :: lw_g) { frames := 4, cells := 0, slots := 0, locals := 102 } [.ref mo, .int (iN (z)), .int (iN (wh))] L (mSt cI mo A f v F) (fun r u => (¬ ((0 ≤ z ∧ z < K) ∧ (0 ≤ wh ∧ wh ≤ 2) ∧ (S z.toNat).length ≠ 0) ∧ r = iN (ciA K S z wh) ∧ mpost L cI mo A f K t1 t2 S u) ∨ (((0 ≤ z ∧ z < K) ∧ (0 ≤ wh ∧ wh ≤ 2) ∧ (S z.toNat).length ≠ 0) ∧ r = iN 1 ∧ ∃ x y q t s, crc (S z.toNat) x y q t s ∧ mpost L cI mo A f K (frac1 (ciN x y t wh) (ciD q s wh)) (frac2 (ciN x y t wh) (ciD q s wh)) S u)) := by
  intro sz
  refine g_enter (by decide) rfl (Nat.le_of_ble_eq_true rfl) ?_
  intro p e s m below meth cd ls X hrt hlk hnm hl hsz w
  have X : gx p m cd b_M_circle 3 s _ "HullSumsModel" D cI cR := X
  have hx := X.1.1
  have hb := X.1.2.1
  have hl : lv_has ls 3 [(0, .ref mo), (1, .int (iN (z))), (2, .int (iN (wh)))] := hl
  have hI1 := hI0
  obtain ⟨hi0, hi1, hi2, hi3, hi4⟩ := hI1
  refine lv_aload_n hx hb d_M_circle_0 rfl (lv_at hl 0 rfl) ?_
  refine lv_iload_n hx hb d_M_circle_1 rfl (lv_at hl 1 rfl) ?_
  refine g_ci w (g_runV (As := [.int (iN (z))]) (rest := []) X w (c_M_is l g (v := v) (F := F) hi0 (by rw [hi1]; unfold i3; omega) (z := z) hz) k_M_is v_M_is lk_M_79 g.1.1 (show mSt cI mo A f v F mo = .inr (4, _) from mS_m) rfl ⟨(Nat.le_of_ble_eq_true rfl), (Nat.le_of_ble_eq_true rfl)⟩ rfl hl.1 rfl (Nat.le_of_ble_eq_true rfl) d_M_circle_2 ⟨(Nat.le_of_ble_eq_true rfl), (Nat.le_of_ble_eq_true rfl)⟩) (fun r u H locs hp w => ?_)
  obtain ⟨hr9, rfl⟩ := hp
  rw [hi1] at hr9
  subst hr9
  have w : gw D (gA L sz) s.heap H locs L (mSt cI mo A f v F) := w
  refine ri_zne (a := (bI (0 ≤ z ∧ z < K))) (tgt := 10) hx hb d_M_circle_5 (by decide) rfl (bI_3 _) (fun c5 => ?_) (fun c5 => ?_)
  · skip
    refine lv_iload_n hx hb d_M_circle_10 rfl (lv_at hl 2 rfl) ?_
    refine lv_iconst (v := iN (0)) hx hb d_M_circle_11 (by decide) ?_
    refine lv_iconst (v := iN (2)) hx hb d_M_circle_12 (by decide) ?_
    refine g_ci w (g_runS (As := [.int (iN (wh)), .int (iN (0)), .int (iN (2))]) (rest := []) X w (c_M_in l (z := wh) (x := 0) (y := 2) hw3 (by unfold i3; omega) (by unfold i3; omega)) k_M_in lk_M_83 st_M_in ⟨(Nat.le_of_ble_eq_true rfl), (Nat.le_of_ble_eq_true rfl)⟩ rfl hl.1 rfl (Nat.le_of_ble_eq_true rfl) d_M_circle_13 ⟨Nat.zero_le _, Nat.zero_le _⟩) (fun r u H locs hp w => ?_)
    obtain ⟨rfl, rfl⟩ := hp
    have w : gw D (gA L sz) s.heap H locs L (mSt cI mo A f v F) := w
    refine ri_zne (a := (bI (0 ≤ wh ∧ wh ≤ 2))) (tgt := 22) hx hb d_M_circle_16 (by decide) rfl (bI_3 _) (fun c16 => ?_) (fun c16 => ?_)
    · skip
      have hwr : 0 ≤ wh ∧ wh ≤ 2 := bI_n c16
      refine lv_aload_n hx hb d_M_circle_22 rfl (lv_at hl 0 rfl) ?_
      refine lv_iload_n hx hb d_M_circle_23 rfl (lv_at hl 1 rfl) ?_
      have hzr : 0 ≤ z ∧ z < K := bI_n (by omega)
      obtain ⟨Wl, eWl⟩ : ∃ q, q = S z.toNat := ⟨_, rfl⟩
      obtain ⟨Hu, eHu⟩ : ∃ q, q = hullF (S z.toNat) := ⟨_, rfl⟩
      have hoz := hok z.toNat (by omega)
      have hhz : isHL Wl Hu := by rw [eWl, eHu]; exact hhu z.toNat (by omega)
      have hH576 := hhz.2.2.1
      have hHb : pb 600 Hu := by rw [eHu]; exact pb_of (by decide) (pbl_le (by decide) (pbl_hull hoz.2))
      have hHb3 : pb 300 Hu := by rw [eHu]; exact pb_of (by decide) (pbl_hull hoz.2)
      have hWb : pb 300 Wl := by rw [eWl]; exact pb_of (by decide) hoz.2
      have hW24 : Wl.length ≤ 24 := by rw [eWl]; exact hoz.1
      refine g_cv w (g_runV (As := [.int (iN (z))]) (rest := []) X w ((by have h9 := c_M_load (D := D) (cR := cR) (cI := cI) (f := f) l g hI0 (z := z) hzr hoz.1 (pbl_le (by decide) hoz.2) (Hu := Hu) (by rw [← eWl]; exact hhz); rw [← eWl] at h9; exact h9)) k_M_load v_M_load lk_M_87 g.1.1 (show mSt cI mo A f v F mo = .inr (4, _) from mS_m) rfl ⟨(Nat.le_of_ble_eq_true rfl), (Nat.le_of_ble_eq_true rfl)⟩ rfl hl.1 rfl (Nat.le_of_ble_eq_true rfl) d_M_circle_24 ⟨(Nat.le_of_ble_eq_true rfl), (Nat.le_of_ble_eq_true rfl)⟩) (fun u H locs hp w => ?_)
      obtain ⟨v8, F8, rfl, hL8, hn8, hf8⟩ := hp
      have w : gw D (gA L sz) s.heap H locs L (mSt cI mo A f v8 F8) := w
      obtain ⟨h7, h10, hwF, hhF⟩ := id hL8
      have hI8 := mInv_k hI0 (hn8 0 (by decide) (by decide)) (hn8 1 (by decide) (by decide)) hf8
      have h118 := (hn8 11 (by decide) (by decide)).trans h11
      have h128 := (hn8 12 (by decide) (by decide)).trans h12
      refine lv_aload_n hx hb d_M_circle_27 rfl (lv_at hl 0 rfl) ?_
      refine g_ci w (g_runV (As := []) (rest := []) X w (c_M_findCircle l g (v := v8) (F := F8) hL8 hH576 hHb hWb hW24) k_M_findCircle v_M_findCircle lk_M_173 g.1.1 (show (mSt cI mo A f v8 F8) mo = .inr (4, _) from mS_m) rfl ⟨(Nat.le_of_ble_eq_true rfl), (Nat.le_of_ble_eq_true rfl)⟩ rfl hl.1 rfl (Nat.le_of_ble_eq_true rfl) d_M_circle_28 ⟨(Nat.le_of_ble_eq_true rfl), (Nat.le_of_ble_eq_true rfl)⟩) (fun r u H locs hp w => ?_)
      obtain ⟨vC, rfl, hC, hCc⟩ := hp
      have w : gw D (gA L sz) s.heap H locs L (mSt cI mo A f vC F8) := w
      have hIC := mInv_k hI8 (v' := vC) (F' := F8) (hC 0 (by decide)) (hC 1 (by decide)) (fun _ _ => rfl)
      have h11C := (hC 11 (by decide)).trans h118
      have h12C := (hC 12 (by decide)).trans h128
      rcases hCc with ⟨rfl, hcr⟩ | ⟨rfl, hno⟩
      · skip
        have w : gw D (gA L sz) s.heap H locs L (mSt cI mo A f vC F8) := w
        refine ri_zne (a := 1) (tgt := 37) hx hb d_M_circle_31 (by decide) rfl (by unfold i3; omega) (fun c31 => ?_) (fun c31 => ?_)
        · skip
          have hcb := crc_b hWb hcr
          refine lv_iload_n hx hb d_M_circle_37 rfl (lv_at hl 2 rfl) ?_
          refine lv_iconst (v := iN (2)) hx hb d_M_circle_38 (by decide) ?_
          refine ri_cne (a := wh) (b := 2) (tgt := 57) hx hb d_M_circle_39 (by decide) rfl rfl hw3 (by unfold i3; omega) (fun c39 => ?_) (fun c39 => ?_)
          · skip
            refine lv_aload_n hx hb d_M_circle_57 rfl (lv_at hl 0 rfl) ?_
            refine lv_iload_n hx hb d_M_circle_58 rfl (lv_at hl 2 rfl) ?_
            refine ri_zne (a := wh) (tgt := 69) hx hb d_M_circle_59 (by decide) rfl hw3 (fun c59 => ?_) (fun c59 => ?_)
            · skip
              refine lv_aload_n hx hb d_M_circle_69 rfl (lv_at hl 0 rfl) ?_
              refine gk_get X w g.1.1 (show (mSt cI mo A f vC F8) mo = .inr (4, _) from mS_m) rfl in_M 19 (by decide) lk_M_152 rfl d_M_circle_70 ?_
              refine lv_aload_n hx hb d_M_circle_73 rfl (lv_at hl 0 rfl) ?_
              refine gk_get X w g.1.1 (show (mSt cI mo A f vC F8) mo = .inr (4, _) from mS_m) rfl in_M 20 (by decide) lk_M_155 rfl d_M_circle_74 ?_
              refine g_cv w (g_runV (As := [.long (jN ((vC 19))), .long (jN ((vC 20)))]) (rest := []) X w (c_M_tell l g (v := vC) (F := F8) (x := (vC 19)) (y := (vC 20)) hcb.2.1 hcb.2.2.1) k_M_tell v_M_tell lk_M_143 g.1.1 (show (mSt cI mo A f vC F8) mo = .inr (4, _) from mS_m) rfl ⟨(Nat.le_of_ble_eq_true rfl), (Nat.le_of_ble_eq_true rfl)⟩ rfl hl.1 rfl (Nat.le_of_ble_eq_true rfl) d_M_circle_77 ⟨(Nat.le_of_ble_eq_true rfl), (Nat.le_of_ble_eq_true rfl)⟩) (fun u H locs hp w => ?_)
              obtain ⟨vT, rfl, eT1, eT2, hT⟩ := hp
              have w : gw D (gA L sz) s.heap H locs L (mSt cI mo A f vT F8) := w
              refine lv_iconst (v := iN (1)) hx hb d_M_circle_80 (by decide) ?_
              have hW0 : Wl.length ≠ 0 := by intro e9; rcases hcr with ⟨a, b, q0, q1, q2, _⟩ | ⟨a, b, d, q0, _⟩ <;> omega
              exact g_iret X w hrt hlk d_M_circle_81 (Or.inr ⟨⟨hzr, hwr, by rw [← eWl]; exact hW0⟩, rfl, vC 18, vC 19, vC 20, vC 21, vC 22, by rw [← eWl]; exact hcr, vT, F8, rfl, mInv_k hIC (hT 0 (by decide) (by decide)) (hT 1 (by decide) (by decide)) (fun _ _ => rfl), by unfold ciN ciD; rw [if_neg (by omega), if_pos (by omega), if_neg (by omega), if_pos (by omega)]; exact eT1, by unfold ciN ciD; rw [if_neg (by omega), if_pos (by omega), if_neg (by omega), if_pos (by omega)]; exact eT2⟩)
            · skip
              refine lv_aload_n hx hb d_M_circle_62 rfl (lv_at hl 0 rfl) ?_
              refine gk_get X w g.1.1 (show (mSt cI mo A f vC F8) mo = .inr (4, _) from mS_m) rfl in_M 18 (by decide) lk_M_149 rfl d_M_circle_63 ?_
              refine lv_goto (tgt := 73) hx hb d_M_circle_66 (by decide) ?_
              refine lv_aload_n hx hb d_M_circle_73 rfl (lv_at hl 0 rfl) ?_
              refine gk_get X w g.1.1 (show (mSt cI mo A f vC F8) mo = .inr (4, _) from mS_m) rfl in_M 20 (by decide) lk_M_155 rfl d_M_circle_74 ?_
              refine g_cv w (g_runV (As := [.long (jN ((vC 18))), .long (jN ((vC 20)))]) (rest := []) X w (c_M_tell l g (v := vC) (F := F8) (x := (vC 18)) (y := (vC 20)) hcb.1 hcb.2.2.1) k_M_tell v_M_tell lk_M_143 g.1.1 (show (mSt cI mo A f vC F8) mo = .inr (4, _) from mS_m) rfl ⟨(Nat.le_of_ble_eq_true rfl), (Nat.le_of_ble_eq_true rfl)⟩ rfl hl.1 rfl (Nat.le_of_ble_eq_true rfl) d_M_circle_77 ⟨(Nat.le_of_ble_eq_true rfl), (Nat.le_of_ble_eq_true rfl)⟩) (fun u H locs hp w => ?_)
              obtain ⟨vT, rfl, eT1, eT2, hT⟩ := hp
              have w : gw D (gA L sz) s.heap H locs L (mSt cI mo A f vT F8) := w
              refine lv_iconst (v := iN (1)) hx hb d_M_circle_80 (by decide) ?_
              have hW0 : Wl.length ≠ 0 := by intro e9; rcases hcr with ⟨a, b, q0, q1, q2, _⟩ | ⟨a, b, d, q0, _⟩ <;> omega
              exact g_iret X w hrt hlk d_M_circle_81 (Or.inr ⟨⟨hzr, hwr, by rw [← eWl]; exact hW0⟩, rfl, vC 18, vC 19, vC 20, vC 21, vC 22, by rw [← eWl]; exact hcr, vT, F8, rfl, mInv_k hIC (hT 0 (by decide) (by decide)) (hT 1 (by decide) (by decide)) (fun _ _ => rfl), by unfold ciN ciD; rw [if_pos (by omega), if_pos (by omega)]; exact eT1, by unfold ciN ciD; rw [if_pos (by omega), if_pos (by omega)]; exact eT2⟩)
          · skip
            refine lv_aload_n hx hb d_M_circle_42 rfl (lv_at hl 0 rfl) ?_
            refine lv_aload_n hx hb d_M_circle_43 rfl (lv_at hl 0 rfl) ?_
            refine gk_get X w g.1.1 (show (mSt cI mo A f vC F8) mo = .inr (4, _) from mS_m) rfl in_M 21 (by decide) lk_M_158 rfl d_M_circle_44 ?_
            refine lv_aload_n hx hb d_M_circle_47 rfl (lv_at hl 0 rfl) ?_
            refine gk_get X w g.1.1 (show (mSt cI mo A f vC F8) mo = .inr (4, _) from mS_m) rfl in_M 22 (by decide) lk_M_161 rfl d_M_circle_48 ?_
            refine g_cv w (g_runV (As := [.long (jN ((vC 21))), .long (jN ((vC 22)))]) (rest := []) X w (c_M_tell l g (v := vC) (F := F8) (x := (vC 21)) (y := (vC 22)) hcb.2.2.2.1 hcb.2.2.2.2) k_M_tell v_M_tell lk_M_143 g.1.1 (show (mSt cI mo A f vC F8) mo = .inr (4, _) from mS_m) rfl ⟨(Nat.le_of_ble_eq_true rfl), (Nat.le_of_ble_eq_true rfl)⟩ rfl hl.1 rfl (Nat.le_of_ble_eq_true rfl) d_M_circle_51 ⟨(Nat.le_of_ble_eq_true rfl), (Nat.le_of_ble_eq_true rfl)⟩) (fun u H locs hp w => ?_)
            obtain ⟨vT, rfl, eT1, eT2, hT⟩ := hp
            have w : gw D (gA L sz) s.heap H locs L (mSt cI mo A f vT F8) := w
            refine lv_goto (tgt := 80) hx hb d_M_circle_54 (by decide) ?_
            refine lv_iconst (v := iN (1)) hx hb d_M_circle_80 (by decide) ?_
            have hW0 : Wl.length ≠ 0 := by intro e9; rcases hcr with ⟨a, b, q0, q1, q2, _⟩ | ⟨a, b, d, q0, _⟩ <;> omega
            exact g_iret X w hrt hlk d_M_circle_81 (Or.inr ⟨⟨hzr, hwr, by rw [← eWl]; exact hW0⟩, rfl, vC 18, vC 19, vC 20, vC 21, vC 22, by rw [← eWl]; exact hcr, vT, F8, rfl, mInv_k hIC (hT 0 (by decide) (by decide)) (hT 1 (by decide) (by decide)) (fun _ _ => rfl), by unfold ciN ciD; rw [if_neg (by omega), if_neg (by omega), if_neg (by omega), if_neg (by omega)]; exact eT1, by unfold ciN ciD; rw [if_neg (by omega), if_neg (by omega), if_neg (by omega), if_neg (by omega)]; exact eT2⟩)
        · skip
          refine lv_bipush (v := iN (-3)) hx hb d_M_circle_34 (by decide) ?_
          exfalso; omega
      · skip
        have w : gw D (gA L sz) s.heap H locs L (mSt cI mo A f vC F8) := w
        refine ri_zne (a := 0) (tgt := 37) hx hb d_M_circle_31 (by decide) rfl (by unfold i3; omega) (fun c31 => ?_) (fun c31 => ?_)
        · skip
          exfalso; omega
        · skip
          refine lv_bipush (v := iN (-3)) hx hb d_M_circle_34 (by decide) ?_
          have hW0 : Wl.length = 0 := by by_cases e9 : Wl.length = 0; exact e9; exact absurd (show noC (S z.toNat) by rw [← eWl]; exact hno) (hcx z.toNat (by omega) (by rw [← eWl]; exact e9))
          exact g_iret X w hrt hlk d_M_circle_36 (Or.inl ⟨fun q => q.2.2 (by rw [← eWl]; exact hW0), by unfold ciA; rw [if_pos hzr, if_pos hwr, ← eWl, if_pos hW0], vC, F8, rfl, hIC, h11C, h12C⟩)
    · skip
      refine lv_bipush (v := iN (-2)) hx hb d_M_circle_19 (by decide) ?_
      exact g_iret X w hrt hlk d_M_circle_21 (Or.inl ⟨fun q => bI_0 (by omega) q.2.1, by unfold ciA; rw [if_pos (bI_n c5), if_neg (bI_0 (by omega))], ⟨v, F, rfl, hI0, h11, h12⟩⟩)
  · skip
    refine lv_iconst (v := iN (-1)) hx hb d_M_circle_8 (by decide) ?_
    exact g_iret X w hrt hlk d_M_circle_9 (Or.inl ⟨fun q => bI_0 (by omega) q.1, by unfold ciA; rw [if_neg (bI_0 (by omega))], ⟨v, F, rfl, hI0, h11, h12⟩⟩)
