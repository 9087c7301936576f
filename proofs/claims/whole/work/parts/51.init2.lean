/-! THE CONSTRUCTOR OF HULLSUMS: n rows are made; B are the other cells -/
def pgB (cI : ClassId) (L : List Nat) (f : Nat → va_E) (rx ry ra : Nat → Nat) (n : Nat) (B : List Nat) : Prop :=
  (∀ i, i < n → ro L rx ry (ra i)) ∧ (∀ i j, i < n → j < n → i ≠ j → rd rx ry (ra i) (ra j)) ∧ (∀ i, i < n → rowIs cI rx ry f (ra i) []) ∧ (∀ b, b ∈ B → b ∈ L ∧ ∀ i, i < n → oo rx ry b (ra i))
section PG
variable {cI : ClassId} {L : List Nat} {f g : Nat → va_E} {rx ry ra : Nat → Nat} {n : Nat} {B : List Nat}
theorem pg_0 (h : ∀ b, b ∈ B → b ∈ L) : pgB cI L f rx ry ra 0 B := ⟨fun i hi => absurd hi (Nat.not_lt_zero _), fun i _ hi => absurd hi (Nat.not_lt_zero _), fun i hi => absurd hi (Nat.not_lt_zero _), fun b hb => ⟨h b hb, fun i hi => absurd hi (Nat.not_lt_zero _)⟩⟩
theorem pg_put (h : pgB cI L f rx ry ra n B) {b : Nat} (hb : b ∈ B) (hg : ∀ q, q ≠ b → g q = f q) : pgB cI L g rx ry ra n B := by
  obtain ⟨h1, h2, h3, h4⟩ := h
  refine ⟨h1, h2, fun i hi => ?_, h4⟩
  obtain ⟨o1, o2, o3⟩ := (h4 b hb).2 i hi
  obtain ⟨r0, r1, X, Y, r2, r3, r4⟩ := h3 i hi
  exact ⟨r0, by rw [hg _ o1]; exact r1, X, Y, by rw [hg _ o2]; exact r2, by rw [hg _ o3]; exact r3, r4⟩
theorem pg_new (h : pgB cI L f rx ry ra n B) {b : Nat} (hb : b ∉ L) (hg : ∀ q, q ≠ b → g q = f q) : pgB cI (L ++ [b]) g rx ry ra n (b :: B) := by
  obtain ⟨h1, h2, h3, h4⟩ := h
  have hn : ∀ q, q ∈ L → q ≠ b := fun q hq e => hb (e ▸ hq)
  refine ⟨fun i hi => ?_, h2, fun i hi => ?_, fun c hc => ?_⟩
  · obtain ⟨a1, a2, a3, a4⟩ := h1 i hi
    exact ⟨List.mem_append_left _ a1, List.mem_append_left _ a2, List.mem_append_left _ a3, a4⟩
  · obtain ⟨a1, a2, a3, a4⟩ := h1 i hi
    obtain ⟨r0, r1, X, Y, r2, r3, r4⟩ := h3 i hi
    exact ⟨r0, by rw [hg _ (hn _ a1)]; exact r1, X, Y, by rw [hg _ (hn _ a2)]; exact r2, by rw [hg _ (hn _ a3)]; exact r3, r4⟩
  · rcases List.mem_cons.mp hc with rfl | hc
    · exact ⟨List.mem_append_right _ (List.mem_singleton.mpr rfl), fun i hi => by obtain ⟨a1, a2, a3, a4⟩ := h1 i hi; exact ⟨hn _ a1, hn _ a2, hn _ a3⟩⟩
    · exact ⟨List.mem_append_left _ (h4 c hc).1, (h4 c hc).2⟩
/-- a row more -/
theorem pg_row (h : pgB cI L f rx ry ra n B) {q : Nat} (hq : q ∉ L) {c0 : va_E} {u : List Nat × (Nat → va_E)} (hu : nrr cI (L ++ [q]) (va_up f q c0) q u) :
    ∃ (L' : List Nat) (g : Nat → va_E) (rx' ry' : Nat → Nat), u = (L', g) ∧ pgB cI L' g rx' ry' (va_up ra n q) (n + 1) B ∧ q ∈ L' ∧ (∀ p, p ∈ L → p ∈ L' ∧ g p = f p) ∧ g q = .inr (1, [.ref (rx' q), .ref (ry' q), .int (iN 0)]) ∧ ∀ p, p ∈ L' → p ∈ L ∨ p = q ∨ p = rx' q ∨ p = ry' q := by
  obtain ⟨x, y, g, rfl, hx, hy, hxy, gq, gx, gy, go⟩ := hu
  obtain ⟨h1, h2, h3, h4⟩ := h
  have hqx : q ≠ x := fun e => hx (e ▸ List.mem_append_right _ (List.mem_singleton.mpr rfl))
  have hqy : q ≠ y := fun e => hy (e ▸ List.mem_append_right _ (List.mem_singleton.mpr rfl))
  have nL : ∀ p, p ∈ L → p ≠ q ∧ p ≠ x ∧ p ≠ y := fun p hp => ⟨fun e => hq (e ▸ hp), fun e => hx (e ▸ List.mem_append_left _ hp), fun e => hy (e ▸ List.mem_append_left _ hp)⟩
  have gL : ∀ p, p ∈ L → g p = f p := fun p hp => by
    obtain ⟨a, b, c⟩ := nL p hp
    rw [go p a b c, va_up_ne _ _ a]
  have mL : ∀ p, p ∈ L → p ∈ L ++ [q] ++ [x] ++ [y] := fun p hp => List.mem_append_left _ (List.mem_append_left _ (List.mem_append_left _ hp))
  have mq : q ∈ L ++ [q] ++ [x] ++ [y] := List.mem_append_left _ (List.mem_append_left _ (List.mem_append_right _ (List.mem_singleton.mpr rfl)))
  have mx : x ∈ L ++ [q] ++ [x] ++ [y] := List.mem_append_left _ (List.mem_append_right _ (List.mem_singleton.mpr rfl))
  have my : y ∈ L ++ [q] ++ [x] ++ [y] := List.mem_append_right _ (List.mem_singleton.mpr rfl)
  have rxq : va_up rx q x q = x := va_up_self _ _ _
  have ryq : va_up ry q y q = y := va_up_self _ _ _
  have rxn : ∀ p, p ≠ q → va_up rx q x p = rx p := fun p hp => va_up_ne _ _ hp
  have ryn : ∀ p, p ≠ q → va_up ry q y p = ry p := fun p hp => va_up_ne _ _ hp
  have ran : va_up ra n q n = q := va_up_self _ _ _
  have rai : ∀ i, i < n → va_up ra n q i = ra i := fun i hi => va_up_ne _ _ (by omega)
  have riq : ∀ i, i < n → ra i ≠ q := fun i hi => (nL _ (h1 i hi).1).1
  refine ⟨_, g, va_up rx q x, va_up ry q y, rfl, ⟨fun i hi => ?_, fun i j hi hj hij => ?_, fun i hi => ?_, fun b hb => ⟨mL _ (h4 b hb).1, fun i hi => ?_⟩⟩, mq, fun p hp => ⟨mL p hp, gL p hp⟩, by rw [rxq, ryq]; exact gq, fun p hp => ?_⟩
  · by_cases e : i = n
    · subst e; rw [ran]; unfold ro; rw [rxq, ryq]; exact ⟨mq, mx, my, hqx, hqy, hxy⟩
    · have hi' : i < n := by omega
      obtain ⟨a1, a2, a3, a4⟩ := h1 i hi'
      rw [rai i hi']; unfold ro; rw [rxn _ (riq i hi'), ryn _ (riq i hi')]
      exact ⟨mL _ a1, mL _ a2, mL _ a3, a4⟩
  · by_cases e : i = n
    · have hj' : j < n := by omega
      obtain ⟨a1, a2, a3, a4⟩ := h1 j hj'
      subst e; rw [ran, rai j hj']; unfold rd; rw [rxq, ryq, rxn _ (riq j hj'), ryn _ (riq j hj')]
      have b1 := nL _ a1; have b2 := nL _ a2; have b3 := nL _ a3
      exact ⟨Ne.symm b1.1, Ne.symm b2.1, Ne.symm b3.1, Ne.symm b1.2.1, Ne.symm b2.2.1, Ne.symm b3.2.1, Ne.symm b1.2.2, Ne.symm b2.2.2, Ne.symm b3.2.2⟩
    · have hi' : i < n := by omega
      obtain ⟨a1, a2, a3, a4⟩ := h1 i hi'
      by_cases e2 : j = n
      · subst e2; rw [ran, rai i hi']; unfold rd; rw [rxq, ryq, rxn _ (riq i hi'), ryn _ (riq i hi')]
        have b1 := nL _ a1; have b2 := nL _ a2; have b3 := nL _ a3
        exact ⟨b1.1, b1.2.1, b1.2.2, b2.1, b2.2.1, b2.2.2, b3.1, b3.2.1, b3.2.2⟩
      · have hj' : j < n := by omega
        rw [rai i hi', rai j hj']; unfold rd; rw [rxn _ (riq i hi'), ryn _ (riq i hi'), rxn _ (riq j hj'), ryn _ (riq j hj')]
        exact h2 i j hi' hj' hij
  · by_cases e : i = n
    · subst e; rw [ran]; unfold rowIs; rw [rxq, ryq]
      exact ⟨by decide, gq, _, _, gx, gy, fun i q h => by simp at h⟩
    · have hi' : i < n := by omega
      obtain ⟨a1, a2, a3, a4⟩ := h1 i hi'
      obtain ⟨r0, r1, X, Y, r2, r3, r4⟩ := h3 i hi'
      rw [rai i hi']; unfold rowIs; rw [rxn _ (riq i hi'), ryn _ (riq i hi')]
      exact ⟨r0, by rw [gL _ a1]; exact r1, X, Y, by rw [gL _ a2]; exact r2, by rw [gL _ a3]; exact r3, r4⟩
  · have bL := (h4 b hb).1
    have bn := nL _ bL
    by_cases e : i = n
    · subst e; rw [ran]; unfold oo; rw [rxq, ryq]; exact ⟨Ne.symm bn.1, Ne.symm bn.2.1, Ne.symm bn.2.2⟩
    · have hi' : i < n := by omega
      rw [rai i hi']; unfold oo; rw [rxn _ (riq i hi'), ryn _ (riq i hi')]
      exact (h4 b hb).2 i hi'
  · rw [rxq, ryq]
    simp only [List.mem_append, List.mem_singleton] at hp
    rcases hp with ((hp | hp) | hp) | hp
    · exact Or.inl hp
    · exact Or.inr (Or.inl hp)
    · exact Or.inr (Or.inr (Or.inl hp))
    · exact Or.inr (Or.inr (Or.inr hp))
end PG

set_option maxHeartbeats 4000000 in
set_option maxRecDepth 100000 in
theorem c_H_init (l : Launch) {D : va_G} {cI cR : ClassId} {L : List Nat} {f : Nat → va_E} {a : Nat} (ha : a ∈ L) (hfa : f a = .inr (0, [.null, .int 0, .long 0, .long 0, .null, .null, .null, .null, .null, .null])) : gMv D cI cR l y_H_init (Cond.code y_H_init b_H_init 2 none :: lw_g) { frames := 2, cells := 39, slots := 1204, locals := 40 } [.ref a] L f (fun u => ∃ (L' : List Nat) (g : Nat → va_E) (rx ry ra : Nat → Nat) (ar ci lo : Nat), u = (L', g) ∧ geo L' rx ry ra a ar ci lo ∧ clsIs cI cR rx ry ra a ar ci lo g 0 0 1 (fun _ => [])) := by
  intro sz
  refine g_enter (by decide) rfl (Nat.le_of_ble_eq_true rfl) ?_
  intro p e s m below meth cd ls X hrt hlk hnm hl hsz w
  have X : gx p m cd b_H_init 2 s _ "HullSums" D cI cR := X
  have hx := X.1.1
  have hb := X.1.2.1
  have hl : lv_has ls 2 [(0, .ref a)] := hl
  have vh : f a = .inr (0, [.null, .int 0, .long 0, .long 0, .null, .null, .null, .null, .null, .null]) := hfa
  refine lv_aload_n hx hb d_H_init_0 rfl (lv_at hl 0 rfl) ?_
  refine g_obj X hl.1 lk_H_3 (Nat.le_of_ble_eq_true rfl) (Nat.le_of_ble_eq_true rfl) d_H_init_1 ?_
  refine lv_aload_n hx hb d_H_init_4 rfl (lv_at hl 0 rfl) ?_
  refine lv_bipush (v := iN (8)) hx hb d_H_init_5 (by decide) ?_
  refine gk_newq X w 1 rfl X.2.2.1 lk_H_9 (n := iN (8)) 8 (by decide) (by decide) (by decide) (Nat.le_of_ble_eq_true rfl) (Nat.le_of_ble_eq_true rfl) d_H_init_7 (fun ar H har w => ?_)
  have naa : a ≠ ar := fun e9 => har (e9 ▸ ha)
  obtain ⟨g1, hg1⟩ : ∃ q : Nat → va_E, q = va_up f ar (.inl (cR, 8, .inr (.inr (.inr (.inr (fun _ => none)))))) := ⟨_, rfl⟩
  have g1s : g1 ar = .inl (cR, 8, .inr (.inr (.inr (.inr (fun _ => none))))) := by rw [hg1, va_up_self]
  have g1n : ∀ q, q ≠ ar → g1 q = f q := fun q hq => by rw [hg1, va_up_ne _ _ hq]
  have w : gw D (gA L sz) s.heap H [] ((L ++ [ar])) g1 := by rw [hg1]; exact w
  have vh : g1 a = .inr (0, [.null, .int 0, .long 0, .long 0, .null, .null, .null, .null, .null, .null]) := by rw [g1n a naa]; exact vh
  have va : g1 ar = .inl (cR, 8, .inr (.inr (.inr (.inr (fun _ => none))))) := g1s
  have hpg : pgB cI (L ++ [ar]) g1 id id id 0 [ar, a] := pg_0 (fun b hb => by simp only [List.mem_cons, List.not_mem_nil, or_false] at hb; rcases hb with rfl | rfl; exact List.mem_append_right _ (List.mem_singleton.mpr rfl); exact List.mem_append_left _ ha)
  have hsb : ∀ p, p ∈ L → p ∈ (L ++ [ar]) := fun p hp => List.mem_append_left _ hp
  refine gk_putF X w (hpg.2.2.2 a (by simp)).1 vh rfl in_H ty_H tyok_H nm_H 0 (by decide) lk_H_11 rfl hnm rfl (ty := (.array (.object "HullSums$Row"))) (by decide +kernel) rfl rfl (Nat.le_of_ble_eq_true rfl) d_H_init_10 (fun H locs w => ?_)
  obtain ⟨g2, hg2⟩ : ∃ q : Nat → va_E, q = va_up g1 a (.inr (0, [.ref ar, .int 0, .long 0, .long 0, .null, .null, .null, .null, .null, .null])) := ⟨_, rfl⟩
  have g2s : g2 a = .inr (0, [.ref ar, .int 0, .long 0, .long 0, .null, .null, .null, .null, .null, .null]) := by rw [hg2, va_up_self]
  have g2n : ∀ q, q ≠ a → g2 q = g1 q := fun q hq => by rw [hg2, va_up_ne _ _ hq]
  have w : gw D (gA L sz) s.heap H locs ((L ++ [ar])) g2 := by rw [hg2]; exact w
  have va : g2 ar = .inl (cR, 8, .inr (.inr (.inr (.inr (fun _ => none))))) := by rw [g2n ar (Ne.symm naa)]; exact va
  have vh : g2 a = .inr (0, [.ref ar, .int 0, .long 0, .long 0, .null, .null, .null, .null, .null, .null]) := g2s
  have hpg := pg_put (g := g2) hpg (b := a) (by simp) g2n
  refine lv_iconst (v := iN (0)) hx hb d_H_init_13 (by decide) ?_
  refine lv_istore_n (lv' := [(1, .int (iN (0))), (0, .ref a)]) hx hb d_H_init_14 rfl hl (by decide) rfl (fun ls hl => ?_)
  refine lv_iload_n hx hb d_H_init_15 rfl (lv_at hl 0 rfl) ?_
  refine lv_aload_n hx hb d_H_init_16 rfl (lv_at hl 1 rfl) ?_
  refine gk_get X w (hpg.2.2.2 a (by simp)).1 vh rfl in_H 0 (by decide) lk_H_11 rfl d_H_init_17 ?_
  refine gk_alen X w 1 (hpg.2.2.2 ar (by simp)).1 va rfl (v := iN (8)) rfl d_H_init_20 ?_
  refine ri_cge (a := 0) (b := 8) (tgt := 43) hx hb d_H_init_21 (by decide) rfl rfl (by unfold i3; omega) (by unfold i3; omega) (fun c9 => ?_) (fun c9 => ?_)
  · exfalso; omega
  refine lv_aload_n hx hb d_H_init_24 rfl (lv_at hl 1 rfl) ?_
  refine gk_get X w (hpg.2.2.2 a (by simp)).1 vh rfl in_H 0 (by decide) lk_H_11 rfl d_H_init_25 ?_
  refine lv_iload_n hx hb d_H_init_28 rfl (lv_at hl 0 rfl) ?_
  refine gk_new X w in_R ty_R tyok_R lk_H_9 ib_R id_R (ci := 1) rfl [.null, .null, .int 0] (by decide +kernel) (Nat.le_of_ble_eq_true rfl) (Nat.le_of_ble_eq_true rfl) d_H_init_29 (fun q3 H hq3 w => ?_)
  refine lv_dup hx hb d_H_init_32 rfl ?_
  refine g_cv w (g_runI (As := []) (rest := [.ref q3, .int (iN (0)), .ref ar]) X w (c_R_init l (L := ((L ++ [ar]) ++ [q3])) (f := (va_up g2 q3 (.inr (1, [.null, .null, .int 0])))) (a := q3) (List.mem_append_right _ (List.mem_singleton.mpr rfl)) (va_up_self _ _ _)) k_R_init rfl im_R_init lk_H_15 ⟨(Nat.le_of_ble_eq_true rfl), (Nat.le_of_ble_eq_true rfl)⟩ rfl hl.1 rfl (Nat.le_of_ble_eq_true rfl) d_H_init_33 ⟨(Nat.le_of_ble_eq_true rfl), (Nat.le_of_ble_eq_true rfl)⟩) (fun u H locs hp w => ?_)
  obtain ⟨L4, g5, rx6, ry7, rfl, hpg', mqq3, hk, vqq3, ho⟩ := pg_row hpg hq3 hp
  have w : gw D (gA L sz) s.heap H locs L4 g5 := w
  have vh : g5 a = .inr (0, [.ref ar, .int 0, .long 0, .long 0, .null, .null, .null, .null, .null, .null]) := (hk a (hpg.2.2.2 a (by simp)).1).2.trans vh
  have va : g5 ar = .inl (cR, 8, .inr (.inr (.inr (.inr (fun _ => none))))) := (hk ar (hpg.2.2.2 ar (by simp)).1).2.trans va
  have hpg := hpg'
  refine gk_aast X w 1 1 (hpg.2.2.2 ar (by simp)).1 va rfl mqq3 vqq3 rfl (i := iN (0)) (vin (by omega) (by decide) (by decide)) d_H_init_36 (fun H locs w => ?_)
  obtain ⟨F8, hF8⟩ : ∃ z : Nat → Option Nat, z = va_up (fun _ => none) 0 (some q3) := ⟨_, rfl⟩
  have w : gw D (gA L sz) s.heap H locs L4 (va_up g5 ar (.inl (cR, 8, .inr (.inr (.inr (.inr F8)))))) := by rw [hF8]; exact w
  obtain ⟨g9, hg9⟩ : ∃ q : Nat → va_E, q = va_up g5 ar (.inl (cR, 8, .inr (.inr (.inr (.inr F8))))) := ⟨_, rfl⟩
  have g9s : g9 ar = .inl (cR, 8, .inr (.inr (.inr (.inr F8)))) := by rw [hg9, va_up_self]
  have g9n : ∀ q, q ≠ ar → g9 q = g5 q := fun q hq => by rw [hg9, va_up_ne _ _ hq]
  have w : gw D (gA L sz) s.heap H locs (L4) g9 := by rw [hg9]; exact w
  have vh : g9 a = .inr (0, [.ref ar, .int 0, .long 0, .long 0, .null, .null, .null, .null, .null, .null]) := by rw [g9n a naa]; exact vh
  have va : g9 ar = .inl (cR, 8, .inr (.inr (.inr (.inr F8)))) := g9s
  have hpg := pg_put (g := g9) hpg (b := ar) (by simp) g9n
  refine lv_iinc (v := iN ((0 + 1))) (lv' := [(1, .int (iN ((0 + 1)))), (0, .ref a)]) hx hb d_H_init_37 hl (k := 0) rfl (by rw [show (0 + 1) = 0 + (1 : Int) by omega, ← iN_add]; rfl) (by decide) rfl (fun ls hl => ?_)
  refine lv_goto (tgt := 15) hx hb d_H_init_40 (by decide) ?_
  refine lv_iload_n hx hb d_H_init_15 rfl (lv_at hl 0 rfl) ?_
  refine lv_aload_n hx hb d_H_init_16 rfl (lv_at hl 1 rfl) ?_
  refine gk_get X w (hpg.2.2.2 a (by simp)).1 vh rfl in_H 0 (by decide) lk_H_11 rfl d_H_init_17 ?_
  refine gk_alen X w 1 (hpg.2.2.2 ar (by simp)).1 va rfl (v := iN (8)) rfl d_H_init_20 ?_
  refine ri_cge (a := (0 + 1)) (b := 8) (tgt := 43) hx hb d_H_init_21 (by decide) rfl rfl (by unfold i3; omega) (by unfold i3; omega) (fun c9 => ?_) (fun c9 => ?_)
  · exfalso; omega
  refine lv_aload_n hx hb d_H_init_24 rfl (lv_at hl 1 rfl) ?_
  refine gk_get X w (hpg.2.2.2 a (by simp)).1 vh rfl in_H 0 (by decide) lk_H_11 rfl d_H_init_25 ?_
  refine lv_iload_n hx hb d_H_init_28 rfl (lv_at hl 0 rfl) ?_
  refine gk_new X w in_R ty_R tyok_R lk_H_9 ib_R id_R (ci := 1) rfl [.null, .null, .int 0] (by decide +kernel) (Nat.le_of_ble_eq_true rfl) (Nat.le_of_ble_eq_true rfl) d_H_init_29 (fun q10 H hq10 w => ?_)
  refine lv_dup hx hb d_H_init_32 rfl ?_
  refine g_cv w (g_runI (As := []) (rest := [.ref q10, .int (iN ((0 + 1))), .ref ar]) X w (c_R_init l (L := (L4 ++ [q10])) (f := (va_up g9 q10 (.inr (1, [.null, .null, .int 0])))) (a := q10) (List.mem_append_right _ (List.mem_singleton.mpr rfl)) (va_up_self _ _ _)) k_R_init rfl im_R_init lk_H_15 ⟨(Nat.le_of_ble_eq_true rfl), (Nat.le_of_ble_eq_true rfl)⟩ rfl hl.1 rfl (Nat.le_of_ble_eq_true rfl) d_H_init_33 ⟨(Nat.le_of_ble_eq_true rfl), (Nat.le_of_ble_eq_true rfl)⟩) (fun u H locs hp w => ?_)
  obtain ⟨L11, g12, rx13, ry14, rfl, hpg', mqq10, hk, vqq10, ho⟩ := pg_row hpg hq10 hp
  have w : gw D (gA L sz) s.heap H locs L11 g12 := w
  have vh : g12 a = .inr (0, [.ref ar, .int 0, .long 0, .long 0, .null, .null, .null, .null, .null, .null]) := (hk a (hpg.2.2.2 a (by simp)).1).2.trans vh
  have va : g12 ar = .inl (cR, 8, .inr (.inr (.inr (.inr F8)))) := (hk ar (hpg.2.2.2 ar (by simp)).1).2.trans va
  have hpg := hpg'
  refine gk_aast X w 1 1 (hpg.2.2.2 ar (by simp)).1 va rfl mqq10 vqq10 rfl (i := iN ((0 + 1))) (vin (by omega) (by decide) (by decide)) d_H_init_36 (fun H locs w => ?_)
  obtain ⟨F15, hF15⟩ : ∃ z : Nat → Option Nat, z = va_up F8 1 (some q10) := ⟨_, rfl⟩
  have w : gw D (gA L sz) s.heap H locs L11 (va_up g12 ar (.inl (cR, 8, .inr (.inr (.inr (.inr F15)))))) := by rw [hF15]; exact w
  obtain ⟨g16, hg16⟩ : ∃ q : Nat → va_E, q = va_up g12 ar (.inl (cR, 8, .inr (.inr (.inr (.inr F15))))) := ⟨_, rfl⟩
  have g16s : g16 ar = .inl (cR, 8, .inr (.inr (.inr (.inr F15)))) := by rw [hg16, va_up_self]
  have g16n : ∀ q, q ≠ ar → g16 q = g12 q := fun q hq => by rw [hg16, va_up_ne _ _ hq]
  have w : gw D (gA L sz) s.heap H locs (L11) g16 := by rw [hg16]; exact w
  have vh : g16 a = .inr (0, [.ref ar, .int 0, .long 0, .long 0, .null, .null, .null, .null, .null, .null]) := by rw [g16n a naa]; exact vh
  have va : g16 ar = .inl (cR, 8, .inr (.inr (.inr (.inr F15)))) := g16s
  have hpg := pg_put (g := g16) hpg (b := ar) (by simp) g16n
  refine lv_iinc (v := iN (((0 + 1) + 1))) (lv' := [(1, .int (iN (((0 + 1) + 1)))), (0, .ref a)]) hx hb d_H_init_37 hl (k := 0) rfl (by rw [show ((0 + 1) + 1) = (0 + 1) + (1 : Int) by omega, ← iN_add]; rfl) (by decide) rfl (fun ls hl => ?_)
  refine lv_goto (tgt := 15) hx hb d_H_init_40 (by decide) ?_
  refine lv_iload_n hx hb d_H_init_15 rfl (lv_at hl 0 rfl) ?_
  refine lv_aload_n hx hb d_H_init_16 rfl (lv_at hl 1 rfl) ?_
  refine gk_get X w (hpg.2.2.2 a (by simp)).1 vh rfl in_H 0 (by decide) lk_H_11 rfl d_H_init_17 ?_
  refine gk_alen X w 1 (hpg.2.2.2 ar (by simp)).1 va rfl (v := iN (8)) rfl d_H_init_20 ?_
  refine ri_cge (a := ((0 + 1) + 1)) (b := 8) (tgt := 43) hx hb d_H_init_21 (by decide) rfl rfl (by unfold i3; omega) (by unfold i3; omega) (fun c9 => ?_) (fun c9 => ?_)
  · exfalso; omega
  refine lv_aload_n hx hb d_H_init_24 rfl (lv_at hl 1 rfl) ?_
  refine gk_get X w (hpg.2.2.2 a (by simp)).1 vh rfl in_H 0 (by decide) lk_H_11 rfl d_H_init_25 ?_
  refine lv_iload_n hx hb d_H_init_28 rfl (lv_at hl 0 rfl) ?_
  refine gk_new X w in_R ty_R tyok_R lk_H_9 ib_R id_R (ci := 1) rfl [.null, .null, .int 0] (by decide +kernel) (Nat.le_of_ble_eq_true rfl) (Nat.le_of_ble_eq_true rfl) d_H_init_29 (fun q17 H hq17 w => ?_)
  refine lv_dup hx hb d_H_init_32 rfl ?_
  refine g_cv w (g_runI (As := []) (rest := [.ref q17, .int (iN (((0 + 1) + 1))), .ref ar]) X w (c_R_init l (L := (L11 ++ [q17])) (f := (va_up g16 q17 (.inr (1, [.null, .null, .int 0])))) (a := q17) (List.mem_append_right _ (List.mem_singleton.mpr rfl)) (va_up_self _ _ _)) k_R_init rfl im_R_init lk_H_15 ⟨(Nat.le_of_ble_eq_true rfl), (Nat.le_of_ble_eq_true rfl)⟩ rfl hl.1 rfl (Nat.le_of_ble_eq_true rfl) d_H_init_33 ⟨(Nat.le_of_ble_eq_true rfl), (Nat.le_of_ble_eq_true rfl)⟩) (fun u H locs hp w => ?_)
  obtain ⟨L18, g19, rx20, ry21, rfl, hpg', mqq17, hk, vqq17, ho⟩ := pg_row hpg hq17 hp
  have w : gw D (gA L sz) s.heap H locs L18 g19 := w
  have vh : g19 a = .inr (0, [.ref ar, .int 0, .long 0, .long 0, .null, .null, .null, .null, .null, .null]) := (hk a (hpg.2.2.2 a (by simp)).1).2.trans vh
  have va : g19 ar = .inl (cR, 8, .inr (.inr (.inr (.inr F15)))) := (hk ar (hpg.2.2.2 ar (by simp)).1).2.trans va
  have hpg := hpg'
  refine gk_aast X w 1 1 (hpg.2.2.2 ar (by simp)).1 va rfl mqq17 vqq17 rfl (i := iN (((0 + 1) + 1))) (vin (by omega) (by decide) (by decide)) d_H_init_36 (fun H locs w => ?_)
  obtain ⟨F22, hF22⟩ : ∃ z : Nat → Option Nat, z = va_up F15 2 (some q17) := ⟨_, rfl⟩
  have w : gw D (gA L sz) s.heap H locs L18 (va_up g19 ar (.inl (cR, 8, .inr (.inr (.inr (.inr F22)))))) := by rw [hF22]; exact w
  obtain ⟨g23, hg23⟩ : ∃ q : Nat → va_E, q = va_up g19 ar (.inl (cR, 8, .inr (.inr (.inr (.inr F22))))) := ⟨_, rfl⟩
  have g23s : g23 ar = .inl (cR, 8, .inr (.inr (.inr (.inr F22)))) := by rw [hg23, va_up_self]
  have g23n : ∀ q, q ≠ ar → g23 q = g19 q := fun q hq => by rw [hg23, va_up_ne _ _ hq]
  have w : gw D (gA L sz) s.heap H locs (L18) g23 := by rw [hg23]; exact w
  have vh : g23 a = .inr (0, [.ref ar, .int 0, .long 0, .long 0, .null, .null, .null, .null, .null, .null]) := by rw [g23n a naa]; exact vh
  have va : g23 ar = .inl (cR, 8, .inr (.inr (.inr (.inr F22)))) := g23s
  have hpg := pg_put (g := g23) hpg (b := ar) (by simp) g23n
  refine lv_iinc (v := iN ((((0 + 1) + 1) + 1))) (lv' := [(1, .int (iN ((((0 + 1) + 1) + 1)))), (0, .ref a)]) hx hb d_H_init_37 hl (k := 0) rfl (by rw [show (((0 + 1) + 1) + 1) = ((0 + 1) + 1) + (1 : Int) by omega, ← iN_add]; rfl) (by decide) rfl (fun ls hl => ?_)
  refine lv_goto (tgt := 15) hx hb d_H_init_40 (by decide) ?_
  refine lv_iload_n hx hb d_H_init_15 rfl (lv_at hl 0 rfl) ?_
  refine lv_aload_n hx hb d_H_init_16 rfl (lv_at hl 1 rfl) ?_
  refine gk_get X w (hpg.2.2.2 a (by simp)).1 vh rfl in_H 0 (by decide) lk_H_11 rfl d_H_init_17 ?_
  refine gk_alen X w 1 (hpg.2.2.2 ar (by simp)).1 va rfl (v := iN (8)) rfl d_H_init_20 ?_
  refine ri_cge (a := (((0 + 1) + 1) + 1)) (b := 8) (tgt := 43) hx hb d_H_init_21 (by decide) rfl rfl (by unfold i3; omega) (by unfold i3; omega) (fun c9 => ?_) (fun c9 => ?_)
  · exfalso; omega
  refine lv_aload_n hx hb d_H_init_24 rfl (lv_at hl 1 rfl) ?_
  refine gk_get X w (hpg.2.2.2 a (by simp)).1 vh rfl in_H 0 (by decide) lk_H_11 rfl d_H_init_25 ?_
  refine lv_iload_n hx hb d_H_init_28 rfl (lv_at hl 0 rfl) ?_
  refine gk_new X w in_R ty_R tyok_R lk_H_9 ib_R id_R (ci := 1) rfl [.null, .null, .int 0] (by decide +kernel) (Nat.le_of_ble_eq_true rfl) (Nat.le_of_ble_eq_true rfl) d_H_init_29 (fun q24 H hq24 w => ?_)
  refine lv_dup hx hb d_H_init_32 rfl ?_
  refine g_cv w (g_runI (As := []) (rest := [.ref q24, .int (iN ((((0 + 1) + 1) + 1))), .ref ar]) X w (c_R_init l (L := (L18 ++ [q24])) (f := (va_up g23 q24 (.inr (1, [.null, .null, .int 0])))) (a := q24) (List.mem_append_right _ (List.mem_singleton.mpr rfl)) (va_up_self _ _ _)) k_R_init rfl im_R_init lk_H_15 ⟨(Nat.le_of_ble_eq_true rfl), (Nat.le_of_ble_eq_true rfl)⟩ rfl hl.1 rfl (Nat.le_of_ble_eq_true rfl) d_H_init_33 ⟨(Nat.le_of_ble_eq_true rfl), (Nat.le_of_ble_eq_true rfl)⟩) (fun u H locs hp w => ?_)
  obtain ⟨L25, g26, rx27, ry28, rfl, hpg', mqq24, hk, vqq24, ho⟩ := pg_row hpg hq24 hp
  have w : gw D (gA L sz) s.heap H locs L25 g26 := w
  have vh : g26 a = .inr (0, [.ref ar, .int 0, .long 0, .long 0, .null, .null, .null, .null, .null, .null]) := (hk a (hpg.2.2.2 a (by simp)).1).2.trans vh
  have va : g26 ar = .inl (cR, 8, .inr (.inr (.inr (.inr F22)))) := (hk ar (hpg.2.2.2 ar (by simp)).1).2.trans va
  have hpg := hpg'
  refine gk_aast X w 1 1 (hpg.2.2.2 ar (by simp)).1 va rfl mqq24 vqq24 rfl (i := iN ((((0 + 1) + 1) + 1))) (vin (by omega) (by decide) (by decide)) d_H_init_36 (fun H locs w => ?_)
  obtain ⟨F29, hF29⟩ : ∃ z : Nat → Option Nat, z = va_up F22 3 (some q24) := ⟨_, rfl⟩
  have w : gw D (gA L sz) s.heap H locs L25 (va_up g26 ar (.inl (cR, 8, .inr (.inr (.inr (.inr F29)))))) := by rw [hF29]; exact w
  obtain ⟨g30, hg30⟩ : ∃ q : Nat → va_E, q = va_up g26 ar (.inl (cR, 8, .inr (.inr (.inr (.inr F29))))) := ⟨_, rfl⟩
  have g30s : g30 ar = .inl (cR, 8, .inr (.inr (.inr (.inr F29)))) := by rw [hg30, va_up_self]
  have g30n : ∀ q, q ≠ ar → g30 q = g26 q := fun q hq => by rw [hg30, va_up_ne _ _ hq]
  have w : gw D (gA L sz) s.heap H locs (L25) g30 := by rw [hg30]; exact w
  have vh : g30 a = .inr (0, [.ref ar, .int 0, .long 0, .long 0, .null, .null, .null, .null, .null, .null]) := by rw [g30n a naa]; exact vh
  have va : g30 ar = .inl (cR, 8, .inr (.inr (.inr (.inr F29)))) := g30s
  have hpg := pg_put (g := g30) hpg (b := ar) (by simp) g30n
  refine lv_iinc (v := iN (((((0 + 1) + 1) + 1) + 1))) (lv' := [(1, .int (iN (((((0 + 1) + 1) + 1) + 1)))), (0, .ref a)]) hx hb d_H_init_37 hl (k := 0) rfl (by rw [show ((((0 + 1) + 1) + 1) + 1) = (((0 + 1) + 1) + 1) + (1 : Int) by omega, ← iN_add]; rfl) (by decide) rfl (fun ls hl => ?_)
  refine lv_goto (tgt := 15) hx hb d_H_init_40 (by decide) ?_
  refine lv_iload_n hx hb d_H_init_15 rfl (lv_at hl 0 rfl) ?_
  refine lv_aload_n hx hb d_H_init_16 rfl (lv_at hl 1 rfl) ?_
  refine gk_get X w (hpg.2.2.2 a (by simp)).1 vh rfl in_H 0 (by decide) lk_H_11 rfl d_H_init_17 ?_
  refine gk_alen X w 1 (hpg.2.2.2 ar (by simp)).1 va rfl (v := iN (8)) rfl d_H_init_20 ?_
  refine ri_cge (a := ((((0 + 1) + 1) + 1) + 1)) (b := 8) (tgt := 43) hx hb d_H_init_21 (by decide) rfl rfl (by unfold i3; omega) (by unfold i3; omega) (fun c9 => ?_) (fun c9 => ?_)
  · exfalso; omega
  refine lv_aload_n hx hb d_H_init_24 rfl (lv_at hl 1 rfl) ?_
  refine gk_get X w (hpg.2.2.2 a (by simp)).1 vh rfl in_H 0 (by decide) lk_H_11 rfl d_H_init_25 ?_
  refine lv_iload_n hx hb d_H_init_28 rfl (lv_at hl 0 rfl) ?_
  refine gk_new X w in_R ty_R tyok_R lk_H_9 ib_R id_R (ci := 1) rfl [.null, .null, .int 0] (by decide +kernel) (Nat.le_of_ble_eq_true rfl) (Nat.le_of_ble_eq_true rfl) d_H_init_29 (fun q31 H hq31 w => ?_)
  refine lv_dup hx hb d_H_init_32 rfl ?_
  refine g_cv w (g_runI (As := []) (rest := [.ref q31, .int (iN (((((0 + 1) + 1) + 1) + 1))), .ref ar]) X w (c_R_init l (L := (L25 ++ [q31])) (f := (va_up g30 q31 (.inr (1, [.null, .null, .int 0])))) (a := q31) (List.mem_append_right _ (List.mem_singleton.mpr rfl)) (va_up_self _ _ _)) k_R_init rfl im_R_init lk_H_15 ⟨(Nat.le_of_ble_eq_true rfl), (Nat.le_of_ble_eq_true rfl)⟩ rfl hl.1 rfl (Nat.le_of_ble_eq_true rfl) d_H_init_33 ⟨(Nat.le_of_ble_eq_true rfl), (Nat.le_of_ble_eq_true rfl)⟩) (fun u H locs hp w => ?_)
  obtain ⟨L32, g33, rx34, ry35, rfl, hpg', mqq31, hk, vqq31, ho⟩ := pg_row hpg hq31 hp
  have w : gw D (gA L sz) s.heap H locs L32 g33 := w
  have vh : g33 a = .inr (0, [.ref ar, .int 0, .long 0, .long 0, .null, .null, .null, .null, .null, .null]) := (hk a (hpg.2.2.2 a (by simp)).1).2.trans vh
  have va : g33 ar = .inl (cR, 8, .inr (.inr (.inr (.inr F29)))) := (hk ar (hpg.2.2.2 ar (by simp)).1).2.trans va
  have hpg := hpg'
  refine gk_aast X w 1 1 (hpg.2.2.2 ar (by simp)).1 va rfl mqq31 vqq31 rfl (i := iN (((((0 + 1) + 1) + 1) + 1))) (vin (by omega) (by decide) (by decide)) d_H_init_36 (fun H locs w => ?_)
  obtain ⟨F36, hF36⟩ : ∃ z : Nat → Option Nat, z = va_up F29 4 (some q31) := ⟨_, rfl⟩
  have w : gw D (gA L sz) s.heap H locs L32 (va_up g33 ar (.inl (cR, 8, .inr (.inr (.inr (.inr F36)))))) := by rw [hF36]; exact w
  obtain ⟨g37, hg37⟩ : ∃ q : Nat → va_E, q = va_up g33 ar (.inl (cR, 8, .inr (.inr (.inr (.inr F36))))) := ⟨_, rfl⟩
  have g37s : g37 ar = .inl (cR, 8, .inr (.inr (.inr (.inr F36)))) := by rw [hg37, va_up_self]
  have g37n : ∀ q, q ≠ ar → g37 q = g33 q := fun q hq => by rw [hg37, va_up_ne _ _ hq]
  have w : gw D (gA L sz) s.heap H locs (L32) g37 := by rw [hg37]; exact w
  have vh : g37 a = .inr (0, [.ref ar, .int 0, .long 0, .long 0, .null, .null, .null, .null, .null, .null]) := by rw [g37n a naa]; exact vh
  have va : g37 ar = .inl (cR, 8, .inr (.inr (.inr (.inr F36)))) := g37s
  have hpg := pg_put (g := g37) hpg (b := ar) (by simp) g37n
  refine lv_iinc (v := iN ((((((0 + 1) + 1) + 1) + 1) + 1))) (lv' := [(1, .int (iN ((((((0 + 1) + 1) + 1) + 1) + 1)))), (0, .ref a)]) hx hb d_H_init_37 hl (k := 0) rfl (by rw [show (((((0 + 1) + 1) + 1) + 1) + 1) = ((((0 + 1) + 1) + 1) + 1) + (1 : Int) by omega, ← iN_add]; rfl) (by decide) rfl (fun ls hl => ?_)
  refine lv_goto (tgt := 15) hx hb d_H_init_40 (by decide) ?_
  refine lv_iload_n hx hb d_H_init_15 rfl (lv_at hl 0 rfl) ?_
  refine lv_aload_n hx hb d_H_init_16 rfl (lv_at hl 1 rfl) ?_
  refine gk_get X w (hpg.2.2.2 a (by simp)).1 vh rfl in_H 0 (by decide) lk_H_11 rfl d_H_init_17 ?_
  refine gk_alen X w 1 (hpg.2.2.2 ar (by simp)).1 va rfl (v := iN (8)) rfl d_H_init_20 ?_
  refine ri_cge (a := (((((0 + 1) + 1) + 1) + 1) + 1)) (b := 8) (tgt := 43) hx hb d_H_init_21 (by decide) rfl rfl (by unfold i3; omega) (by unfold i3; omega) (fun c9 => ?_) (fun c9 => ?_)
  · exfalso; omega
  refine lv_aload_n hx hb d_H_init_24 rfl (lv_at hl 1 rfl) ?_
  refine gk_get X w (hpg.2.2.2 a (by simp)).1 vh rfl in_H 0 (by decide) lk_H_11 rfl d_H_init_25 ?_
  refine lv_iload_n hx hb d_H_init_28 rfl (lv_at hl 0 rfl) ?_
  refine gk_new X w in_R ty_R tyok_R lk_H_9 ib_R id_R (ci := 1) rfl [.null, .null, .int 0] (by decide +kernel) (Nat.le_of_ble_eq_true rfl) (Nat.le_of_ble_eq_true rfl) d_H_init_29 (fun q38 H hq38 w => ?_)
  refine lv_dup hx hb d_H_init_32 rfl ?_
  refine g_cv w (g_runI (As := []) (rest := [.ref q38, .int (iN ((((((0 + 1) + 1) + 1) + 1) + 1))), .ref ar]) X w (c_R_init l (L := (L32 ++ [q38])) (f := (va_up g37 q38 (.inr (1, [.null, .null, .int 0])))) (a := q38) (List.mem_append_right _ (List.mem_singleton.mpr rfl)) (va_up_self _ _ _)) k_R_init rfl im_R_init lk_H_15 ⟨(Nat.le_of_ble_eq_true rfl), (Nat.le_of_ble_eq_true rfl)⟩ rfl hl.1 rfl (Nat.le_of_ble_eq_true rfl) d_H_init_33 ⟨(Nat.le_of_ble_eq_true rfl), (Nat.le_of_ble_eq_true rfl)⟩) (fun u H locs hp w => ?_)
  obtain ⟨L39, g40, rx41, ry42, rfl, hpg', mqq38, hk, vqq38, ho⟩ := pg_row hpg hq38 hp
  have w : gw D (gA L sz) s.heap H locs L39 g40 := w
  have vh : g40 a = .inr (0, [.ref ar, .int 0, .long 0, .long 0, .null, .null, .null, .null, .null, .null]) := (hk a (hpg.2.2.2 a (by simp)).1).2.trans vh
  have va : g40 ar = .inl (cR, 8, .inr (.inr (.inr (.inr F36)))) := (hk ar (hpg.2.2.2 ar (by simp)).1).2.trans va
  have hpg := hpg'
  refine gk_aast X w 1 1 (hpg.2.2.2 ar (by simp)).1 va rfl mqq38 vqq38 rfl (i := iN ((((((0 + 1) + 1) + 1) + 1) + 1))) (vin (by omega) (by decide) (by decide)) d_H_init_36 (fun H locs w => ?_)
  obtain ⟨F43, hF43⟩ : ∃ z : Nat → Option Nat, z = va_up F36 5 (some q38) := ⟨_, rfl⟩
  have w : gw D (gA L sz) s.heap H locs L39 (va_up g40 ar (.inl (cR, 8, .inr (.inr (.inr (.inr F43)))))) := by rw [hF43]; exact w
  obtain ⟨g44, hg44⟩ : ∃ q : Nat → va_E, q = va_up g40 ar (.inl (cR, 8, .inr (.inr (.inr (.inr F43))))) := ⟨_, rfl⟩
  have g44s : g44 ar = .inl (cR, 8, .inr (.inr (.inr (.inr F43)))) := by rw [hg44, va_up_self]
  have g44n : ∀ q, q ≠ ar → g44 q = g40 q := fun q hq => by rw [hg44, va_up_ne _ _ hq]
  have w : gw D (gA L sz) s.heap H locs (L39) g44 := by rw [hg44]; exact w
  have vh : g44 a = .inr (0, [.ref ar, .int 0, .long 0, .long 0, .null, .null, .null, .null, .null, .null]) := by rw [g44n a naa]; exact vh
  have va : g44 ar = .inl (cR, 8, .inr (.inr (.inr (.inr F43)))) := g44s
  have hpg := pg_put (g := g44) hpg (b := ar) (by simp) g44n
  refine lv_iinc (v := iN (((((((0 + 1) + 1) + 1) + 1) + 1) + 1))) (lv' := [(1, .int (iN (((((((0 + 1) + 1) + 1) + 1) + 1) + 1)))), (0, .ref a)]) hx hb d_H_init_37 hl (k := 0) rfl (by rw [show ((((((0 + 1) + 1) + 1) + 1) + 1) + 1) = (((((0 + 1) + 1) + 1) + 1) + 1) + (1 : Int) by omega, ← iN_add]; rfl) (by decide) rfl (fun ls hl => ?_)
  refine lv_goto (tgt := 15) hx hb d_H_init_40 (by decide) ?_
  refine lv_iload_n hx hb d_H_init_15 rfl (lv_at hl 0 rfl) ?_
  refine lv_aload_n hx hb d_H_init_16 rfl (lv_at hl 1 rfl) ?_
  refine gk_get X w (hpg.2.2.2 a (by simp)).1 vh rfl in_H 0 (by decide) lk_H_11 rfl d_H_init_17 ?_
  refine gk_alen X w 1 (hpg.2.2.2 ar (by simp)).1 va rfl (v := iN (8)) rfl d_H_init_20 ?_
  refine ri_cge (a := ((((((0 + 1) + 1) + 1) + 1) + 1) + 1)) (b := 8) (tgt := 43) hx hb d_H_init_21 (by decide) rfl rfl (by unfold i3; omega) (by unfold i3; omega) (fun c9 => ?_) (fun c9 => ?_)
  · exfalso; omega
  refine lv_aload_n hx hb d_H_init_24 rfl (lv_at hl 1 rfl) ?_
  refine gk_get X w (hpg.2.2.2 a (by simp)).1 vh rfl in_H 0 (by decide) lk_H_11 rfl d_H_init_25 ?_
  refine lv_iload_n hx hb d_H_init_28 rfl (lv_at hl 0 rfl) ?_
  refine gk_new X w in_R ty_R tyok_R lk_H_9 ib_R id_R (ci := 1) rfl [.null, .null, .int 0] (by decide +kernel) (Nat.le_of_ble_eq_true rfl) (Nat.le_of_ble_eq_true rfl) d_H_init_29 (fun q45 H hq45 w => ?_)
  refine lv_dup hx hb d_H_init_32 rfl ?_
  refine g_cv w (g_runI (As := []) (rest := [.ref q45, .int (iN (((((((0 + 1) + 1) + 1) + 1) + 1) + 1))), .ref ar]) X w (c_R_init l (L := (L39 ++ [q45])) (f := (va_up g44 q45 (.inr (1, [.null, .null, .int 0])))) (a := q45) (List.mem_append_right _ (List.mem_singleton.mpr rfl)) (va_up_self _ _ _)) k_R_init rfl im_R_init lk_H_15 ⟨(Nat.le_of_ble_eq_true rfl), (Nat.le_of_ble_eq_true rfl)⟩ rfl hl.1 rfl (Nat.le_of_ble_eq_true rfl) d_H_init_33 ⟨(Nat.le_of_ble_eq_true rfl), (Nat.le_of_ble_eq_true rfl)⟩) (fun u H locs hp w => ?_)
  obtain ⟨L46, g47, rx48, ry49, rfl, hpg', mqq45, hk, vqq45, ho⟩ := pg_row hpg hq45 hp
  have w : gw D (gA L sz) s.heap H locs L46 g47 := w
  have vh : g47 a = .inr (0, [.ref ar, .int 0, .long 0, .long 0, .null, .null, .null, .null, .null, .null]) := (hk a (hpg.2.2.2 a (by simp)).1).2.trans vh
  have va : g47 ar = .inl (cR, 8, .inr (.inr (.inr (.inr F43)))) := (hk ar (hpg.2.2.2 ar (by simp)).1).2.trans va
  have hpg := hpg'
  refine gk_aast X w 1 1 (hpg.2.2.2 ar (by simp)).1 va rfl mqq45 vqq45 rfl (i := iN (((((((0 + 1) + 1) + 1) + 1) + 1) + 1))) (vin (by omega) (by decide) (by decide)) d_H_init_36 (fun H locs w => ?_)
  obtain ⟨F50, hF50⟩ : ∃ z : Nat → Option Nat, z = va_up F43 6 (some q45) := ⟨_, rfl⟩
  have w : gw D (gA L sz) s.heap H locs L46 (va_up g47 ar (.inl (cR, 8, .inr (.inr (.inr (.inr F50)))))) := by rw [hF50]; exact w
  obtain ⟨g51, hg51⟩ : ∃ q : Nat → va_E, q = va_up g47 ar (.inl (cR, 8, .inr (.inr (.inr (.inr F50))))) := ⟨_, rfl⟩
  have g51s : g51 ar = .inl (cR, 8, .inr (.inr (.inr (.inr F50)))) := by rw [hg51, va_up_self]
  have g51n : ∀ q, q ≠ ar → g51 q = g47 q := fun q hq => by rw [hg51, va_up_ne _ _ hq]
  have w : gw D (gA L sz) s.heap H locs (L46) g51 := by rw [hg51]; exact w
  have vh : g51 a = .inr (0, [.ref ar, .int 0, .long 0, .long 0, .null, .null, .null, .null, .null, .null]) := by rw [g51n a naa]; exact vh
  have va : g51 ar = .inl (cR, 8, .inr (.inr (.inr (.inr F50)))) := g51s
  have hpg := pg_put (g := g51) hpg (b := ar) (by simp) g51n
  refine lv_iinc (v := iN ((((((((0 + 1) + 1) + 1) + 1) + 1) + 1) + 1))) (lv' := [(1, .int (iN ((((((((0 + 1) + 1) + 1) + 1) + 1) + 1) + 1)))), (0, .ref a)]) hx hb d_H_init_37 hl (k := 0) rfl (by rw [show (((((((0 + 1) + 1) + 1) + 1) + 1) + 1) + 1) = ((((((0 + 1) + 1) + 1) + 1) + 1) + 1) + (1 : Int) by omega, ← iN_add]; rfl) (by decide) rfl (fun ls hl => ?_)
  refine lv_goto (tgt := 15) hx hb d_H_init_40 (by decide) ?_
  refine lv_iload_n hx hb d_H_init_15 rfl (lv_at hl 0 rfl) ?_
  refine lv_aload_n hx hb d_H_init_16 rfl (lv_at hl 1 rfl) ?_
  refine gk_get X w (hpg.2.2.2 a (by simp)).1 vh rfl in_H 0 (by decide) lk_H_11 rfl d_H_init_17 ?_
  refine gk_alen X w 1 (hpg.2.2.2 ar (by simp)).1 va rfl (v := iN (8)) rfl d_H_init_20 ?_
  refine ri_cge (a := (((((((0 + 1) + 1) + 1) + 1) + 1) + 1) + 1)) (b := 8) (tgt := 43) hx hb d_H_init_21 (by decide) rfl rfl (by unfold i3; omega) (by unfold i3; omega) (fun c9 => ?_) (fun c9 => ?_)
  · exfalso; omega
  refine lv_aload_n hx hb d_H_init_24 rfl (lv_at hl 1 rfl) ?_
  refine gk_get X w (hpg.2.2.2 a (by simp)).1 vh rfl in_H 0 (by decide) lk_H_11 rfl d_H_init_25 ?_
  refine lv_iload_n hx hb d_H_init_28 rfl (lv_at hl 0 rfl) ?_
  refine gk_new X w in_R ty_R tyok_R lk_H_9 ib_R id_R (ci := 1) rfl [.null, .null, .int 0] (by decide +kernel) (Nat.le_of_ble_eq_true rfl) (Nat.le_of_ble_eq_true rfl) d_H_init_29 (fun q52 H hq52 w => ?_)
  refine lv_dup hx hb d_H_init_32 rfl ?_
  refine g_cv w (g_runI (As := []) (rest := [.ref q52, .int (iN ((((((((0 + 1) + 1) + 1) + 1) + 1) + 1) + 1))), .ref ar]) X w (c_R_init l (L := (L46 ++ [q52])) (f := (va_up g51 q52 (.inr (1, [.null, .null, .int 0])))) (a := q52) (List.mem_append_right _ (List.mem_singleton.mpr rfl)) (va_up_self _ _ _)) k_R_init rfl im_R_init lk_H_15 ⟨(Nat.le_of_ble_eq_true rfl), (Nat.le_of_ble_eq_true rfl)⟩ rfl hl.1 rfl (Nat.le_of_ble_eq_true rfl) d_H_init_33 ⟨(Nat.le_of_ble_eq_true rfl), (Nat.le_of_ble_eq_true rfl)⟩) (fun u H locs hp w => ?_)
  obtain ⟨L53, g54, rx55, ry56, rfl, hpg', mqq52, hk, vqq52, ho⟩ := pg_row hpg hq52 hp
  have w : gw D (gA L sz) s.heap H locs L53 g54 := w
  have vh : g54 a = .inr (0, [.ref ar, .int 0, .long 0, .long 0, .null, .null, .null, .null, .null, .null]) := (hk a (hpg.2.2.2 a (by simp)).1).2.trans vh
  have va : g54 ar = .inl (cR, 8, .inr (.inr (.inr (.inr F50)))) := (hk ar (hpg.2.2.2 ar (by simp)).1).2.trans va
  have hpg := hpg'
  refine gk_aast X w 1 1 (hpg.2.2.2 ar (by simp)).1 va rfl mqq52 vqq52 rfl (i := iN ((((((((0 + 1) + 1) + 1) + 1) + 1) + 1) + 1))) (vin (by omega) (by decide) (by decide)) d_H_init_36 (fun H locs w => ?_)
  obtain ⟨F57, hF57⟩ : ∃ z : Nat → Option Nat, z = va_up F50 7 (some q52) := ⟨_, rfl⟩
  have w : gw D (gA L sz) s.heap H locs L53 (va_up g54 ar (.inl (cR, 8, .inr (.inr (.inr (.inr F57)))))) := by rw [hF57]; exact w
  obtain ⟨g58, hg58⟩ : ∃ q : Nat → va_E, q = va_up g54 ar (.inl (cR, 8, .inr (.inr (.inr (.inr F57))))) := ⟨_, rfl⟩
  have g58s : g58 ar = .inl (cR, 8, .inr (.inr (.inr (.inr F57)))) := by rw [hg58, va_up_self]
  have g58n : ∀ q, q ≠ ar → g58 q = g54 q := fun q hq => by rw [hg58, va_up_ne _ _ hq]
  have w : gw D (gA L sz) s.heap H locs (L53) g58 := by rw [hg58]; exact w
  have vh : g58 a = .inr (0, [.ref ar, .int 0, .long 0, .long 0, .null, .null, .null, .null, .null, .null]) := by rw [g58n a naa]; exact vh
  have va : g58 ar = .inl (cR, 8, .inr (.inr (.inr (.inr F57)))) := g58s
  have hpg := pg_put (g := g58) hpg (b := ar) (by simp) g58n
  refine lv_iinc (v := iN (((((((((0 + 1) + 1) + 1) + 1) + 1) + 1) + 1) + 1))) (lv' := [(1, .int (iN (((((((((0 + 1) + 1) + 1) + 1) + 1) + 1) + 1) + 1)))), (0, .ref a)]) hx hb d_H_init_37 hl (k := 0) rfl (by rw [show ((((((((0 + 1) + 1) + 1) + 1) + 1) + 1) + 1) + 1) = (((((((0 + 1) + 1) + 1) + 1) + 1) + 1) + 1) + (1 : Int) by omega, ← iN_add]; rfl) (by decide) rfl (fun ls hl => ?_)
  refine lv_goto (tgt := 15) hx hb d_H_init_40 (by decide) ?_
  refine lv_iload_n hx hb d_H_init_15 rfl (lv_at hl 0 rfl) ?_
  refine lv_aload_n hx hb d_H_init_16 rfl (lv_at hl 1 rfl) ?_
  refine gk_get X w (hpg.2.2.2 a (by simp)).1 vh rfl in_H 0 (by decide) lk_H_11 rfl d_H_init_17 ?_
  refine gk_alen X w 1 (hpg.2.2.2 ar (by simp)).1 va rfl (v := iN (8)) rfl d_H_init_20 ?_
  refine ri_cge (a := ((((((((0 + 1) + 1) + 1) + 1) + 1) + 1) + 1) + 1)) (b := 8) (tgt := 43) hx hb d_H_init_21 (by decide) rfl rfl (by unfold i3; omega) (by unfold i3; omega) (fun c9 => ?_) (fun c9 => ?_)
  rotate_left
  · exfalso; omega
  refine lv_aload_n hx hb d_H_init_43 rfl (lv_at hl 1 rfl) ?_
  refine gk_new X w in_R ty_R tyok_R lk_H_9 ib_R id_R (ci := 1) rfl [.null, .null, .int 0] (by decide +kernel) (Nat.le_of_ble_eq_true rfl) (Nat.le_of_ble_eq_true rfl) d_H_init_44 (fun q59 H hq59 w => ?_)
  refine lv_dup hx hb d_H_init_47 rfl ?_
  refine g_cv w (g_runI (As := []) (rest := [.ref q59, .ref a]) X w (c_R_init l (L := (L53 ++ [q59])) (f := (va_up g58 q59 (.inr (1, [.null, .null, .int 0])))) (a := q59) (List.mem_append_right _ (List.mem_singleton.mpr rfl)) (va_up_self _ _ _)) k_R_init rfl im_R_init lk_H_15 ⟨(Nat.le_of_ble_eq_true rfl), (Nat.le_of_ble_eq_true rfl)⟩ rfl hl.1 rfl (Nat.le_of_ble_eq_true rfl) d_H_init_48 ⟨(Nat.le_of_ble_eq_true rfl), (Nat.le_of_ble_eq_true rfl)⟩) (fun u H locs hp w => ?_)
  obtain ⟨L60, g61, rx62, ry63, rfl, hpg', mqq59, hk, vqq59, ho⟩ := pg_row hpg hq59 hp
  have w : gw D (gA L sz) s.heap H locs L60 g61 := w
  have vh : g61 a = .inr (0, [.ref ar, .int 0, .long 0, .long 0, .null, .null, .null, .null, .null, .null]) := (hk a (hpg.2.2.2 a (by simp)).1).2.trans vh
  have va : g61 ar = .inl (cR, 8, .inr (.inr (.inr (.inr F57)))) := (hk ar (hpg.2.2.2 ar (by simp)).1).2.trans va
  have hpg := hpg'
  refine gk_putF X w (hpg.2.2.2 a (by simp)).1 vh rfl in_H ty_H tyok_H nm_H 4 (by decide) lk_H_16 rfl hnm rfl (ty := (.object "HullSums$Row")) (by decide +kernel) rfl rfl (Nat.le_of_ble_eq_true rfl) d_H_init_51 (fun H locs w => ?_)
  obtain ⟨g64, hg64⟩ : ∃ q : Nat → va_E, q = va_up g61 a (.inr (0, [.ref ar, .int 0, .long 0, .long 0, .ref q59, .null, .null, .null, .null, .null])) := ⟨_, rfl⟩
  have g64s : g64 a = .inr (0, [.ref ar, .int 0, .long 0, .long 0, .ref q59, .null, .null, .null, .null, .null]) := by rw [hg64, va_up_self]
  have g64n : ∀ q, q ≠ a → g64 q = g61 q := fun q hq => by rw [hg64, va_up_ne _ _ hq]
  have w : gw D (gA L sz) s.heap H locs (L60) g64 := by rw [hg64]; exact w
  have va : g64 ar = .inl (cR, 8, .inr (.inr (.inr (.inr F57)))) := by rw [g64n ar (Ne.symm naa)]; exact va
  have vh : g64 a = .inr (0, [.ref ar, .int 0, .long 0, .long 0, .ref q59, .null, .null, .null, .null, .null]) := g64s
  have hpg := pg_put (g := g64) hpg (b := a) (by simp) g64n
  refine lv_aload_n hx hb d_H_init_54 rfl (lv_at hl 1 rfl) ?_
  refine gk_new X w in_R ty_R tyok_R lk_H_9 ib_R id_R (ci := 1) rfl [.null, .null, .int 0] (by decide +kernel) (Nat.le_of_ble_eq_true rfl) (Nat.le_of_ble_eq_true rfl) d_H_init_55 (fun q65 H hq65 w => ?_)
  refine lv_dup hx hb d_H_init_58 rfl ?_
  refine g_cv w (g_runI (As := []) (rest := [.ref q65, .ref a]) X w (c_R_init l (L := (L60 ++ [q65])) (f := (va_up g64 q65 (.inr (1, [.null, .null, .int 0])))) (a := q65) (List.mem_append_right _ (List.mem_singleton.mpr rfl)) (va_up_self _ _ _)) k_R_init rfl im_R_init lk_H_15 ⟨(Nat.le_of_ble_eq_true rfl), (Nat.le_of_ble_eq_true rfl)⟩ rfl hl.1 rfl (Nat.le_of_ble_eq_true rfl) d_H_init_59 ⟨(Nat.le_of_ble_eq_true rfl), (Nat.le_of_ble_eq_true rfl)⟩) (fun u H locs hp w => ?_)
  obtain ⟨L66, g67, rx68, ry69, rfl, hpg', mqq65, hk, vqq65, ho⟩ := pg_row hpg hq65 hp
  have w : gw D (gA L sz) s.heap H locs L66 g67 := w
  have vh : g67 a = .inr (0, [.ref ar, .int 0, .long 0, .long 0, .ref q59, .null, .null, .null, .null, .null]) := (hk a (hpg.2.2.2 a (by simp)).1).2.trans vh
  have va : g67 ar = .inl (cR, 8, .inr (.inr (.inr (.inr F57)))) := (hk ar (hpg.2.2.2 ar (by simp)).1).2.trans va
  have hpg := hpg'
  refine gk_putF X w (hpg.2.2.2 a (by simp)).1 vh rfl in_H ty_H tyok_H nm_H 5 (by decide) lk_H_20 rfl hnm rfl (ty := (.object "HullSums$Row")) (by decide +kernel) rfl rfl (Nat.le_of_ble_eq_true rfl) d_H_init_62 (fun H locs w => ?_)
  obtain ⟨g70, hg70⟩ : ∃ q : Nat → va_E, q = va_up g67 a (.inr (0, [.ref ar, .int 0, .long 0, .long 0, .ref q59, .ref q65, .null, .null, .null, .null])) := ⟨_, rfl⟩
  have g70s : g70 a = .inr (0, [.ref ar, .int 0, .long 0, .long 0, .ref q59, .ref q65, .null, .null, .null, .null]) := by rw [hg70, va_up_self]
  have g70n : ∀ q, q ≠ a → g70 q = g67 q := fun q hq => by rw [hg70, va_up_ne _ _ hq]
  have w : gw D (gA L sz) s.heap H locs (L66) g70 := by rw [hg70]; exact w
  have va : g70 ar = .inl (cR, 8, .inr (.inr (.inr (.inr F57)))) := by rw [g70n ar (Ne.symm naa)]; exact va
  have vh : g70 a = .inr (0, [.ref ar, .int 0, .long 0, .long 0, .ref q59, .ref q65, .null, .null, .null, .null]) := g70s
  have hpg := pg_put (g := g70) hpg (b := a) (by simp) g70n
  refine lv_aload_n hx hb d_H_init_65 rfl (lv_at hl 1 rfl) ?_
  refine gk_new X w in_R ty_R tyok_R lk_H_9 ib_R id_R (ci := 1) rfl [.null, .null, .int 0] (by decide +kernel) (Nat.le_of_ble_eq_true rfl) (Nat.le_of_ble_eq_true rfl) d_H_init_66 (fun q71 H hq71 w => ?_)
  refine lv_dup hx hb d_H_init_69 rfl ?_
  refine g_cv w (g_runI (As := []) (rest := [.ref q71, .ref a]) X w (c_R_init l (L := (L66 ++ [q71])) (f := (va_up g70 q71 (.inr (1, [.null, .null, .int 0])))) (a := q71) (List.mem_append_right _ (List.mem_singleton.mpr rfl)) (va_up_self _ _ _)) k_R_init rfl im_R_init lk_H_15 ⟨(Nat.le_of_ble_eq_true rfl), (Nat.le_of_ble_eq_true rfl)⟩ rfl hl.1 rfl (Nat.le_of_ble_eq_true rfl) d_H_init_70 ⟨(Nat.le_of_ble_eq_true rfl), (Nat.le_of_ble_eq_true rfl)⟩) (fun u H locs hp w => ?_)
  obtain ⟨L72, g73, rx74, ry75, rfl, hpg', mqq71, hk, vqq71, ho⟩ := pg_row hpg hq71 hp
  have w : gw D (gA L sz) s.heap H locs L72 g73 := w
  have vh : g73 a = .inr (0, [.ref ar, .int 0, .long 0, .long 0, .ref q59, .ref q65, .null, .null, .null, .null]) := (hk a (hpg.2.2.2 a (by simp)).1).2.trans vh
  have va : g73 ar = .inl (cR, 8, .inr (.inr (.inr (.inr F57)))) := (hk ar (hpg.2.2.2 ar (by simp)).1).2.trans va
  have hpg := hpg'
  refine gk_putF X w (hpg.2.2.2 a (by simp)).1 vh rfl in_H ty_H tyok_H nm_H 6 (by decide) lk_H_23 rfl hnm rfl (ty := (.object "HullSums$Row")) (by decide +kernel) rfl rfl (Nat.le_of_ble_eq_true rfl) d_H_init_73 (fun H locs w => ?_)
  obtain ⟨g76, hg76⟩ : ∃ q : Nat → va_E, q = va_up g73 a (.inr (0, [.ref ar, .int 0, .long 0, .long 0, .ref q59, .ref q65, .ref q71, .null, .null, .null])) := ⟨_, rfl⟩
  have g76s : g76 a = .inr (0, [.ref ar, .int 0, .long 0, .long 0, .ref q59, .ref q65, .ref q71, .null, .null, .null]) := by rw [hg76, va_up_self]
  have g76n : ∀ q, q ≠ a → g76 q = g73 q := fun q hq => by rw [hg76, va_up_ne _ _ hq]
  have w : gw D (gA L sz) s.heap H locs (L72) g76 := by rw [hg76]; exact w
  have va : g76 ar = .inl (cR, 8, .inr (.inr (.inr (.inr F57)))) := by rw [g76n ar (Ne.symm naa)]; exact va
  have vh : g76 a = .inr (0, [.ref ar, .int 0, .long 0, .long 0, .ref q59, .ref q65, .ref q71, .null, .null, .null]) := g76s
  have hpg := pg_put (g := g76) hpg (b := a) (by simp) g76n
  refine lv_aload_n hx hb d_H_init_76 rfl (lv_at hl 1 rfl) ?_
  refine gk_new X w in_R ty_R tyok_R lk_H_9 ib_R id_R (ci := 1) rfl [.null, .null, .int 0] (by decide +kernel) (Nat.le_of_ble_eq_true rfl) (Nat.le_of_ble_eq_true rfl) d_H_init_77 (fun q77 H hq77 w => ?_)
  refine lv_dup hx hb d_H_init_80 rfl ?_
  refine g_cv w (g_runI (As := []) (rest := [.ref q77, .ref a]) X w (c_R_init l (L := (L72 ++ [q77])) (f := (va_up g76 q77 (.inr (1, [.null, .null, .int 0])))) (a := q77) (List.mem_append_right _ (List.mem_singleton.mpr rfl)) (va_up_self _ _ _)) k_R_init rfl im_R_init lk_H_15 ⟨(Nat.le_of_ble_eq_true rfl), (Nat.le_of_ble_eq_true rfl)⟩ rfl hl.1 rfl (Nat.le_of_ble_eq_true rfl) d_H_init_81 ⟨(Nat.le_of_ble_eq_true rfl), (Nat.le_of_ble_eq_true rfl)⟩) (fun u H locs hp w => ?_)
  obtain ⟨L78, g79, rx80, ry81, rfl, hpg', mqq77, hk, vqq77, ho⟩ := pg_row hpg hq77 hp
  have w : gw D (gA L sz) s.heap H locs L78 g79 := w
  have vh : g79 a = .inr (0, [.ref ar, .int 0, .long 0, .long 0, .ref q59, .ref q65, .ref q71, .null, .null, .null]) := (hk a (hpg.2.2.2 a (by simp)).1).2.trans vh
  have va : g79 ar = .inl (cR, 8, .inr (.inr (.inr (.inr F57)))) := (hk ar (hpg.2.2.2 ar (by simp)).1).2.trans va
  have hpg := hpg'
  refine gk_putF X w (hpg.2.2.2 a (by simp)).1 vh rfl in_H ty_H tyok_H nm_H 7 (by decide) lk_H_26 rfl hnm rfl (ty := (.object "HullSums$Row")) (by decide +kernel) rfl rfl (Nat.le_of_ble_eq_true rfl) d_H_init_84 (fun H locs w => ?_)
  obtain ⟨g82, hg82⟩ : ∃ q : Nat → va_E, q = va_up g79 a (.inr (0, [.ref ar, .int 0, .long 0, .long 0, .ref q59, .ref q65, .ref q71, .ref q77, .null, .null])) := ⟨_, rfl⟩
  have g82s : g82 a = .inr (0, [.ref ar, .int 0, .long 0, .long 0, .ref q59, .ref q65, .ref q71, .ref q77, .null, .null]) := by rw [hg82, va_up_self]
  have g82n : ∀ q, q ≠ a → g82 q = g79 q := fun q hq => by rw [hg82, va_up_ne _ _ hq]
  have w : gw D (gA L sz) s.heap H locs (L78) g82 := by rw [hg82]; exact w
  have va : g82 ar = .inl (cR, 8, .inr (.inr (.inr (.inr F57)))) := by rw [g82n ar (Ne.symm naa)]; exact va
  have vh : g82 a = .inr (0, [.ref ar, .int 0, .long 0, .long 0, .ref q59, .ref q65, .ref q71, .ref q77, .null, .null]) := g82s
  have hpg := pg_put (g := g82) hpg (b := a) (by simp) g82n
  refine lv_aload_n hx hb d_H_init_87 rfl (lv_at hl 1 rfl) ?_
  refine gk_new X w in_C ty_C tyok_C lk_H_29 ib_C id_C (ci := 2) rfl [.long 0, .long 0, .long 0, .long 0, .long 0] (by decide +kernel) (Nat.le_of_ble_eq_true rfl) (Nat.le_of_ble_eq_true rfl) d_H_init_88 (fun q83 H hq83 w => ?_)
  refine lv_dup hx hb d_H_init_91 rfl ?_
  refine g_cv w (g_runI (As := []) (rest := [.ref q83, .ref a]) X w (c_C_init l (L := (L78 ++ [q83])) (f := (va_up g82 q83 (.inr (2, [.long 0, .long 0, .long 0, .long 0, .long 0])))) (a := q83) (List.mem_append_right _ (List.mem_singleton.mpr rfl)) (va_up_self _ _ _)) k_C_init rfl im_C_init lk_H_31 ⟨(Nat.le_of_ble_eq_true rfl), (Nat.le_of_ble_eq_true rfl)⟩ rfl hl.1 rfl (Nat.le_of_ble_eq_true rfl) d_H_init_92 ⟨(Nat.le_of_ble_eq_true rfl), (Nat.le_of_ble_eq_true rfl)⟩) (fun u H locs hp w => ?_)
  obtain ⟨g84, rfl, vci, hk⟩ := hp
  obtain ⟨ci, eci⟩ : ∃ q, q = q83 := ⟨_, rfl⟩
  have hkf : ∀ p, p ≠ q83 → g84 p = g82 p := fun p hp9 => (hk p hp9).trans (va_up_ne _ _ hp9)
  have hpg' := pg_new (g := g84) hpg hq83 hkf
  have narq83 : ar ≠ q83 := fun e9 => hq83 (e9 ▸ (hpg.2.2.2 ar (by simp)).1)
  have naq83 : a ≠ q83 := fun e9 => hq83 (e9 ▸ (hpg.2.2.2 a (by simp)).1)
  have vh : g84 a = .inr (0, [.ref ar, .int 0, .long 0, .long 0, .ref q59, .ref q65, .ref q71, .ref q77, .null, .null]) := (hkf a naq83).trans vh
  have va : g84 ar = .inl (cR, 8, .inr (.inr (.inr (.inr F57)))) := (hkf ar narq83).trans va
  obtain ⟨L85, hL85⟩ : ∃ z, z = (L78 ++ [q83]) := ⟨_, rfl⟩
  have w : gw D (gA L sz) s.heap H locs L85 g84 := by rw [hL85]; exact w
  rw [← hL85] at hpg'
  have hpg := hpg'
  refine gk_putF X w (hpg.2.2.2 a (by simp)).1 vh rfl in_H ty_H tyok_H nm_H 8 (by decide) lk_H_32 rfl hnm rfl (ty := (.object "HullSums$Circle")) (by decide +kernel) rfl rfl (Nat.le_of_ble_eq_true rfl) d_H_init_95 (fun H locs w => ?_)
  obtain ⟨g86, hg86⟩ : ∃ q : Nat → va_E, q = va_up g84 a (.inr (0, [.ref ar, .int 0, .long 0, .long 0, .ref q59, .ref q65, .ref q71, .ref q77, .ref q83, .null])) := ⟨_, rfl⟩
  have g86s : g86 a = .inr (0, [.ref ar, .int 0, .long 0, .long 0, .ref q59, .ref q65, .ref q71, .ref q77, .ref q83, .null]) := by rw [hg86, va_up_self]
  have g86n : ∀ q, q ≠ a → g86 q = g84 q := fun q hq => by rw [hg86, va_up_ne _ _ hq]
  have w : gw D (gA L sz) s.heap H locs (L85) g86 := by rw [hg86]; exact w
  have va : g86 ar = .inl (cR, 8, .inr (.inr (.inr (.inr F57)))) := by rw [g86n ar (Ne.symm naa)]; exact va
  have vh : g86 a = .inr (0, [.ref ar, .int 0, .long 0, .long 0, .ref q59, .ref q65, .ref q71, .ref q77, .ref q83, .null]) := g86s
  have hpg := pg_put (g := g86) hpg (b := a) (by simp) g86n
  have vci := (g86n q83 (Ne.symm naq83)).trans vci
  refine lv_aload_n hx hb d_H_init_98 rfl (lv_at hl 1 rfl) ?_
  refine gk_new X w in_L ty_L tyok_L lk_H_36 ib_L id_L (ci := 3) rfl [.long 0, .long 0, .int 0] (by decide +kernel) (Nat.le_of_ble_eq_true rfl) (Nat.le_of_ble_eq_true rfl) d_H_init_99 (fun q87 H hq87 w => ?_)
  refine lv_dup hx hb d_H_init_102 rfl ?_
  refine g_cv w (g_runI (As := []) (rest := [.ref q87, .ref a]) X w (c_L_init l (L := (L85 ++ [q87])) (f := (va_up g86 q87 (.inr (3, [.long 0, .long 0, .int 0])))) (a := q87) (List.mem_append_right _ (List.mem_singleton.mpr rfl)) (va_up_self _ _ _)) k_L_init rfl im_L_init lk_H_38 ⟨(Nat.le_of_ble_eq_true rfl), (Nat.le_of_ble_eq_true rfl)⟩ rfl hl.1 rfl (Nat.le_of_ble_eq_true rfl) d_H_init_103 ⟨(Nat.le_of_ble_eq_true rfl), (Nat.le_of_ble_eq_true rfl)⟩) (fun u H locs hp w => ?_)
  obtain ⟨g88, rfl, vlo, hk⟩ := hp
  obtain ⟨lo, elo⟩ : ∃ q, q = q87 := ⟨_, rfl⟩
  have hkf : ∀ p, p ≠ q87 → g88 p = g86 p := fun p hp9 => (hk p hp9).trans (va_up_ne _ _ hp9)
  have hpg' := pg_new (g := g88) hpg hq87 hkf
  have nq83q87 : q83 ≠ q87 := fun e9 => hq87 (e9 ▸ (hpg.2.2.2 q83 (by simp)).1)
  have narq87 : ar ≠ q87 := fun e9 => hq87 (e9 ▸ (hpg.2.2.2 ar (by simp)).1)
  have naq87 : a ≠ q87 := fun e9 => hq87 (e9 ▸ (hpg.2.2.2 a (by simp)).1)
  have vh : g88 a = .inr (0, [.ref ar, .int 0, .long 0, .long 0, .ref q59, .ref q65, .ref q71, .ref q77, .ref q83, .null]) := (hkf a naq87).trans vh
  have va : g88 ar = .inl (cR, 8, .inr (.inr (.inr (.inr F57)))) := (hkf ar narq87).trans va
  have vci := (hkf q83 nq83q87).trans vci
  obtain ⟨L89, hL89⟩ : ∃ z, z = (L85 ++ [q87]) := ⟨_, rfl⟩
  have w : gw D (gA L sz) s.heap H locs L89 g88 := by rw [hL89]; exact w
  rw [← hL89] at hpg'
  have hpg := hpg'
  refine gk_putF X w (hpg.2.2.2 a (by simp)).1 vh rfl in_H ty_H tyok_H nm_H 9 (by decide) lk_H_39 rfl hnm rfl (ty := (.object "HullSums$Lowest")) (by decide +kernel) rfl rfl (Nat.le_of_ble_eq_true rfl) d_H_init_106 (fun H locs w => ?_)
  obtain ⟨g90, hg90⟩ : ∃ q : Nat → va_E, q = va_up g88 a (.inr (0, [.ref ar, .int 0, .long 0, .long 0, .ref q59, .ref q65, .ref q71, .ref q77, .ref q83, .ref q87])) := ⟨_, rfl⟩
  have g90s : g90 a = .inr (0, [.ref ar, .int 0, .long 0, .long 0, .ref q59, .ref q65, .ref q71, .ref q77, .ref q83, .ref q87]) := by rw [hg90, va_up_self]
  have g90n : ∀ q, q ≠ a → g90 q = g88 q := fun q hq => by rw [hg90, va_up_ne _ _ hq]
  have w : gw D (gA L sz) s.heap H locs (L89) g90 := by rw [hg90]; exact w
  have va : g90 ar = .inl (cR, 8, .inr (.inr (.inr (.inr F57)))) := by rw [g90n ar (Ne.symm naa)]; exact va
  have vh : g90 a = .inr (0, [.ref ar, .int 0, .long 0, .long 0, .ref q59, .ref q65, .ref q71, .ref q77, .ref q83, .ref q87]) := g90s
  have hpg := pg_put (g := g90) hpg (b := a) (by simp) g90n
  have vlo := (g90n q87 (Ne.symm naq87)).trans vlo
  have vci := (g90n q83 (Ne.symm naq83)).trans vci
  refine lv_aload_n hx hb d_H_init_109 rfl (lv_at hl 1 rfl) ?_
  refine lv_iconst (v := iN (0)) hx hb d_H_init_110 (by decide) ?_
  refine gk_put X w (hpg.2.2.2 a (by simp)).1 vh rfl in_H ty_H tyok_H nm_H 1 (by decide) lk_H_43 rfl (ty := .int) (by decide +kernel) rfl rfl (Nat.le_of_ble_eq_true rfl) d_H_init_111 (fun H locs w => ?_)
  obtain ⟨g91, hg91⟩ : ∃ q : Nat → va_E, q = va_up g90 a (.inr (0, [.ref ar, .int (iN (0)), .long 0, .long 0, .ref q59, .ref q65, .ref q71, .ref q77, .ref q83, .ref q87])) := ⟨_, rfl⟩
  have g91s : g91 a = .inr (0, [.ref ar, .int (iN (0)), .long 0, .long 0, .ref q59, .ref q65, .ref q71, .ref q77, .ref q83, .ref q87]) := by rw [hg91, va_up_self]
  have g91n : ∀ q, q ≠ a → g91 q = g90 q := fun q hq => by rw [hg91, va_up_ne _ _ hq]
  have w : gw D (gA L sz) s.heap H locs (L89) g91 := by rw [hg91]; exact w
  have va : g91 ar = .inl (cR, 8, .inr (.inr (.inr (.inr F57)))) := by rw [g91n ar (Ne.symm naa)]; exact va
  have vh : g91 a = .inr (0, [.ref ar, .int (iN (0)), .long 0, .long 0, .ref q59, .ref q65, .ref q71, .ref q77, .ref q83, .ref q87]) := g91s
  have hpg := pg_put (g := g91) hpg (b := a) (by simp) g91n
  have vlo := (g91n q87 (Ne.symm naq87)).trans vlo
  have vci := (g91n q83 (Ne.symm naq83)).trans vci
  refine lv_aload_n hx hb d_H_init_114 rfl (lv_at hl 1 rfl) ?_
  refine lv_lconst (v := jN (0)) hx hb d_H_init_115 (by decide) ?_
  refine gk_put X w (hpg.2.2.2 a (by simp)).1 vh rfl in_H ty_H tyok_H nm_H 2 (by decide) lk_H_47 rfl (ty := .long) (by decide +kernel) rfl rfl (Nat.le_of_ble_eq_true rfl) d_H_init_116 (fun H locs w => ?_)
  obtain ⟨g92, hg92⟩ : ∃ q : Nat → va_E, q = va_up g91 a (.inr (0, [.ref ar, .int (iN (0)), .long (jN (0)), .long 0, .ref q59, .ref q65, .ref q71, .ref q77, .ref q83, .ref q87])) := ⟨_, rfl⟩
  have g92s : g92 a = .inr (0, [.ref ar, .int (iN (0)), .long (jN (0)), .long 0, .ref q59, .ref q65, .ref q71, .ref q77, .ref q83, .ref q87]) := by rw [hg92, va_up_self]
  have g92n : ∀ q, q ≠ a → g92 q = g91 q := fun q hq => by rw [hg92, va_up_ne _ _ hq]
  have w : gw D (gA L sz) s.heap H locs (L89) g92 := by rw [hg92]; exact w
  have va : g92 ar = .inl (cR, 8, .inr (.inr (.inr (.inr F57)))) := by rw [g92n ar (Ne.symm naa)]; exact va
  have vh : g92 a = .inr (0, [.ref ar, .int (iN (0)), .long (jN (0)), .long 0, .ref q59, .ref q65, .ref q71, .ref q77, .ref q83, .ref q87]) := g92s
  have hpg := pg_put (g := g92) hpg (b := a) (by simp) g92n
  have vlo := (g92n q87 (Ne.symm naq87)).trans vlo
  have vci := (g92n q83 (Ne.symm naq83)).trans vci
  refine lv_aload_n hx hb d_H_init_119 rfl (lv_at hl 1 rfl) ?_
  refine lv_lconst (v := jN (1)) hx hb d_H_init_120 (by decide) ?_
  refine gk_put X w (hpg.2.2.2 a (by simp)).1 vh rfl in_H ty_H tyok_H nm_H 3 (by decide) lk_H_51 rfl (ty := .long) (by decide +kernel) rfl rfl (Nat.le_of_ble_eq_true rfl) d_H_init_121 (fun H locs w => ?_)
  obtain ⟨g93, hg93⟩ : ∃ q : Nat → va_E, q = va_up g92 a (.inr (0, [.ref ar, .int (iN (0)), .long (jN (0)), .long (jN (1)), .ref q59, .ref q65, .ref q71, .ref q77, .ref q83, .ref q87])) := ⟨_, rfl⟩
  have g93s : g93 a = .inr (0, [.ref ar, .int (iN (0)), .long (jN (0)), .long (jN (1)), .ref q59, .ref q65, .ref q71, .ref q77, .ref q83, .ref q87]) := by rw [hg93, va_up_self]
  have g93n : ∀ q, q ≠ a → g93 q = g92 q := fun q hq => by rw [hg93, va_up_ne _ _ hq]
  have w : gw D (gA L sz) s.heap H locs (L89) g93 := by rw [hg93]; exact w
  have va : g93 ar = .inl (cR, 8, .inr (.inr (.inr (.inr F57)))) := by rw [g93n ar (Ne.symm naa)]; exact va
  have vh : g93 a = .inr (0, [.ref ar, .int (iN (0)), .long (jN (0)), .long (jN (1)), .ref q59, .ref q65, .ref q71, .ref q77, .ref q83, .ref q87]) := g93s
  have hpg := pg_put (g := g93) hpg (b := a) (by simp) g93n
  have vlo := (g93n q87 (Ne.symm naq87)).trans vlo
  have vci := (g93n q83 (Ne.symm naq83)).trans vci
  obtain ⟨ra, hra⟩ : ∃ z : Nat → Nat, z = (va_up (va_up (va_up (va_up (va_up (va_up (va_up (va_up (va_up (va_up (va_up (va_up id 0 q3) 1 q10) 2 q17) 3 q24) 4 q31) 5 q38) 6 q45) 7 q52) 8 q59) 9 q65) 10 q71) 11 q77) := ⟨_, rfl⟩
  rw [← hra] at hpg
  have hgeo : geo L89 rx80 ry81 ra a ar q83 q87 := ⟨⟨(hpg.2.2.2 a (by simp)).1, (hpg.2.2.2 ar (by simp)).1, (hpg.2.2.2 q83 (by simp)).1, (hpg.2.2.2 q87 (by simp)).1⟩, ⟨naa, naq83, naq87, narq83, narq87, nq83q87⟩, hpg.1, hpg.2.1, fun i hi => ⟨(hpg.2.2.2 a (by simp)).2 i hi, (hpg.2.2.2 ar (by simp)).2 i hi, (hpg.2.2.2 q83 (by simp)).2 i hi, (hpg.2.2.2 q87 (by simp)).2 i hi⟩⟩
  have hF8 : ∀ i, i < 8 → F57 i = some (ra i) := by
    intro i hi
    rw [hra, hF57, hF50, hF43, hF36, hF29, hF22, hF15, hF8]
    have hi8 : i = 0 ∨ i = 1 ∨ i = 2 ∨ i = 3 ∨ i = 4 ∨ i = 5 ∨ i = 6 ∨ i = 7 := by omega
    rcases hi8 with rfl | rfl | rfl | rfl | rfl | rfl | rfl | rfl <;> rfl
  have hcls : clsIs cI cR rx80 ry81 ra a ar q83 q87 g93 0 0 1 (fun _ => []) := ⟨by rw [vh, hra]; rfl, ⟨F57, va, hF8⟩, hpg.2.2.1, ⟨_, vci⟩, ⟨0, 1, 0, Or.inl rfl, vlo⟩, by decide, by decide⟩
  exact g_vret X w hrt hlk d_H_init_124 ⟨L89, g93, rx80, ry81, ra, ar, q83, q87, rfl, hgeo, hcls⟩
