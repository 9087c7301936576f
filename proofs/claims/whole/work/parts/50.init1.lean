/-! CONSTRUCTORS -/
theorem oi_im : Cond.instanceMethod Lib.objectInit ∈ lw_g := tw_1 13 rfl
theorem oi_cd : Cond.code Lib.objectInit ⟨#[0xb1]⟩ 1 none ∈ lw_g := tw_1 14 rfl
section GO
variable {p : Program} {l : Launch} {e : Env} {R : Room} {s : State} {m : MethodId} {args : Array Value} {below : List Frame} {meth : Method} {c : Code} {H : Heap} {locs : List Loc} {cells slots : Nat} {Q : State → Prop}
variable {cc : ByteArray} {pc nL : Nat} {ls : Array Slot} {rest : List Value} {D : va_G} {a : Nat} {cI cR : ClassId} {own : String}
theorem g_obj {index : Nat} (X : gx p m c cc nL s args own D cI cR) (hsize : ls.size = nL) (hlk : Cond.methodLink own index Lib.objectInit ∈ lw_g) (hF : 1 ≤ R.frames) (hroom : 8 + (rest.map fun v => v.category).sum + 12 ≤ R.locals) (hdg : decode cc pc = .ok (.invokespecial index, 3)) (kk : W p l e R s m args below meth c H locs cells slots Q (F0 m (pc + 3) ls rest)) : W p l e R s m args below meth c H locs cells slots Q (F0 m pc ls (.ref a :: rest)) := by
  have hts := X.1.2.2.2.2
  refine W.objInit X.1.1 X.1.2.1 X.1.2.2.2.1 (hts _ hlk) (hts _ oi_im) (hts _ oi_cd) rfl (hsize.trans X.1.2.2.1.symm) rfl hdg hF ?_ kk
  exact Nat.le_trans (by show 2 * _ + _ + 12 ≤ _; simp [F0]) hroom
end GO
def nrr (cI : ClassId) (L : List Nat) (f : Nat → va_E) (a : Nat) (u : List Nat × (Nat → va_E)) : Prop := ∃ (x y : Nat) (g : Nat → va_E), u = (L ++ [x] ++ [y], g) ∧ x ∉ L ∧ y ∉ L ∧ x ≠ y ∧ g a = .inr (1, [.ref x, .ref y, .int (iN 0)]) ∧ g x = .inl (cI, 48, .inl (fun _ => 0)) ∧ g y = .inl (cI, 48, .inl (fun _ => 0)) ∧ ∀ q, q ≠ a → q ≠ x → q ≠ y → g q = f q

set_option maxHeartbeats 4000000 in
set_option maxRecDepth 100000 in
theorem c_R_init (l : Launch) {D : va_G} {cI cR : ClassId} {L : List Nat} {f : Nat → va_E} {a : Nat} (ha : a ∈ L) (hfa : f a = .inr (1, [.null, .null, .int 0])) : gMv D cI cR l y_R_init (Cond.code y_R_init b_R_init 1 none :: lw_g) { frames := 1, cells := 2, slots := 96, locals := 20 } [.ref a] L f (nrr cI L f a) := by
  intro sz
  refine g_enter (by decide) rfl (Nat.le_of_ble_eq_true rfl) ?_
  intro p e s m below meth cd ls X hrt hlk hnm hl hsz w
  have X : gx p m cd b_R_init 1 s _ "HullSums$Row" D cI cR := X
  have hx := X.1.1
  have hb := X.1.2.1
  have hl : lv_has ls 1 [(0, .ref a)] := hl
  refine lv_aload_n hx hb d_R_init_0 rfl (lv_at hl 0 rfl) ?_
  refine g_obj X hl.1 lk_R_3 (Nat.le_of_ble_eq_true rfl) (Nat.le_of_ble_eq_true rfl) d_R_init_1 ?_
  refine lv_aload_n hx hb d_R_init_4 rfl (lv_at hl 0 rfl) ?_
  refine lv_bipush (v := iN (48)) hx hb d_R_init_5 (by decide) ?_
  refine gk_newi X w 0 rfl ar_int (n := iN (48)) 48 (by decide) (by decide) (by decide) (Nat.le_of_ble_eq_true rfl) (Nat.le_of_ble_eq_true rfl) d_R_init_7 (fun q1 H hq1 w => ?_)
  have naq1 : a ≠ q1 := fun e9 => hq1 (e9 ▸ ha)
  have maq1 : a ∈ L ++ [q1] := List.mem_append_left _ ha
  have mq1 : q1 ∈ L ++ [q1] := List.mem_append_right _ (List.mem_singleton.mpr rfl)
  obtain ⟨g2, hg2⟩ : ∃ q : Nat → va_E, q = va_up f q1 (.inl (cI, 48, .inl (fun _ => 0))) := ⟨_, rfl⟩
  have g2s : g2 q1 = .inl (cI, 48, .inl (fun _ => 0)) := by rw [hg2, va_up_self]
  have g2n : ∀ q, q ≠ q1 → g2 q = f q := fun q hq => by rw [hg2, va_up_ne _ _ hq]
  have w : gw D (gA L sz) s.heap H [] (L ++ [q1]) g2 := by rw [hg2]; exact w
  refine gk_putF X w maq1 (show g2 a = .inr (1, [.null, .null, .int 0]) from ((g2n a naq1).trans (hfa))) rfl in_R ty_R tyok_R nm_R 0 (by decide) lk_R_9 rfl hnm rfl (ty := (.array .int)) (by decide +kernel) rfl rfl (Nat.le_of_ble_eq_true rfl) d_R_init_9 (fun H locs w => ?_)
  obtain ⟨g3, hg3⟩ : ∃ q : Nat → va_E, q = va_up g2 a (.inr (1, [.ref q1, .null, .int 0])) := ⟨_, rfl⟩
  have g3s : g3 a = .inr (1, [.ref q1, .null, .int 0]) := by rw [hg3, va_up_self]
  have g3n : ∀ q, q ≠ a → g3 q = g2 q := fun q hq => by rw [hg3, va_up_ne _ _ hq]
  have w : gw D (gA L sz) s.heap H locs (L ++ [q1]) g3 := by rw [hg3]; exact w
  refine lv_aload_n hx hb d_R_init_12 rfl (lv_at hl 0 rfl) ?_
  refine lv_bipush (v := iN (48)) hx hb d_R_init_13 (by decide) ?_
  refine gk_newi X w 0 rfl ar_int (n := iN (48)) 48 (by decide) (by decide) (by decide) (Nat.le_of_ble_eq_true rfl) (Nat.le_of_ble_eq_true rfl) d_R_init_15 (fun q4 H hq4 w => ?_)
  have naq4 : a ≠ q4 := fun e9 => hq4 (e9 ▸ maq1)
  have maq4 : a ∈ L ++ [q1] ++ [q4] := List.mem_append_left _ maq1
  have nq1q4 : q1 ≠ q4 := fun e9 => hq4 (e9 ▸ mq1)
  have mq1q4 : q1 ∈ L ++ [q1] ++ [q4] := List.mem_append_left _ mq1
  have mq4 : q4 ∈ L ++ [q1] ++ [q4] := List.mem_append_right _ (List.mem_singleton.mpr rfl)
  obtain ⟨g5, hg5⟩ : ∃ q : Nat → va_E, q = va_up g3 q4 (.inl (cI, 48, .inl (fun _ => 0))) := ⟨_, rfl⟩
  have g5s : g5 q4 = .inl (cI, 48, .inl (fun _ => 0)) := by rw [hg5, va_up_self]
  have g5n : ∀ q, q ≠ q4 → g5 q = g3 q := fun q hq => by rw [hg5, va_up_ne _ _ hq]
  have w : gw D (gA L sz) s.heap H locs (L ++ [q1] ++ [q4]) g5 := by rw [hg5]; exact w
  refine gk_putF X w maq4 (show g5 a = .inr (1, [.ref q1, .null, .int 0]) from ((g5n a naq4).trans (g3s))) rfl in_R ty_R tyok_R nm_R 1 (by decide) lk_R_15 rfl hnm rfl (ty := (.array .int)) (by decide +kernel) rfl rfl (Nat.le_of_ble_eq_true rfl) d_R_init_17 (fun H locs w => ?_)
  obtain ⟨g6, hg6⟩ : ∃ q : Nat → va_E, q = va_up g5 a (.inr (1, [.ref q1, .ref q4, .int 0])) := ⟨_, rfl⟩
  have g6s : g6 a = .inr (1, [.ref q1, .ref q4, .int 0]) := by rw [hg6, va_up_self]
  have g6n : ∀ q, q ≠ a → g6 q = g5 q := fun q hq => by rw [hg6, va_up_ne _ _ hq]
  have w : gw D (gA L sz) s.heap H locs (L ++ [q1] ++ [q4]) g6 := by rw [hg6]; exact w
  refine lv_aload_n hx hb d_R_init_20 rfl (lv_at hl 0 rfl) ?_
  refine lv_iconst (v := iN (0)) hx hb d_R_init_21 (by decide) ?_
  refine gk_put X w maq4 (show g6 a = .inr (1, [.ref q1, .ref q4, .int 0]) from (g6s)) rfl in_R ty_R tyok_R nm_R 2 (by decide) lk_R_18 rfl (ty := .int) (by decide +kernel) rfl rfl (Nat.le_of_ble_eq_true rfl) d_R_init_22 (fun H locs w => ?_)
  obtain ⟨g7, hg7⟩ : ∃ q : Nat → va_E, q = va_up g6 a (.inr (1, [.ref q1, .ref q4, .int (iN (0))])) := ⟨_, rfl⟩
  have g7s : g7 a = .inr (1, [.ref q1, .ref q4, .int (iN (0))]) := by rw [hg7, va_up_self]
  have g7n : ∀ q, q ≠ a → g7 q = g6 q := fun q hq => by rw [hg7, va_up_ne _ _ hq]
  have w : gw D (gA L sz) s.heap H locs (L ++ [q1] ++ [q4]) g7 := by rw [hg7]; exact w
  exact g_vret X w hrt hlk d_R_init_25 ⟨q1, q4, g7, rfl, hq1, fun e9 => hq4 (List.mem_append_left _ e9), nq1q4, (g7s), (((((g7n q1 (Ne.symm naq1)).trans (g6n q1 (Ne.symm naq1))).trans (g5n q1 nq1q4)).trans (g3n q1 (Ne.symm naq1))).trans (g2s)), (((g7n q4 (Ne.symm naq4)).trans (g6n q4 (Ne.symm naq4))).trans (g5s)), fun q ha hq1 hq4 => (((((g7n q ha).trans (g6n q ha)).trans (g5n q hq4)).trans (g3n q ha)).trans (g2n q hq1))⟩
set_option maxHeartbeats 4000000 in
set_option maxRecDepth 100000 in
theorem c_C_init (l : Launch) {D : va_G} {cI cR : ClassId} {L : List Nat} {f : Nat → va_E} {a : Nat} (ha : a ∈ L) (hfa : f a = .inr (2, [.long 0, .long 0, .long 0, .long 0, .long 0])) : gMv D cI cR l y_C_init (Cond.code y_C_init b_C_init 1 none :: lw_g) { frames := 1, cells := 0, slots := 0, locals := 20 } [.ref a] L f (fun u => ∃ g, u = (L, g) ∧ g a = c5 (0, 0, 0, 0, 1) ∧ ∀ q, q ≠ a → g q = f q) := by
  intro sz
  refine g_enter (by decide) rfl (Nat.le_of_ble_eq_true rfl) ?_
  intro p e s m below meth cd ls X hrt hlk hnm hl hsz w
  have X : gx p m cd b_C_init 1 s _ "HullSums$Circle" D cI cR := X
  have hx := X.1.1
  have hb := X.1.2.1
  have hl : lv_has ls 1 [(0, .ref a)] := hl
  refine lv_aload_n hx hb d_C_init_0 rfl (lv_at hl 0 rfl) ?_
  refine g_obj X hl.1 lk_C_1 (Nat.le_of_ble_eq_true rfl) (Nat.le_of_ble_eq_true rfl) d_C_init_1 ?_
  refine lv_aload_n hx hb d_C_init_4 rfl (lv_at hl 0 rfl) ?_
  refine lv_lconst (v := jN (0)) hx hb d_C_init_5 (by decide) ?_
  refine gk_put X w ha (show f a = .inr (2, [.long 0, .long 0, .long 0, .long 0, .long 0]) from (hfa)) rfl in_C ty_C tyok_C nm_C 0 (by decide) lk_C_7 rfl (ty := .long) (by decide +kernel) rfl rfl (Nat.le_of_ble_eq_true rfl) d_C_init_6 (fun H locs w => ?_)
  obtain ⟨g1, hg1⟩ : ∃ q : Nat → va_E, q = va_up f a (.inr (2, [.long (jN (0)), .long 0, .long 0, .long 0, .long 0])) := ⟨_, rfl⟩
  have g1s : g1 a = .inr (2, [.long (jN (0)), .long 0, .long 0, .long 0, .long 0]) := by rw [hg1, va_up_self]
  have g1n : ∀ q, q ≠ a → g1 q = f q := fun q hq => by rw [hg1, va_up_ne _ _ hq]
  have w : gw D (gA L sz) s.heap H locs (L) g1 := by rw [hg1]; exact w
  refine lv_aload_n hx hb d_C_init_9 rfl (lv_at hl 0 rfl) ?_
  refine lv_lconst (v := jN (0)) hx hb d_C_init_10 (by decide) ?_
  refine gk_put X w ha (show g1 a = .inr (2, [.long (jN (0)), .long 0, .long 0, .long 0, .long 0]) from (g1s)) rfl in_C ty_C tyok_C nm_C 1 (by decide) lk_C_13 rfl (ty := .long) (by decide +kernel) rfl rfl (Nat.le_of_ble_eq_true rfl) d_C_init_11 (fun H locs w => ?_)
  obtain ⟨g2, hg2⟩ : ∃ q : Nat → va_E, q = va_up g1 a (.inr (2, [.long (jN (0)), .long (jN (0)), .long 0, .long 0, .long 0])) := ⟨_, rfl⟩
  have g2s : g2 a = .inr (2, [.long (jN (0)), .long (jN (0)), .long 0, .long 0, .long 0]) := by rw [hg2, va_up_self]
  have g2n : ∀ q, q ≠ a → g2 q = g1 q := fun q hq => by rw [hg2, va_up_ne _ _ hq]
  have w : gw D (gA L sz) s.heap H locs (L) g2 := by rw [hg2]; exact w
  refine lv_aload_n hx hb d_C_init_14 rfl (lv_at hl 0 rfl) ?_
  refine lv_lconst (v := jN (0)) hx hb d_C_init_15 (by decide) ?_
  refine gk_put X w ha (show g2 a = .inr (2, [.long (jN (0)), .long (jN (0)), .long 0, .long 0, .long 0]) from (g2s)) rfl in_C ty_C tyok_C nm_C 2 (by decide) lk_C_16 rfl (ty := .long) (by decide +kernel) rfl rfl (Nat.le_of_ble_eq_true rfl) d_C_init_16 (fun H locs w => ?_)
  obtain ⟨g3, hg3⟩ : ∃ q : Nat → va_E, q = va_up g2 a (.inr (2, [.long (jN (0)), .long (jN (0)), .long (jN (0)), .long 0, .long 0])) := ⟨_, rfl⟩
  have g3s : g3 a = .inr (2, [.long (jN (0)), .long (jN (0)), .long (jN (0)), .long 0, .long 0]) := by rw [hg3, va_up_self]
  have g3n : ∀ q, q ≠ a → g3 q = g2 q := fun q hq => by rw [hg3, va_up_ne _ _ hq]
  have w : gw D (gA L sz) s.heap H locs (L) g3 := by rw [hg3]; exact w
  refine lv_aload_n hx hb d_C_init_19 rfl (lv_at hl 0 rfl) ?_
  refine lv_lconst (v := jN (0)) hx hb d_C_init_20 (by decide) ?_
  refine gk_put X w ha (show g3 a = .inr (2, [.long (jN (0)), .long (jN (0)), .long (jN (0)), .long 0, .long 0]) from (g3s)) rfl in_C ty_C tyok_C nm_C 3 (by decide) lk_C_19 rfl (ty := .long) (by decide +kernel) rfl rfl (Nat.le_of_ble_eq_true rfl) d_C_init_21 (fun H locs w => ?_)
  obtain ⟨g4, hg4⟩ : ∃ q : Nat → va_E, q = va_up g3 a (.inr (2, [.long (jN (0)), .long (jN (0)), .long (jN (0)), .long (jN (0)), .long 0])) := ⟨_, rfl⟩
  have g4s : g4 a = .inr (2, [.long (jN (0)), .long (jN (0)), .long (jN (0)), .long (jN (0)), .long 0]) := by rw [hg4, va_up_self]
  have g4n : ∀ q, q ≠ a → g4 q = g3 q := fun q hq => by rw [hg4, va_up_ne _ _ hq]
  have w : gw D (gA L sz) s.heap H locs (L) g4 := by rw [hg4]; exact w
  refine lv_aload_n hx hb d_C_init_24 rfl (lv_at hl 0 rfl) ?_
  refine lv_lconst (v := jN (1)) hx hb d_C_init_25 (by decide) ?_
  refine gk_put X w ha (show g4 a = .inr (2, [.long (jN (0)), .long (jN (0)), .long (jN (0)), .long (jN (0)), .long 0]) from (g4s)) rfl in_C ty_C tyok_C nm_C 4 (by decide) lk_C_22 rfl (ty := .long) (by decide +kernel) rfl rfl (Nat.le_of_ble_eq_true rfl) d_C_init_26 (fun H locs w => ?_)
  obtain ⟨g5, hg5⟩ : ∃ q : Nat → va_E, q = va_up g4 a (.inr (2, [.long (jN (0)), .long (jN (0)), .long (jN (0)), .long (jN (0)), .long (jN (1))])) := ⟨_, rfl⟩
  have g5s : g5 a = .inr (2, [.long (jN (0)), .long (jN (0)), .long (jN (0)), .long (jN (0)), .long (jN (1))]) := by rw [hg5, va_up_self]
  have g5n : ∀ q, q ≠ a → g5 q = g4 q := fun q hq => by rw [hg5, va_up_ne _ _ hq]
  have w : gw D (gA L sz) s.heap H locs (L) g5 := by rw [hg5]; exact w
  exact g_vret X w hrt hlk d_C_init_29 ⟨g5, rfl, (g5s), fun q ha => (((((g5n q ha).trans (g4n q ha)).trans (g3n q ha)).trans (g2n q ha)).trans (g1n q ha))⟩
set_option maxHeartbeats 4000000 in
set_option maxRecDepth 100000 in
theorem c_L_init (l : Launch) {D : va_G} {cI cR : ClassId} {L : List Nat} {f : Nat → va_E} {a : Nat} (ha : a ∈ L) (hfa : f a = .inr (3, [.long 0, .long 0, .int 0])) : gMv D cI cR l y_L_init (Cond.code y_L_init b_L_init 1 none :: lw_g) { frames := 1, cells := 0, slots := 0, locals := 20 } [.ref a] L f (fun u => ∃ g, u = (L, g) ∧ g a = cL 0 1 0 ∧ ∀ q, q ≠ a → g q = f q) := by
  intro sz
  refine g_enter (by decide) rfl (Nat.le_of_ble_eq_true rfl) ?_
  intro p e s m below meth cd ls X hrt hlk hnm hl hsz w
  have X : gx p m cd b_L_init 1 s _ "HullSums$Lowest" D cI cR := X
  have hx := X.1.1
  have hb := X.1.2.1
  have hl : lv_has ls 1 [(0, .ref a)] := hl
  refine lv_aload_n hx hb d_L_init_0 rfl (lv_at hl 0 rfl) ?_
  refine g_obj X hl.1 lk_L_1 (Nat.le_of_ble_eq_true rfl) (Nat.le_of_ble_eq_true rfl) d_L_init_1 ?_
  refine lv_aload_n hx hb d_L_init_4 rfl (lv_at hl 0 rfl) ?_
  refine lv_lconst (v := jN (0)) hx hb d_L_init_5 (by decide) ?_
  refine gk_put X w ha (show f a = .inr (3, [.long 0, .long 0, .int 0]) from (hfa)) rfl in_L ty_L tyok_L nm_L 0 (by decide) lk_L_7 rfl (ty := .long) (by decide +kernel) rfl rfl (Nat.le_of_ble_eq_true rfl) d_L_init_6 (fun H locs w => ?_)
  obtain ⟨g1, hg1⟩ : ∃ q : Nat → va_E, q = va_up f a (.inr (3, [.long (jN (0)), .long 0, .int 0])) := ⟨_, rfl⟩
  have g1s : g1 a = .inr (3, [.long (jN (0)), .long 0, .int 0]) := by rw [hg1, va_up_self]
  have g1n : ∀ q, q ≠ a → g1 q = f q := fun q hq => by rw [hg1, va_up_ne _ _ hq]
  have w : gw D (gA L sz) s.heap H locs (L) g1 := by rw [hg1]; exact w
  refine lv_aload_n hx hb d_L_init_9 rfl (lv_at hl 0 rfl) ?_
  refine lv_lconst (v := jN (1)) hx hb d_L_init_10 (by decide) ?_
  refine gk_put X w ha (show g1 a = .inr (3, [.long (jN (0)), .long 0, .int 0]) from (g1s)) rfl in_L ty_L tyok_L nm_L 1 (by decide) lk_L_13 rfl (ty := .long) (by decide +kernel) rfl rfl (Nat.le_of_ble_eq_true rfl) d_L_init_11 (fun H locs w => ?_)
  obtain ⟨g2, hg2⟩ : ∃ q : Nat → va_E, q = va_up g1 a (.inr (3, [.long (jN (0)), .long (jN (1)), .int 0])) := ⟨_, rfl⟩
  have g2s : g2 a = .inr (3, [.long (jN (0)), .long (jN (1)), .int 0]) := by rw [hg2, va_up_self]
  have g2n : ∀ q, q ≠ a → g2 q = g1 q := fun q hq => by rw [hg2, va_up_ne _ _ hq]
  have w : gw D (gA L sz) s.heap H locs (L) g2 := by rw [hg2]; exact w
  refine lv_aload_n hx hb d_L_init_14 rfl (lv_at hl 0 rfl) ?_
  refine lv_iconst (v := iN (0)) hx hb d_L_init_15 (by decide) ?_
  refine gk_put X w ha (show g2 a = .inr (3, [.long (jN (0)), .long (jN (1)), .int 0]) from (g2s)) rfl in_L ty_L tyok_L nm_L 2 (by decide) lk_L_16 rfl (ty := .boolean) (by decide +kernel) rfl rfl (Nat.le_of_ble_eq_true rfl) d_L_init_16 (fun H locs w => ?_)
  obtain ⟨g3, hg3⟩ : ∃ q : Nat → va_E, q = va_up g2 a (.inr (3, [.long (jN (0)), .long (jN (1)), .int (iN (0))])) := ⟨_, rfl⟩
  have g3s : g3 a = .inr (3, [.long (jN (0)), .long (jN (1)), .int (iN (0))]) := by rw [hg3, va_up_self]
  have g3n : ∀ q, q ≠ a → g3 q = g2 q := fun q hq => by rw [hg3, va_up_ne _ _ hq]
  have w : gw D (gA L sz) s.heap H locs (L) g3 := by rw [hg3]; exact w
  exact g_vret X w hrt hlk d_L_init_19 ⟨g3, rfl, (g3s), fun q ha => (((g3n q ha).trans (g2n q ha)).trans (g1n q ha))⟩
set_option maxHeartbeats 4000000 in
set_option maxRecDepth 100000 in
theorem c_M_init (l : Launch) {D : va_G} {cI cR : ClassId} {L : List Nat} {f : Nat → va_E} {a : Nat} (ha : a ∈ L) (hfa : f a = .inr (4, [.int 0, .int 0, .null, .null, .null, .null, .null, .int 0, .null, .null, .int 0, .long 0, .long 0, .long 0, .long 0, .long 0, .long 0, .long 0, .long 0, .long 0, .long 0, .long 0, .long 0])) : gMv D cI cR l y_M_init (Cond.code y_M_init b_M_init 1 none :: lw_g) { frames := 1, cells := 7, slots := 2696, locals := 20 } [.ref a] L f (fun u => ∃ (A : Nat → Nat) (v : Nat → Int) (F : Nat → Nat → Int) (L' : List Nat), u = (L', mSt cI a A f v F) ∧ mg L' a A ∧ (∀ q, q ∈ L → q ∈ L') ∧ (∀ k, k ∈ [2, 3, 4, 5, 6, 8, 9] → A k ∉ L) ∧ v 0 = 0 ∧ v 1 = 0 ∧ v 11 = 0 ∧ v 12 = 1) := by
  intro sz
  refine g_enter (by decide) rfl (Nat.le_of_ble_eq_true rfl) ?_
  intro p e s m below meth cd ls X hrt hlk hnm hl hsz w
  have X : gx p m cd b_M_init 1 s _ "HullSumsModel" D cI cR := X
  have hx := X.1.1
  have hb := X.1.2.1
  have hl : lv_has ls 1 [(0, .ref a)] := hl
  refine lv_aload_n hx hb d_M_init_0 rfl (lv_at hl 0 rfl) ?_
  refine g_obj X hl.1 lk_M_1 (Nat.le_of_ble_eq_true rfl) (Nat.le_of_ble_eq_true rfl) d_M_init_1 ?_
  refine lv_aload_n hx hb d_M_init_4 rfl (lv_at hl 0 rfl) ?_
  refine lv_sipush (v := iN (192)) hx hb d_M_init_5 (by decide) ?_
  refine gk_newi X w 0 rfl ar_int (n := iN (192)) 192 (by decide) (by decide) (by decide) (Nat.le_of_ble_eq_true rfl) (Nat.le_of_ble_eq_true rfl) d_M_init_8 (fun q1 H hq1 w => ?_)
  have naq1 : a ≠ q1 := fun e9 => hq1 (e9 ▸ ha)
  have maq1 : a ∈ L ++ [q1] := List.mem_append_left _ ha
  have mq1 : q1 ∈ L ++ [q1] := List.mem_append_right _ (List.mem_singleton.mpr rfl)
  obtain ⟨g2, hg2⟩ : ∃ q : Nat → va_E, q = va_up f q1 (.inl (cI, 192, .inl (fun _ => 0))) := ⟨_, rfl⟩
  have g2s : g2 q1 = .inl (cI, 192, .inl (fun _ => 0)) := by rw [hg2, va_up_self]
  have g2n : ∀ q, q ≠ q1 → g2 q = f q := fun q hq => by rw [hg2, va_up_ne _ _ hq]
  have w : gw D (gA L sz) s.heap H [] (L ++ [q1]) g2 := by rw [hg2]; exact w
  refine gk_put X w maq1 (show g2 a = .inr (4, [.int 0, .int 0, .null, .null, .null, .null, .null, .int 0, .null, .null, .int 0, .long 0, .long 0, .long 0, .long 0, .long 0, .long 0, .long 0, .long 0, .long 0, .long 0, .long 0, .long 0]) from ((g2n a naq1).trans (hfa))) rfl in_M ty_M tyok_M nm_M 2 (by decide) lk_M_7 rfl (ty := (.array .int)) (by decide +kernel) rfl rfl (Nat.le_of_ble_eq_true rfl) d_M_init_10 (fun H locs w => ?_)
  obtain ⟨g3, hg3⟩ : ∃ q : Nat → va_E, q = va_up g2 a (.inr (4, [.int 0, .int 0, .ref q1, .null, .null, .null, .null, .int 0, .null, .null, .int 0, .long 0, .long 0, .long 0, .long 0, .long 0, .long 0, .long 0, .long 0, .long 0, .long 0, .long 0, .long 0])) := ⟨_, rfl⟩
  have g3s : g3 a = .inr (4, [.int 0, .int 0, .ref q1, .null, .null, .null, .null, .int 0, .null, .null, .int 0, .long 0, .long 0, .long 0, .long 0, .long 0, .long 0, .long 0, .long 0, .long 0, .long 0, .long 0, .long 0]) := by rw [hg3, va_up_self]
  have g3n : ∀ q, q ≠ a → g3 q = g2 q := fun q hq => by rw [hg3, va_up_ne _ _ hq]
  have w : gw D (gA L sz) s.heap H locs (L ++ [q1]) g3 := by rw [hg3]; exact w
  refine lv_aload_n hx hb d_M_init_13 rfl (lv_at hl 0 rfl) ?_
  refine lv_sipush (v := iN (192)) hx hb d_M_init_14 (by decide) ?_
  refine gk_newi X w 0 rfl ar_int (n := iN (192)) 192 (by decide) (by decide) (by decide) (Nat.le_of_ble_eq_true rfl) (Nat.le_of_ble_eq_true rfl) d_M_init_17 (fun q4 H hq4 w => ?_)
  have naq4 : a ≠ q4 := fun e9 => hq4 (e9 ▸ maq1)
  have maq4 : a ∈ L ++ [q1] ++ [q4] := List.mem_append_left _ maq1
  have nq1q4 : q1 ≠ q4 := fun e9 => hq4 (e9 ▸ mq1)
  have mq1q4 : q1 ∈ L ++ [q1] ++ [q4] := List.mem_append_left _ mq1
  have mq4 : q4 ∈ L ++ [q1] ++ [q4] := List.mem_append_right _ (List.mem_singleton.mpr rfl)
  obtain ⟨g5, hg5⟩ : ∃ q : Nat → va_E, q = va_up g3 q4 (.inl (cI, 192, .inl (fun _ => 0))) := ⟨_, rfl⟩
  have g5s : g5 q4 = .inl (cI, 192, .inl (fun _ => 0)) := by rw [hg5, va_up_self]
  have g5n : ∀ q, q ≠ q4 → g5 q = g3 q := fun q hq => by rw [hg5, va_up_ne _ _ hq]
  have w : gw D (gA L sz) s.heap H locs (L ++ [q1] ++ [q4]) g5 := by rw [hg5]; exact w
  refine gk_put X w maq4 (show g5 a = .inr (4, [.int 0, .int 0, .ref q1, .null, .null, .null, .null, .int 0, .null, .null, .int 0, .long 0, .long 0, .long 0, .long 0, .long 0, .long 0, .long 0, .long 0, .long 0, .long 0, .long 0, .long 0]) from ((g5n a naq4).trans (g3s))) rfl in_M ty_M tyok_M nm_M 3 (by decide) lk_M_13 rfl (ty := (.array .int)) (by decide +kernel) rfl rfl (Nat.le_of_ble_eq_true rfl) d_M_init_19 (fun H locs w => ?_)
  obtain ⟨g6, hg6⟩ : ∃ q : Nat → va_E, q = va_up g5 a (.inr (4, [.int 0, .int 0, .ref q1, .ref q4, .null, .null, .null, .int 0, .null, .null, .int 0, .long 0, .long 0, .long 0, .long 0, .long 0, .long 0, .long 0, .long 0, .long 0, .long 0, .long 0, .long 0])) := ⟨_, rfl⟩
  have g6s : g6 a = .inr (4, [.int 0, .int 0, .ref q1, .ref q4, .null, .null, .null, .int 0, .null, .null, .int 0, .long 0, .long 0, .long 0, .long 0, .long 0, .long 0, .long 0, .long 0, .long 0, .long 0, .long 0, .long 0]) := by rw [hg6, va_up_self]
  have g6n : ∀ q, q ≠ a → g6 q = g5 q := fun q hq => by rw [hg6, va_up_ne _ _ hq]
  have w : gw D (gA L sz) s.heap H locs (L ++ [q1] ++ [q4]) g6 := by rw [hg6]; exact w
  refine lv_aload_n hx hb d_M_init_22 rfl (lv_at hl 0 rfl) ?_
  refine lv_bipush (v := iN (8)) hx hb d_M_init_23 (by decide) ?_
  refine gk_newi X w 0 rfl ar_int (n := iN (8)) 8 (by decide) (by decide) (by decide) (Nat.le_of_ble_eq_true rfl) (Nat.le_of_ble_eq_true rfl) d_M_init_25 (fun q7 H hq7 w => ?_)
  have naq7 : a ≠ q7 := fun e9 => hq7 (e9 ▸ maq4)
  have maq7 : a ∈ L ++ [q1] ++ [q4] ++ [q7] := List.mem_append_left _ maq4
  have nq1q7 : q1 ≠ q7 := fun e9 => hq7 (e9 ▸ mq1q4)
  have mq1q7 : q1 ∈ L ++ [q1] ++ [q4] ++ [q7] := List.mem_append_left _ mq1q4
  have nq4q7 : q4 ≠ q7 := fun e9 => hq7 (e9 ▸ mq4)
  have mq4q7 : q4 ∈ L ++ [q1] ++ [q4] ++ [q7] := List.mem_append_left _ mq4
  have mq7 : q7 ∈ L ++ [q1] ++ [q4] ++ [q7] := List.mem_append_right _ (List.mem_singleton.mpr rfl)
  obtain ⟨g8, hg8⟩ : ∃ q : Nat → va_E, q = va_up g6 q7 (.inl (cI, 8, .inl (fun _ => 0))) := ⟨_, rfl⟩
  have g8s : g8 q7 = .inl (cI, 8, .inl (fun _ => 0)) := by rw [hg8, va_up_self]
  have g8n : ∀ q, q ≠ q7 → g8 q = g6 q := fun q hq => by rw [hg8, va_up_ne _ _ hq]
  have w : gw D (gA L sz) s.heap H locs (L ++ [q1] ++ [q4] ++ [q7]) g8 := by rw [hg8]; exact w
  refine gk_put X w maq7 (show g8 a = .inr (4, [.int 0, .int 0, .ref q1, .ref q4, .null, .null, .null, .int 0, .null, .null, .int 0, .long 0, .long 0, .long 0, .long 0, .long 0, .long 0, .long 0, .long 0, .long 0, .long 0, .long 0, .long 0]) from ((g8n a naq7).trans (g6s))) rfl in_M ty_M tyok_M nm_M 4 (by decide) lk_M_16 rfl (ty := (.array .int)) (by decide +kernel) rfl rfl (Nat.le_of_ble_eq_true rfl) d_M_init_27 (fun H locs w => ?_)
  obtain ⟨g9, hg9⟩ : ∃ q : Nat → va_E, q = va_up g8 a (.inr (4, [.int 0, .int 0, .ref q1, .ref q4, .ref q7, .null, .null, .int 0, .null, .null, .int 0, .long 0, .long 0, .long 0, .long 0, .long 0, .long 0, .long 0, .long 0, .long 0, .long 0, .long 0, .long 0])) := ⟨_, rfl⟩
  have g9s : g9 a = .inr (4, [.int 0, .int 0, .ref q1, .ref q4, .ref q7, .null, .null, .int 0, .null, .null, .int 0, .long 0, .long 0, .long 0, .long 0, .long 0, .long 0, .long 0, .long 0, .long 0, .long 0, .long 0, .long 0]) := by rw [hg9, va_up_self]
  have g9n : ∀ q, q ≠ a → g9 q = g8 q := fun q hq => by rw [hg9, va_up_ne _ _ hq]
  have w : gw D (gA L sz) s.heap H locs (L ++ [q1] ++ [q4] ++ [q7]) g9 := by rw [hg9]; exact w
  refine lv_aload_n hx hb d_M_init_30 rfl (lv_at hl 0 rfl) ?_
  refine lv_sipush (v := iN (576)) hx hb d_M_init_31 (by decide) ?_
  refine gk_newi X w 0 rfl ar_int (n := iN (576)) 576 (by decide) (by decide) (by decide) (Nat.le_of_ble_eq_true rfl) (Nat.le_of_ble_eq_true rfl) d_M_init_34 (fun q10 H hq10 w => ?_)
  have naq10 : a ≠ q10 := fun e9 => hq10 (e9 ▸ maq7)
  have maq10 : a ∈ L ++ [q1] ++ [q4] ++ [q7] ++ [q10] := List.mem_append_left _ maq7
  have nq1q10 : q1 ≠ q10 := fun e9 => hq10 (e9 ▸ mq1q7)
  have mq1q10 : q1 ∈ L ++ [q1] ++ [q4] ++ [q7] ++ [q10] := List.mem_append_left _ mq1q7
  have nq4q10 : q4 ≠ q10 := fun e9 => hq10 (e9 ▸ mq4q7)
  have mq4q10 : q4 ∈ L ++ [q1] ++ [q4] ++ [q7] ++ [q10] := List.mem_append_left _ mq4q7
  have nq7q10 : q7 ≠ q10 := fun e9 => hq10 (e9 ▸ mq7)
  have mq7q10 : q7 ∈ L ++ [q1] ++ [q4] ++ [q7] ++ [q10] := List.mem_append_left _ mq7
  have mq10 : q10 ∈ L ++ [q1] ++ [q4] ++ [q7] ++ [q10] := List.mem_append_right _ (List.mem_singleton.mpr rfl)
  obtain ⟨g11, hg11⟩ : ∃ q : Nat → va_E, q = va_up g9 q10 (.inl (cI, 576, .inl (fun _ => 0))) := ⟨_, rfl⟩
  have g11s : g11 q10 = .inl (cI, 576, .inl (fun _ => 0)) := by rw [hg11, va_up_self]
  have g11n : ∀ q, q ≠ q10 → g11 q = g9 q := fun q hq => by rw [hg11, va_up_ne _ _ hq]
  have w : gw D (gA L sz) s.heap H locs (L ++ [q1] ++ [q4] ++ [q7] ++ [q10]) g11 := by rw [hg11]; exact w
  refine gk_put X w maq10 (show g11 a = .inr (4, [.int 0, .int 0, .ref q1, .ref q4, .ref q7, .null, .null, .int 0, .null, .null, .int 0, .long 0, .long 0, .long 0, .long 0, .long 0, .long 0, .long 0, .long 0, .long 0, .long 0, .long 0, .long 0]) from ((g11n a naq10).trans (g9s))) rfl in_M ty_M tyok_M nm_M 5 (by decide) lk_M_19 rfl (ty := (.array .int)) (by decide +kernel) rfl rfl (Nat.le_of_ble_eq_true rfl) d_M_init_36 (fun H locs w => ?_)
  obtain ⟨g12, hg12⟩ : ∃ q : Nat → va_E, q = va_up g11 a (.inr (4, [.int 0, .int 0, .ref q1, .ref q4, .ref q7, .ref q10, .null, .int 0, .null, .null, .int 0, .long 0, .long 0, .long 0, .long 0, .long 0, .long 0, .long 0, .long 0, .long 0, .long 0, .long 0, .long 0])) := ⟨_, rfl⟩
  have g12s : g12 a = .inr (4, [.int 0, .int 0, .ref q1, .ref q4, .ref q7, .ref q10, .null, .int 0, .null, .null, .int 0, .long 0, .long 0, .long 0, .long 0, .long 0, .long 0, .long 0, .long 0, .long 0, .long 0, .long 0, .long 0]) := by rw [hg12, va_up_self]
  have g12n : ∀ q, q ≠ a → g12 q = g11 q := fun q hq => by rw [hg12, va_up_ne _ _ hq]
  have w : gw D (gA L sz) s.heap H locs (L ++ [q1] ++ [q4] ++ [q7] ++ [q10]) g12 := by rw [hg12]; exact w
  refine lv_aload_n hx hb d_M_init_39 rfl (lv_at hl 0 rfl) ?_
  refine lv_sipush (v := iN (576)) hx hb d_M_init_40 (by decide) ?_
  refine gk_newi X w 0 rfl ar_int (n := iN (576)) 576 (by decide) (by decide) (by decide) (Nat.le_of_ble_eq_true rfl) (Nat.le_of_ble_eq_true rfl) d_M_init_43 (fun q13 H hq13 w => ?_)
  have naq13 : a ≠ q13 := fun e9 => hq13 (e9 ▸ maq10)
  have maq13 : a ∈ L ++ [q1] ++ [q4] ++ [q7] ++ [q10] ++ [q13] := List.mem_append_left _ maq10
  have nq1q13 : q1 ≠ q13 := fun e9 => hq13 (e9 ▸ mq1q10)
  have mq1q13 : q1 ∈ L ++ [q1] ++ [q4] ++ [q7] ++ [q10] ++ [q13] := List.mem_append_left _ mq1q10
  have nq4q13 : q4 ≠ q13 := fun e9 => hq13 (e9 ▸ mq4q10)
  have mq4q13 : q4 ∈ L ++ [q1] ++ [q4] ++ [q7] ++ [q10] ++ [q13] := List.mem_append_left _ mq4q10
  have nq7q13 : q7 ≠ q13 := fun e9 => hq13 (e9 ▸ mq7q10)
  have mq7q13 : q7 ∈ L ++ [q1] ++ [q4] ++ [q7] ++ [q10] ++ [q13] := List.mem_append_left _ mq7q10
  have nq10q13 : q10 ≠ q13 := fun e9 => hq13 (e9 ▸ mq10)
  have mq10q13 : q10 ∈ L ++ [q1] ++ [q4] ++ [q7] ++ [q10] ++ [q13] := List.mem_append_left _ mq10
  have mq13 : q13 ∈ L ++ [q1] ++ [q4] ++ [q7] ++ [q10] ++ [q13] := List.mem_append_right _ (List.mem_singleton.mpr rfl)
  obtain ⟨g14, hg14⟩ : ∃ q : Nat → va_E, q = va_up g12 q13 (.inl (cI, 576, .inl (fun _ => 0))) := ⟨_, rfl⟩
  have g14s : g14 q13 = .inl (cI, 576, .inl (fun _ => 0)) := by rw [hg14, va_up_self]
  have g14n : ∀ q, q ≠ q13 → g14 q = g12 q := fun q hq => by rw [hg14, va_up_ne _ _ hq]
  have w : gw D (gA L sz) s.heap H locs (L ++ [q1] ++ [q4] ++ [q7] ++ [q10] ++ [q13]) g14 := by rw [hg14]; exact w
  refine gk_put X w maq13 (show g14 a = .inr (4, [.int 0, .int 0, .ref q1, .ref q4, .ref q7, .ref q10, .null, .int 0, .null, .null, .int 0, .long 0, .long 0, .long 0, .long 0, .long 0, .long 0, .long 0, .long 0, .long 0, .long 0, .long 0, .long 0]) from ((g14n a naq13).trans (g12s))) rfl in_M ty_M tyok_M nm_M 6 (by decide) lk_M_22 rfl (ty := (.array .int)) (by decide +kernel) rfl rfl (Nat.le_of_ble_eq_true rfl) d_M_init_45 (fun H locs w => ?_)
  obtain ⟨g15, hg15⟩ : ∃ q : Nat → va_E, q = va_up g14 a (.inr (4, [.int 0, .int 0, .ref q1, .ref q4, .ref q7, .ref q10, .ref q13, .int 0, .null, .null, .int 0, .long 0, .long 0, .long 0, .long 0, .long 0, .long 0, .long 0, .long 0, .long 0, .long 0, .long 0, .long 0])) := ⟨_, rfl⟩
  have g15s : g15 a = .inr (4, [.int 0, .int 0, .ref q1, .ref q4, .ref q7, .ref q10, .ref q13, .int 0, .null, .null, .int 0, .long 0, .long 0, .long 0, .long 0, .long 0, .long 0, .long 0, .long 0, .long 0, .long 0, .long 0, .long 0]) := by rw [hg15, va_up_self]
  have g15n : ∀ q, q ≠ a → g15 q = g14 q := fun q hq => by rw [hg15, va_up_ne _ _ hq]
  have w : gw D (gA L sz) s.heap H locs (L ++ [q1] ++ [q4] ++ [q7] ++ [q10] ++ [q13]) g15 := by rw [hg15]; exact w
  refine lv_aload_n hx hb d_M_init_48 rfl (lv_at hl 0 rfl) ?_
  refine lv_sipush (v := iN (576)) hx hb d_M_init_49 (by decide) ?_
  refine gk_newi X w 0 rfl ar_int (n := iN (576)) 576 (by decide) (by decide) (by decide) (Nat.le_of_ble_eq_true rfl) (Nat.le_of_ble_eq_true rfl) d_M_init_52 (fun q16 H hq16 w => ?_)
  have naq16 : a ≠ q16 := fun e9 => hq16 (e9 ▸ maq13)
  have maq16 : a ∈ L ++ [q1] ++ [q4] ++ [q7] ++ [q10] ++ [q13] ++ [q16] := List.mem_append_left _ maq13
  have nq1q16 : q1 ≠ q16 := fun e9 => hq16 (e9 ▸ mq1q13)
  have mq1q16 : q1 ∈ L ++ [q1] ++ [q4] ++ [q7] ++ [q10] ++ [q13] ++ [q16] := List.mem_append_left _ mq1q13
  have nq4q16 : q4 ≠ q16 := fun e9 => hq16 (e9 ▸ mq4q13)
  have mq4q16 : q4 ∈ L ++ [q1] ++ [q4] ++ [q7] ++ [q10] ++ [q13] ++ [q16] := List.mem_append_left _ mq4q13
  have nq7q16 : q7 ≠ q16 := fun e9 => hq16 (e9 ▸ mq7q13)
  have mq7q16 : q7 ∈ L ++ [q1] ++ [q4] ++ [q7] ++ [q10] ++ [q13] ++ [q16] := List.mem_append_left _ mq7q13
  have nq10q16 : q10 ≠ q16 := fun e9 => hq16 (e9 ▸ mq10q13)
  have mq10q16 : q10 ∈ L ++ [q1] ++ [q4] ++ [q7] ++ [q10] ++ [q13] ++ [q16] := List.mem_append_left _ mq10q13
  have nq13q16 : q13 ≠ q16 := fun e9 => hq16 (e9 ▸ mq13)
  have mq13q16 : q13 ∈ L ++ [q1] ++ [q4] ++ [q7] ++ [q10] ++ [q13] ++ [q16] := List.mem_append_left _ mq13
  have mq16 : q16 ∈ L ++ [q1] ++ [q4] ++ [q7] ++ [q10] ++ [q13] ++ [q16] := List.mem_append_right _ (List.mem_singleton.mpr rfl)
  obtain ⟨g17, hg17⟩ : ∃ q : Nat → va_E, q = va_up g15 q16 (.inl (cI, 576, .inl (fun _ => 0))) := ⟨_, rfl⟩
  have g17s : g17 q16 = .inl (cI, 576, .inl (fun _ => 0)) := by rw [hg17, va_up_self]
  have g17n : ∀ q, q ≠ q16 → g17 q = g15 q := fun q hq => by rw [hg17, va_up_ne _ _ hq]
  have w : gw D (gA L sz) s.heap H locs (L ++ [q1] ++ [q4] ++ [q7] ++ [q10] ++ [q13] ++ [q16]) g17 := by rw [hg17]; exact w
  refine gk_put X w maq16 (show g17 a = .inr (4, [.int 0, .int 0, .ref q1, .ref q4, .ref q7, .ref q10, .ref q13, .int 0, .null, .null, .int 0, .long 0, .long 0, .long 0, .long 0, .long 0, .long 0, .long 0, .long 0, .long 0, .long 0, .long 0, .long 0]) from ((g17n a naq16).trans (g15s))) rfl in_M ty_M tyok_M nm_M 8 (by decide) lk_M_25 rfl (ty := (.array .int)) (by decide +kernel) rfl rfl (Nat.le_of_ble_eq_true rfl) d_M_init_54 (fun H locs w => ?_)
  obtain ⟨g18, hg18⟩ : ∃ q : Nat → va_E, q = va_up g17 a (.inr (4, [.int 0, .int 0, .ref q1, .ref q4, .ref q7, .ref q10, .ref q13, .int 0, .ref q16, .null, .int 0, .long 0, .long 0, .long 0, .long 0, .long 0, .long 0, .long 0, .long 0, .long 0, .long 0, .long 0, .long 0])) := ⟨_, rfl⟩
  have g18s : g18 a = .inr (4, [.int 0, .int 0, .ref q1, .ref q4, .ref q7, .ref q10, .ref q13, .int 0, .ref q16, .null, .int 0, .long 0, .long 0, .long 0, .long 0, .long 0, .long 0, .long 0, .long 0, .long 0, .long 0, .long 0, .long 0]) := by rw [hg18, va_up_self]
  have g18n : ∀ q, q ≠ a → g18 q = g17 q := fun q hq => by rw [hg18, va_up_ne _ _ hq]
  have w : gw D (gA L sz) s.heap H locs (L ++ [q1] ++ [q4] ++ [q7] ++ [q10] ++ [q13] ++ [q16]) g18 := by rw [hg18]; exact w
  refine lv_aload_n hx hb d_M_init_57 rfl (lv_at hl 0 rfl) ?_
  refine lv_sipush (v := iN (576)) hx hb d_M_init_58 (by decide) ?_
  refine gk_newi X w 0 rfl ar_int (n := iN (576)) 576 (by decide) (by decide) (by decide) (Nat.le_of_ble_eq_true rfl) (Nat.le_of_ble_eq_true rfl) d_M_init_61 (fun q19 H hq19 w => ?_)
  have naq19 : a ≠ q19 := fun e9 => hq19 (e9 ▸ maq16)
  have maq19 : a ∈ L ++ [q1] ++ [q4] ++ [q7] ++ [q10] ++ [q13] ++ [q16] ++ [q19] := List.mem_append_left _ maq16
  have nq1q19 : q1 ≠ q19 := fun e9 => hq19 (e9 ▸ mq1q16)
  have mq1q19 : q1 ∈ L ++ [q1] ++ [q4] ++ [q7] ++ [q10] ++ [q13] ++ [q16] ++ [q19] := List.mem_append_left _ mq1q16
  have nq4q19 : q4 ≠ q19 := fun e9 => hq19 (e9 ▸ mq4q16)
  have mq4q19 : q4 ∈ L ++ [q1] ++ [q4] ++ [q7] ++ [q10] ++ [q13] ++ [q16] ++ [q19] := List.mem_append_left _ mq4q16
  have nq7q19 : q7 ≠ q19 := fun e9 => hq19 (e9 ▸ mq7q16)
  have mq7q19 : q7 ∈ L ++ [q1] ++ [q4] ++ [q7] ++ [q10] ++ [q13] ++ [q16] ++ [q19] := List.mem_append_left _ mq7q16
  have nq10q19 : q10 ≠ q19 := fun e9 => hq19 (e9 ▸ mq10q16)
  have mq10q19 : q10 ∈ L ++ [q1] ++ [q4] ++ [q7] ++ [q10] ++ [q13] ++ [q16] ++ [q19] := List.mem_append_left _ mq10q16
  have nq13q19 : q13 ≠ q19 := fun e9 => hq19 (e9 ▸ mq13q16)
  have mq13q19 : q13 ∈ L ++ [q1] ++ [q4] ++ [q7] ++ [q10] ++ [q13] ++ [q16] ++ [q19] := List.mem_append_left _ mq13q16
  have nq16q19 : q16 ≠ q19 := fun e9 => hq19 (e9 ▸ mq16)
  have mq16q19 : q16 ∈ L ++ [q1] ++ [q4] ++ [q7] ++ [q10] ++ [q13] ++ [q16] ++ [q19] := List.mem_append_left _ mq16
  have mq19 : q19 ∈ L ++ [q1] ++ [q4] ++ [q7] ++ [q10] ++ [q13] ++ [q16] ++ [q19] := List.mem_append_right _ (List.mem_singleton.mpr rfl)
  obtain ⟨g20, hg20⟩ : ∃ q : Nat → va_E, q = va_up g18 q19 (.inl (cI, 576, .inl (fun _ => 0))) := ⟨_, rfl⟩
  have g20s : g20 q19 = .inl (cI, 576, .inl (fun _ => 0)) := by rw [hg20, va_up_self]
  have g20n : ∀ q, q ≠ q19 → g20 q = g18 q := fun q hq => by rw [hg20, va_up_ne _ _ hq]
  have w : gw D (gA L sz) s.heap H locs (L ++ [q1] ++ [q4] ++ [q7] ++ [q10] ++ [q13] ++ [q16] ++ [q19]) g20 := by rw [hg20]; exact w
  refine gk_put X w maq19 (show g20 a = .inr (4, [.int 0, .int 0, .ref q1, .ref q4, .ref q7, .ref q10, .ref q13, .int 0, .ref q16, .null, .int 0, .long 0, .long 0, .long 0, .long 0, .long 0, .long 0, .long 0, .long 0, .long 0, .long 0, .long 0, .long 0]) from ((g20n a naq19).trans (g18s))) rfl in_M ty_M tyok_M nm_M 9 (by decide) lk_M_28 rfl (ty := (.array .int)) (by decide +kernel) rfl rfl (Nat.le_of_ble_eq_true rfl) d_M_init_63 (fun H locs w => ?_)
  obtain ⟨g21, hg21⟩ : ∃ q : Nat → va_E, q = va_up g20 a (.inr (4, [.int 0, .int 0, .ref q1, .ref q4, .ref q7, .ref q10, .ref q13, .int 0, .ref q16, .ref q19, .int 0, .long 0, .long 0, .long 0, .long 0, .long 0, .long 0, .long 0, .long 0, .long 0, .long 0, .long 0, .long 0])) := ⟨_, rfl⟩
  have g21s : g21 a = .inr (4, [.int 0, .int 0, .ref q1, .ref q4, .ref q7, .ref q10, .ref q13, .int 0, .ref q16, .ref q19, .int 0, .long 0, .long 0, .long 0, .long 0, .long 0, .long 0, .long 0, .long 0, .long 0, .long 0, .long 0, .long 0]) := by rw [hg21, va_up_self]
  have g21n : ∀ q, q ≠ a → g21 q = g20 q := fun q hq => by rw [hg21, va_up_ne _ _ hq]
  have w : gw D (gA L sz) s.heap H locs (L ++ [q1] ++ [q4] ++ [q7] ++ [q10] ++ [q13] ++ [q16] ++ [q19]) g21 := by rw [hg21]; exact w
  refine lv_aload_n hx hb d_M_init_66 rfl (lv_at hl 0 rfl) ?_
  refine lv_lconst (v := jN (1)) hx hb d_M_init_67 (by decide) ?_
  refine gk_put X w maq19 (show g21 a = .inr (4, [.int 0, .int 0, .ref q1, .ref q4, .ref q7, .ref q10, .ref q13, .int 0, .ref q16, .ref q19, .int 0, .long 0, .long 0, .long 0, .long 0, .long 0, .long 0, .long 0, .long 0, .long 0, .long 0, .long 0, .long 0]) from (g21s)) rfl in_M ty_M tyok_M nm_M 12 (by decide) lk_M_31 rfl (ty := .long) (by decide +kernel) rfl rfl (Nat.le_of_ble_eq_true rfl) d_M_init_68 (fun H locs w => ?_)
  obtain ⟨g22, hg22⟩ : ∃ q : Nat → va_E, q = va_up g21 a (.inr (4, [.int 0, .int 0, .ref q1, .ref q4, .ref q7, .ref q10, .ref q13, .int 0, .ref q16, .ref q19, .int 0, .long 0, .long (jN (1)), .long 0, .long 0, .long 0, .long 0, .long 0, .long 0, .long 0, .long 0, .long 0, .long 0])) := ⟨_, rfl⟩
  have g22s : g22 a = .inr (4, [.int 0, .int 0, .ref q1, .ref q4, .ref q7, .ref q10, .ref q13, .int 0, .ref q16, .ref q19, .int 0, .long 0, .long (jN (1)), .long 0, .long 0, .long 0, .long 0, .long 0, .long 0, .long 0, .long 0, .long 0, .long 0]) := by rw [hg22, va_up_self]
  have g22n : ∀ q, q ≠ a → g22 q = g21 q := fun q hq => by rw [hg22, va_up_ne _ _ hq]
  have w : gw D (gA L sz) s.heap H locs (L ++ [q1] ++ [q4] ++ [q7] ++ [q10] ++ [q13] ++ [q16] ++ [q19]) g22 := by rw [hg22]; exact w
  obtain ⟨A, hA⟩ : ∃ q : Nat → Nat, q = fun k => if k = 2 then q1 else if k = 3 then q4 else if k = 4 then q7 else if k = 5 then q10 else if k = 6 then q13 else if k = 8 then q16 else if k = 9 then q19 else 0 := ⟨_, rfl⟩
  have A2 : A 2 = q1 := by rw [hA]; rfl
  have A3 : A 3 = q4 := by rw [hA]; rfl
  have A4 : A 4 = q7 := by rw [hA]; rfl
  have A5 : A 5 = q10 := by rw [hA]; rfl
  have A6 : A 6 = q13 := by rw [hA]; rfl
  have A8 : A 8 = q16 := by rw [hA]; rfl
  have A9 : A 9 = q19 := by rw [hA]; rfl
  obtain ⟨v, hv⟩ : ∃ q : Nat → Int, q = fun k => if k = 12 then 1 else 0 := ⟨_, rfl⟩
  obtain ⟨F, hF⟩ : ∃ q : Nat → Nat → Int, q = fun _ _ => 0 := ⟨_, rfl⟩
  have eqS : g22 = mSt cI a A f v F := by
    funext q
    have ea : g22 a = mCell A v := by rw [show g22 a = _ from (g22s)]; unfold mCell; rw [A2, A3, A4, A5, A6, A8, A9, hv]; rfl
    have e2 : g22 (A 2) = mArr cI 192 (F 2) := by rw [A2, show g22 q1 = _ from (((((((((((((((g22n q1 (Ne.symm naq1)).trans (g21n q1 (Ne.symm naq1))).trans (g20n q1 nq1q19)).trans (g18n q1 (Ne.symm naq1))).trans (g17n q1 nq1q16)).trans (g15n q1 (Ne.symm naq1))).trans (g14n q1 nq1q13)).trans (g12n q1 (Ne.symm naq1))).trans (g11n q1 nq1q10)).trans (g9n q1 (Ne.symm naq1))).trans (g8n q1 nq1q7)).trans (g6n q1 (Ne.symm naq1))).trans (g5n q1 nq1q4)).trans (g3n q1 (Ne.symm naq1))).trans (g2s)), hF]; rfl
    have e3 : g22 (A 3) = mArr cI 192 (F 3) := by rw [A3, show g22 q4 = _ from (((((((((((((g22n q4 (Ne.symm naq4)).trans (g21n q4 (Ne.symm naq4))).trans (g20n q4 nq4q19)).trans (g18n q4 (Ne.symm naq4))).trans (g17n q4 nq4q16)).trans (g15n q4 (Ne.symm naq4))).trans (g14n q4 nq4q13)).trans (g12n q4 (Ne.symm naq4))).trans (g11n q4 nq4q10)).trans (g9n q4 (Ne.symm naq4))).trans (g8n q4 nq4q7)).trans (g6n q4 (Ne.symm naq4))).trans (g5s)), hF]; rfl
    have e4 : g22 (A 4) = mArr cI 8 (F 4) := by rw [A4, show g22 q7 = _ from (((((((((((g22n q7 (Ne.symm naq7)).trans (g21n q7 (Ne.symm naq7))).trans (g20n q7 nq7q19)).trans (g18n q7 (Ne.symm naq7))).trans (g17n q7 nq7q16)).trans (g15n q7 (Ne.symm naq7))).trans (g14n q7 nq7q13)).trans (g12n q7 (Ne.symm naq7))).trans (g11n q7 nq7q10)).trans (g9n q7 (Ne.symm naq7))).trans (g8s)), hF]; rfl
    have e5 : g22 (A 5) = mArr cI 576 (F 5) := by rw [A5, show g22 q10 = _ from (((((((((g22n q10 (Ne.symm naq10)).trans (g21n q10 (Ne.symm naq10))).trans (g20n q10 nq10q19)).trans (g18n q10 (Ne.symm naq10))).trans (g17n q10 nq10q16)).trans (g15n q10 (Ne.symm naq10))).trans (g14n q10 nq10q13)).trans (g12n q10 (Ne.symm naq10))).trans (g11s)), hF]; rfl
    have e6 : g22 (A 6) = mArr cI 576 (F 6) := by rw [A6, show g22 q13 = _ from (((((((g22n q13 (Ne.symm naq13)).trans (g21n q13 (Ne.symm naq13))).trans (g20n q13 nq13q19)).trans (g18n q13 (Ne.symm naq13))).trans (g17n q13 nq13q16)).trans (g15n q13 (Ne.symm naq13))).trans (g14s)), hF]; rfl
    have e8 : g22 (A 8) = mArr cI 576 (F 8) := by rw [A8, show g22 q16 = _ from (((((g22n q16 (Ne.symm naq16)).trans (g21n q16 (Ne.symm naq16))).trans (g20n q16 nq16q19)).trans (g18n q16 (Ne.symm naq16))).trans (g17s)), hF]; rfl
    have e9 : g22 (A 9) = mArr cI 576 (F 9) := by rw [A9, show g22 q19 = _ from (((g22n q19 (Ne.symm naq19)).trans (g21n q19 (Ne.symm naq19))).trans (g20s)), hF]; rfl
    unfold mSt
    by_cases ca : q = a
    · rw [if_pos ca, ca, ea]
    rw [if_neg ca]
    by_cases c2 : q = A 2
    · rw [if_pos c2, c2, e2]
    rw [if_neg c2]
    by_cases c3 : q = A 3
    · rw [if_pos c3, c3, e3]
    rw [if_neg c3]
    by_cases c4 : q = A 4
    · rw [if_pos c4, c4, e4]
    rw [if_neg c4]
    by_cases c5 : q = A 5
    · rw [if_pos c5, c5, e5]
    rw [if_neg c5]
    by_cases c6 : q = A 6
    · rw [if_pos c6, c6, e6]
    rw [if_neg c6]
    by_cases c8 : q = A 8
    · rw [if_pos c8, c8, e8]
    rw [if_neg c8]
    by_cases c9 : q = A 9
    · rw [if_pos c9, c9, e9]
    rw [if_neg c9]
    rw [A2] at c2
    rw [A3] at c3
    rw [A4] at c4
    rw [A5] at c5
    rw [A6] at c6
    rw [A8] at c8
    rw [A9] at c9
    exact (((((((((((((((g22n q ca).trans (g21n q ca)).trans (g20n q c9)).trans (g18n q ca)).trans (g17n q c8)).trans (g15n q ca)).trans (g14n q c6)).trans (g12n q ca)).trans (g11n q c5)).trans (g9n q ca)).trans (g8n q c4)).trans (g6n q ca)).trans (g5n q c3)).trans (g3n q ca)).trans (g2n q c2))
  rw [eqS] at w
  have hG : mg (L ++ [q1] ++ [q4] ++ [q7] ++ [q10] ++ [q13] ++ [q16] ++ [q19]) a A := by
    unfold mg; rw [A2, A3, A4, A5, A6, A8, A9]
    exact ⟨⟨maq19, mq1q19, mq4q19, mq7q19, mq10q19, mq13q19, mq16q19, mq19⟩, ⟨(Ne.symm naq1), (Ne.symm naq4), (Ne.symm naq7), (Ne.symm naq10), (Ne.symm naq13), (Ne.symm naq16), (Ne.symm naq19)⟩, ⟨nq1q4, nq1q7, nq1q10, nq1q13, nq1q16, nq1q19, nq4q7, nq4q10, nq4q13, nq4q16, nq4q19, nq7q10, nq7q13, nq7q16, nq7q19, nq10q13, nq10q16, nq10q19, nq13q16, nq13q19, nq16q19⟩⟩
  have hN : ∀ k, k ∈ [2, 3, 4, 5, 6, 8, 9] → A k ∉ L := by
    intro k hk h9
    simp only [List.mem_cons, List.not_mem_nil, or_false] at hk
    rcases hk with rfl | rfl | rfl | rfl | rfl | rfl | rfl
    · rw [A2] at h9; exact hq1 (h9)
    · rw [A3] at h9; exact hq4 (List.mem_append_left _ (h9))
    · rw [A4] at h9; exact hq7 (List.mem_append_left _ (List.mem_append_left _ (h9)))
    · rw [A5] at h9; exact hq10 (List.mem_append_left _ (List.mem_append_left _ (List.mem_append_left _ (h9))))
    · rw [A6] at h9; exact hq13 (List.mem_append_left _ (List.mem_append_left _ (List.mem_append_left _ (List.mem_append_left _ (h9)))))
    · rw [A8] at h9; exact hq16 (List.mem_append_left _ (List.mem_append_left _ (List.mem_append_left _ (List.mem_append_left _ (List.mem_append_left _ (h9))))))
    · rw [A9] at h9; exact hq19 (List.mem_append_left _ (List.mem_append_left _ (List.mem_append_left _ (List.mem_append_left _ (List.mem_append_left _ (List.mem_append_left _ (h9)))))))
  have hSub : ∀ q, q ∈ L → q ∈ L ++ [q1] ++ [q4] ++ [q7] ++ [q10] ++ [q13] ++ [q16] ++ [q19] := fun q h9 => List.mem_append_left _ (List.mem_append_left _ (List.mem_append_left _ (List.mem_append_left _ (List.mem_append_left _ (List.mem_append_left _ (List.mem_append_left _ (h9)))))))
  exact g_vret X w hrt hlk d_M_init_71 ⟨A, v, F, _, rfl, hG, hSub, hN, by rw [hv]; rfl, by rw [hv]; rfl, by rw [hv]; rfl, by rw [hv]; rfl⟩
