/-! THE CLAIM OUT OF ONE WALK OF THE LAW'S BODY. Your part is whole_start (and what it stands on); all else here is the same for every law, but numbers. -/
def R_law : String := "HullSumsLaw"
def lw_P (b : Addr) (xs : List Int32) (args : Array Value) (s : State) : Prop := args = #[.ref b] ∧ s.IntsAt b xs ∧ xs.length ≤ 2048 ∧ (Jvm.Cond.and given_1 narrow_1).before args s = true
def lw_Q (_ : Array Value) (s : State) (o : Outcome) (t : State) : Prop := o = .returned (some (.int 1)) ∧ Framed s o t [] 600000 7302250
def lw_Z (below : List Frame) (a : Array Value) (s : State) : State → Prop := fun t => ∃ o, t.status = .running ∧ Ended t below o ∧ lw_Q a s o t
/-- the law's own end, with 1 on the stack, nothing written that was there before, its room as the claim has it -/
theorem lw_ret {p : Program} {l : Launch} {e : Env} {s : State} {m : MethodId} {below : List Frame} {meth : Method} {c : Code} {b : Nat} (hx : p.tables.exec = Jvm.exec) (hb : c.code = code) (hr : meth.sig.returnType = ret) (hlocks : meth.locks = false) {pc : Nat} {H : Heap} {ls : Array Slot} (hdg : decode code pc = .ok (.ireturn, 1)) : W p l e room_1 s m #[Value.ref b] below meth c H [] 600000 7302250 (lw_Z below #[Value.ref b] s) (F0 m pc ls [.int 1]) := by
  intro T hT X
  obtain ⟨fs, hret, hrun, hended, hW, hframe⟩ := X.leave (v := some (.int 1)) (hlocks := hlocks) (fun h => by rw [hr] at h; cases h)
  have hmeth' : T.vm.method? m = some meth := X.method'
  refine ⟨T.setFrames fs, ?_, .returned (some (.int 1)), hrun, hended, rfl, ⟨_, rfl⟩, hW, hframe⟩
  jvm_step X.here [X.here.top, hx, hb, hdg, hmeth', hr, ret, narrow_b1]
  (try refine ⟨rfl, ?_⟩); (try refine ⟨rfl, ?_⟩)
  first | (intro acts; rw [hret _ acts rfl rfl rfl]) | rw [hret _ _ rfl rfl rfl]
  exact Steps.refl _
/-- what holds at the law's entry: the machine, the code, the tables' words (any of lw_tbl by 'hts w (by decide +kernel)'), the script of L ints xs at the cell b, what the Statement gives of the start (any of its parts by flat_of_before) -/
def lw_At (p : Program) (s : State) (m : MethodId) (meth : Method) (c : Code) (b L : Nat) (xs : Nat → Int32) : Prop :=
  p.tables.exec = Jvm.exec ∧ c.code = code ∧ meth.sig.returnType = ret ∧ c.maxLocals = 4 ∧ s.vm.findClass R_law = some m.cls ∧ (∀ w ∈ lw_tbl, w.before #[Value.ref b] s = true) ∧ va_X b L xs s s.heap ∧ b < s.heap.size ∧ meth.locks = false ∧ (Jvm.Cond.and given_1 narrow_1).before #[Value.ref b] s = true
theorem and31 (x : Int32) : 0 ≤ (x &&& iN 31).toInt ∧ (x &&& iN 31).toInt ≤ 31 := by
  have h1 : (x &&& iN 31).toBitVec.toNat ≤ 31 := by
    rw [Int32.toBitVec_and, BitVec.toNat_and]
    exact Nat.and_le_right
  have h2 : (x &&& iN 31).toInt = ((x &&& iN 31).toBitVec.toNat : Int) := by
    rw [← Int32.toInt_toBitVec]
    exact BitVec.toInt_eq_toNat_of_lt (by omega)
  rw [h2]; omega
theorem geo_in {L : List Nat} {rx ry ra : Nat → Nat} {h ar ci lo : Nat} (G : geo L rx ry ra h ar ci lo) {q : Nat} (hq : hOwn rx ry ra h ar ci lo q) : q ∈ L := by
  obtain ⟨⟨a, b, c, d⟩, -, r, -⟩ := G
  rcases hq with rfl | rfl | rfl | rfl | ⟨i, hi, hq⟩
  · exact a
  · exact b
  · exact c
  · exact d
  · obtain ⟨r1, r2, r3, -⟩ := r i hi
    rcases hq with rfl | rfl | rfl
    · exact r1
    · exact r2
    · exact r3
theorem geo_mono {L L' : List Nat} {rx ry ra : Nat → Nat} {h ar ci lo : Nat} (G : geo L rx ry ra h ar ci lo) (hs : ∀ q, q ∈ L → q ∈ L') : geo L' rx ry ra h ar ci lo := by
  obtain ⟨⟨a, b, c, d⟩, n, r, x, y⟩ := G
  exact ⟨⟨hs _ a, hs _ b, hs _ c, hs _ d⟩, n, fun i hi => by obtain ⟨r1, r2, r3, r4⟩ := r i hi; exact ⟨hs _ r1, hs _ r2, hs _ r3, r4⟩, x, y⟩
set_option maxHeartbeats 4000000 in
set_option maxRecDepth 100000 in
theorem law_loop {p : Program} {l : Launch} {e : Env} {s : State} {m : MethodId} {below : List Frame} {meth : Method} {c : Code} {H : Heap} {locs : List Loc} {ls : Array Slot} {D : va_G} {cI cR : ClassId} {L : List Nat} {rx ry ra : Nat → Nat} {h ar ci lo mo : Nat} {A : Nat → Nat} {f : Nat → va_E} {v : Nat → Int} {F : Nat → Nat → Int} {K t1 t2 : Int} {S : Nat → List Pt} {b n : Nat} {xs : Nat → Int32} (hr : meth.sig.returnType = ret) (hlocks : meth.locks = false) (T : lst p m c s b n xs D cI cR L rx ry ra h ar ci lo mo A) (J : JS cI cR rx ry ra h ar ci lo mo A f v F K t1 t2 S) (w : gw D (lwA s) s.heap H locs L f) (hl : lv_has ls 4 [(3, .int (iN (0))), (2, .ref mo), (1, .ref h), (0, .ref b)]) : W p l e room_1 s m #[Value.ref b] below meth c H locs 600000 7302250 (lw_Z below #[Value.ref b] s) (F0 m 18 ls []) := by
  obtain ⟨X, hX, hbl, G, g0, d0, hn, M⟩ := id T
  have hx := X.1.1
  have hb := X.1.2.1
  have hbA : ¬ lwA s b := Nat.not_le.mpr hbl
  refine g_loop (σ := Int × (Nat → va_E)) (fun z9 => ((n : Int) - z9.1).toNat) (fun z9 => [(3, .int (iN (z9.1))), (2, .ref mo), (1, .ref h), (0, .ref b)]) L (fun z9 => z9.2) (fun z9 => (0 ≤ z9.1 ∧ z9.1 ≤ n + 4) ∧ ∃ v F K t1 t2 S, JS cI cR rx ry ra h ar ci lo mo A z9.2 v F K t1 t2 S) ?_ (0, f) _ _ _ ⟨by (try dsimp only); omega, v, F, K, t1, t2, S, J⟩ w hl
  intro z9 H locs ls hI w hl ih
  obtain ⟨i, f⟩ := z9
  obtain ⟨hi0, v, F, K, t1, t2, S, J⟩ := hI
  dsimp only at hi0 J w hl ih
  refine lv_iload_n hx hb d_law_18 rfl (lv_at hl 0 rfl) ?_
  refine lv_aload_n hx hb d_law_19 rfl (lv_at hl 3 rfl) ?_
  refine va_slen hx hb hX hbl hbA w.2.2.1 d_law_20 ?_
  rw [show Int32.ofNat n = iN (n : Int) from iN_nI n]
  refine lv_iconst (v := iN (4)) hx hb d_law_21 (by decide) ?_
  refine ri_sub (a := (n : Int)) (b := 4) hx hb d_law_22 rfl rfl ?_
  refine ri_cgt (a := i) (b := (n : Int) - 4) (tgt := 883) hx hb d_law_23 (by decide) rfl rfl (by unfold i3; omega) (by unfold i3; omega) (fun c9 => ?_) (fun c9 => ?_)
  · refine lv_iconst (v := 1) hx hb d_law_883 (by decide) ?_
    refine va_forget (fun q hq => w.2.2.1.2.2 q hq) ?_
    exact lw_ret hx hb hr hlocks d_law_884
  have hi : 0 ≤ i ∧ i + 4 ≤ n := by omega
  have kk : ∀ (H' : Heap) (locs' : List Loc) (f' : Nat → va_E) (v' : Nat → Int) (F' : Nat → Nat → Int) (K' t1' t2' : Int) (S' : Nat → List Pt), JS cI cR rx ry ra h ar ci lo mo A f' v' F' K' t1' t2' S' → gw D (lwA s) s.heap H' locs' L f' → W p l e room_1 s m #[Value.ref b] below meth c H' locs' 600000 7302250 (lw_Z below #[Value.ref b] s) (F0 m 877 ls []) := by
    intro H' locs' f' v' F' K' t1' t2' S' J' w'
    refine lv_iinc (v := iN (i + 4)) (lv' := [(3, .int (iN (i + 4))), (2, .ref mo), (1, .ref h), (0, .ref b)]) hx hb d_law_877 hl (k := 0) rfl (by rw [← iN_add]; rfl) (by decide) rfl (fun ls hl => ?_)
    refine lv_goto (tgt := 18) hx hb d_law_880 (by decide) ?_
    exact ih (i + 4, f') _ _ _ (by (try dsimp only); omega) ⟨by (try dsimp only); omega, v', F', K', t1', t2', S', J'⟩ w' hl
  refine lv_aload_n hx hb d_law_26 rfl (lv_at hl 3 rfl) ?_
  refine lv_iload_n hx hb d_law_27 rfl (lv_at hl 0 rfl) ?_
  refine va_sld hx hb hX hbl hbA w.2.2.1 (i := iN i) (vin (by omega) (by omega) (by omega)) d_law_28 ?_
  refine lv_bipush (v := iN (31)) hx hb d_law_29 (by decide) ?_
  refine lv_iand hx hb d_law_31 ?_
  have ha := and31 (xs (iN i).toNatClampNeg)
  generalize (xs (iN i).toNatClampNeg &&& iN 31) = y at ha ⊢
  by_cases c0 : y.toInt = 0
  · refine lv_tableIn (off := 124) (tgt := 156) hx hb d_law_32 (by omega) (by omega) (by rw [c0]; rfl) (by decide) ?_
    exact lc_0 T J w hl hi kk
  by_cases c1 : y.toInt = 1
  · refine lv_tableIn (off := 135) (tgt := 167) hx hb d_law_32 (by omega) (by omega) (by rw [c1]; rfl) (by decide) ?_
    exact lc_1 T J w hl hi kk
  by_cases c2 : y.toInt = 2
  · refine lv_tableIn (off := 148) (tgt := 180) hx hb d_law_32 (by omega) (by omega) (by rw [c2]; rfl) (by decide) ?_
    exact lc_2 T J w hl hi kk
  by_cases c3 : y.toInt = 3
  · refine lv_tableIn (off := 191) (tgt := 223) hx hb d_law_32 (by omega) (by omega) (by rw [c3]; rfl) (by decide) ?_
    exact lc_3 T J w hl hi kk
  by_cases c4 : y.toInt = 4
  · refine lv_tableIn (off := 214) (tgt := 246) hx hb d_law_32 (by omega) (by omega) (by rw [c4]; rfl) (by decide) ?_
    exact lc_4 T J w hl hi kk
  by_cases c5 : y.toInt = 5
  · refine lv_tableIn (off := 237) (tgt := 269) hx hb d_law_32 (by omega) (by omega) (by rw [c5]; rfl) (by decide) ?_
    exact lc_5 T J w hl hi kk
  by_cases c6 : y.toInt = 6
  · refine lv_tableIn (off := 260) (tgt := 292) hx hb d_law_32 (by omega) (by omega) (by rw [c6]; rfl) (by decide) ?_
    exact lc_6 T J w hl hi kk
  by_cases c7 : y.toInt = 7
  · refine lv_tableIn (off := 293) (tgt := 325) hx hb d_law_32 (by omega) (by omega) (by rw [c7]; rfl) (by decide) ?_
    exact lc_7 T J w hl hi kk
  by_cases c8 : y.toInt = 8
  · refine lv_tableIn (off := 316) (tgt := 348) hx hb d_law_32 (by omega) (by omega) (by rw [c8]; rfl) (by decide) ?_
    exact lc_8 T J w hl hi kk
  by_cases c9 : y.toInt = 9
  · refine lv_tableIn (off := 339) (tgt := 371) hx hb d_law_32 (by omega) (by omega) (by rw [c9]; rfl) (by decide) ?_
    exact lc_9 T J w hl hi kk
  by_cases c10 : y.toInt = 10
  · refine lv_tableIn (off := 362) (tgt := 394) hx hb d_law_32 (by omega) (by omega) (by rw [c10]; rfl) (by decide) ?_
    exact lc_10 T J w hl hi kk
  by_cases c11 : y.toInt = 11
  · refine lv_tableIn (off := 385) (tgt := 417) hx hb d_law_32 (by omega) (by omega) (by rw [c11]; rfl) (by decide) ?_
    exact lc_11 T J w hl hi kk
  by_cases c12 : y.toInt = 12
  · refine lv_tableIn (off := 418) (tgt := 450) hx hb d_law_32 (by omega) (by omega) (by rw [c12]; rfl) (by decide) ?_
    exact lc_12 T J w hl hi kk
  by_cases c13 : y.toInt = 13
  · refine lv_tableIn (off := 441) (tgt := 473) hx hb d_law_32 (by omega) (by omega) (by rw [c13]; rfl) (by decide) ?_
    exact lc_13 T J w hl hi kk
  by_cases c14 : y.toInt = 14
  · refine lv_tableIn (off := 464) (tgt := 496) hx hb d_law_32 (by omega) (by omega) (by rw [c14]; rfl) (by decide) ?_
    exact lc_14 T J w hl hi kk
  by_cases c15 : y.toInt = 15
  · refine lv_tableIn (off := 497) (tgt := 529) hx hb d_law_32 (by omega) (by omega) (by rw [c15]; rfl) (by decide) ?_
    exact lc_15 T J w hl hi kk
  by_cases c16 : y.toInt = 16
  · refine lv_tableIn (off := 530) (tgt := 562) hx hb d_law_32 (by omega) (by omega) (by rw [c16]; rfl) (by decide) ?_
    exact lc_16 T J w hl hi kk
  by_cases c17 : y.toInt = 17
  · refine lv_tableIn (off := 553) (tgt := 585) hx hb d_law_32 (by omega) (by omega) (by rw [c17]; rfl) (by decide) ?_
    exact lc_17 T J w hl hi kk
  by_cases c18 : y.toInt = 18
  · refine lv_tableIn (off := 586) (tgt := 618) hx hb d_law_32 (by omega) (by omega) (by rw [c18]; rfl) (by decide) ?_
    exact lc_18 T J w hl hi kk
  by_cases c19 : y.toInt = 19
  · refine lv_tableIn (off := 619) (tgt := 651) hx hb d_law_32 (by omega) (by omega) (by rw [c19]; rfl) (by decide) ?_
    exact lc_19 T J w hl hi kk
  by_cases c20 : y.toInt = 20
  · refine lv_tableIn (off := 662) (tgt := 694) hx hb d_law_32 (by omega) (by omega) (by rw [c20]; rfl) (by decide) ?_
    exact lc_20 T J w hl hi kk
  by_cases c21 : y.toInt = 21
  · refine lv_tableIn (off := 705) (tgt := 737) hx hb d_law_32 (by omega) (by omega) (by rw [c21]; rfl) (by decide) ?_
    exact lc_21 T J w hl hi kk
  by_cases c22 : y.toInt = 22
  · refine lv_tableIn (off := 738) (tgt := 770) hx hb d_law_32 (by omega) (by omega) (by rw [c22]; rfl) (by decide) ?_
    exact lc_22 T J w hl hi kk
  by_cases c23 : y.toInt = 23
  · refine lv_tableIn (off := 761) (tgt := 793) hx hb d_law_32 (by omega) (by omega) (by rw [c23]; rfl) (by decide) ?_
    exact lc_23 T J w hl hi kk
  by_cases c24 : y.toInt = 24
  · refine lv_tableIn (off := 794) (tgt := 826) hx hb d_law_32 (by omega) (by omega) (by rw [c24]; rfl) (by decide) ?_
    exact lc_24 T J w hl hi kk
  by_cases c25 : y.toInt = 25
  · refine lv_tableIn (off := 808) (tgt := 840) hx hb d_law_32 (by omega) (by omega) (by rw [c25]; rfl) (by decide) ?_
    exact lc_25 T J w hl hi kk
  by_cases c26 : y.toInt = 26
  · refine lv_tableIn (off := 822) (tgt := 854) hx hb d_law_32 (by omega) (by omega) (by rw [c26]; rfl) (by decide) ?_
    exact lc_26 T J w hl hi kk
  refine lv_tableOut (tgt := 877) hx hb d_law_32 (Or.inr (by omega)) (by decide) ?_
  exact kk _ _ _ _ _ _ _ _ _ J w
set_option maxHeartbeats 4000000 in
set_option maxRecDepth 100000 in
theorem whole_start_open {p : Program} {e : Env} {s : State} {m : MethodId} {below : List Frame} {meth : Method} {c : Code} (l : Launch) {b n : Nat} {xs : Nat → Int32} (M : MTH) (hL : n ≤ 2048) (C0 : lw_At p s m meth c b n xs) : W p l e room_1 s m #[Value.ref b] below meth c s.heap [] 0 0 (lw_Z below #[Value.ref b] s) (entryFrame m ([Value.ref b] : List Value).toArray 4) := by
  obtain ⟨hx, hb, hr, hml, hown, hts, hX, hbl, hlocks, hgv⟩ := id C0
  have htg : ∀ w ∈ lw_g, w.before #[Value.ref b] s = true := fun w hw => hts w (List.mem_filter.mp hw).1
  obtain ⟨c0, iS0, hKn0⟩ := u_known (C := "HullSums") (T := T_H) (N := 10) (n := 10) htg in_H (htg _ ib_H)
  obtain ⟨c1, iS1, hKn1⟩ := u_known (C := "HullSums$Row") (T := T_R) (N := 3) (n := 3) htg in_R (htg _ ib_R)
  obtain ⟨c2, iS2, hKn2⟩ := u_known (C := "HullSums$Circle") (T := T_C) (N := 5) (n := 5) htg in_C (htg _ ib_C)
  obtain ⟨c3, iS3, hKn3⟩ := u_known (C := "HullSums$Lowest") (T := T_L) (N := 3) (n := 3) htg in_L (htg _ ib_L)
  obtain ⟨c4, iS4, hKn4⟩ := u_known (C := "HullSumsModel") (T := T_M) (N := 23) (n := 23) htg in_M (htg _ ib_M)
  obtain ⟨dC, dI, hKc⟩ : ∃ (dC : Nat → ClassId) (dI : Nat → Nat → Nat), ∀ (k : Nat) (q : vw_C), cls5[k]? = some q → u_Kn s q.1 q.2.1 q.2.2 (dC k) (dI k) := by
    refine ⟨fun k => if k = 0 then c0 else if k = 1 then c1 else if k = 2 then c2 else if k = 3 then c3 else c4, fun k => if k = 0 then iS0 else if k = 1 then iS1 else if k = 2 then iS2 else if k = 3 then iS3 else iS4, ?_⟩
    intro k q hq
    match k, hq with
    | 0, hq => cases hq; exact hKn0
    | 1, hq => cases hq; exact hKn1
    | 2, hq => cases hq; exact hKn2
    | 3, hq => cases hq; exact hKn3
    | 4, hq => cases hq; exact hKn4
    | k + 5, hq => simp [cls5] at hq
  obtain ⟨cI, kA, cpI, hf1, hk1, hkind1⟩ := Cond.arrayClass_spec (hts (.arrayClass .int) (List.mem_filter.mp ar_int).1)
  have hao := hts (.arrayOver (.object "HullSums$Row")) (by decide +kernel)
  obtain ⟨cpR, cR, kR, hf2, hidx, hk2, hkind2, hnm2⟩ := Cond.arrayOver_spec hao
  have hKty : ∀ (k : Nat) (q : ClassId × FieldType), (ty2 cI cR)[k]? = some q → ArrOfT s q.1 q.2 ∧ va_RA s q.1 q.2 := by
    intro k q hq
    match k, hq with
    | 0, hq => cases hq; exact ⟨fun n z => ⟨(fun k h => by cases h), kA, hk1, cpI, hkind1⟩, hf1⟩
    | 1, hq => cases hq; exact ⟨fun n z => ⟨(fun k h => by cases h), kR, hk2, cpR, hkind2⟩, kR, cpR, hk2, hkind2, hf2, hnm2⟩
    | k + 2, hq => simp [ty2] at hq
  have hgE : gE s := ⟨va_AO.of hao, va_Nw.of rfl (hts _ (by decide +kernel)), va_Nw.of rfl (hts _ (by decide +kernel))⟩
  have X : gx p m c code 4 s #[Value.ref b] "HullSumsLaw" (dC, dI) cI cR := ⟨⟨hx, hb, hml, hown, htg⟩, ⟨hKc, hKty⟩, hgE⟩
  have w : gw (dC, dI) (lwA s) s.heap s.heap [] [] (fun _ => .inr (0, [])) := ⟨fun k q hq => by simp [va_pl] at hq, ⟨fun i j p q hq => by simp [va_pl] at hq, fun k q hq => by simp [va_pl] at hq⟩, va_S.rf, fun _ hq => hq⟩
  have hl := lv_entry ([.ref b]) (n := 4) (Nat.le_of_ble_eq_true rfl)
  rw [lg_entry_eq]
  generalize (lg_sl ([.ref b]) ++ List.replicate (4 - (lg_sl ([.ref b])).length) Slot.unset).toArray = ls at hl ⊢
  have hl : lv_has ls 4 [(0, .ref b)] := hl
  refine gk_new X w in_H ty_H tyok_H lk_law_7 ib_H id_H (ci := 0) rfl [.null, .int 0, .long 0, .long 0, .null, .null, .null, .null, .null, .null] (by decide +kernel) (Nat.le_of_ble_eq_true rfl) (Nat.le_of_ble_eq_true rfl) d_law_0 (fun h H hh w => ?_)
  refine lv_dup hx hb d_law_3 rfl ?_
  refine g_cv w (g_runI (As := []) (rest := [.ref h]) X w (c_H_init l (L := [] ++ [h]) (a := h) (List.mem_append_right _ (List.mem_singleton.mpr rfl)) (va_up_self _ _ _)) k_H_init rfl im_H_init lk_law_9 ⟨(Nat.le_of_ble_eq_true rfl), (Nat.le_of_ble_eq_true rfl)⟩ rfl hl.1 rfl (Nat.le_of_ble_eq_true rfl) d_law_4 ⟨(Nat.le_of_ble_eq_true rfl), (Nat.le_of_ble_eq_true rfl)⟩) (fun u H locs hp w => ?_)
  obtain ⟨L1, g1, rx, ry, ra, ar, ci, lo, rfl, G1, hc1⟩ := hp
  have w : gw (dC, dI) (lwA s) s.heap H locs L1 g1 := w
  refine lv_astore_n (lv' := [(1, .ref h), (0, .ref b)]) hx hb d_law_7 rfl hl (by decide) rfl (fun ls hl => ?_)
  refine gk_new X w in_M ty_M tyok_M lk_law_10 ib_M id_M (ci := 4) rfl [.int 0, .int 0, .null, .null, .null, .null, .null, .int 0, .null, .null, .int 0, .long 0, .long 0, .long 0, .long 0, .long 0, .long 0, .long 0, .long 0, .long 0, .long 0, .long 0, .long 0] (by decide +kernel) (Nat.le_of_ble_eq_true rfl) (Nat.le_of_ble_eq_true rfl) d_law_8 (fun mo H hmo w => ?_)
  refine lv_dup hx hb d_law_11 rfl ?_
  refine g_cv w (g_runI (As := []) (rest := [.ref mo]) X w (c_M_init l (L := L1 ++ [mo]) (a := mo) (List.mem_append_right _ (List.mem_singleton.mpr rfl)) (va_up_self _ _ _)) k_M_init rfl im_M_init lk_law_12 ⟨(Nat.le_of_ble_eq_true rfl), (Nat.le_of_ble_eq_true rfl)⟩ rfl hl.1 rfl (Nat.le_of_ble_eq_true rfl) d_law_12 ⟨(Nat.le_of_ble_eq_true rfl), (Nat.le_of_ble_eq_true rfl)⟩) (fun u H locs hp w => ?_)
  obtain ⟨A, v, F, L3, rfl, g0, hs3, hnA, q0, q1, q11, q12⟩ := hp
  refine lv_astore_n (lv' := [(2, .ref mo), (1, .ref h), (0, .ref b)]) hx hb d_law_15 rfl hl (by decide) rfl (fun ls hl => ?_)
  refine lv_iconst (v := iN (0)) hx hb d_law_16 (by decide) ?_
  refine lv_istore_n (lv' := [(3, .int (iN (0))), (2, .ref mo), (1, .ref h), (0, .ref b)]) hx hb d_law_17 rfl hl (by decide) rfl (fun ls hl => ?_)
  have G : geo L3 rx ry ra h ar ci lo := geo_mono G1 (fun q hq => hs3 q (List.mem_append_left _ hq))
  have d0 : dj rx ry ra h ar ci lo mo A := by
    intro q hq
    have hqL := geo_in G1 hq
    have hq3 : ∀ k, k ∈ [2, 3, 4, 5, 6, 8, 9] → q ≠ A k := fun k hk e9 => hnA k hk (e9 ▸ List.mem_append_left _ hqL)
    exact ⟨fun e9 => hmo (e9 ▸ hqL), hq3 2 (by decide), hq3 3 (by decide), hq3 4 (by decide), hq3 5 (by decide), hq3 6 (by decide), hq3 8 (by decide), hq3 9 (by decide)⟩
  obtain ⟨f3, ef3⟩ : ∃ z, z = mSt cI mo A (va_up g1 mo (.inr (4, [.int 0, .int 0, .null, .null, .null, .null, .null, .int 0, .null, .null, .int 0, .long 0, .long 0, .long 0, .long 0, .long 0, .long 0, .long 0, .long 0, .long 0, .long 0, .long 0, .long 0]))) v F := ⟨_, rfl⟩
  have w : gw (dC, dI) (lwA s) s.heap H locs L3 f3 := by rw [ef3]; exact w
  have J : JS cI cR rx ry ra h ar ci lo mo A f3 v F 0 0 1 (fun _ => []) := by
    refine ⟨by rw [ef3]; exact mS_idem g0, cls_congr hc1 (fun q hq => ?_), ⟨q0, q1, by decide, by decide, fun i hi => by omega⟩, q11, q12, fun i hi => by omega⟩
    obtain ⟨a, b2, b3, b4, b5, b6, b8, b9⟩ := d0 q hq
    rw [ef3, mS_o a b2 b3 b4 b5 b6 b8 b9, va_up_ne _ _ a]
  refine W.widen (k := 600000) (n := 7302250) (by simp) (by simp) ?_
  exact law_loop hr hlocks ⟨X, hX, hbl, G, g0, d0, hL, M⟩ J w hl
