/-- the table's words that stay through calls; beside them three that stay in another way -/
def lw_g : List Cond := lw_tbl.filter goodWord
theorem gd_g : ∀ w ∈ lw_g, ((w.onTables && w.keeps) = true ∨ ∃ ty, w = .arrayClass ty) := fun w hw => good_of_word (List.mem_filter.mp hw).2
def ty2 (cI cR : ClassId) : List (ClassId × FieldType) := [(cI, .int), (cR, .object "HullSums$Row")]
def gE (U : State) : Prop := va_AO "HullSums$Row" U ∧ va_Nw (.methodLinkNest "HullSums$Row" 29 y_H_isNear "HullSums") U ∧ va_Nw (.methodLinkNest "HullSums$Row" 91 y_H_commonDivisor "HullSums") U
theorem gE_same {u U : State} (h : u.vm = U.vm) (q : gE u) : gE U := ⟨va_AO.moved (by rw [h]; exact Vm.Alike.refl _) q.1, va_tabs rfl h q.2.1, va_tabs rfl h q.2.2⟩
theorem gE_warm {s U : State} (hW : s.WarmedH U.vm) (q : gE s) : gE U := ⟨va_AO.moved hW.alike q.1, va_Nw.warmM hW q.2.1, va_Nw.warmM hW q.2.2⟩
/-! MY ROWS OVER ONE POOL: the world is the cells at the addresses L, f says what each holds; a method is a step from f to g. -/
/-- what stays the same through a walk: the machine, the code, the table's words, the classes -/
def gx (p : Program) (m : MethodId) (c : Code) (cc : ByteArray) (nL : Nat) (s : State) (args : Array Value) (own : String) (D : va_G) (cI cR : ClassId) : Prop :=
  CallFix p m c cc nL s args lw_g own ∧ va_K D cls5 (ty2 cI cR) s ∧ gE s
/-- the world now -/
def gw (D : va_G) (A : Nat → Prop) (H0 H : Heap) (locs : List Loc) (L : List Nat) (f : Nat → va_E) : Prop :=
  va_P D cls5 (va_pl L f) H ∧ va_D A (va_pl L f) ∧ va_S A H0 H locs ∧ ∀ q, H0.size ≤ q → A q
def gA (L : List Nat) (sz : Nat) : Nat → Prop := fun q => q ∈ L ∨ sz ≤ q
def gP (D : va_G) (cI cR : ClassId) (L : List Nat) (f : Nat → va_E) (sz : Nat) : State → Prop := fun U => U.heap.size = sz ∧ va_P D cls5 (va_pl L f) U.heap ∧ va_K D cls5 (ty2 cI cR) U ∧ va_D (fun _ => True) (va_pl L f) ∧ gE U
def gB (D : va_G) (cI cR : ClassId) (A : Nat → Prop) (u : List Nat × (Nat → va_E)) : State → Prop := fun t => va_P D cls5 (va_pl u.1 u.2) t.heap ∧ va_K D cls5 (ty2 cI cR) t ∧ va_D A (va_pl u.1 u.2)
/-- contracts: av the arguments, L f the world before; post the answer and the world behind (its addresses, what they hold) -/
def gMi (D : va_G) (cI cR : ClassId) (l : Launch) (y : MethodName) (ws : List Cond) (rm : Room) (av : List Value) (L : List Nat) (f : Nat → va_E) (post : Int32 → List Nat × (Nat → va_E) → Prop) : Prop :=
  ∀ sz, Met l y ws rm (va_Pc av (gP D cI cR L f sz)) (va_Qi post (gB D cI cR (gA L sz)) (gA L sz)) rm.cells rm.slots (gA L sz)
def gMl (D : va_G) (cI cR : ClassId) (l : Launch) (y : MethodName) (ws : List Cond) (rm : Room) (av : List Value) (L : List Nat) (f : Nat → va_E) (post : Int64 → List Nat × (Nat → va_E) → Prop) : Prop :=
  ∀ sz, Met l y ws rm (va_Pc av (gP D cI cR L f sz)) (va_Ql post (gB D cI cR (gA L sz)) (gA L sz)) rm.cells rm.slots (gA L sz)
def gMv (D : va_G) (cI cR : ClassId) (l : Launch) (y : MethodName) (ws : List Cond) (rm : Room) (av : List Value) (L : List Nat) (f : Nat → va_E) (post : List Nat × (Nat → va_E) → Prop) : Prop :=
  ∀ sz, Met l y ws rm (va_Pc av (gP D cI cR L f sz)) (va_Qv post (gB D cI cR (gA L sz)) (gA L sz)) rm.cells rm.slots (gA L sz)
def gMq (D : va_G) (cI cR : ClassId) (l : Launch) (y : MethodName) (ws : List Cond) (rm : Room) (av : List Value) (L : List Nat) (f : Nat → va_E) (post : Option Nat → List Nat × (Nat → va_E) → Prop) : Prop :=
  ∀ sz, Met l y ws rm (va_Pc av (gP D cI cR L f sz)) (va_Qq post (gB D cI cR (gA L sz)) (gA L sz)) rm.cells rm.slots (gA L sz)
theorem ga_A {L : List Nat} {f : Nat → va_E} {sz : Nat} : va_A (va_pl L f) sz = gA L sz := by
  funext q
  refine propext ⟨fun h => ?_, fun h => ?_⟩
  · rcases h with ⟨k, e, hk⟩ | h
    · refine Or.inl ?_
      have h1 := List.mem_of_getElem? hk
      obtain ⟨a, ha, he⟩ := List.mem_map.mp h1
      cases he
      exact ha
    · exact Or.inr h
  · rcases h with h | h
    · obtain ⟨k, hk⟩ := va_pl_get (X := []) (f := f) h
      exact Or.inl ⟨k, _, hk⟩
    · exact Or.inr h
theorem gp_blind {D : va_G} {cI cR : ClassId} {L : List Nat} {f : Nat → va_E} {sz : Nat} {av : List Value} : FrameBlind (va_Pc av (gP D cI cR L f sz)) := by
  intro a U g mk q
  obtain ⟨q0, q1, qP, qK, qD, qE⟩ := q
  exact ⟨q0, q1, qP, va_K.moved (u := U) (U := U.calling g mk a) (Vm.Alike.refl U.vm) qK, qD, gE_same (u := U) (U := U.calling g mk a) rfl qE⟩
section GR
variable {p : Program} {l : Launch} {e : Env} {R : Room} {s : State} {m : MethodId} {args : Array Value} {below : List Frame} {meth : Method} {c : Code} {H : Heap} {locs : List Loc} {cells slots : Nat} {Q : State → Prop}
variable {cc : ByteArray} {pc nL : Nat} {ls : Array Slot} {rest : List Value} {D : va_G} {A : Nat → Prop} {a : Nat} {cI cR : ClassId} {L : List Nat} {f : Nat → va_E} {H0 : Heap} {own : String}
theorem gw_in (w : gw D A H0 H locs L f) : ∀ q, gA L H.size q → A q := by
  intro q h
  rcases h with h | h
  · obtain ⟨k, hk⟩ := va_pl_get (X := []) (f := f) h
    exact w.2.1.2 k _ hk
  · exact w.2.2.2 q (Nat.le_trans w.2.2.1.1 h)
theorem gw_pos (h : a ∈ L) : ∃ k : Nat, (va_pl L f)[k]? = some (a, f a) := by
  obtain ⟨k, hk⟩ := va_pl_get (X := []) (f := f) h
  exact ⟨k, hk⟩
theorem gw_set {k : Nat} {e' : va_E} (w : gw D A H0 H locs L f) (h : a ∈ L) (hk : (va_pl L f)[k]? = some (a, f a)) : (va_pl L f).set k (a, e') = va_pl L (va_up f a e') :=
  va_pl_set (X := []) (A := A) w.2.1 h hk
/-- getfield -/
theorem gk_get (X : gx p m c cc nL s args own D cI cR) (w : gw D A H0 H locs L f) {C : String} {T : u_T} {N ci index : Nat} {fs : List Value} (ha : a ∈ L) (he : f a = .inr (ci, fs)) (hc : cls5[ci]? = some (C, T, N)) (hin : ∀ w ∈ u_ws C T N, w ∈ lw_g) (k : Nat) (hk : k < N) (hlink : Cond.fieldLink own index (T k).1 (T k).2.1 (T k).2.2.1 ∈ lw_g) {v : Value} (hv : fs[k]? = some v) (hdg : decode cc pc = .ok (.getfield index, 3))
    (kk : W p l e R s m args below meth c H locs cells slots Q (F0 m (pc + 3) ls (v :: rest))) : W p l e R s m args below meth c H locs cells slots Q (F0 m pc ls (.ref a :: rest)) := by
  obtain ⟨q0, hq⟩ := gw_pos (f := f) ha
  rw [he] at hq
  exact va_get X.1.1 X.1.2.1 X.1.2.2.2.2 hin X.1.2.2.2.1 X.2.1 w.1 q0 hq hc k hk (X.1.2.2.2.2 _ hlink) (fun _ h => h) hv hdg kk
/-- putfield -/
theorem gk_put (X : gx p m c cc nL s args own D cI cR) (w : gw D A H0 H locs L f) {C : String} {T : u_T} {N ci index : Nat} {fs : List Value} (ha : a ∈ L) (he : f a = .inr (ci, fs)) (hc : cls5[ci]? = some (C, T, N)) (hin : ∀ w ∈ u_ws C T N, w ∈ lw_g) (ty0 : Nat → FieldType) (hty : ∀ k, k < N → parseFieldDescriptor (T k).2.2.1 = some (ty0 k)) (hnm : ∀ a, a < N → ∀ b, b < N → a ≠ b → (T a).2.1 ≠ (T b).2.1) (k : Nat) (hk : k < N) (hlink : Cond.fieldLink own index (T k).1 (T k).2.1 (T k).2.2.1 ∈ lw_g) (hfin : (T k).2.2.2 = false) {ty : FieldType} {v : Value} (hd : parseFieldDescriptor (T k).2.2.1 = some ty) (hn : narrow ty v = v) (hfit : fits ty v = true) (hl : k < fs.length) (hdg : decode cc pc = .ok (.putfield index, 3))
    (kk : ∀ (H1 : Heap) (locs1 : List Loc), gw D A H0 H1 locs1 L (va_up f a (.inr (ci, fs.set k v))) → W p l e R s m args below meth c H1 locs1 cells slots Q (F0 m (pc + 3) ls rest)) : W p l e R s m args below meth c H locs cells slots Q (F0 m pc ls (v :: .ref a :: rest)) := by
  obtain ⟨q0, hq⟩ := gw_pos (f := f) ha
  have hq' := hq
  rw [he] at hq
  refine va_put X.1.1 X.1.2.1 X.1.2.2.2.2 hin ty0 hty hnm X.1.2.2.2.1 X.2.1 w.1 w.2.1 w.2.2.1 q0 hq hc k hk (X.1.2.2.2.2 _ hlink) (fun _ h => h) hfin hd hn hfit hl hdg (fun H1 locs1 hP hD hS => kk H1 locs1 ?_)
  rw [gw_set w ha hq'] at hP hD
  exact ⟨hP, hD, hS, w.2.2.2⟩
theorem gk_putF (X : gx p m c cc nL s args own D cI cR) (w : gw D A H0 H locs L f) {C : String} {T : u_T} {N ci index : Nat} {fs : List Value} (ha : a ∈ L) (he : f a = .inr (ci, fs)) (hc : cls5[ci]? = some (C, T, N)) (hin : ∀ w ∈ u_ws C T N, w ∈ lw_g) (ty0 : Nat → FieldType) (hty : ∀ k, k < N → parseFieldDescriptor (T k).2.2.1 = some (ty0 k)) (hnm : ∀ a, a < N → ∀ b, b < N → a ≠ b → (T a).2.1 ≠ (T b).2.1) (k : Nat) (hk : k < N) (hlink : Cond.fieldLink own index (T k).1 (T k).2.1 (T k).2.2.1 ∈ lw_g) (hfin : (T k).2.2.2 = true) (hin2 : meth.name = "<init>") (hdecl : (T k).1 = own) {ty : FieldType} {v : Value} (hd : parseFieldDescriptor (T k).2.2.1 = some ty) (hn : narrow ty v = v) (hfit : fits ty v = true) (hl : k < fs.length) (hdg : decode cc pc = .ok (.putfield index, 3))
    (kk : ∀ (H1 : Heap) (locs1 : List Loc), gw D A H0 H1 locs1 L (va_up f a (.inr (ci, fs.set k v))) → W p l e R s m args below meth c H1 locs1 cells slots Q (F0 m (pc + 3) ls rest)) : W p l e R s m args below meth c H locs cells slots Q (F0 m pc ls (v :: .ref a :: rest)) := by
  obtain ⟨q0, hq⟩ := gw_pos (f := f) ha
  have hq' := hq
  rw [he] at hq
  refine va_putF X.1.1 X.1.2.1 X.1.2.2.2.2 hin ty0 hty hnm X.1.2.2.2.1 X.2.1 w.1 w.2.1 w.2.2.1 q0 hq hc k hk (X.1.2.2.2.2 _ hlink) (fun _ h => h) hfin hin2 hdecl hd hn hfit hl hdg (fun H1 locs1 hP hD hS => kk H1 locs1 ?_)
  rw [gw_set w ha hq'] at hP hD
  exact ⟨hP, hD, hS, w.2.2.2⟩
/-- iaload -/
theorem gk_iald (X : gx p m c cc nL s args own D cI cR) (w : gw D A H0 H locs L f) (t0 : Nat) {cA : ClassId} {n : Nat} {F : Nat → Int32} (ha : a ∈ L) (he : f a = .inl (cA, n, .inl F)) (ht : (ty2 cI cR)[t0]? = some (cA, .int)) {i : Int32} (hin : vp_in i n) (hdg : decode cc pc = .ok (.iaload, 1))
    (kk : W p l e R s m args below meth c H locs cells slots Q (F0 m (pc + 1) ls (.int (F i.toNatClampNeg) :: rest))) : W p l e R s m args below meth c H locs cells slots Q (F0 m pc ls (.int i :: .ref a :: rest)) := by
  obtain ⟨q0, hq⟩ := gw_pos (f := f) ha
  rw [he] at hq
  exact va_iald X.1.1 X.1.2.1 X.2.1 w.1 q0 t0 hq ht hin hdg kk
/-- iastore -/
theorem gk_iast (X : gx p m c cc nL s args own D cI cR) (w : gw D A H0 H locs L f) (t0 : Nat) {cA : ClassId} {n : Nat} {F : Nat → Int32} (ha : a ∈ L) (he : f a = .inl (cA, n, .inl F)) (ht : (ty2 cI cR)[t0]? = some (cA, .int)) {i : Int32} {x : Int32} (hin : vp_in i n) (hdg : decode cc pc = .ok (.iastore, 1))
    (kk : ∀ (H1 : Heap) (locs1 : List Loc), gw D A H0 H1 locs1 L (va_up f a (.inl (cA, n, .inl (upd F i.toNatClampNeg x)))) → W p l e R s m args below meth c H1 locs1 cells slots Q (F0 m (pc + 1) ls rest)) : W p l e R s m args below meth c H locs cells slots Q (F0 m pc ls (.int x :: .int i :: .ref a :: rest)) := by
  obtain ⟨q0, hq⟩ := gw_pos (f := f) ha
  have hq' := hq
  rw [he] at hq
  refine va_iast X.1.1 X.1.2.1 X.2.1 w.1 w.2.1 w.2.2.1 q0 t0 hq ht hin hdg (fun H1 locs1 hP hD hS => kk H1 locs1 ?_)
  rw [gw_set w ha hq'] at hP hD
  exact ⟨hP, hD, hS, w.2.2.2⟩
/-- arraylength -/
theorem gk_alen (X : gx p m c cc nL s args own D cI cR) (w : gw D A H0 H locs L f) (t0 : Nat) {cA : ClassId} {x : vp_A} (ha : a ∈ L) (he : f a = .inl (cA, x)) {ty : FieldType} (ht : (ty2 cI cR)[t0]? = some (cA, ty)) {v : Int32} (hv : Int32.ofNat x.1 = v) (hdg : decode cc pc = .ok (.arraylength, 1))
    (kk : W p l e R s m args below meth c H locs cells slots Q (F0 m (pc + 1) ls (.int v :: rest))) : W p l e R s m args below meth c H locs cells slots Q (F0 m pc ls (.ref a :: rest)) := by
  obtain ⟨q0, hq⟩ := gw_pos (f := f) ha
  rw [he] at hq
  exact va_alen X.1.1 X.1.2.1 X.2.1 w.1 q0 t0 hq ht hv hdg kk
/-- aaload -/
theorem gk_aald (X : gx p m c cc nL s args own D cI cR) (w : gw D A H0 H locs L f) (t0 : Nat) {cA : ClassId} {C : String} {n : Nat} {F : Nat → Option Nat} (ha : a ∈ L) (he : f a = .inl (cA, n, .inr (.inr (.inr (.inr F))))) (ht : (ty2 cI cR)[t0]? = some (cA, .object C)) {i : Int32} (hin : vp_in i n) (hdg : decode cc pc = .ok (.aaload, 1))
    (kk : W p l e R s m args below meth c H locs cells slots Q (F0 m (pc + 1) ls (va_rf (F i.toNatClampNeg) :: rest))) : W p l e R s m args below meth c H locs cells slots Q (F0 m pc ls (.int i :: .ref a :: rest)) := by
  obtain ⟨q0, hq⟩ := gw_pos (f := f) ha
  rw [he] at hq
  exact va_aldq X.1.1 X.1.2.1 X.2.1 w.1 q0 t0 hq ht hin hdg kk
/-- aastore of an object -/
theorem gk_aast (X : gx p m c cc nL s args own D cI cR) (w : gw D A H0 H locs L f) (t0 ci : Nat) {cA : ClassId} {r : vw_C} {n v : Nat} {vs : List Value} {F : Nat → Option Nat} (ha : a ∈ L) (he : f a = .inl (cA, n, .inr (.inr (.inr (.inr F))))) (ht : (ty2 cI cR)[t0]? = some (cA, .object r.1)) (hv : v ∈ L) (hve : f v = .inr (ci, vs)) (hc : cls5[ci]? = some r) {i : Int32} (hin : vp_in i n) (hdg : decode cc pc = .ok (.aastore, 1))
    (kk : ∀ (H1 : Heap) (locs1 : List Loc), gw D A H0 H1 locs1 L (va_up f a (.inl (cA, n, .inr (.inr (.inr (.inr (va_up F i.toNatClampNeg (some v)))))))) → W p l e R s m args below meth c H1 locs1 cells slots Q (F0 m (pc + 1) ls rest)) : W p l e R s m args below meth c H locs cells slots Q (F0 m pc ls (.ref v :: .int i :: .ref a :: rest)) := by
  obtain ⟨q0, hq⟩ := gw_pos (f := f) ha
  obtain ⟨q1, hq1⟩ := gw_pos (f := f) hv
  have hq' := hq
  rw [he] at hq
  rw [hve] at hq1
  refine va_astq X.1.1 X.1.2.1 X.2.1 w.1 w.2.1 w.2.2.1 q0 t0 q1 ci hq ht hq1 hc hin hdg (fun H1 locs1 hP hD hS => kk H1 locs1 ?_)
  rw [gw_set w ha hq'] at hP hD
  exact ⟨hP, hD, hS, w.2.2.2⟩
end GR
section GC
variable {p : Program} {l : Launch} {e : Env} {R : Room} {s : State} {m : MethodId} {args : Array Value} {below : List Frame} {meth : Method} {c : Code} {H : Heap} {locs : List Loc} {cells slots : Nat} {Q : State → Prop}
variable {cc : ByteArray} {pc nL : Nat} {ls : Array Slot} {rest st0 : List Value} {D : va_G} {A : Nat → Prop} {a : Nat} {cI cR : ClassId} {L : List Nat} {f : Nat → va_E} {H0 : Heap} {own : String}
variable {y : MethodName} {rm : Room} {bytes : ByteArray} {maxL n index : Nat} {ret : Option FieldType} {b : Nat} {As : List Value}
/-- what the table says of a method, its class and code; of one that is called on an object; of a static one -/
def gY (y : MethodName) (bytes : ByteArray) (maxL : Nat) (ret : Option FieldType) (n : Nat) : Prop :=
  Cond.code y bytes maxL ret ∈ lw_g ∧ Cond.initialized y.cls ∈ lw_g ∧ (y.cls ≠ "java/lang/invoke/MethodHandle" ∧ y.cls ≠ "java/lang/invoke/VarHandle" ∧ (parseMethodDescriptor y.desc).map (fun d => d.parameters.length) = some n)
def gYv (y : MethodName) : Prop := Cond.instanceMethod y ∈ lw_g ∧ Cond.selects y.cls y y ∈ lw_g
theorem gY_good (yk : gY y bytes maxL ret n) : GoodIn lw_g (Cond.code y bytes maxL ret :: lw_g) := by
  intro w hw
  rcases List.mem_cons.mp hw with h | h
  · subst h; exact ⟨yk.1, gd_g _ yk.1⟩
  · exact ⟨h, gd_g _ h⟩
/-- a method's walk from its entry -/
theorem g_enter {av : List Value} {sz mc ms : Nat} {Qc : Array Value → State → Outcome → State → Prop} {ws : List Cond} (hy : plainName y.cls = true) (hw : ws = Cond.code y cc maxL ret :: lw_g) (hlen : (lg_sl av).length ≤ maxL)
    (body : ∀ (p : Program) (e : Env) (s : State) (m : MethodId) (below : List Frame) (meth : Method) (c : Code) (ls : Array Slot), gx p m c cc maxL s av.toArray y.cls D cI cR → meth.sig.returnType = ret → meth.locks = false → meth.name = y.name → lv_has ls maxL (lv_args 0 av) → s.heap.size = sz → gw D (gA L sz) s.heap s.heap [] L f → W p l e rm s m av.toArray below meth c s.heap [] 0 0 (MQ below Qc av.toArray s mc ms (gA L sz)) (F0 m 0 ls [])) : Met l y ws rm (va_Pc av (gP D cI cR L f sz)) Qc mc ms (gA L sz) := by
  refine Met.ofW (cc := cc) (maxL := maxL) (ret := ret) hy hw ?_
  intro p e s m args below meth c s₁ B hml hv
  obtain ⟨rfl, hsz, hP, hK, hD0, hE⟩ := hv
  have hts := atoms_spec (ws := ws) B.pre
  have hown := findClass_of_methodNamed B.named
  have hl := lv_entry av (n := maxL) hlen
  rw [lg_entry_eq]
  refine body p e s m below meth c _ ⟨⟨B.exec, B.bytes, hml, hown, fun w h => hts w (by rw [hw]; exact List.mem_cons_of_mem _ h)⟩, hK, hE⟩ B.returns B.notSynchronized (name_of_methodNamed B.named B.method).1 hl hsz ⟨hP, ?_, va_S.rf, fun q h => Or.inr (by rw [← hsz]; exact h)⟩
  have h := hD0.self (sz := sz)
  rw [ga_A] at h
  exact h
theorem g_iret {r : Int32} {g : Nat → va_E} {post : Int32 → List Nat × (Nat → va_E) → Prop} (X : gx p m c cc nL s args own D cI cR) (w : gw D A s.heap H locs L g) (hr : meth.sig.returnType = some .int) (hlocks : meth.locks = false) (hdg : decode cc pc = .ok (.ireturn, 1)) (hq : post r (L, g)) : W p l e R s m args below meth c H locs cells slots (MQ below (va_Qi post (gB D cI cR A) A) args s cells slots A) (F0 m pc ls [.int r]) :=
  W.iret X.1.1 X.1.2.1 hr (fun t ht hW => ⟨⟨r, (L, g), rfl, hq, by rw [ht]; exact w.1, va_K.moved hW.alike X.2.1, w.2.1⟩, w.2.2.1.F ht⟩) w.2.2.1.2.2 hdg hlocks
theorem g_zret {r : Int32} {g : Nat → va_E} {post : Int32 → List Nat × (Nat → va_E) → Prop} {ty : FieldType} (X : gx p m c cc nL s args own D cI cR) (w : gw D A s.heap H locs L g) (hr : meth.sig.returnType = some ty) (hlocks : meth.locks = false) (hdg : decode cc pc = .ok (.ireturn, 1)) (hn : narrow ty (.int r) = .int r) (hq : post r (L, g)) : W p l e R s m args below meth c H locs cells slots (MQ below (va_Qi post (gB D cI cR A) A) args s cells slots A) (F0 m pc ls [.int r]) :=
  W.zret X.1.1 X.1.2.1 hr hn (fun t ht hW => ⟨⟨r, (L, g), rfl, hq, by rw [ht]; exact w.1, va_K.moved hW.alike X.2.1, w.2.1⟩, w.2.2.1.F ht⟩) w.2.2.1.2.2 hdg hlocks
theorem g_lret {r : Int64} {g : Nat → va_E} {post : Int64 → List Nat × (Nat → va_E) → Prop} (X : gx p m c cc nL s args own D cI cR) (w : gw D A s.heap H locs L g) (hr : meth.sig.returnType = some .long) (hlocks : meth.locks = false) (hdg : decode cc pc = .ok (.lreturn, 1)) (hq : post r (L, g)) : W p l e R s m args below meth c H locs cells slots (MQ below (va_Ql post (gB D cI cR A) A) args s cells slots A) (F0 m pc ls [.long r]) :=
  W.lret X.1.1 X.1.2.1 hr (fun t ht hW => ⟨⟨r, (L, g), rfl, hq, by rw [ht]; exact w.1, va_K.moved hW.alike X.2.1, w.2.1⟩, w.2.2.1.F ht⟩) w.2.2.1.2.2 hdg hlocks
theorem g_vret {g : Nat → va_E} {post : List Nat × (Nat → va_E) → Prop} (X : gx p m c cc nL s args own D cI cR) (w : gw D A s.heap H locs L g) (hr : meth.sig.returnType = none) (hlocks : meth.locks = false) (hdg : decode cc pc = .ok (.return_, 1)) (hq : post (L, g)) : W p l e R s m args below meth c H locs cells slots (MQ below (va_Qv post (gB D cI cR A) A) args s cells slots A) (F0 m pc ls []) :=
  W.vret X.1.1 X.1.2.1 hr (fun t ht hW => ⟨⟨(L, g), rfl, hq, by rw [ht]; exact w.1, va_K.moved hW.alike X.2.1, w.2.1⟩, w.2.2.1.F ht⟩) w.2.2.1.2.2 hdg hlocks
theorem g_qret {r : Option Nat} {g : Nat → va_E} {post : Option Nat → List Nat × (Nat → va_E) → Prop} {rt : FieldType} (X : gx p m c cc nL s args own D cI cR) (w : gw D A s.heap H locs L g) (hr : meth.sig.returnType = some rt) (hrt : (∃ n, rt = .object n) ∨ ∃ t, rt = .array t) (hlocks : meth.locks = false) (hdg : decode cc pc = .ok (.areturn, 1)) (hq : post r (L, g)) : W p l e R s m args below meth c H locs cells slots (MQ below (va_Qq post (gB D cI cR A) A) args s cells slots A) (F0 m pc ls [va_rf r]) :=
  W.aret X.1.1 X.1.2.1 hr hrt (by cases r with | none => exact Or.inl rfl | some q => exact Or.inr ⟨q, rfl⟩) (fun t ht hW => ⟨⟨r, (L, g), rfl, hq, by rw [ht]; exact w.1, va_K.moved hW.alike X.2.1, w.2.1⟩, w.2.2.1.F ht⟩) w.2.2.1.2.2 hdg hlocks
/-- calls: the run -/
theorem g_pre (X : gx p m c cc nL s args own D cI cR) (w : gw D A H0 H locs L f) (av : List Value) : PreS s H (va_Pc av (gP D cI cR L f H.size)) av :=
  ⟨gp_blind, fun U hU hW => ⟨rfl, by rw [hU], by rw [hU]; exact w.1, va_K.moved hW.alike X.2.1, w.2.1.weaken (fun _ _ _ _ => trivial), gE_warm hW X.2.2⟩⟩
theorem g_runV {Qc : Nat → Array Value → State → Outcome → State → Prop} (X : gx p m c cc nL s args own D cI cR) (w : gw D A H0 H locs L f) (hM : ∀ sz, Met l y (Cond.code y bytes maxL ret :: lw_g) rm (va_Pc (.ref b :: As) (gP D cI cR L f sz)) (Qc sz) rm.cells rm.slots (gA L sz)) (yk : gY y bytes maxL ret n) (yv : gYv y) (hlk : Cond.methodLink own index y ∈ lw_g) {ci N : Nat} {T : u_T} {fs : List Value} (hb : b ∈ L) (he : f b = .inr (ci, fs)) (hc : cls5[ci]? = some (y.cls, T, N)) (hR : rm.frames + 1 ≤ R.frames ∧ 8 + (maxL + 11) + rm.locals ≤ R.locals) (hn : As.length = n) (hsize : ls.size = nL) (hst : st0 = As.reverse ++ .ref b :: rest) (hroom : (rest.map fun v => v.category).sum ≤ 8) (hdg : decode cc pc = .ok (.invokevirtual index, 3)) (hcs : cells + rm.cells ≤ R.cells ∧ slots + rm.slots ≤ R.slots) :
    va_Run p l e R s m args below meth c H locs cells slots rm.cells rm.slots (F0 m pc ls st0) rest (Qc H.size (Value.ref b :: As).toArray) (gA L H.size) := by
  have hG : GoodIn lw_g (wsV own index y.cls y (Cond.code y bytes maxL ret :: lw_g)) := by
    intro w hw
    rcases List.mem_append.mp hw with h | h
    · have hm : w ∈ lw_g := by
        simp only [List.mem_cons, List.not_mem_nil, or_false] at h
        rcases h with h | h | h | h <;> subst h
        · exact hlk
        · exact yv.1
        · exact yv.2
        · exact yk.2.1
      exact ⟨hm, gd_g _ hm⟩
    · exact gY_good yk w h
  obtain ⟨q0, hq⟩ := gw_pos (f := f) hb
  rw [he] at hq
  exact va_runV X.1 (hM H.size) (cwV n X.1.2.2.2.2 hG rfl rfl rfl ⟨rfl, yk.2.2⟩ hR) ⟨(g_pre X w _).1, va_recv X.2.1 w.1 hc hq, (g_pre X w _).2⟩ rfl hn hsize hst (lv_room hroom) hdg hcs
theorem g_runS {Qc : Nat → Array Value → State → Outcome → State → Prop} (X : gx p m c cc nL s args own D cI cR) (w : gw D A H0 H locs L f) (hM : ∀ sz, Met l y (Cond.code y bytes maxL ret :: lw_g) rm (va_Pc As (gP D cI cR L f sz)) (Qc sz) rm.cells rm.slots (gA L sz)) (yk : gY y bytes maxL ret n) (hlk : Cond.methodLink own index y ∈ lw_g) (hs : Cond.static y ∈ lw_g) (hR : rm.frames + 1 ≤ R.frames ∧ 8 + (maxL + 11) + rm.locals ≤ R.locals) (hn : As.length = n) (hsize : ls.size = nL) (hst : st0 = As.reverse ++ rest) (hroom : (rest.map fun v => v.category).sum ≤ 8) (hdg : decode cc pc = .ok (.invokestatic index, 3)) (hcs : cells + rm.cells ≤ R.cells ∧ slots + rm.slots ≤ R.slots) :
    va_Run p l e R s m args below meth c H locs cells slots rm.cells rm.slots (F0 m pc ls st0) rest (Qc H.size As.toArray) (gA L H.size) := by
  have hts := X.1.2.2.2.2
  exact va_runS X.1 (hM H.size) ⟨callB_of n hts (gY_good yk) rfl rfl rfl (hts _ yk.2.1) (hts _ hlk) yk.2.2 hR, hts _ hs⟩ (g_pre X w _) rfl hn hsize hst (lv_room hroom) hdg hcs
theorem g_runSN {Qc : Nat → Array Value → State → Outcome → State → Prop} {host : String} (X : gx p m c cc nL s args own D cI cR) (w : gw D A H0 H locs L f) (hM : ∀ sz, Met l y (Cond.code y bytes maxL ret :: lw_g) rm (va_Pc As (gP D cI cR L f sz)) (Qc sz) rm.cells rm.slots (gA L sz)) (yk : gY y bytes maxL ret n) (hlk : va_Nw (.methodLinkNest own index y host) s) (hs : Cond.static y ∈ lw_g) (hR : rm.frames + 1 ≤ R.frames ∧ 8 + (maxL + 11) + rm.locals ≤ R.locals) (hn : As.length = n) (hsize : ls.size = nL) (hst : st0 = As.reverse ++ rest) (hroom : (rest.map fun v => v.category).sum ≤ 8) (hdg : decode cc pc = .ok (.invokestatic index, 3)) (hcs : cells + rm.cells ≤ R.cells ∧ slots + rm.slots ≤ R.slots) :
    va_Run p l e R s m args below meth c H locs cells slots rm.cells rm.slots (F0 m pc ls st0) rest (Qc H.size As.toArray) (gA L H.size) := by
  have hts := X.1.2.2.2.2
  exact va_runSN X.1 (hM H.size) ⟨va_cnB n hts (gY_good yk) rfl rfl rfl hlk (hts _ yk.2.1) yk.2.2 hR, hts _ hs, trivial⟩ (g_pre X w _) rfl hn hsize hst (lv_room hroom) hdg hcs
theorem g_runI {Qc : Nat → Array Value → State → Outcome → State → Prop} (X : gx p m c cc nL s args own D cI cR) (w : gw D A H0 H locs L f) (hM : ∀ sz, Met l y (Cond.code y bytes maxL none :: lw_g) rm (va_Pc (.ref b :: As) (gP D cI cR L f sz)) (Qc sz) rm.cells rm.slots (gA L sz)) (yk : gY y bytes maxL none n) (hyn : y.name = "<init>") (hi : Cond.instanceMethod y ∈ lw_g) (hlk : Cond.methodLink own index y ∈ lw_g) (hR : rm.frames + 1 ≤ R.frames ∧ 8 + (maxL + 11) + rm.locals ≤ R.locals) (hn : As.length = n) (hsize : ls.size = nL) (hst : st0 = As.reverse ++ .ref b :: rest) (hroom : (rest.map fun v => v.category).sum ≤ 8) (hdg : decode cc pc = .ok (.invokespecial index, 3)) (hcs : cells + rm.cells ≤ R.cells ∧ slots + rm.slots ≤ R.slots) :
    va_Run p l e R s m args below meth c H locs cells slots rm.cells rm.slots (F0 m pc ls st0) rest (Qc H.size (Value.ref b :: As).toArray) (gA L H.size) := by
  have hts := X.1.2.2.2.2
  exact va_runI X.1 (hM H.size) ⟨callB_of n hts (gY_good yk) rfl rfl rfl (hts _ yk.2.1) (hts _ hlk) yk.2.2 hR, hyn, hts _ hi⟩ (g_pre X w _) rfl hn hsize hst (lv_room hroom) hdg hcs
/-- calls: what goes on behind them -/
theorem g_back {u : List Nat × (Nat → va_E)} {t : State} {H1 : Heap} {locs1 : List Loc} (w : gw D A H0 H locs L f) (ht : t.heap = H1) (hB : gB D cI cR (gA L H.size) u t) (hS : va_S A H0 H1 locs1) : gw D A H0 H1 locs1 u.1 u.2 :=
  ⟨by rw [← ht]; exact hB.1, hB.2.2.weaken (fun _ _ _ h => gw_in w _ h), hS, w.2.2.2⟩
theorem g_ci {mc ms : Nat} {a : Array Value} {post : Int32 → List Nat × (Nat → va_E) → Prop} (w : gw D A H0 H locs L f) (hr : va_Run p l e R s m args below meth c H locs cells slots mc ms (F0 m pc ls st0) rest (va_Qi post (gB D cI cR (gA L H.size)) (gA L H.size) a) (gA L H.size))
    (kk : ∀ (r : Int32) (u : List Nat × (Nat → va_E)) (H1 : Heap) (locs1 : List Loc), post r u → gw D A H0 H1 locs1 u.1 u.2 → W p l e R s m args below meth c H1 locs1 (cells + mc) (slots + ms) Q (F0 m (pc + 3) ls (.int r :: rest))) : W p l e R s m args below meth c H locs cells slots Q (F0 m pc ls st0) :=
  va_calli hr w.2.2.1 (fun q _ h => gw_in w q h) (gw_in w) (fun r u _ H1 locs1 ht _ hp hB _ _ hS => kk r u H1 locs1 hp (g_back w ht hB hS))
theorem g_cl {mc ms : Nat} {a : Array Value} {post : Int64 → List Nat × (Nat → va_E) → Prop} (w : gw D A H0 H locs L f) (hr : va_Run p l e R s m args below meth c H locs cells slots mc ms (F0 m pc ls st0) rest (va_Ql post (gB D cI cR (gA L H.size)) (gA L H.size) a) (gA L H.size))
    (kk : ∀ (r : Int64) (u : List Nat × (Nat → va_E)) (H1 : Heap) (locs1 : List Loc), post r u → gw D A H0 H1 locs1 u.1 u.2 → W p l e R s m args below meth c H1 locs1 (cells + mc) (slots + ms) Q (F0 m (pc + 3) ls (.long r :: rest))) : W p l e R s m args below meth c H locs cells slots Q (F0 m pc ls st0) :=
  va_calll hr w.2.2.1 (fun q _ h => gw_in w q h) (gw_in w) (fun r u _ H1 locs1 ht _ hp hB _ _ hS => kk r u H1 locs1 hp (g_back w ht hB hS))
theorem g_cv {mc ms : Nat} {a : Array Value} {post : List Nat × (Nat → va_E) → Prop} (w : gw D A H0 H locs L f) (hr : va_Run p l e R s m args below meth c H locs cells slots mc ms (F0 m pc ls st0) rest (va_Qv post (gB D cI cR (gA L H.size)) (gA L H.size) a) (gA L H.size))
    (kk : ∀ (u : List Nat × (Nat → va_E)) (H1 : Heap) (locs1 : List Loc), post u → gw D A H0 H1 locs1 u.1 u.2 → W p l e R s m args below meth c H1 locs1 (cells + mc) (slots + ms) Q (F0 m (pc + 3) ls rest)) : W p l e R s m args below meth c H locs cells slots Q (F0 m pc ls st0) :=
  va_callv hr w.2.2.1 (fun q _ h => gw_in w q h) (gw_in w) (fun u _ H1 locs1 ht _ hp hB _ _ hS => kk u H1 locs1 hp (g_back w ht hB hS))
theorem g_cq {mc ms : Nat} {a : Array Value} {post : Option Nat → List Nat × (Nat → va_E) → Prop} (w : gw D A H0 H locs L f) (hr : va_Run p l e R s m args below meth c H locs cells slots mc ms (F0 m pc ls st0) rest (va_Qq post (gB D cI cR (gA L H.size)) (gA L H.size) a) (gA L H.size))
    (kk : ∀ (r : Option Nat) (u : List Nat × (Nat → va_E)) (H1 : Heap) (locs1 : List Loc), post r u → gw D A H0 H1 locs1 u.1 u.2 → W p l e R s m args below meth c H1 locs1 (cells + mc) (slots + ms) Q (F0 m (pc + 3) ls (va_rf r :: rest))) : W p l e R s m args below meth c H locs cells slots Q (F0 m pc ls st0) :=
  va_callq hr w.2.2.1 (fun q _ h => gw_in w q h) (gw_in w) (fun r u _ H1 locs1 ht _ hp hB _ _ hS => kk r u H1 locs1 hp (g_back w ht hB hS))
end GC
section GN
variable {p : Program} {l : Launch} {e : Env} {R : Room} {s : State} {m : MethodId} {args : Array Value} {below : List Frame} {meth : Method} {c : Code} {H : Heap} {locs : List Loc} {cells slots : Nat} {Q : State → Prop}
variable {cc : ByteArray} {pc nL : Nat} {ls : Array Slot} {rest : List Value} {D : va_G} {A : Nat → Prop} {a : Nat} {cI cR : ClassId} {L : List Nat} {f : Nat → va_E} {H0 : Heap} {own : String}
theorem gw_push {q : Nat} {e' : va_E} {H1 : Heap} {locs1 : List Loc} (w : gw D A H0 H locs L f) (hP : va_P D cls5 (va_pl L f ++ [(q, e')]) H1) (hD : va_D A (va_pl L f ++ [(q, e')])) (hS : va_S A H0 H1 locs1) : q ∉ L ∧ gw D A H0 H1 locs1 (L ++ [q]) (va_up f q e') := by
  have hq : q ∉ L := va_pl_fresh2 (X := []) hD
  rw [va_pl_push hq] at hP hD
  exact ⟨hq, hP, hD, hS, w.2.2.2⟩
/-- newarray int -/
theorem gk_newi (X : gx p m c cc nL s args own D cI cR) (w : gw D A H0 H locs L f) (t0 : Nat) {cA : ClassId} (ht : (ty2 cI cR)[t0]? = some (cA, .int)) (harr : Cond.arrayClass .int ∈ lw_g) {n : Int32} (N' : Nat) (hn : ¬ n < 0) (hN : n.toNatClampNeg = N') (hbytes : N' ≤ 100000) (hcells : cells + 1 ≤ R.cells) (hslots : slots + N' ≤ R.slots) (hdg : decode cc pc = .ok (.newarray .int, 2))
    (kk : ∀ (q : Nat) (H1 : Heap), q ∉ L → gw D A H0 H1 locs (L ++ [q]) (va_up f q (.inl (cA, N', .inl (fun _ => 0)))) → W p l e R s m args below meth c H1 locs (cells + 1) (slots + N') Q (F0 m (pc + 2) ls (.ref q :: rest))) : W p l e R s m args below meth c H locs cells slots Q (F0 m pc ls (.int n :: rest)) := by
  refine va_newa (atype := .int) (a0 := (N', .inl (fun _ => 0))) X.1.1 X.1.2.1 (X.1.2.2.2.2 _ harr) rfl X.2.1 w.1 w.2.1 w.2.2.1 w.2.2.2 (fun _ => rfl) hn hN (by show N' * 4 ≤ _; omega) hcells hslots hdg (fun q cB H1 hK hP hD hS => ?_)
  have h1 : s.vm.findClass ("[" ++ FieldType.int.toString) = some cA := (X.2.1.2 t0 _ ht).2
  have h2 : s.vm.findClass ("[" ++ FieldType.int.toString) = some cB := (hK.2 (ty2 cI cR).length (cB, .int) (by simp [newarray.typeOf])).2
  have h3 : cA = cB := Option.some.inj (h1.symm.trans h2)
  subst h3
  obtain ⟨hq, w'⟩ := gw_push w hP hD hS
  exact kk q H1 hq w'
/-- anewarray -/
theorem gk_newq (X : gx p m c cc nL s args own D cI cR) (w : gw D A H0 H locs L f) (t0 : Nat) {cA : ClassId} {C : String} {index : Nat} (ht : (ty2 cI cR)[t0]? = some (cA, .object C)) (harr : va_AO C s) (hcl : Cond.classLink own index C ∈ lw_g) {n : Int32} (N' : Nat) (hn : ¬ n < 0) (hN : n.toNatClampNeg = N') (hbytes : N' ≤ 100000) (hcells : cells + 1 ≤ R.cells) (hslots : slots + N' ≤ R.slots) (hdg : decode cc pc = .ok (.anewarray index, 3))
    (kk : ∀ (q : Nat) (H1 : Heap), q ∉ L → gw D A H0 H1 locs (L ++ [q]) (va_up f q (.inl (cA, N', .inr (.inr (.inr (.inr (fun _ => none))))))) → W p l e R s m args below meth c H1 locs (cells + 1) (slots + N') Q (F0 m (pc + 3) ls (.ref q :: rest))) : W p l e R s m args below meth c H locs cells slots Q (F0 m pc ls (.int n :: rest)) := by
  refine va_newq X.1.1 X.1.2.1 X.1.2.2.2.1 (X.1.2.2.2.2 _ hcl) harr X.2.1 w.1 w.2.1 w.2.2.1 w.2.2.2 hn hN (by omega) hcells hslots hdg (fun q cB H1 hK hP hD hS => ?_)
  obtain ⟨-, -, -, -, -, h1⟩ := (X.2.1.2 t0 _ ht).2
  obtain ⟨-, -, -, -, -, h2⟩ := (hK.2 (ty2 cI cR).length (cB, .object C) (by simp)).2
  have h3 : cA = cB := Option.some.inj (h1.symm.trans h2)
  subst h3
  obtain ⟨hq, w'⟩ := gw_push w hP hD hS
  exact kk q H1 hq w'
/-- new -/
theorem gk_new (X : gx p m c cc nL s args own D cI cR) (w : gw D A H0 H locs L f) {C : String} {T : u_T} {N ci index : Nat} (hin : ∀ w ∈ u_ws C T N, w ∈ lw_g) (ty : Nat → FieldType) (hty : ∀ k, k < N → parseFieldDescriptor (T k).2.2.1 = some (ty k)) (hcl : Cond.classLink own index C ∈ lw_g) (hinst : Cond.instantiable C N ∈ lw_g) (hini : Cond.initialized C ∈ lw_g) (hc : cls5[ci]? = some (C, T, N)) (fs : List Value) (hfs : ∀ j, j < N → defaultValue (ty j) = vp_V fs j) (hcells : cells + 1 ≤ R.cells) (hslots : slots + N ≤ R.slots) (hdg : decode cc pc = .ok (.new index, 3))
    (kk : ∀ (q : Nat) (H1 : Heap), q ∉ L → gw D A H0 H1 locs (L ++ [q]) (va_up f q (.inr (ci, fs))) → W p l e R s m args below meth c H1 locs (cells + 1) (slots + N) Q (F0 m (pc + 3) ls (.ref q :: rest))) : W p l e R s m args below meth c H locs cells slots Q (F0 m pc ls rest) := by
  have hts := X.1.2.2.2.2
  refine va_new (ci := ci) (fs := fs) X.1.1 X.1.2.1 hts hin ty hty X.1.2.2.2.1 (hts _ hcl) (hts _ hinst) (hts _ hini) X.2.1 w.1 w.2.1 w.2.2.1 w.2.2.2 hc hfs hcells hslots hdg (fun q H1 hP hD hS => ?_)
  obtain ⟨hq, w'⟩ := gw_push w hP hD hS
  exact kk q H1 hq w'
end GN
