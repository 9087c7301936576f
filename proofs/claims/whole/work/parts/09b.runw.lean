/-! a call over a fuller stack: the rest may be Wn words -/
section GW
variable {p : Program} {l : Launch} {e : Env} {R : Room} {s : State} {m : MethodId} {args : Array Value} {below : List Frame} {meth : Method} {c : Code} {H : Heap} {locs : List Loc} {cells slots : Nat}
variable {cc : ByteArray} {pc nL : Nat} {ls : Array Slot} {rest st0 : List Value} {D : va_G} {A : Nat → Prop} {cI cR : ClassId} {L : List Nat} {f : Nat → va_E} {H0 : Heap} {own : String}
variable {y : MethodName} {rm : Room} {bytes : ByteArray} {maxL n index : Nat} {ret : Option FieldType} {b : Nat} {As : List Value}
theorem g_runVw (Wn : Nat) {Qc : Nat → Array Value → State → Outcome → State → Prop} (X : gx p m c cc nL s args own D cI cR) (w : gw D A H0 H locs L f) (hM : ∀ sz, Met l y (Cond.code y bytes maxL ret :: lw_g) rm (va_Pc (.ref b :: As) (gP D cI cR L f sz)) (Qc sz) rm.cells rm.slots (gA L sz)) (yk : gY y bytes maxL ret n) (yv : gYv y) (hlk : Cond.methodLink own index y ∈ lw_g) {ci N : Nat} {T : u_T} {fs : List Value} (hb : b ∈ L) (he : f b = .inr (ci, fs)) (hc : cls5[ci]? = some (y.cls, T, N)) (hR : rm.frames + 1 ≤ R.frames ∧ Wn + (maxL + 11) + rm.locals ≤ R.locals) (hn : As.length = n) (hsize : ls.size = nL) (hst : st0 = As.reverse ++ .ref b :: rest) (hroom : (rest.map fun v => v.category).sum ≤ Wn) (hdg : decode cc pc = .ok (.invokevirtual index, 3)) (hcs : cells + rm.cells ≤ R.cells ∧ slots + rm.slots ≤ R.slots) :
    va_Run p l e R s m args below meth c H locs cells slots rm.cells rm.slots (F0 m pc ls st0) rest (Qc H.size (Value.ref b :: As).toArray) (gA L H.size) := by
  have hts := X.1.2.2.2.2
  have hini := hts _ yk.2.1
  have hK : Back l R p e below s args y 3 Wn (PreOf R rm.cells rm.slots (va_Pc (.ref b :: As) (gP D cI cR L f H.size))) (PostOf (Qc H.size) rm.cells rm.slots (gA L H.size)) := back_of (bytes := bytes) (maxL := maxL) (ret := ret) (hM H.size) gp_blind rfl rfl hR.1 hR.2 (pay_in hts (gY_good yk)) List.mem_cons_self (fun a' U hW => word_at hW (Or.inl (by first | rfl | simp [Cond.onTables, Cond.keeps, Cond.steady])) hini)
  obtain ⟨q0, hq⟩ := gw_pos (f := f) hb
  rw [he] at hq
  obtain ⟨cellB, hcB, hoB, hclB⟩ := va_recv X.2.1 w.1 hc hq
  intro T hT XX
  obtain ⟨v, vm₁, ⟨U', l2, c2, s2⟩, hW₁, X', ⟨g', mk, t, L2, e1, e2, hq2, h1, hL, h2, h3⟩, st⟩ := callV XX X.1.1 (C := y.cls) (bytes := bytes) (maxL := maxL) (ret := ret) X.1.2.2.2.1 (hts _ hlk) (hts _ yv.1) (hts _ yv.2) (hts _ yk.1) ⟨yk.2.2.1, yk.2.2.2.1⟩ hK (by rw [hT]; exact hcB) hoB hclB (g := F0 m pc ls st0) rfl (hsize.trans X.1.2.2.1.symm) (argsL := As) (rest := rest) (fun sig h => by have h9 := yk.2.2.2.2; rw [h] at h9; rw [hn]; exact (Option.some.inj h9).symm) hst (by show 2 * 0 + _ ≤ _; omega) (by rw [X.1.2.1]; exact hdg)
    (fun vm₁ hW₁ => ⟨hcs.1, hcs.2, (g_pre X w _).2 (T.setVm vm₁) hT hW₁⟩)
  dsimp only [Pt.U, Pt.locs, Pt.cells, Pt.slots] at X' e1 e2 h1 h2 h3 st
  subst h1; subst h2; subst h3
  exact ⟨v, (T.setVm vm₁).calling g' mk (Value.ref b :: As).toArray, t, U', L2, hT, X', hL, e1, e2, hq2, st⟩
end GW
