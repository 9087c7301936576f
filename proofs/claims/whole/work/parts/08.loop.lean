/-! a loop with an empty stack at its head: a measure falls, the world and the locals are those of a state x -/
section GL
variable {p : Program} {l : Launch} {e : Env} {R : Room} {s : State} {m : MethodId} {args : Array Value} {below : List Frame} {meth : Method} {c : Code} {cells slots : Nat} {Q : State → Prop}
variable {pc nL : Nat} {D : va_G} {A : Nat → Prop} {H0 : Heap}
theorem g_loop {σ : Type} (μ : σ → Nat) (lv : σ → List (Nat × Value)) (L : List Nat) (F : σ → (Nat → va_E)) (I : σ → Prop)
    (body : ∀ (x : σ) (H : Heap) (locs : List Loc) (ls : Array Slot), I x → gw D A H0 H locs L (F x) → lv_has ls nL (lv x) →
      (∀ (y : σ) (H' : Heap) (locs' : List Loc) (ls' : Array Slot), μ y < μ x → I y → gw D A H0 H' locs' L (F y) → lv_has ls' nL (lv y) → W p l e R s m args below meth c H' locs' cells slots Q (F0 m pc ls' [])) →
      W p l e R s m args below meth c H locs cells slots Q (F0 m pc ls []))
    (x : σ) (H : Heap) (locs : List Loc) (ls : Array Slot) (hI : I x) (w : gw D A H0 H locs L (F x)) (hl : lv_has ls nL (lv x)) : W p l e R s m args below meth c H locs cells slots Q (F0 m pc ls []) := by
  have key : ∀ (n : Nat) (x : σ) (H : Heap) (locs : List Loc) (ls : Array Slot), μ x < n → I x → gw D A H0 H locs L (F x) → lv_has ls nL (lv x) → W p l e R s m args below meth c H locs cells slots Q (F0 m pc ls []) := by
    intro n
    induction n with
    | zero => intro x H locs ls h; exact absurd h (Nat.not_lt_zero _)
    | succ n ih =>
      intro x H locs ls h hI w hl
      exact body x H locs ls hI w hl (fun y H' locs' ls' hm hI' w' hl' => ih y H' locs' ls' (by omega) hI' w' hl')
  exact key (μ x + 1) x H locs ls (Nat.lt_succ_self _) hI w hl
end GL
