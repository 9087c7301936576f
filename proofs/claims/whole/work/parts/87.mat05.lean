/-! MATHEMATICS 6: sums of arcs -/
def zm_cx (a b : Pt) : Int := zm_crs a.1 a.2 b.1 b.2
def zm_vs (p q : Pt) : Pt := (q.1 - p.1, q.2 - p.2)
def zm_ad (p q : Pt) : Pt := (p.1 + q.1, p.2 + q.2)
def zm_pp (s : Int) (a : Pt) : Prop := zm_psS s a.1 a.2
theorem zm_cx_t {s : Int} (hs : zm_sgn1 s) {a b c : Pt} (h1 : zm_pp s a) (h2 : zm_pp s b) (h3 : zm_pp s c) (h4 : 0 ≤ zm_cx a b) (h5 : 0 ≤ zm_cx b c) : 0 ≤ zm_cx a c := zm_crs_st hs h1 h2 h3 h4 h5
theorem zm_cx_t1 {s : Int} (hs : zm_sgn1 s) {a b c : Pt} (h1 : zm_pp s a) (h2 : zm_pp s b) (h3 : zm_pp s c) (h4 : 0 < zm_cx a b) (h5 : 0 ≤ zm_cx b c) : 0 < zm_cx a c := zm_crs_st1 hs h1 h2 h3 h4 h5
theorem zm_cx_t2 {s : Int} (hs : zm_sgn1 s) {a b c : Pt} (h1 : zm_pp s a) (h2 : zm_pp s b) (h3 : zm_pp s c) (h4 : 0 ≤ zm_cx a b) (h5 : 0 < zm_cx b c) : 0 < zm_cx a c := zm_crs_st2 hs h1 h2 h3 h4 h5
theorem zm_cx_al (a b c : Pt) : zm_cx (zm_ad a b) c = zm_cx a c + zm_cx b c := by unfold zm_cx zm_ad zm_crs; dsimp only; grind
theorem zm_cx_ar (a b c : Pt) : zm_cx a (zm_ad b c) = zm_cx a b + zm_cx a c := by unfold zm_cx zm_ad zm_crs; dsimp only; grind
theorem zm_cx_an (a b : Pt) : zm_cx b a = -zm_cx a b := by unfold zm_cx zm_crs; grind
theorem zm_cx_00 (a : Pt) : zm_cx a a = 0 := by unfold zm_cx zm_crs; grind
theorem zm_pp_ad {s : Int} {a b : Pt} (h1 : zm_pp s a) (h2 : zm_pp s b) : zm_pp s (zm_ad a b) := by
  unfold zm_pp zm_psS at *; unfold zm_ad; dsimp only
  have := zm_psv_add h1 h2
  rw [Int.mul_add, Int.mul_add]; exact this
theorem zm_vs_ad (a b c d : Pt) : zm_vs (zm_ad a b) (zm_ad c d) = zm_ad (zm_vs a c) (zm_vs b d) := by unfold zm_vs zm_ad; dsimp only; exact Prod.ext (by dsimp only; omega) (by dsimp only; omega)
theorem zm_vs_00 (a : Pt) : zm_vs a a = (0, 0) := by unfold zm_vs; rw [Int.sub_self, Int.sub_self]
theorem zm_ad_0 (a : Pt) : zm_ad a (0, 0) = a ∧ zm_ad (0, 0) a = a := by unfold zm_ad; simp
theorem zm_tr_cx (a b c : Pt) : zm_tr3 a b c = zm_cx (zm_vs a b) (zm_vs b c) := zm_tr3_b a b c
theorem zm_tr_c1 (a b c : Pt) : zm_tr3 a b c = zm_cx (zm_vs a b) (zm_vs a c) := rfl
def zm_sumW (W W' : Pt → Prop) (r : Pt) : Prop := ∃ a b, W a ∧ W' b ∧ r = zm_ad a b
def zm_ev (v : Nat → Pt) (i : Nat) : Pt := zm_vs (v i) (v (i + 1))
/-- one step of a merge -/
def zm_stpM (m m' : Nat) (v v' : Nat → Pt) (i j i2 j2 : Nat) : Prop :=
  (i < m ∧ i2 = i + 1 ∧ j2 = j ∧ (j < m' → 0 < zm_cx (zm_ev v i) (zm_ev v' j))) ∨ (j < m' ∧ i2 = i ∧ j2 = j + 1 ∧ (i < m → 0 < zm_cx (zm_ev v' j) (zm_ev v i))) ∨ (i < m ∧ j < m' ∧ i2 = i + 1 ∧ j2 = j + 1 ∧ zm_cx (zm_ev v i) (zm_ev v' j) = 0)
def zm_inM (m m' : Nat) (v v' : Nat → Pt) (i j : Nat) : Prop :=
  i ≤ m ∧ j ≤ m' ∧ (i ≠ 0 → j < m' → 0 < zm_cx (zm_ev v (i - 1)) (zm_ev v' j)) ∧ (j ≠ 0 → i < m → 0 < zm_cx (zm_ev v' (j - 1)) (zm_ev v i))
theorem zm_arc_p {s : Int} {m : Nat} {v : Nat → Pt} {W : Pt → Prop} (a : zm_arc s m v W) {i : Nat} (h : i < m) : zm_pp s (zm_ev v i) := a.1 i h
theorem zm_arc_x {s : Int} {m : Nat} {v : Nat → Pt} {W : Pt → Prop} (a : zm_arc s m v W) {i : Nat} (h0 : i ≠ 0) (h : i < m) : 0 < zm_cx (zm_ev v (i - 1)) (zm_ev v i) := by
  have := a.2.1 (i - 1) (by omega)
  rw [zm_tr_cx] at this
  unfold zm_ev
  rw [show i - 1 + 1 = i by omega] at this ⊢
  rw [show i - 1 + 2 = i + 1 by omega] at this; exact this
theorem zm_inv_step {s : Int} (hs : zm_sgn1 s) {m m' : Nat} {v v' : Nat → Pt} {W W' : Pt → Prop} (a : zm_arc s m v W) (a' : zm_arc s m' v' W') {i j i2 j2 : Nat} (I : zm_inM m m' v v' i j) (h : zm_stpM m m' v v' i j i2 j2) : zm_inM m m' v v' i2 j2 := by
  obtain ⟨b1, b2, b3, b4⟩ := I
  rcases h with ⟨q1, rfl, rfl, q2⟩ | ⟨q1, rfl, rfl, q2⟩ | ⟨q1, q2, rfl, rfl, q3⟩
  · refine ⟨by omega, b2, fun _ hj => ?_, fun hj hi => ?_⟩
    · rw [Nat.add_sub_cancel]; exact q2 hj
    · have := zm_arc_x a (i := i + 1) (by omega) hi
      rw [Nat.add_sub_cancel] at this
      exact zm_cx_t1 hs (zm_arc_p a' (by omega)) (zm_arc_p a q1) (zm_arc_p a hi) (b4 hj q1) (by omega)
  · refine ⟨b1, by omega, fun hi hj => ?_, fun _ hi => ?_⟩
    · have := zm_arc_x a' (i := j + 1) (by omega) hj
      rw [Nat.add_sub_cancel] at this
      exact zm_cx_t1 hs (zm_arc_p a (by omega)) (zm_arc_p a' q1) (zm_arc_p a' hj) (b3 hi q1) (by omega)
    · rw [Nat.add_sub_cancel]; exact q2 hi
  · refine ⟨by omega, by omega, fun _ hj => ?_, fun _ hi => ?_⟩
    · have := zm_arc_x a' (i := j + 1) (by omega) hj
      rw [Nat.add_sub_cancel] at this ⊢
      exact zm_cx_t2 hs (zm_arc_p a q1) (zm_arc_p a' q2) (zm_arc_p a' hj) (by omega) this
    · have := zm_arc_x a (i := i + 1) (by omega) hi
      rw [Nat.add_sub_cancel] at this ⊢
      exact zm_cx_t2 hs (zm_arc_p a' q2) (zm_arc_p a q1) (zm_arc_p a hi) (by rw [zm_cx_an]; omega) this
theorem zm_ext_v {s : Int} (hs : zm_sgn1 s) {m : Nat} {v : Nat → Pt} {W : Pt → Prop} (a : zm_arc s m v W) {k : Nat} (hk : k ≤ m) {d : Pt} (hd : zm_pp s d) (h1 : k < m → 0 ≤ zm_cx d (zm_ev v k)) (h2 : k ≠ 0 → 0 ≤ zm_cx (zm_ev v (k - 1)) d) : ∀ r, W r → 0 ≤ zm_cx d (zm_vs (v k) r) :=
  zm_arc_ext hs a hk hd h1 (fun h => by have := h2 h; unfold zm_ev at this; rw [show k - 1 + 1 = k by omega] at this; exact this)
/-- what a step moves by -/
def zm_dv (v v' : Nat → Pt) (i j i2 j2 : Nat) : Pt := zm_vs (zm_ad (v i) (v' j)) (zm_ad (v i2) (v' j2))
theorem zm_dv_cases {m m' : Nat} {v v' : Nat → Pt} {i j i2 j2 : Nat} (h : zm_stpM m m' v v' i j i2 j2) : (i < m ∧ i2 = i + 1 ∧ j2 = j ∧ zm_dv v v' i j i2 j2 = zm_ev v i) ∨ (j < m' ∧ i2 = i ∧ j2 = j + 1 ∧ zm_dv v v' i j i2 j2 = zm_ev v' j) ∨ (i < m ∧ j < m' ∧ i2 = i + 1 ∧ j2 = j + 1 ∧ zm_dv v v' i j i2 j2 = zm_ad (zm_ev v i) (zm_ev v' j)) := by
  rcases h with ⟨q1, rfl, rfl, q2⟩ | ⟨q1, rfl, rfl, q2⟩ | ⟨q1, q2, rfl, rfl, q3⟩
  · exact Or.inl ⟨q1, rfl, rfl, by unfold zm_dv; rw [zm_vs_ad, zm_vs_00, (zm_ad_0 _).1]; rfl⟩
  · exact Or.inr (Or.inl ⟨q1, rfl, rfl, by unfold zm_dv; rw [zm_vs_ad, zm_vs_00, (zm_ad_0 _).2]; rfl⟩)
  · exact Or.inr (Or.inr ⟨q1, q2, rfl, rfl, by unfold zm_dv; rw [zm_vs_ad]; rfl⟩)
theorem zm_dv_p {s : Int} {m m' : Nat} {v v' : Nat → Pt} {W W' : Pt → Prop} (a : zm_arc s m v W) (a' : zm_arc s m' v' W') {i j i2 j2 : Nat} (h : zm_stpM m m' v v' i j i2 j2) : zm_pp s (zm_dv v v' i j i2 j2) := by
  rcases zm_dv_cases h with ⟨q1, _, _, e⟩ | ⟨q1, _, _, e⟩ | ⟨q1, q2, _, _, e⟩
  · rw [e]; exact zm_arc_p a q1
  · rw [e]; exact zm_arc_p a' q1
  · rw [e]; exact zm_pp_ad (zm_arc_p a q1) (zm_arc_p a' q2)
/-- a step's direction lies after all before and not after all to come -/
theorem zm_dv_x {s : Int} {m m' : Nat} {v v' : Nat → Pt} {W W' : Pt → Prop} (a : zm_arc s m v W) (a' : zm_arc s m' v' W') {i j i2 j2 : Nat} (I : zm_inM m m' v v' i j) (h : zm_stpM m m' v v' i j i2 j2) : (i < m → 0 ≤ zm_cx (zm_dv v v' i j i2 j2) (zm_ev v i)) ∧ (j < m' → 0 ≤ zm_cx (zm_dv v v' i j i2 j2) (zm_ev v' j)) ∧ (i ≠ 0 → 0 < zm_cx (zm_ev v (i - 1)) (zm_dv v v' i j i2 j2)) ∧ (j ≠ 0 → 0 < zm_cx (zm_ev v' (j - 1)) (zm_dv v v' i j i2 j2)) := by
  obtain ⟨b1, b2, b3, b4⟩ := I
  rcases h with ⟨q1, rfl, rfl, q2⟩ | ⟨q1, rfl, rfl, q2⟩ | ⟨q1, q2, rfl, rfl, q3⟩
  · have e : zm_dv v v' i j2 (i + 1) j2 = zm_ev v i := by unfold zm_dv; rw [zm_vs_ad, zm_vs_00, (zm_ad_0 _).1]; rfl
    rw [e]
    exact ⟨fun _ => by rw [zm_cx_00]; omega, fun hj => by have := q2 hj; omega, fun h0 => zm_arc_x a h0 q1, fun h0 => b4 h0 q1⟩
  · have e : zm_dv v v' i2 j i2 (j + 1) = zm_ev v' j := by unfold zm_dv; rw [zm_vs_ad, zm_vs_00, (zm_ad_0 _).2]; rfl
    rw [e]
    exact ⟨fun hi => by have := q2 hi; omega, fun _ => by rw [zm_cx_00]; omega, fun h0 => b3 h0 q1, fun h0 => zm_arc_x a' h0 q1⟩
  · have e : zm_dv v v' i j (i + 1) (j + 1) = zm_ad (zm_ev v i) (zm_ev v' j) := by unfold zm_dv; rw [zm_vs_ad]; rfl
    rw [e]
    refine ⟨fun _ => ?_, fun _ => ?_, fun h0 => ?_, fun h0 => ?_⟩
    · rw [zm_cx_al, zm_cx_00, zm_cx_an]; omega
    · rw [zm_cx_al, zm_cx_00]; omega
    · rw [zm_cx_ar]; have := zm_arc_x a h0 q1; have := b3 h0 q2; omega
    · rw [zm_cx_ar]; have := zm_arc_x a' h0 q2; have := b4 h0 q1; omega
theorem zm_arc_sum {s : Int} (hs : zm_sgn1 s) {m m' : Nat} {v v' : Nat → Pt} {W W' : Pt → Prop} (a : zm_arc s m v W) (a' : zm_arc s m' v' W') (f g : Nat → Nat) (N : Nat) (f0 : f 0 = 0) (g0 : g 0 = 0) (fN : f N = m) (gN : g N = m') (h : ∀ k, k < N → zm_stpM m m' v v' (f k) (g k) (f (k + 1)) (g (k + 1))) : zm_arc s N (fun k => zm_ad (v (f k)) (v' (g k))) (zm_sumW W W') := by
  have I : ∀ k, k ≤ N → zm_inM m m' v v' (f k) (g k) := by
    intro k
    induction k with
    | zero => intro _; rw [f0, g0]; exact ⟨by omega, by omega, fun h => absurd rfl h, fun h => absurd rfl h⟩
    | succ k ih => intro hk; exact zm_inv_step hs a a' (ih (by omega)) (h k (by omega))
  refine ⟨fun k hk => zm_dv_p a a' (h k hk), fun k hk => ?_, fun k hk r hr => ?_, fun k hk => ?_, fun r hr => ?_, fun r hr => ?_⟩
  · rw [zm_tr_cx]
    have h1 := h k (by omega); have h2 := h (k + 1) hk; have I2 := I (k + 1) (by omega)
    obtain ⟨_, _, y3, y4⟩ := zm_dv_x a a' I2 h2
    show 0 < zm_cx (zm_dv v v' (f k) (g k) (f (k + 1)) (g (k + 1))) (zm_dv v v' (f (k + 1)) (g (k + 1)) (f (k + 1 + 1)) (g (k + 1 + 1)))
    generalize zm_dv v v' (f (k + 1)) (g (k + 1)) (f (k + 1 + 1)) (g (k + 1 + 1)) = D at *
    rcases zm_dv_cases h1 with ⟨q1, w1, w2, e⟩ | ⟨q1, w1, w2, e⟩ | ⟨q1, q2, w1, w2, e⟩
    · rw [e]; have := y3 (by omega); rw [w1, Nat.add_sub_cancel] at this; exact this
    · rw [e]; have := y4 (by omega); rw [w2, Nat.add_sub_cancel] at this; exact this
    · rw [e, zm_cx_al]; have u1 := y3 (by omega); rw [w1, Nat.add_sub_cancel] at u1; have u2 := y4 (by omega); rw [w2, Nat.add_sub_cancel] at u2; omega
  · obtain ⟨p, q, hp, zm_hq, rfl⟩ := hr
    have h1 := h k hk; have Ik := I k (by omega)
    obtain ⟨y1, y2, y3, y4⟩ := zm_dv_x a a' Ik h1
    rw [zm_tr_c1]
    show 0 ≤ zm_cx (zm_dv v v' (f k) (g k) (f (k + 1)) (g (k + 1))) (zm_vs (zm_ad (v (f k)) (v' (g k))) (zm_ad p q))
    have zm_dp := zm_dv_p a a' h1
    generalize zm_dv v v' (f k) (g k) (f (k + 1)) (g (k + 1)) = D at *
    rw [zm_vs_ad, zm_cx_ar]
    have z1 := zm_ext_v hs a Ik.1 zm_dp y1 (fun h => by have := y3 h; omega) p hp
    have z2 := zm_ext_v hs a' Ik.2.1 zm_dp y2 (fun h => by have := y4 h; omega) q zm_hq
    omega
  · exact ⟨_, _, a.2.2.2.1 _ (I k hk).1, a'.2.2.2.1 _ (I k hk).2.1, rfl⟩
  · obtain ⟨p, q, hp, zm_hq, rfl⟩ := hr
    dsimp only; rw [f0, g0]
    rcases a.2.2.2.2.1 p hp with e | e
    · rcases a'.2.2.2.2.1 q zm_hq with e' | e'
      · exact Or.inl (by rw [e, e'])
      · refine Or.inr ?_
        show zm_pp s (zm_vs _ _)
        rw [e, zm_vs_ad, zm_vs_00, (zm_ad_0 _).2]; exact e'
    · refine Or.inr ?_
      show zm_pp s (zm_vs _ _)
      rw [zm_vs_ad]
      rcases a'.2.2.2.2.1 q zm_hq with e' | e'
      · rw [e', zm_vs_00, (zm_ad_0 _).1]; exact e
      · exact zm_pp_ad e e'
  · obtain ⟨p, q, hp, zm_hq, rfl⟩ := hr
    dsimp only; rw [fN, gN]
    rcases a.2.2.2.2.2 p hp with e | e
    · rcases a'.2.2.2.2.2 q zm_hq with e' | e'
      · exact Or.inl (by rw [e, e'])
      · refine Or.inr ?_
        show zm_pp s (zm_vs _ _)
        rw [e, zm_vs_ad, zm_vs_00, (zm_ad_0 _).2]; exact e'
    · refine Or.inr ?_
      show zm_pp s (zm_vs _ _)
      rw [zm_vs_ad]
      rcases a'.2.2.2.2.2 q zm_hq with e' | e'
      · rw [e', zm_vs_00, (zm_ad_0 _).1]; exact e
      · exact zm_pp_ad e e'
