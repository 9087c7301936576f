/-! MATHEMATICS 16: points of the grid, by rows -/
abbrev zm_tch (Y : Nat → Int) (i : Nat) (y : Int) : Prop := min (Y i) (Y (i + 1)) ≤ y ∧ y ≤ max (Y i) (Y (i + 1))
def zm_flE (X Y : Nat → Int) (i : Nat) (y : Int) : Int := if Y i = Y (i + 1) then max (X i) (X (i + 1)) else if Y i < Y (i + 1) then X i + (X (i + 1) - X i) * (y - Y i) / (Y (i + 1) - Y i) else X (i + 1) + (X i - X (i + 1)) * (y - Y (i + 1)) / (Y i - Y (i + 1))
def zm_ceE (X Y : Nat → Int) (i : Nat) (y : Int) : Int := if Y i = Y (i + 1) then min (X i) (X (i + 1)) else if Y i < Y (i + 1) then X i - -((X (i + 1) - X i) * (y - Y i)) / (Y (i + 1) - Y i) else X (i + 1) - -((X i - X (i + 1)) * (y - Y (i + 1))) / (Y i - Y (i + 1))
def zm_rwX (X Y : Nat → Int) (y : Int) : Nat → Int × Int
  | 0 => (10000, -10000)
  | n + 1 => if zm_tch Y n y then (min (zm_ceE X Y n y) (zm_rwX X Y y n).1, max (zm_flE X Y n y) (zm_rwX X Y y n).2) else zm_rwX X Y y n
theorem zm_dv_le (a : Int) {b : Int} (hb : 0 < b) : b * (a / b) ≤ a ∧ a - b < b * (a / b) := by
  have h1 := Int.mul_ediv_add_emod a b
  have r1 := Int.emod_nonneg a (show b ≠ 0 by omega); have r2 := Int.emod_lt_of_pos a hb
  omega
theorem zm_fl_w {X Y : Nat → Int} {i : Nat} {y : Int} (h : zm_tch Y i y) : ∃ al be, 0 ≤ al ∧ 0 ≤ be ∧ 0 < al + be ∧ al * Y i + be * Y (i + 1) = (al + be) * y ∧ (al + be) * zm_flE X Y i y ≤ al * X i + be * X (i + 1) := by
  unfold zm_tch at h
  unfold zm_flE
  by_cases e : Y i = Y (i + 1)
  · rw [if_pos e]
    rcases Int.le_total (X i) (X (i + 1)) with q | q
    · exact ⟨0, 1, by omega, by omega, by omega, by omega, by omega⟩
    · exact ⟨1, 0, by omega, by omega, by omega, by omega, by omega⟩
  · rw [if_neg e]
    by_cases u : Y i < Y (i + 1)
    · rw [if_pos u]
      refine ⟨Y (i + 1) - y, y - Y i, by omega, by omega, by omega, by grind, ?_⟩
      have := (zm_dv_le ((X (i + 1) - X i) * (y - Y i)) (show 0 < Y (i + 1) - Y i by omega)).1
      rw [show Y (i + 1) - y + (y - Y i) = Y (i + 1) - Y i by omega, Int.mul_add]
      have e2 : (Y (i + 1) - y) * X i + (y - Y i) * X (i + 1) = (Y (i + 1) - Y i) * X i + (X (i + 1) - X i) * (y - Y i) := by grind
      omega
    · rw [if_neg u]
      refine ⟨y - Y (i + 1), Y i - y, by omega, by omega, by omega, by grind, ?_⟩
      have := (zm_dv_le ((X i - X (i + 1)) * (y - Y (i + 1))) (show 0 < Y i - Y (i + 1) by omega)).1
      rw [show y - Y (i + 1) + (Y i - y) = Y i - Y (i + 1) by omega, Int.mul_add]
      have e2 : (y - Y (i + 1)) * X i + (Y i - y) * X (i + 1) = (Y i - Y (i + 1)) * X (i + 1) + (X i - X (i + 1)) * (y - Y (i + 1)) := by grind
      omega
theorem zm_ce_w {X Y : Nat → Int} {i : Nat} {y : Int} (h : zm_tch Y i y) : ∃ al be, 0 ≤ al ∧ 0 ≤ be ∧ 0 < al + be ∧ al * Y i + be * Y (i + 1) = (al + be) * y ∧ al * X i + be * X (i + 1) ≤ (al + be) * zm_ceE X Y i y ∧ (al + be) * (zm_ceE X Y i y - 1) ≤ al * X i + be * X (i + 1) := by
  unfold zm_tch at h
  unfold zm_ceE
  by_cases e : Y i = Y (i + 1)
  · rw [if_pos e]
    rcases Int.le_total (X i) (X (i + 1)) with q | q
    · exact ⟨1, 0, by omega, by omega, by omega, by omega, by omega, by omega⟩
    · exact ⟨0, 1, by omega, by omega, by omega, by omega, by omega, by omega⟩
  · rw [if_neg e]
    by_cases u : Y i < Y (i + 1)
    · rw [if_pos u]
      refine ⟨Y (i + 1) - y, y - Y i, by omega, by omega, by omega, by grind, ?_⟩
      have := zm_dv_le (-((X (i + 1) - X i) * (y - Y i))) (show 0 < Y (i + 1) - Y i by omega)
      have e2 : (Y (i + 1) - y) * X i + (y - Y i) * X (i + 1) = (Y (i + 1) - Y i) * X i + (X (i + 1) - X i) * (y - Y i) := by grind
      generalize (X (i + 1) - X i) * (y - Y i) = T at *
      rw [show Y (i + 1) - y + (y - Y i) = Y (i + 1) - Y i by omega, Int.mul_sub (Y (i + 1) - Y i) (X i - -T / (Y (i + 1) - Y i)) 1, Int.mul_sub (Y (i + 1) - Y i) (X i)]
      omega
    · rw [if_neg u]
      refine ⟨y - Y (i + 1), Y i - y, by omega, by omega, by omega, by grind, ?_⟩
      have := zm_dv_le (-((X i - X (i + 1)) * (y - Y (i + 1)))) (show 0 < Y i - Y (i + 1) by omega)
      have e2 : (y - Y (i + 1)) * X i + (Y i - y) * X (i + 1) = (Y i - Y (i + 1)) * X (i + 1) + (X i - X (i + 1)) * (y - Y (i + 1)) := by grind
      generalize (X i - X (i + 1)) * (y - Y (i + 1)) = T at *
      rw [show y - Y (i + 1) + (Y i - y) = Y i - Y (i + 1) by omega, Int.mul_sub (Y i - Y (i + 1)) (X (i + 1) - -T / (Y i - Y (i + 1))) 1, Int.mul_sub (Y i - Y (i + 1)) (X (i + 1))]
      omega
/-- right of nothing on an edge that goes up -/
theorem zm_b_up {ax ay bx b_y px py qx qy al be y Z : Int} (hu : ay < b_y) (h1 : 0 ≤ al) (h2 : 0 ≤ be) (h3 : 0 < al + be) (hy : al * py + be * qy = (al + be) * y) (hz : (al + be) * Z ≤ al * px + be * qx) (ep : 0 ≤ (bx - ax) * (py - ay) - (b_y - ay) * (px - ax)) (eq : 0 ≤ (bx - ax) * (qy - ay) - (b_y - ay) * (qx - ax)) : Z ≤ ax + (bx - ax) * (y - ay) / (b_y - ay) := by
  have k : (b_y - ay) * (Z - ax) ≤ (bx - ax) * (y - ay) := by
    refine Int.le_of_mul_le_mul_left (a := al + be) ?_ h3
    have m1 := Int.mul_nonneg h1 ep; have m2 := Int.mul_nonneg h2 eq
    have m3 := Int.mul_le_mul_of_nonneg_left hz (show 0 ≤ b_y - ay by omega)
    have e1 : (al + be) * ((b_y - ay) * (Z - ax)) = (b_y - ay) * ((al + be) * Z) - (b_y - ay) * ((al + be) * ax) := by grind
    have e2 : (al + be) * ((bx - ax) * (y - ay)) = (bx - ax) * ((al + be) * y) - (bx - ax) * ((al + be) * ay) := by grind
    rw [← hy] at e2
    have e3 : al * ((bx - ax) * (py - ay) - (b_y - ay) * (px - ax)) + be * ((bx - ax) * (qy - ay) - (b_y - ay) * (qx - ax)) = (bx - ax) * (al * py + be * qy) - (bx - ax) * ((al + be) * ay) - (b_y - ay) * (al * px + be * qx) + (b_y - ay) * ((al + be) * ax) := by grind
    omega
  have := Int.le_ediv_of_mul_le (a := Z - ax) (b := (bx - ax) * (y - ay)) (c := b_y - ay) (by omega) (by rw [Int.mul_comm]; exact k)
  omega
/-- left of nothing on an edge that goes down -/
theorem zm_b_dn {ax ay bx b_y px py qx qy al be y Z : Int} (hd : b_y < ay) (h1 : 0 ≤ al) (h2 : 0 ≤ be) (h3 : 0 < al + be) (hy : al * py + be * qy = (al + be) * y) (hz : al * px + be * qx ≤ (al + be) * Z) (ep : 0 ≤ (bx - ax) * (py - ay) - (b_y - ay) * (px - ax)) (eq : 0 ≤ (bx - ax) * (qy - ay) - (b_y - ay) * (qx - ax)) : bx - -((ax - bx) * (y - b_y)) / (ay - b_y) ≤ Z := by
  have := zm_b_up (ax := -bx) (ay := b_y) (bx := -ax) (b_y := ay) (px := -px) (py := py) (qx := -qx) (qy := qy) (y := y) (Z := -Z) hd h1 h2 h3 hy (by rw [Int.mul_neg, Int.mul_neg, Int.mul_neg]; omega) (by grind) (by grind)
  rw [show (-ax - -bx) * (y - b_y) = -((ax - bx) * (y - b_y)) by grind] at this
  omega
def zm_mono (X Y : Nat → Int) (n : Nat) : Prop := ∀ i, i < n → ∀ p, p ≤ n → 0 ≤ (X (i + 1) - X i) * (Y p - Y i) - (Y (i + 1) - Y i) * (X p - X i)
theorem zm_fl_le {X Y : Nat → Int} {n : Nat} (M : zm_mono X Y n) {i i0 : Nat} {y : Int} (hi : i < n) (h0 : i0 < n) (hu : Y i0 < Y (i0 + 1)) (ht : zm_tch Y i y) : zm_flE X Y i y ≤ zm_flE X Y i0 y := by
  obtain ⟨al, be, h1, h2, h3, h4, h5⟩ := zm_fl_w (X := X) ht
  have := zm_b_up hu h1 h2 h3 h4 h5 (M i0 h0 i (by omega)) (M i0 h0 (i + 1) (by omega))
  conv => rhs; unfold zm_flE
  rw [if_neg (by omega), if_pos hu]; exact this
theorem zm_ce_ge {X Y : Nat → Int} {n : Nat} (M : zm_mono X Y n) {i j0 : Nat} {y : Int} (hi : i < n) (h0 : j0 < n) (hd : Y (j0 + 1) < Y j0) (ht : zm_tch Y i y) : zm_ceE X Y j0 y ≤ zm_ceE X Y i y := by
  obtain ⟨al, be, h1, h2, h3, h4, h5, _⟩ := zm_ce_w (X := X) ht
  have := zm_b_dn hd h1 h2 h3 h4 h5 (M j0 h0 i (by omega)) (M j0 h0 (i + 1) (by omega))
  conv => lhs; unfold zm_ceE
  rw [if_neg (by omega), if_neg (by omega)]; exact this
theorem zm_ce_fl {X Y : Nat → Int} {n : Nat} (M : zm_mono X Y n) {i i0 : Nat} {y : Int} (hi : i < n) (h0 : i0 < n) (hu : Y i0 < Y (i0 + 1)) (ht : zm_tch Y i y) : zm_ceE X Y i y - 1 ≤ zm_flE X Y i0 y := by
  obtain ⟨al, be, h1, h2, h3, h4, _, h5⟩ := zm_ce_w (X := X) ht
  have := zm_b_up hu h1 h2 h3 h4 h5 (M i0 h0 i (by omega)) (M i0 h0 (i + 1) (by omega))
  conv => rhs; unfold zm_flE
  rw [if_neg (by omega), if_pos hu]; exact this
theorem zm_rwX_hi {X Y : Nat → Int} {y F : Int} (n : Nat) (h0 : -10000 ≤ F) (h : ∀ i, i < n → zm_tch Y i y → zm_flE X Y i y ≤ F) : (zm_rwX X Y y n).2 ≤ F := by
  induction n with
  | zero => exact h0
  | succ n ih =>
    have := ih (fun i hi => h i (by omega))
    unfold zm_rwX
    by_cases t : zm_tch Y n y
    · rw [if_pos t]; have := h n (by omega) t; dsimp only; omega
    · rw [if_neg t]; exact this
theorem zm_rwX_lo {X Y : Nat → Int} {y F : Int} (n : Nat) (h0 : F ≤ 10000) (h : ∀ i, i < n → zm_tch Y i y → F ≤ zm_ceE X Y i y) : F ≤ (zm_rwX X Y y n).1 := by
  induction n with
  | zero => exact h0
  | succ n ih =>
    have := ih (fun i hi => h i (by omega))
    unfold zm_rwX
    by_cases t : zm_tch Y n y
    · rw [if_pos t]; have := h n (by omega) t; dsimp only; omega
    · rw [if_neg t]; exact this
theorem zm_rwX_in {X Y : Nat → Int} {y : Int} (n : Nat) {i : Nat} (hi : i < n) (t : zm_tch Y i y) : zm_flE X Y i y ≤ (zm_rwX X Y y n).2 ∧ (zm_rwX X Y y n).1 ≤ zm_ceE X Y i y := by
  induction n with
  | zero => omega
  | succ n ih =>
    unfold zm_rwX
    by_cases e : i = n
    · subst e; rw [if_pos t]; dsimp only; omega
    · have := ih (by omega)
      by_cases q : zm_tch Y n y
      · rw [if_pos q]; dsimp only; omega
      · rw [if_neg q]; exact this
def zm_bnd (X : Nat → Int) (n : Nat) : Prop := ∀ i, i ≤ n → -10000 ≤ X i ∧ X i ≤ 10000
theorem zm_row_gen {X Y : Nat → Int} {n : Nat} (M : zm_mono X Y n) (B : zm_bnd X n) {i0 j0 : Nat} {y : Int} (h0 : i0 < n) (hu : Y i0 < Y (i0 + 1)) (hy : Y i0 ≤ y ∧ y ≤ Y (i0 + 1)) (k0 : j0 < n) (hd : Y (j0 + 1) < Y j0) (hy' : Y (j0 + 1) ≤ y ∧ y ≤ Y j0) : cntR (zm_rwX X Y y n) = zm_flE X Y i0 y - zm_ceE X Y j0 y + 1 := by
  have t0 : zm_tch Y i0 y := by unfold zm_tch; omega
  have t1 : zm_tch Y j0 y := by unfold zm_tch; omega
  have b0 := B i0 (by omega); have b1 := B (i0 + 1) (by omega)
  have c0 := B j0 (by omega); have c1 := B (j0 + 1) (by omega)
  have lo1 : -10000 ≤ zm_flE X Y i0 y := by
    have := zm_b_up (ax := X i0) (ay := Y i0) (bx := X (i0 + 1)) (b_y := Y (i0 + 1)) (px := X i0) (py := Y i0) (qx := X (i0 + 1)) (qy := Y (i0 + 1)) (al := Y (i0 + 1) - y) (be := y - Y i0) (y := y) (Z := -10000) hu (by omega) (by omega) (by omega) (by grind) (by
      have m1 := Int.mul_le_mul_of_nonneg_left b0.1 (show 0 ≤ Y (i0 + 1) - y by omega)
      have m2 := Int.mul_le_mul_of_nonneg_left b1.1 (show 0 ≤ y - Y i0 by omega)
      rw [Int.add_mul]; omega) (M i0 h0 i0 (by omega)) (M i0 h0 (i0 + 1) (by omega))
    unfold zm_flE; rw [if_neg (by omega), if_pos hu]; exact this
  have hi1 : zm_ceE X Y j0 y ≤ 10000 := by
    have := zm_b_dn (ax := X j0) (ay := Y j0) (bx := X (j0 + 1)) (b_y := Y (j0 + 1)) (px := X j0) (py := Y j0) (qx := X (j0 + 1)) (qy := Y (j0 + 1)) (al := y - Y (j0 + 1)) (be := Y j0 - y) (y := y) (Z := 10000) hd (by omega) (by omega) (by omega) (by grind) (by
      have m1 := Int.mul_le_mul_of_nonneg_left c0.2 (show 0 ≤ y - Y (j0 + 1) by omega)
      have m2 := Int.mul_le_mul_of_nonneg_left c1.2 (show 0 ≤ Y j0 - y by omega)
      rw [Int.add_mul]; omega) (M j0 k0 j0 (by omega)) (M j0 k0 (j0 + 1) (by omega))
    unfold zm_ceE; rw [if_neg (by omega), if_neg (by omega)]; exact this
  have a1 := zm_rwX_hi (X := X) (Y := Y) (y := y) n lo1 (fun i hi t => zm_fl_le M hi h0 hu t)
  have a2 := (zm_rwX_in (X := X) n h0 t0).1
  have a3 := zm_rwX_lo (X := X) (Y := Y) (y := y) n hi1 (fun i hi t => zm_ce_ge M hi k0 hd t)
  have a4 := (zm_rwX_in (X := X) n k0 t1).2
  have a5 := zm_ce_fl M k0 h0 hu t1
  unfold cntR
  split <;> omega
/-- a place where a row is crossed -/
theorem zm_trans {s : Nat → Prop} {n p q : Nat} (per : s n ↔ s 0) (hp : p < n) (zm_hq : q < n) (sp : s p) (sq : ¬ s q) : ∃ i, i < n ∧ s i ∧ ¬ s (i + 1) := by
  have step : ∀ d a, s a → ¬ s (a + d) → ∃ i, a ≤ i ∧ i < a + d ∧ s i ∧ ¬ s (i + 1) := by
    intro d
    induction d with
    | zero => intro a h1 h2; exact absurd h1 h2
    | succ d ih =>
      intro a h1 h2
      by_cases c : s (a + 1)
      · obtain ⟨i, i1, i2, i3⟩ := ih (a + 1) c (by rw [show a + 1 + d = a + (d + 1) by omega]; exact h2)
        exact ⟨i, by omega, by omega, i3⟩
      · exact ⟨a, by omega, by omega, h1, c⟩
  by_cases o : p < q
  · obtain ⟨i, i1, i2, i3⟩ := step (q - p) p sp (by rw [show p + (q - p) = q by omega]; exact sq)
    exact ⟨i, by omega, i3⟩
  · by_cases c : s n
    · obtain ⟨i, i1, i2, i3⟩ := step q 0 (per.mp c) (by rw [Nat.zero_add]; exact sq)
      exact ⟨i, by omega, i3⟩
    · obtain ⟨i, i1, i2, i3⟩ := step (n - p) p sp (by rw [show p + (n - p) = n by omega]; exact c)
      exact ⟨i, by omega, i3⟩
def zm_uniU (Y : Nat → Int) (n : Nat) : Prop := ∀ i j y, i < n → j < n → Y i ≤ y → y < Y (i + 1) → Y j ≤ y → y < Y (j + 1) → i = j
def zm_uniD (Y : Nat → Int) (n : Nat) : Prop := ∀ i j y, i < n → j < n → Y (i + 1) ≤ y → y < Y i → Y (j + 1) ≤ y → y < Y j → i = j
def zm_F1 (X Y : Nat → Int) (i : Nat) (y : Int) : Int := if Y i ≤ y ∧ y < Y (i + 1) then 2 * zm_flE X Y i y + 1 else 0
def zm_F2 (X Y : Nat → Int) (i : Nat) (y : Int) : Int := if Y (i + 1) ≤ y ∧ y < Y i then 1 - 2 * zm_ceE X Y i y else 0
theorem zm_row_sum {X Y : Nat → Int} {n : Nat} (M : zm_mono X Y n) (B : zm_bnd X n) (U : zm_uniU Y n) (D : zm_uniD Y n) (per : Y n = Y 0) {y : Int} {p q : Nat} (hp : p < n) (zm_hq : q < n) (yp : Y p ≤ y) (yq : y < Y q) : 2 * cntR (zm_rwX X Y y n) = zm_sm n (fun i => zm_F1 X Y i y + zm_F2 X Y i y) := by
  obtain ⟨i0, h0, u1, u2⟩ := zm_trans (s := fun i => Y i ≤ y) (by rw [per]) hp zm_hq yp (by omega)
  obtain ⟨j0, k0, d1, d2⟩ := zm_trans (s := fun i => y < Y i) (by rw [per]) zm_hq hp yq (by omega)
  rw [zm_row_gen M B h0 (by omega) (by omega) k0 (by omega) (by omega), zm_sm_a, zm_sm_1 (f := fun i => zm_F1 X Y i y) (i0 := i0) h0 (fun i hi hne => if_neg (fun c => hne (U i i0 y hi h0 c.1 c.2 u1 (by omega)))), zm_sm_1 (f := fun i => zm_F2 X Y i y) (i0 := j0) k0 (fun i hi hne => if_neg (fun c => hne (D i j0 y hi k0 c.1 c.2 (by omega) d1)))]
  unfold zm_F1 zm_F2
  rw [if_pos ⟨u1, by omega⟩, if_pos ⟨by omega, d1⟩]
  omega
def zm_psi (X Y : Nat → Int) (i : Nat) : Int := (X i + X (i + 1)) * (Y (i + 1) - Y i) - (X (i + 1) - X i) + Int.gcd (X (i + 1) - X i) (Y (i + 1) - Y i)
def zm_Lf (X Y : Nat → Int) (i : Nat) : Int := if Y i = Y (i + 1) then ((X (i + 1) - X i).natAbs : Int) - (X (i + 1) - X i) else 0
theorem zm_edge_up {X Y : Nat → Int} {i h : Nat} {lo : Int} (hu : Y i < Y (i + 1)) (h1 : lo ≤ Y i) (h2 : Y (i + 1) ≤ lo + h) : zm_sm h (fun j => zm_F1 X Y i (lo + j)) = zm_psi X Y i := by
  obtain ⟨p, hp⟩ := Int.eq_ofNat_of_zero_le (show 0 ≤ Y i - lo by omega)
  obtain ⟨m, hm⟩ := Int.eq_ofNat_of_zero_le (show 0 ≤ Y (i + 1) - Y i by omega)
  have e : zm_sm h (fun j => zm_F1 X Y i (lo + j)) = zm_sm m (fun t : Nat => 2 * X i + (2 * ((X (i + 1) - X i) * (t : Int) / (m : Nat)) + 1)) := by
    refine (zm_sm_c (fun j hj => ?_)).trans (zm_sm_w (h := h) (p := p) (m := m) (by omega) (fun t : Nat => 2 * X i + (2 * ((X (i + 1) - X i) * (t : Int) / (m : Nat)) + 1)))
    unfold zm_F1
    by_cases c : p ≤ j ∧ j < p + m
    · rw [if_pos (by omega), if_pos c]
      unfold zm_flE; rw [if_neg (by omega), if_pos hu, hm]
      rw [show lo + (j : Int) - Y i = ((j - p : Nat) : Int) by omega]; omega
    · rw [if_neg (by omega), if_neg c]
  rw [e, zm_sm_a, zm_sm_k, zm_fl_sum _ (by omega)]
  unfold zm_psi; rw [hm]
  have : (X i + X (i + 1)) * (m : Int) = (m : Int) * (2 * X i) + (X (i + 1) - X i) * m := by grind
  rw [this]; omega
theorem zm_edge_dn {X Y : Nat → Int} {i h : Nat} {lo : Int} (hd : Y (i + 1) < Y i) (h1 : lo ≤ Y (i + 1)) (h2 : Y i ≤ lo + h) : zm_sm h (fun j => zm_F2 X Y i (lo + j)) = zm_psi X Y i := by
  obtain ⟨p, hp⟩ := Int.eq_ofNat_of_zero_le (show 0 ≤ Y (i + 1) - lo by omega)
  obtain ⟨m, hm⟩ := Int.eq_ofNat_of_zero_le (show 0 ≤ Y i - Y (i + 1) by omega)
  have e : zm_sm h (fun j => zm_F2 X Y i (lo + j)) = zm_sm m (fun t : Nat => -2 * X (i + 1) + (2 * ((X (i + 1) - X i) * (t : Int) / (m : Nat)) + 1)) := by
    refine (zm_sm_c (fun j hj => ?_)).trans (zm_sm_w (h := h) (p := p) (m := m) (by omega) (fun t : Nat => -2 * X (i + 1) + (2 * ((X (i + 1) - X i) * (t : Int) / (m : Nat)) + 1)))
    unfold zm_F2
    by_cases c : p ≤ j ∧ j < p + m
    · rw [if_pos (by omega), if_pos c]
      unfold zm_ceE; rw [if_neg (by omega), if_neg (by omega), hm]
      rw [show lo + (j : Int) - Y (i + 1) = ((j - p : Nat) : Int) by omega, ← Int.neg_mul, show -(X i - X (i + 1)) = X (i + 1) - X i by omega]; omega
    · rw [if_neg (by omega), if_neg c]
  rw [e, zm_sm_a, zm_sm_k, zm_fl_sum _ (by omega)]
  unfold zm_psi; rw [show Y (i + 1) - Y i = -(m : Int) by omega, Int.gcd_neg]
  have : (X i + X (i + 1)) * -(m : Int) = (m : Int) * (-2 * X (i + 1)) + (X (i + 1) - X i) * m := by grind
  rw [this]; omega
theorem zm_edge_all {X Y : Nat → Int} {i h : Nat} {lo : Int} (h1 : lo ≤ Y i ∧ lo ≤ Y (i + 1)) (h2 : Y i ≤ lo + h ∧ Y (i + 1) ≤ lo + h) : zm_sm h (fun j => zm_F1 X Y i (lo + j) + zm_F2 X Y i (lo + j)) + zm_Lf X Y i = zm_psi X Y i := by
  rw [zm_sm_a]
  unfold zm_Lf
  rcases Int.lt_trichotomy (Y i) (Y (i + 1)) with q | q | q
  · rw [zm_edge_up q h1.1 h2.2, zm_sm_0 (f := fun j => zm_F2 X Y i (lo + j)) (fun j hj => if_neg (by omega)), if_neg (by omega)]; omega
  · rw [zm_sm_0 (f := fun j => zm_F1 X Y i (lo + j)) (fun j hj => if_neg (by omega)), zm_sm_0 (f := fun j => zm_F2 X Y i (lo + j)) (fun j hj => if_neg (by omega)), if_pos q]
    unfold zm_psi; rw [show Y (i + 1) - Y i = 0 by omega, Int.gcd_zero, Int.mul_zero]; omega
  · rw [zm_edge_dn q h1.2 h2.1, zm_sm_0 (f := fun j => zm_F1 X Y i (lo + j)) (fun j hj => if_neg (by omega)), if_neg (by omega)]; omega
theorem zm_sm_tel (n : Nat) (f : Nat → Int) : zm_sm n (fun i => f (i + 1) - f i) = f n - f 0 := by
  induction n with
  | zero => show (0 : Int) = f 0 - f 0; omega
  | succ n ih => unfold zm_sm; rw [ih]; dsimp only; omega
theorem zm_top_sum {X Y : Nat → Int} {n : Nat} (M : zm_mono X Y n) (U : zm_uniU Y n) (D : zm_uniD Y n) (perX : X n = X 0) (per : Y n = Y 0) {hi : Int} (le : ∀ i, i ≤ n → Y i ≤ hi) {i0 j0 : Nat} (h0 : i0 < n) (k0 : j0 < n) (u1 : Y i0 < hi) (u2 : Y (i0 + 1) = hi) (d1 : Y j0 = hi) (d2 : Y (j0 + 1) < hi) : zm_sm n (zm_Lf X Y) = 2 * (X (i0 + 1) - X j0) := by
  have e : zm_sm n (zm_Lf X Y) = zm_sm n (fun i => -2 * ((if Y (i + 1) = hi then X (i + 1) else 0) - (if Y i = hi then X i else 0)) + ((if i = i0 then 2 * X (i0 + 1) else 0) + (if i = j0 then -2 * X j0 else 0))) := by
    refine zm_sm_c (fun i hi' => ?_)
    have a := le i (by omega); have b := le (i + 1) (by omega)
    unfold zm_Lf
    by_cases c1 : Y i = hi
    · have n0 : i ≠ i0 := fun e => by rw [e] at c1; omega
      by_cases c2 : Y (i + 1) = hi
      · have n1 : i ≠ j0 := fun e => by rw [e] at c2; omega
        rw [if_pos (by omega), if_pos c2, if_pos c1, if_neg n0, if_neg n1]
        have m := M i hi' i0 (by omega)
        rw [show Y (i + 1) - Y i = 0 by omega, Int.zero_mul] at m
        have dn : X (i + 1) - X i ≤ 0 := by
          rcases Int.lt_or_le 0 (X (i + 1) - X i) with q | q
          · have := Int.mul_neg_of_pos_of_neg q (show Y i0 - Y i < 0 by omega); omega
          · exact q
        omega
      · have e1 : i = j0 := D i j0 (hi - 1) hi' k0 (by omega) (by omega) (by omega) (by omega)
        rw [if_neg (by omega), if_neg c2, if_pos c1, if_neg n0, if_pos e1, e1]; omega
    · by_cases c2 : Y (i + 1) = hi
      · have e1 : i = i0 := U i i0 (hi - 1) hi' h0 (by omega) (by omega) (by omega) (by omega)
        have n1 : i ≠ j0 := fun e => by rw [e] at c1; omega
        rw [if_neg (by omega), if_pos c2, if_neg c1, if_pos e1, if_neg n1, e1]; omega
      · have n0 : i ≠ i0 := fun e => by rw [e] at c2; omega
        have n1 : i ≠ j0 := fun e => by rw [e] at c1; omega
        rw [if_neg c2, if_neg c1, if_neg n0, if_neg n1]
        by_cases f : Y i = Y (i + 1)
        · rw [if_pos f]
          have m := M i hi' j0 (by omega)
          rw [show Y (i + 1) - Y i = 0 by omega, Int.zero_mul] at m
          have dn : 0 ≤ X (i + 1) - X i := by
            rcases Int.lt_or_le (X (i + 1) - X i) 0 with q | q
            · have := Int.mul_neg_of_neg_of_pos q (show 0 < Y j0 - Y i by omega); omega
            · exact q
          omega
        · rw [if_neg f]; omega
  rw [e, zm_sm_a, zm_sm_m, zm_sm_tel n (fun i => if Y i = hi then X i else 0), zm_sm_a, zm_sm_1 (i0 := i0) h0 (fun i _ hne => if_neg hne), zm_sm_1 (i0 := j0) k0 (fun i _ hne => if_neg hne)]
  rw [if_pos rfl, if_pos rfl, perX, per]; omega
theorem zm_pick_X {X Y : Nat → Int} {n h : Nat} {lo : Int} (M : zm_mono X Y n) (B : zm_bnd X n) (U : zm_uniU Y n) (D : zm_uniD Y n) (perX : X n = X 0) (per : Y n = Y 0) (hh : 0 < h) (b1 : ∀ i, i ≤ n → lo ≤ Y i) (b2 : ∀ i, i ≤ n → Y i ≤ lo + h) {p q : Nat} (hp : p < n) (zm_hq : q < n) (yp : Y p = lo) (yq : Y q = lo + h) : 2 * zm_sm (h + 1) (fun j => cntR (zm_rwX X Y (lo + j) n)) = zm_sm n (fun i => (X i + X (i + 1)) * (Y (i + 1) - Y i)) + zm_sm n (fun i => (Int.gcd (X (i + 1) - X i) (Y (i + 1) - Y i) : Int)) + 2 := by
  obtain ⟨i0, h0, u1, u2⟩ := zm_trans (s := fun i => Y i ≤ lo + h - 1) (by rw [per]) hp zm_hq (by omega) (by omega)
  obtain ⟨j0, k0, d1, d2⟩ := zm_trans (s := fun i => lo + h - 1 < Y i) (by rw [per]) zm_hq hp (by omega) (by omega)
  have q1 := b2 (i0 + 1) (by omega); have q2 := b2 j0 (by omega)
  have top := zm_top_sum M U D perX per b2 h0 k0 (by omega) (by omega) (by omega) (by omega)
  have rt : cntR (zm_rwX X Y (lo + h) n) = X (i0 + 1) - X j0 + 1 := by
    rw [zm_row_gen M B h0 (by omega) (by omega) k0 (by omega) (by omega)]
    have f1 : zm_flE X Y i0 (lo + h) = X (i0 + 1) := by
      unfold zm_flE; rw [if_neg (by omega), if_pos (by omega), show lo + (h : Int) - Y i0 = Y (i0 + 1) - Y i0 by omega, Int.mul_ediv_cancel _ (by omega)]; omega
    have f2 : zm_ceE X Y j0 (lo + h) = X j0 := by
      unfold zm_ceE; rw [if_neg (by omega), if_neg (by omega), show lo + (h : Int) - Y (j0 + 1) = Y j0 - Y (j0 + 1) by omega, ← Int.neg_mul, Int.mul_ediv_cancel _ (by omega)]; omega
    rw [f1, f2]
  have rows : 2 * zm_sm h (fun j => cntR (zm_rwX X Y (lo + j) n)) + zm_sm n (zm_Lf X Y) = zm_sm n (zm_psi X Y) := by
    rw [← zm_sm_m, zm_sm_c (n := h) (g := fun j => zm_sm n (fun i => zm_F1 X Y i (lo + j) + zm_F2 X Y i (lo + j))) (fun j hj => zm_row_sum M B U D per hp zm_hq (by omega) (by omega)), ← zm_sm_sw, ← zm_sm_a]
    exact zm_sm_c (fun i hi => zm_edge_all ⟨b1 i (by omega), b1 (i + 1) (by omega)⟩ ⟨b2 i (by omega), b2 (i + 1) (by omega)⟩)
  have ps : zm_sm n (zm_psi X Y) = zm_sm n (fun i => (X i + X (i + 1)) * (Y (i + 1) - Y i)) + zm_sm n (fun i => (Int.gcd (X (i + 1) - X i) (Y (i + 1) - Y i) : Int)) := by
    have e : zm_sm n (zm_psi X Y) = zm_sm n (fun i => ((X i + X (i + 1)) * (Y (i + 1) - Y i) + (Int.gcd (X (i + 1) - X i) (Y (i + 1) - Y i) : Int)) + -1 * (X (i + 1) - X i)) := zm_sm_c (fun i _ => by unfold zm_psi; omega)
    rw [e, zm_sm_a, zm_sm_a, zm_sm_m, zm_sm_tel n X, perX]; omega
  show 2 * (zm_sm h (fun j => cntR (zm_rwX X Y (lo + j) n)) + cntR (zm_rwX X Y (lo + h) n)) = _
  rw [rt]; omega
