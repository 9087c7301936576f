/-! MATHEMATICS 12: circles -/
abbrev zm_Q4 : Type := Int × Int × Int × Int
def zm_pw (q : zm_Q4) (z : Pt) : Int := q.1 * (z.1 * z.1 + z.2 * z.2) - 2 * (q.2.1 * z.1 + q.2.2.1 * z.2) + q.2.2.2
def zm_hq (c : C5) : zm_Q4 := (c.2.2.2.2, c.2.2.2.2 * c.1 + c.2.2.1, c.2.2.2.2 * c.2.1 + c.2.2.2.1, c.2.2.2.2 * (c.1 * c.1 + c.2.1 * c.2.1) + 2 * (c.1 * c.2.2.1 + c.2.1 * c.2.2.2.1))
def zm_rq (q : zm_Q4) : Int := q.2.1 * q.2.1 + q.2.2.1 * q.2.2.1 - q.1 * q.2.2.2
def zm_lcq (s t : Int) (q r : zm_Q4) : zm_Q4 := (s * q.1 + t * r.1, s * q.2.1 + t * r.2.1, s * q.2.2.1 + t * r.2.2.1, s * q.2.2.2 + t * r.2.2.2)
theorem zm_pw_lc (s t : Int) (q r : zm_Q4) (z : Pt) : zm_pw (zm_lcq s t q r) z = s * zm_pw q z + t * zm_pw r z := by unfold zm_pw zm_lcq; dsimp only; grind
theorem zm_has_pw (c : C5) (P : List Pt) (k : Nat) : cHas5 c P k ↔ zm_pw (zm_hq c) (zm_gP P k) ≤ 0 := by
  unfold cHas5 cHas zm_pw zm_hq zm_gP; dsimp only
  generalize pX P k = x; generalize pY P k = y
  have e : c.2.2.2.2 * (x * x + y * y) - 2 * ((c.2.2.2.2 * c.1 + c.2.2.1) * x + (c.2.2.2.2 * c.2.1 + c.2.2.2.1) * y) + (c.2.2.2.2 * (c.1 * c.1 + c.2.1 * c.2.1) + 2 * (c.1 * c.2.2.1 + c.2.1 * c.2.2.2.1)) = ((x - c.1) * (x - c.1) + (y - c.2.1) * (y - c.2.1)) * c.2.2.2.2 - 2 * ((x - c.1) * c.2.2.1 + (y - c.2.1) * c.2.2.2.1) := by grind
  rw [e]; omega
def zm_gg (q r : zm_Q4) : Int := r.1 * (2 * (q.2.1 * q.2.1 + q.2.2.1 * q.2.2.1) - q.1 * q.2.2.2) - 2 * q.1 * (q.2.1 * r.2.1 + q.2.2.1 * r.2.2.1) + q.1 * q.1 * r.2.2.2
def zm_cert (q : zm_Q4) (a b c : Pt) (w1 w2 w3 : Int) : Prop := zm_pw q a = 0 ∧ zm_pw q b = 0 ∧ zm_pw q c = 0 ∧ 0 < w1 + w2 + w3 ∧ q.1 * (w1 * a.1 + w2 * b.1 + w3 * c.1) = (w1 + w2 + w3) * q.2.1 ∧ q.1 * (w1 * a.2 + w2 * b.2 + w3 * c.2) = (w1 + w2 + w3) * q.2.2.1
theorem zm_key_abs (n X Y K n' X' Y' K' S Sx Sy L : Int) (h : n * S - 2 * (X * Sx + Y * Sy) + L * K = 0) (hx : n * Sx = L * X) (hy : n * Sy = L * Y) : n * n * (n' * S - 2 * (X' * Sx + Y' * Sy) + L * K') = L * (n' * (2 * (X * X + Y * Y) - n * K) - 2 * n * (X * X' + Y * Y') + n * n * K') := by
  have e1 : n * n * S = 2 * (X * (n * Sx) + Y * (n * Sy)) - n * (L * K) := by grind
  have e2 : n * n * (n' * S - 2 * (X' * Sx + Y' * Sy) + L * K') = n' * (n * n * S) - 2 * n * (X' * (n * Sx) + Y' * (n * Sy)) + n * n * L * K' := by grind
  rw [e2, e1, hx, hy]; grind
theorem zm_key {q : zm_Q4} {a b c : Pt} {w1 w2 w3 : Int} (h : zm_cert q a b c w1 w2 w3) (r : zm_Q4) : q.1 * q.1 * (w1 * zm_pw r a + w2 * zm_pw r b + w3 * zm_pw r c) = (w1 + w2 + w3) * zm_gg q r := by
  obtain ⟨h1, h2, h3, h4, h5, h6⟩ := h
  have e : ∀ s : zm_Q4, w1 * zm_pw s a + w2 * zm_pw s b + w3 * zm_pw s c = s.1 * (w1 * (a.1 * a.1 + a.2 * a.2) + w2 * (b.1 * b.1 + b.2 * b.2) + w3 * (c.1 * c.1 + c.2 * c.2)) - 2 * (s.2.1 * (w1 * a.1 + w2 * b.1 + w3 * c.1) + s.2.2.1 * (w1 * a.2 + w2 * b.2 + w3 * c.2)) + (w1 + w2 + w3) * s.2.2.2 := fun s => by unfold zm_pw; grind
  rw [e r]
  refine zm_key_abs _ _ _ _ _ _ _ _ _ _ _ _ ?_ h5 h6
  rw [← e q, h1, h2, h3]; omega
theorem zm_gg_two (q r : zm_Q4) : r.1 * zm_gg q r + q.1 * zm_gg r q = 2 * ((r.1 * q.2.1 - q.1 * r.2.1) * (r.1 * q.2.1 - q.1 * r.2.1) + (r.1 * q.2.2.1 - q.1 * r.2.2.1) * (r.1 * q.2.2.1 - q.1 * r.2.2.1)) := by unfold zm_gg; grind
theorem zm_np_of {c z : Int} (hc : 0 < c) (h : c * z ≤ 0) : z ≤ 0 := by
  rcases Int.lt_or_le 0 z with q | q
  · have := Int.mul_pos hc q; omega
  · exact q
theorem zm_gg_le {q r : zm_Q4} {a b c : Pt} {w1 w2 w3 : Int} (h : zm_cert q a b c w1 w2 w3) (le : w1 * zm_pw r a + w2 * zm_pw r b + w3 * zm_pw r c ≤ 0) : zm_gg q r ≤ 0 := by
  have k := zm_key h r
  have := Int.mul_nonpos_of_nonneg_of_nonpos (mul_self_nn q.1) le
  exact zm_np_of h.2.2.2.1 (by omega)
theorem zm_step_pos {q r : zm_Q4} {a b c a' b' c' : Pt} {w1 w2 w3 v1 v2 v3 : Int} (zm_hq : 0 < q.1) (hr : 0 < r.1) (h : zm_cert q a b c w1 w2 w3) (h' : zm_cert r a' b' c' v1 v2 v3) (le : w1 * zm_pw r a + w2 * zm_pw r b + w3 * zm_pw r c ≤ 0) : 0 ≤ v1 * zm_pw q a' + v2 * zm_pw q b' + v3 * zm_pw q c' := by
  have g := zm_gg_le h le
  have t := zm_gg_two q r
  have s1 := mul_self_nn (r.1 * q.2.1 - q.1 * r.2.1); have s2 := mul_self_nn (r.1 * q.2.2.1 - q.1 * r.2.2.1)
  have p1 := Int.mul_nonpos_of_nonneg_of_nonpos (Int.le_of_lt hr) g
  have g2 : 0 ≤ zm_gg r q := zm_nn_of zm_hq (by omega)
  have k := zm_key h' q
  refine zm_nn_of (Int.mul_pos hr hr) ?_
  rw [k]; exact Int.mul_nonneg (Int.le_of_lt h'.2.2.2.1) g2
/-- two least circles are one -/
theorem zm_same_q {q r : zm_Q4} (zm_hq : 0 < q.1) (hr : 0 < r.1) (g1 : zm_gg q r ≤ 0) (g2 : zm_gg r q ≤ 0) : r.1 * q.2.1 = q.1 * r.2.1 ∧ r.1 * q.2.2.1 = q.1 * r.2.2.1 ∧ zm_rq q * (r.1 * r.1) = zm_rq r * (q.1 * q.1) := by
  have t := zm_gg_two q r
  have s1 := mul_self_nn (r.1 * q.2.1 - q.1 * r.2.1); have s2 := mul_self_nn (r.1 * q.2.2.1 - q.1 * r.2.2.1)
  have p1 := Int.mul_nonpos_of_nonneg_of_nonpos (Int.le_of_lt hr) g1
  have p2 := Int.mul_nonpos_of_nonneg_of_nonpos (Int.le_of_lt zm_hq) g2
  have x := mul_self_0 (show (r.1 * q.2.1 - q.1 * r.2.1) * (r.1 * q.2.1 - q.1 * r.2.1) = 0 by omega)
  have y := mul_self_0 (show (r.1 * q.2.2.1 - q.1 * r.2.2.1) * (r.1 * q.2.2.1 - q.1 * r.2.2.1) = 0 by omega)
  have x' : r.1 * q.2.1 = q.1 * r.2.1 := by omega
  have y' : r.1 * q.2.2.1 = q.1 * r.2.2.1 := by omega
  refine ⟨x', y', ?_⟩
  have z : r.1 * zm_gg q r = 0 := by omega
  have z2 : q.1 * zm_gg r q = 0 := by omega
  have w : zm_gg q r = 0 := by rcases Int.mul_eq_zero.mp z with h | h; omega; exact h
  have w2 : zm_gg r q = 0 := by rcases Int.mul_eq_zero.mp z2 with h | h; omega; exact h
  unfold zm_gg at w w2; unfold zm_rq
  have e1 : q.1 * (r.1 * q.2.2.2) = q.1 * (q.1 * r.2.2.2) := by
    have a1 : q.1 * (q.2.1 * r.2.1 + q.2.2.1 * r.2.2.1) = q.2.1 * (q.1 * r.2.1) + q.2.2.1 * (q.1 * r.2.2.1) := by grind
    rw [← x', ← y'] at a1
    have a2 : 2 * q.1 * (q.2.1 * r.2.1 + q.2.2.1 * r.2.2.1) = 2 * (q.2.1 * (r.1 * q.2.1) + q.2.2.1 * (r.1 * q.2.2.1)) := by rw [Int.mul_assoc, a1]
    rw [a2] at w; grind
  have e2 : r.1 * q.2.2.2 = q.1 * r.2.2.2 := Int.eq_of_mul_eq_mul_left (by omega) e1
  have f1 : (q.2.1 * q.2.1 + q.2.2.1 * q.2.2.1 - q.1 * q.2.2.2) * (r.1 * r.1) = (r.1 * q.2.1) * (r.1 * q.2.1) + (r.1 * q.2.2.1) * (r.1 * q.2.2.1) - r.1 * q.1 * (r.1 * q.2.2.2) := by grind
  rw [f1, x', y', e2]; grind
/-- the circle through three points -/
def zm_pxx (a b c : Pt) : Int := (c.2 - a.2) * ((b.1 - a.1) * (b.1 - a.1) + (b.2 - a.2) * (b.2 - a.2)) - (b.2 - a.2) * ((c.1 - a.1) * (c.1 - a.1) + (c.2 - a.2) * (c.2 - a.2))
def zm_pyy (a b c : Pt) : Int := (b.1 - a.1) * ((c.1 - a.1) * (c.1 - a.1) + (c.2 - a.2) * (c.2 - a.2)) - (c.1 - a.1) * ((b.1 - a.1) * (b.1 - a.1) + (b.2 - a.2) * (b.2 - a.2))
def zm_psq (s : Int) (a b c : Pt) : zm_Q4 := zm_hq (a.1, a.2, s * zm_pxx a b c, s * zm_pyy a b c, s * 2 * zm_tr3 a b c)
theorem zm_psq_abs (a b c : Pt) (s : Int) (z : Pt) : zm_pw (zm_psq s a b c) z = 2 * s * (((z.1 - a.1) * (z.1 - a.1) + (z.2 - a.2) * (z.2 - a.2)) * zm_tr3 a b c - ((z.1 - a.1) * zm_pxx a b c + (z.2 - a.2) * zm_pyy a b c)) := by
  unfold zm_pw zm_psq zm_hq; dsimp only
  generalize zm_tr3 a b c = t; generalize zm_pxx a b c = u; generalize zm_pyy a b c = v
  grind
theorem zm_psq_0 (s : Int) (a b c : Pt) : zm_pw (zm_psq s a b c) a = 0 ∧ zm_pw (zm_psq s a b c) b = 0 ∧ zm_pw (zm_psq s a b c) c = 0 := by
  rw [zm_psq_abs, zm_psq_abs, zm_psq_abs]
  unfold zm_tr3 zm_crs zm_pxx zm_pyy
  generalize b.1 - a.1 = ex; generalize b.2 - a.2 = ey; generalize c.1 - a.1 = fx; generalize c.2 - a.2 = fy
  refine ⟨by grind, by grind, by grind⟩
def zm_wv (a b c : Pt) : Int := ((a.1 - b.1) * (a.1 - b.1) + (a.2 - b.2) * (a.2 - b.2)) * ((c.1 - a.1) * (c.1 - b.1) + (c.2 - a.2) * (c.2 - b.2))
theorem zm_wv_sum (a b c : Pt) : zm_wv b c a + zm_wv c a b + zm_wv a b c = 2 * (zm_tr3 a b c * zm_tr3 a b c) := by
  unfold zm_wv zm_tr3 zm_crs
  have e1 : b.1 - c.1 = (b.1 - a.1) - (c.1 - a.1) := by omega
  have e2 : b.2 - c.2 = (b.2 - a.2) - (c.2 - a.2) := by omega
  have e3 : c.1 - b.1 = (c.1 - a.1) - (b.1 - a.1) := by omega
  have e4 : c.2 - b.2 = (c.2 - a.2) - (b.2 - a.2) := by omega
  have e5 : a.1 - b.1 = -(b.1 - a.1) := by omega
  have e6 : a.2 - b.2 = -(b.2 - a.2) := by omega
  have e7 : a.1 - c.1 = -(c.1 - a.1) := by omega
  have e8 : a.2 - c.2 = -(c.2 - a.2) := by omega
  rw [e1, e2, e3, e4, e5, e6, e7, e8]
  generalize b.1 - a.1 = ex; generalize b.2 - a.2 = ey; generalize c.1 - a.1 = fx; generalize c.2 - a.2 = fy
  grind
theorem zm_wv_vec (a b c : Pt) : zm_wv c a b * (b.1 - a.1) + zm_wv a b c * (c.1 - a.1) = zm_tr3 a b c * zm_pxx a b c ∧ zm_wv c a b * (b.2 - a.2) + zm_wv a b c * (c.2 - a.2) = zm_tr3 a b c * zm_pyy a b c := by
  unfold zm_wv zm_tr3 zm_crs zm_pxx zm_pyy
  have e1 : b.1 - c.1 = (b.1 - a.1) - (c.1 - a.1) := by omega
  have e2 : b.2 - c.2 = (b.2 - a.2) - (c.2 - a.2) := by omega
  have e3 : c.1 - b.1 = (c.1 - a.1) - (b.1 - a.1) := by omega
  have e4 : c.2 - b.2 = (c.2 - a.2) - (b.2 - a.2) := by omega
  have e5 : a.1 - b.1 = -(b.1 - a.1) := by omega
  have e6 : a.2 - b.2 = -(b.2 - a.2) := by omega
  rw [e1, e2, e3, e4, e5, e6]
  generalize b.1 - a.1 = ex; generalize b.2 - a.2 = ey; generalize c.1 - a.1 = fx; generalize c.2 - a.2 = fy
  refine ⟨by grind, by grind⟩
theorem zm_psq_cert {s : Int} (a b c : Pt) (ht : zm_tr3 a b c ≠ 0) : zm_cert (zm_psq s a b c) a b c (zm_wv b c a) (zm_wv c a b) (zm_wv a b c) := by
  obtain ⟨h1, h2, h3⟩ := zm_psq_0 s a b c
  have hs := zm_wv_sum a b c
  obtain ⟨v1, v2⟩ := zm_wv_vec a b c
  have hp : 0 < zm_tr3 a b c * zm_tr3 a b c := by
    have := mul_self_nn (zm_tr3 a b c)
    have : zm_tr3 a b c * zm_tr3 a b c ≠ 0 := Int.mul_ne_zero ht ht
    omega
  refine ⟨h1, h2, h3, by omega, ?_, ?_⟩
  · unfold zm_psq zm_hq; dsimp only
    have e : zm_wv b c a * a.1 + zm_wv c a b * b.1 + zm_wv a b c * c.1 = (zm_wv b c a + zm_wv c a b + zm_wv a b c) * a.1 + (zm_wv c a b * (b.1 - a.1) + zm_wv a b c * (c.1 - a.1)) := by grind
    rw [e, v1, hs]
    generalize zm_tr3 a b c = t; generalize zm_pxx a b c = u
    grind
  · unfold zm_psq zm_hq; dsimp only
    have e : zm_wv b c a * a.2 + zm_wv c a b * b.2 + zm_wv a b c * c.2 = (zm_wv b c a + zm_wv c a b + zm_wv a b c) * a.2 + (zm_wv c a b * (b.2 - a.2) + zm_wv a b c * (c.2 - a.2)) := by grind
    rw [e, v2, hs]
    generalize zm_tr3 a b c = t; generalize zm_pyy a b c = u
    grind
theorem zm_aff3 (A B D : Int) (a b c z : Pt) : zm_tr3 a b c * (A * z.1 + B * z.2 + D) = zm_tr3 z b c * (A * a.1 + B * a.2 + D) + zm_tr3 a z c * (A * b.1 + B * b.2 + D) + zm_tr3 a b z * (A * c.1 + B * c.2 + D) := by unfold zm_tr3 zm_crs; grind
theorem zm_tri_u {q r : zm_Q4} {a b c : Pt} (ht : zm_tr3 a b c ≠ 0) (q1 : zm_pw q a = 0) (q2 : zm_pw q b = 0) (q3 : zm_pw q c = 0) (r1 : zm_pw r a = 0) (r2 : zm_pw r b = 0) (r3 : zm_pw r c = 0) (z : Pt) : r.1 * zm_pw q z = q.1 * zm_pw r z := by
  have e : ∀ y : Pt, r.1 * zm_pw q y - q.1 * zm_pw r y = (-2 * (r.1 * q.2.1 - q.1 * r.2.1)) * y.1 + (-2 * (r.1 * q.2.2.1 - q.1 * r.2.2.1)) * y.2 + (r.1 * q.2.2.2 - q.1 * r.2.2.2) := fun y => by unfold zm_pw; grind
  have h := zm_aff3 (-2 * (r.1 * q.2.1 - q.1 * r.2.1)) (-2 * (r.1 * q.2.2.1 - q.1 * r.2.2.1)) (r.1 * q.2.2.2 - q.1 * r.2.2.2) a b c z
  rw [← e, ← e, ← e, ← e, q1, q2, q3, r1, r2, r3] at h
  simp only [Int.mul_zero, Int.sub_zero, Int.add_zero] at h
  rcases Int.mul_eq_zero.mp h with h | h
  · exact absurd h ht
  · omega
/-- on the line through two points of both circles -/
theorem zm_line_u {q r : zm_Q4} {a b z : Pt} (hab : 0 < (b.1 - a.1) * (b.1 - a.1) + (b.2 - a.2) * (b.2 - a.2)) (ht : zm_tr3 a b z = 0) (q1 : zm_pw q a = 0) (q2 : zm_pw q b = 0) (r1 : zm_pw r a = 0) (r2 : zm_pw r b = 0) : r.1 * zm_pw q z = q.1 * zm_pw r z := by
  have e : ∀ y : Pt, r.1 * zm_pw q y - q.1 * zm_pw r y = (-2 * (r.1 * q.2.1 - q.1 * r.2.1)) * y.1 + (-2 * (r.1 * q.2.2.1 - q.1 * r.2.2.1)) * y.2 + (r.1 * q.2.2.2 - q.1 * r.2.2.2) := fun y => by unfold zm_pw; grind
  have ea := e a; have eb := e b; have ez := e z
  rw [q1, r1] at ea; rw [q2, r2] at eb
  generalize -2 * (r.1 * q.2.1 - q.1 * r.2.1) = A at *
  generalize -2 * (r.1 * q.2.2.1 - q.1 * r.2.2.1) = B at *
  generalize r.1 * q.2.2.2 - q.1 * r.2.2.2 = D at *
  have zm_key : ((b.1 - a.1) * (b.1 - a.1) + (b.2 - a.2) * (b.2 - a.2)) * (A * z.1 + B * z.2 + D) = 0 := by
    have l1 : ((b.1 - a.1) * (b.1 - a.1) + (b.2 - a.2) * (b.2 - a.2)) * (A * z.1 + B * z.2 + D) = ((b.1 - a.1) * (b.1 - z.1) + (b.2 - a.2) * (b.2 - z.2)) * (A * a.1 + B * a.2 + D) + ((b.1 - a.1) * (z.1 - a.1) + (b.2 - a.2) * (z.2 - a.2)) * (A * b.1 + B * b.2 + D) := by
      unfold zm_tr3 zm_crs at ht; grind
    have za : A * a.1 + B * a.2 + D = 0 := by omega
    have zb : A * b.1 + B * b.2 + D = 0 := by omega
    rw [l1, za, zb]; omega
  rcases Int.mul_eq_zero.mp zm_key with h | h
  · omega
  · omega
theorem zm_pass_eq (P : List Pt) (i j k : Nat) : zm_hq (cPass P i j k) = zm_psq (sgn (twi P i j k)) (zm_gP P i) (zm_gP P j) (zm_gP P k) := by
  unfold cPass zm_psq psx psy zm_pxx zm_pyy zm_tr3 zm_crs twi zm_gP; rfl
theorem zm_span_pw (P : List Pt) (i j : Nat) (z : Pt) : zm_pw (zm_hq (cSpan P i j)) z = 2 * ((z.1 - (zm_gP P i).1) * (z.1 - (zm_gP P j).1) + (z.2 - (zm_gP P i).2) * (z.2 - (zm_gP P j).2)) := by
  unfold cSpan zm_pw zm_hq zm_gP; dsimp only; grind
theorem zm_shr_pw (P : List Pt) (i : Int) (z : Pt) : zm_pw (zm_hq (cShr P i)) z = (z.1 - pX P i) * (z.1 - pX P i) + (z.2 - pY P i) * (z.2 - pY P i) := by
  unfold cShr zm_pw zm_hq; dsimp only; grind
theorem zm_twi_tr (P : List Pt) (i j k : Nat) : twi P i j k = zm_tr3 (zm_gP P i) (zm_gP P j) (zm_gP P k) := rfl
theorem zm_sgn_pos {t : Int} (h : t ≠ 0) : 0 < sgn t * 2 * t := by unfold sgn; split <;> omega
