/-! MATHEMATICS 17: points of the grid in a hull -/
theorem zm_dv_u {a b q : Int} (hb : 0 < b) (h1 : q * b ≤ a) (h2 : a < q * b + b) : a / b = q := by
  have h := zm_dv_le a hb
  rcases Int.lt_trichotomy (a / b) q with u | u | u
  · have := Int.mul_le_mul_of_nonneg_left (show a / b ≤ q - 1 by omega) (show 0 ≤ b by omega)
    rw [Int.mul_sub, Int.mul_one, Int.mul_comm b q] at this; omega
  · exact u
  · have := Int.mul_le_mul_of_nonneg_left (show q + 1 ≤ a / b by omega) (show 0 ≤ b by omega)
    rw [Int.mul_add, Int.mul_one, Int.mul_comm b q] at this; omega
theorem zm_prt_f {a b : Int} (hb : 0 < b) : prt a b false = a / b := by
  have h := rest_b (a := a) hb
  unfold prt
  rw [if_neg (by decide)]
  split
  · exact (zm_dv_u hb (by rw [Int.sub_mul]; omega) (by rw [Int.sub_mul]; omega)).symm
  · exact (zm_dv_u hb (by omega) (by omega)).symm
theorem zm_prt_t {a b : Int} (hb : 0 < b) : prt a b true = -(-a / b) := by
  have h := rest_b (a := a) hb
  unfold prt
  rw [if_pos rfl]
  split
  · rw [zm_dv_u (a := -a) (q := -(a.tdiv b) - 1) hb (by rw [Int.sub_mul, Int.neg_mul]; omega) (by rw [Int.sub_mul, Int.neg_mul]; omega)]; omega
  · rw [zm_dv_u (a := -a) (q := -(a.tdiv b)) hb (by rw [Int.neg_mul]; omega) (by rw [Int.neg_mul]; omega)]; omega
def zm_kX (H : List Pt) (k : Int) (i : Nat) : Int := k * (zm_gC H i).1
def zm_kY (H : List Pt) (k : Int) (i : Nat) : Int := k * (zm_gC H i).2
theorem zm_row_e (H : List Pt) (k y : Int) : ∀ m, m ≤ H.length → rowN H k y m = zm_rwX (zm_kX H k) (zm_kY H k) y m := by
  intro m
  induction m with
  | zero => intro _; rfl
  | succ m ih =>
    intro hm
    have a := zm_gC_i (H := H) (i := m) (by omega); have b := zm_gC_nx (H := H) (i := m) (by omega)
    have a1 : k * pX H m = zm_kX H k m := by unfold zm_kX; rw [← a]
    have a2 : k * pY H m = zm_kY H k m := by unfold zm_kY; rw [← a]
    have b1 : k * pX H (nx H m) = zm_kX H k (m + 1) := by unfold zm_kX; rw [← b]
    have b2 : k * pY H (nx H m) = zm_kY H k (m + 1) := by unfold zm_kY; rw [← b]
    unfold rowN zm_rwX
    rw [ih (by omega)]
    unfold rwS
    rw [a1, a2, b1, b2]
    generalize zm_rwX (zm_kX H k) (zm_kY H k) y m = r
    generalize zm_kX H k = X; generalize zm_kY H k = Y
    unfold rwC zm_flE zm_ceE
    by_cases c1 : Y (m + 1) < Y m
    · rw [if_pos c1]
      by_cases t : y < Y (m + 1) ∨ Y m < y
      · rw [if_pos t, if_neg (by unfold zm_tch; omega)]
      · rw [if_neg t, if_neg (by omega), if_pos (by unfold zm_tch; omega), if_neg (by omega), if_neg (by omega), if_neg (by omega), if_neg (by omega), zm_prt_f (by omega), zm_prt_t (by omega)]
        rfl
    · rw [if_neg c1]
      by_cases t : y < Y m ∨ Y (m + 1) < y
      · rw [if_pos t, if_neg (by unfold zm_tch; omega)]
      · rw [if_neg t]
        by_cases f : Y m = Y (m + 1)
        · rw [if_pos f, if_pos (by unfold zm_tch; omega), if_pos f, if_pos f]
          refine Prod.ext ?_ ?_ <;> dsimp only <;> omega
        · rw [if_neg f, if_pos (by unfold zm_tch; omega), if_neg f, if_neg f, if_pos (by omega), if_pos (by omega), zm_prt_f (by omega), zm_prt_t (by omega)]
          rfl
theorem zm_dar_sm (H : List Pt) (m : Nat) (hm : m ≤ H.length) : dar H m = zm_sm m (fun i => (zm_gC H i).1 * (zm_gC H (i + 1)).2 - (zm_gC H i).2 * (zm_gC H (i + 1)).1) := by
  induction m with
  | zero => rfl
  | succ m ih =>
    unfold dar zm_sm
    rw [ih (by omega)]
    dsimp only
    rw [← zm_gC_i (H := H) (i := m) (by omega), ← zm_gC_nx (H := H) (i := m) (by omega)]
theorem zm_gst_sm (H : List Pt) (m : Nat) (hm : m ≤ H.length) : gst H m = zm_sm m (fun i => (Int.gcd ((zm_gC H (i + 1)).1 - (zm_gC H i).1) ((zm_gC H (i + 1)).2 - (zm_gC H i).2) : Int)) := by
  induction m with
  | zero => rfl
  | succ m ih =>
    unfold gst zm_sm
    rw [ih (by omega)]
    dsimp only
    rw [← zm_gC_i (H := H) (i := m) (by omega), ← zm_gC_nx (H := H) (i := m) (by omega)]; rfl
theorem zm_area_sm (H : List Pt) (k : Int) (n : Nat) (hn : n ≤ H.length) (per : zm_gC H n = zm_gC H 0) : zm_sm n (fun i => (zm_kX H k i + zm_kX H k (i + 1)) * (zm_kY H k (i + 1) - zm_kY H k i)) = dar H n * k * k := by
  have e : zm_sm n (fun i => (zm_kX H k i + zm_kX H k (i + 1)) * (zm_kY H k (i + 1) - zm_kY H k i)) = zm_sm n (fun i => k * k * ((zm_gC H i).1 * (zm_gC H (i + 1)).2 - (zm_gC H i).2 * (zm_gC H (i + 1)).1) + ((fun j => k * k * ((zm_gC H j).1 * (zm_gC H j).2)) (i + 1) - (fun j => k * k * ((zm_gC H j).1 * (zm_gC H j).2)) i)) := by
    refine zm_sm_c (fun i _ => ?_)
    unfold zm_kX zm_kY; dsimp only; grind
  rw [e, zm_sm_a, zm_sm_m, ← zm_dar_sm H n hn, zm_sm_tel n (fun j => k * k * ((zm_gC H j).1 * (zm_gC H j).2)), per]
  rw [Int.sub_self, Int.add_zero, Int.mul_comm, Int.mul_assoc]
theorem zm_bord_sm (H : List Pt) {k : Int} (hk : 0 ≤ k) (n : Nat) (hn : n ≤ H.length) : zm_sm n (fun i => (Int.gcd (zm_kX H k (i + 1) - zm_kX H k i) (zm_kY H k (i + 1) - zm_kY H k i) : Int)) = gst H n * k := by
  have e : zm_sm n (fun i => (Int.gcd (zm_kX H k (i + 1) - zm_kX H k i) (zm_kY H k (i + 1) - zm_kY H k i) : Int)) = zm_sm n (fun i => k * (Int.gcd ((zm_gC H (i + 1)).1 - (zm_gC H i).1) ((zm_gC H (i + 1)).2 - (zm_gC H i).2) : Int)) := by
    refine zm_sm_c (fun i _ => ?_)
    unfold zm_kX zm_kY
    rw [← Int.mul_sub, ← Int.mul_sub, Int.gcd_mul_left, Int.natCast_mul, Int.natAbs_of_nonneg hk]
  rw [e, zm_sm_m, ← zm_gst_sm H n hn, Int.mul_comm]
theorem zm_loS_spec (H : List Pt) (k : Int) (h1 : 1 ≤ H.length) (m : Nat) (hm : m ≤ H.length) : (∀ i, i < m → loS H k m ≤ zm_kY H k i) ∧ (∃ i, i < H.length ∧ loS H k m = zm_kY H k i) := by
  induction m with
  | zero => exact ⟨fun i hi => by omega, 0, by omega, by unfold loS zm_kY; rw [← zm_gC_i (by omega)]; rfl⟩
  | succ m ih =>
    obtain ⟨a, i, i1, i2⟩ := ih (by omega)
    have e : loS H k (m + 1) = min (zm_kY H k m) (loS H k m) := by unfold zm_kY; rw [← zm_gC_i (by omega)]; rfl
    rw [e]
    refine ⟨fun j hj => ?_, ?_⟩
    · by_cases q : j = m
      · rw [q]; omega
      · have := a j (by omega); omega
    · rcases Int.le_total (zm_kY H k m) (loS H k m) with q | q
      · exact ⟨m, by omega, by omega⟩
      · exact ⟨i, i1, by omega⟩
theorem zm_hiS_spec (H : List Pt) (k : Int) (h1 : 1 ≤ H.length) (m : Nat) (hm : m ≤ H.length) : (∀ i, i < m → zm_kY H k i ≤ hiS H k m) ∧ (∃ i, i < H.length ∧ hiS H k m = zm_kY H k i) := by
  induction m with
  | zero => exact ⟨fun i hi => by omega, 0, by omega, by unfold hiS zm_kY; rw [← zm_gC_i (by omega)]; rfl⟩
  | succ m ih =>
    obtain ⟨a, i, i1, i2⟩ := ih (by omega)
    have e : hiS H k (m + 1) = max (zm_kY H k m) (hiS H k m) := by unfold zm_kY; rw [← zm_gC_i (by omega)]; rfl
    rw [e]
    refine ⟨fun j hj => ?_, ?_⟩
    · by_cases q : j = m
      · rw [q]; omega
      · have := a j (by omega); omega
    · rcases Int.le_total (zm_kY H k m) (hiS H k m) with q | q
      · exact ⟨i, i1, by omega⟩
      · exact ⟨m, by omega, by omega⟩
theorem zm_allN_sm (H : List Pt) (k low : Int) (n : Nat) : allN H k low n = zm_sm n (fun j => cntR (zm_rwX (zm_kX H k) (zm_kY H k) (low + j) H.length)) := by
  induction n with
  | zero => rfl
  | succ n ih => unfold allN zm_sm; rw [ih, zm_row_e H k _ _ (Nat.le_refl _)]
theorem zm_flat_row {X Y : Nat → Int} {n : Nat} {y a b : Int} (hY : ∀ i, i ≤ n → Y i = y) (hX : ∀ i, i ≤ n → a ≤ X i ∧ X i ≤ b) (ha : -10000 ≤ a) (hb : b ≤ 10000) {p q : Nat} (hp : p < n) (zm_hq : q < n) (ep : X p = a) (eq : X q = b) : cntR (zm_rwX X Y y n) = b - a + 1 := by
  have fl : ∀ i, i < n → zm_flE X Y i y = max (X i) (X (i + 1)) := fun i hi => by unfold zm_flE; rw [if_pos (by rw [hY i (by omega), hY (i + 1) (by omega)])]
  have ce : ∀ i, i < n → zm_ceE X Y i y = min (X i) (X (i + 1)) := fun i hi => by unfold zm_ceE; rw [if_pos (by rw [hY i (by omega), hY (i + 1) (by omega)])]
  have t : ∀ i, i < n → zm_tch Y i y := fun i hi => by have := hY i (by omega); have := hY (i + 1) (by omega); unfold zm_tch; omega
  have x := hX p (by omega); have x' := hX (q + 1) (by omega); have x2 := hX (p + 1) (by omega)
  have a1 := zm_rwX_hi (X := X) (Y := Y) (y := y) (F := b) n (by omega) (fun i hi _ => by rw [fl i hi]; have := hX i (by omega); have := hX (i + 1) (by omega); omega)
  have a3 := zm_rwX_lo (X := X) (Y := Y) (y := y) (F := a) n (by omega) (fun i hi _ => by rw [ce i hi]; have := hX i (by omega); have := hX (i + 1) (by omega); omega)
  have a2 := (zm_rwX_in (X := X) n zm_hq (t q zm_hq)).1
  have a4 := (zm_rwX_in (X := X) n hp (t p hp)).2
  rw [fl q zm_hq] at a2; rw [ce p hp] at a4
  unfold cntR
  rw [if_pos (by omega)]; omega
theorem zm_same_dir {s : Int} (hs : zm_sgn1 s) {u v : Pt} (h1 : zm_pp s u) (h2 : zm_pp s v) (h : zm_cx u v = 0) : (0 < u.2 → 0 < v.2) ∧ (u.2 < 0 → v.2 < 0) := by
  have d := zm_crs_sdot hs h1 h2 h
  have n : 0 < u.1 * u.1 + u.2 * u.2 := zm_crs_sdot hs h1 h1 (by unfold zm_crs; grind)
  have e : (u.1 * u.1 + u.2 * u.2) * v.2 = (u.1 * v.1 + u.2 * v.2) * u.2 := by unfold zm_cx zm_crs at h; grind
  constructor
  · intro q
    exact zm_pp_of n (by rw [e]; exact Int.mul_pos d q)
  · intro q
    have := Int.mul_neg_of_pos_of_neg d q
    rcases Int.lt_or_le v.2 0 with w | w
    · exact w
    · have := Int.mul_nonneg (Int.le_of_lt n) w; omega
theorem zm_cross2 (a b c d : Pt) (k y : Int) : (k * d.2 - y) * zm_tr3 a b c + (y - k * c.2) * zm_tr3 a b d + ((k * b.2 - y) * zm_tr3 c d a + (y - k * a.2) * zm_tr3 c d b) = 0 := by unfold zm_tr3 zm_crs; grind
theorem zm_cxq1 (a c d : Pt) : zm_cx (zm_vs a c) (zm_vs d a) = -zm_tr3 c d a := by unfold zm_cx zm_vs zm_tr3 zm_crs; dsimp only; grind
theorem zm_cxq2 (a b d : Pt) : zm_cx (zm_vs a b) (zm_vs d b) = -zm_tr3 a b d := by unfold zm_cx zm_vs zm_tr3 zm_crs; dsimp only; grind
theorem zm_cxq3 (b c d : Pt) : zm_cx (zm_vs d b) (zm_vs b c) = zm_tr3 c d b := by unfold zm_cx zm_vs zm_tr3 zm_crs; dsimp only; grind
theorem zm_CH_uniU {W : Pt → Prop} {H : List Pt} {t n : Nat} (h : zm_CH W H t n) {k : Int} (hk : 0 < k) : zm_uniU (zm_kY H k) n := by
  intro i j y hi hj a1 a2 b1 b2
  obtain ⟨s, hs, p1, p2, p3⟩ := zm_CH_edge h hi
  obtain ⟨s', hs', q1, q2, q3⟩ := zm_CH_edge h hj
  have wi := zm_CH_mem h (k := i) (by omega); have wi1 := zm_CH_mem h (k := i + 1) (by omega)
  have wj := zm_CH_mem h (k := j) (by omega); have wj1 := zm_CH_mem h (k := j + 1) (by omega)
  have m1 := p2 _ wj; have m2 := p2 _ wj1; have m3 := q2 _ wi; have m4 := q2 _ wi1
  unfold zm_kY at a1 a2 b1 b2
  by_cases eij : zm_gC H i = zm_gC H j
  · rcases Nat.lt_trichotomy i j with o | o | o
    · exact absurd eij (zm_CH_ne h o hj)
    · exact o
    · exact absurd eij.symm (zm_CH_ne h o hi)
  exfalso
  have cr := zm_cross2 (zm_gC H i) (zm_gC H (i + 1)) (zm_gC H j) (zm_gC H (j + 1)) k y
  have n1 := Int.mul_nonneg (show 0 ≤ k * (zm_gC H (j + 1)).2 - y by omega) m1
  have n2 := Int.mul_nonneg (show 0 ≤ y - k * (zm_gC H j).2 by omega) m2
  have n3 := Int.mul_nonneg (show 0 ≤ k * (zm_gC H (i + 1)).2 - y by omega) m3
  have n4 := Int.mul_nonneg (show 0 ≤ y - k * (zm_gC H i).2 by omega) m4
  have z1 : zm_tr3 (zm_gC H i) (zm_gC H (i + 1)) (zm_gC H j) = 0 := by
    rcases Int.mul_eq_zero.mp (show (k * (zm_gC H (j + 1)).2 - y) * zm_tr3 (zm_gC H i) (zm_gC H (i + 1)) (zm_gC H j) = 0 by omega) with q | q
    · omega
    · exact q
  have z3 : zm_tr3 (zm_gC H j) (zm_gC H (j + 1)) (zm_gC H i) = 0 := by
    rcases Int.mul_eq_zero.mp (show (k * (zm_gC H (i + 1)).2 - y) * zm_tr3 (zm_gC H j) (zm_gC H (j + 1)) (zm_gC H i) = 0 by omega) with q | q
    · omega
    · exact q
  rcases p3 _ wj z1 with e | e | ⟨e1, e2⟩
  · exact eij e.symm
  · rw [e] at b1; omega
  · rcases q3 _ wi z3 with f | f | ⟨f1, f2⟩
    · exact eij f
    · rw [f] at a1; omega
    · have ne : s ≠ s' := fun q => by subst q; exact zm_lsS_irr hs (zm_lsS_t hs e1 f1)
      have g := zm_lsS_flip hs hs' ne f2
      -- along s: d, a, c, b
      have up : 0 < (zm_vs (zm_gC H i) (zm_gC H (i + 1))).2 := by
        show 0 < (zm_gC H (i + 1)).2 - (zm_gC H i).2
        refine zm_pp_of hk ?_
        rw [Int.mul_sub]; omega
      have c1 := (zm_same_dir hs (u := zm_vs (zm_gC H i) (zm_gC H (i + 1))) (v := zm_vs (zm_gC H i) (zm_gC H j)) p1 e1 (by rw [← zm_tr_c1]; exact z1)).1 up
      have c2 := (zm_same_dir hs (u := zm_vs (zm_gC H i) (zm_gC H j)) (v := zm_vs (zm_gC H (j + 1)) (zm_gC H i)) e1 g (by
        rw [zm_cxq1, z3]; rfl)).1 c1
      have c3 : 0 < (zm_gC H i).2 - (zm_gC H (j + 1)).2 := c2
      have := Int.mul_pos hk c3
      rw [Int.mul_sub] at this; omega
theorem zm_CH_uniD {W : Pt → Prop} {H : List Pt} {t n : Nat} (h : zm_CH W H t n) {k : Int} (hk : 0 < k) : zm_uniD (zm_kY H k) n := by
  intro i j y hi hj a1 a2 b1 b2
  have l := zm_CH_len h
  obtain ⟨s, hs, p1, p2, p3⟩ := zm_CH_edge h hi
  obtain ⟨s', hs', q1, q2, q3⟩ := zm_CH_edge h hj
  have wi := zm_CH_mem h (k := i) (by omega); have wi1 := zm_CH_mem h (k := i + 1) (by omega)
  have wj := zm_CH_mem h (k := j) (by omega); have wj1 := zm_CH_mem h (k := j + 1) (by omega)
  have m1 := p2 _ wj; have m2 := p2 _ wj1; have m3 := q2 _ wi; have m4 := q2 _ wi1
  unfold zm_kY at a1 a2 b1 b2
  have gn : zm_gC H n = zm_gC H 0 := by rw [l.2.2 (by omega), zm_gC_n]
  have inj : ∀ i j, i < j → j < n → zm_gC H (i + 1) ≠ zm_gC H (j + 1) := fun i j hij hj => by
    by_cases e : j + 1 = n
    · rw [e, gn]; exact fun q => zm_CH_ne h (i := 0) (j := i + 1) (by omega) (by omega) q.symm
    · exact zm_CH_ne h (by omega) (by omega)
  by_cases eij : zm_gC H (i + 1) = zm_gC H (j + 1)
  · rcases Nat.lt_trichotomy i j with o | o | o
    · exact absurd eij (inj i j o hj)
    · exact o
    · exact absurd eij.symm (inj j i o hi)
  exfalso
  have cr := zm_cross2 (zm_gC H i) (zm_gC H (i + 1)) (zm_gC H j) (zm_gC H (j + 1)) k y
  have n1 := Int.mul_nonneg (show 0 ≤ y - k * (zm_gC H (j + 1)).2 by omega) m1
  have n2 := Int.mul_nonneg (show 0 ≤ k * (zm_gC H j).2 - y by omega) m2
  have n3 := Int.mul_nonneg (show 0 ≤ y - k * (zm_gC H (i + 1)).2 by omega) m3
  have n4 := Int.mul_nonneg (show 0 ≤ k * (zm_gC H i).2 - y by omega) m4
  have cr' : (y - k * (zm_gC H (j + 1)).2) * zm_tr3 (zm_gC H i) (zm_gC H (i + 1)) (zm_gC H j) + (k * (zm_gC H j).2 - y) * zm_tr3 (zm_gC H i) (zm_gC H (i + 1)) (zm_gC H (j + 1)) + ((y - k * (zm_gC H (i + 1)).2) * zm_tr3 (zm_gC H j) (zm_gC H (j + 1)) (zm_gC H i) + (k * (zm_gC H i).2 - y) * zm_tr3 (zm_gC H j) (zm_gC H (j + 1)) (zm_gC H (i + 1))) = 0 := by
    rw [← Int.neg_sub (k * (zm_gC H (j + 1)).2), ← Int.neg_sub y (k * (zm_gC H j).2), ← Int.neg_sub (k * (zm_gC H (i + 1)).2), ← Int.neg_sub y (k * (zm_gC H i).2), Int.neg_mul, Int.neg_mul, Int.neg_mul, Int.neg_mul]; omega
  have z1 : zm_tr3 (zm_gC H i) (zm_gC H (i + 1)) (zm_gC H (j + 1)) = 0 := by
    rcases Int.mul_eq_zero.mp (show (k * (zm_gC H j).2 - y) * zm_tr3 (zm_gC H i) (zm_gC H (i + 1)) (zm_gC H (j + 1)) = 0 by omega) with q | q
    · omega
    · exact q
  have z3 : zm_tr3 (zm_gC H j) (zm_gC H (j + 1)) (zm_gC H (i + 1)) = 0 := by
    rcases Int.mul_eq_zero.mp (show (k * (zm_gC H i).2 - y) * zm_tr3 (zm_gC H j) (zm_gC H (j + 1)) (zm_gC H (i + 1)) = 0 by omega) with q | q
    · omega
    · exact q
  rcases p3 _ wj1 z1 with e | e | ⟨e1, e2⟩
  · rw [e] at b1; omega
  · exact eij e.symm
  · rcases q3 _ wi1 z3 with f | f | ⟨f1, f2⟩
    · rw [f] at a1; omega
    · exact eij f
    · have ne : s ≠ s' := fun q => by subst q; exact zm_lsS_irr hs (zm_lsS_t hs e2 f2)
      have g := zm_lsS_flip hs hs' ne f1
      -- along s: a, d, b, c
      have dn : (zm_vs (zm_gC H i) (zm_gC H (i + 1))).2 < 0 := by
        show (zm_gC H (i + 1)).2 - (zm_gC H i).2 < 0
        rcases Int.lt_or_le ((zm_gC H (i + 1)).2 - (zm_gC H i).2) 0 with w | w
        · exact w
        · have := Int.mul_nonneg (Int.le_of_lt hk) w
          rw [Int.mul_sub] at this; omega
      have c1 := (zm_same_dir hs (u := zm_vs (zm_gC H i) (zm_gC H (i + 1))) (v := zm_vs (zm_gC H (j + 1)) (zm_gC H (i + 1))) p1 e2 (by
        rw [zm_cxq2, z1]; rfl)).2 dn
      have c2 := (zm_same_dir hs (u := zm_vs (zm_gC H (j + 1)) (zm_gC H (i + 1))) (v := zm_vs (zm_gC H (i + 1)) (zm_gC H j)) e2 g (by
        rw [zm_cxq3]; exact z3)).2 c1
      have c3 : (zm_gC H j).2 - (zm_gC H (i + 1)).2 < 0 := c2
      have := Int.mul_neg_of_pos_of_neg hk c3
      rw [Int.mul_sub] at this; omega
theorem zm_CH_mono {W : Pt → Prop} {H : List Pt} {t n : Nat} (h : zm_CH W H t n) (k : Int) : zm_mono (zm_kX H k) (zm_kY H k) n := by
  intro i hi p hp
  obtain ⟨s, hs, p1, p2, p3⟩ := zm_CH_edge h hi
  have := p2 _ (zm_CH_mem h hp)
  have e : (zm_kX H k (i + 1) - zm_kX H k i) * (zm_kY H k p - zm_kY H k i) - (zm_kY H k (i + 1) - zm_kY H k i) * (zm_kX H k p - zm_kX H k i) = k * k * zm_tr3 (zm_gC H i) (zm_gC H (i + 1)) (zm_gC H p) := by unfold zm_kX zm_kY zm_tr3 zm_crs; grind
  rw [e]; exact Int.mul_nonneg (mul_self_nn k) this
theorem zm_m_gro : Mq_gro := by
  intro P k hP k0 k6
  by_cases p0 : P = []
  · subst p0
    have e : hullF [] = [] := by decide
    rw [e]; rfl
  obtain ⟨t, n, h⟩ := zm_hull_CH hP.2.2 p0
  have sub := zm_CH_sub h
  generalize hullF P = H at *
  have h1 := h.2.1
  have l := zm_CH_len h
  have bq' : ∀ i, bq 300 (zm_gC H i) := fun i => by
    obtain ⟨j, hj, e⟩ := zm_gC_in h1 i
    rw [e]; exact hP.2.1 _ (sub _ (zm_gP_m hj))
  have B : ∀ i, -1800 ≤ zm_kX H k i ∧ zm_kX H k i ≤ 1800 := fun i => by
    have := bq' i
    have q := mbc (a := k) (b := (zm_gC H i).1) 6 300 1800 (by omega) (by omega) (by unfold bq at this; omega) (by unfold bq at this; omega) (by decide)
    unfold zm_kX; omega
  have gl : zm_gC H H.length = zm_gC H 0 := zm_gC_n
  obtain ⟨lo1, lp, lp1, lp2⟩ := zm_loS_spec H k h1 H.length (Nat.le_refl _)
  obtain ⟨hi1, hp', hp1, hp2⟩ := zm_hiS_spec H k h1 H.length (Nat.le_refl _)
  have per : zm_kY H k H.length = zm_kY H k 0 := by unfold zm_kY; rw [gl]
  have perX : zm_kX H k H.length = zm_kX H k 0 := by unfold zm_kX; rw [gl]
  unfold gwg apM
  rw [if_neg (by omega), if_neg (by omega), zm_allN_sm]
  generalize loS H k H.length = lo at *
  generalize hiS H k H.length = hi at *
  have lohi : lo ≤ hi := by have := hi1 lp lp1; omega
  obtain ⟨hh, hhe⟩ := Int.eq_ofNat_of_zero_le (show 0 ≤ hi - lo by omega)
  rw [show (hi - lo + 1).toNat = hh + 1 by omega]
  -- twice the count is enough
  have fin : ∀ c : Int, 2 * c = dar H H.length * k * k + gst H (sd H).toNat * k + 2 → (dar H H.length * k * k + gst H (sd H).toNat * k + 2).tdiv 2 = c := fun c hc => by
    rw [← hc, Int.mul_tdiv_cancel_left _ (by omega)]
  refine fin _ ?_
  have b1 : ∀ i, i ≤ H.length → lo ≤ zm_kY H k i := fun i hi => by
    by_cases e : i = H.length
    · rw [e, per]; exact lo1 0 (by omega)
    · exact lo1 i (by omega)
  have b2 : ∀ i, i ≤ H.length → zm_kY H k i ≤ lo + hh := fun i hi' => by
    by_cases e : i = H.length
    · rw [e, per]; have := hi1 0 (by omega); omega
    · have := hi1 i (by omega); omega
  by_cases flat : hh = 0
  · -- one row
    have one : zm_sm (hh + 1) (fun j => cntR (zm_rwX (zm_kX H k) (zm_kY H k) (lo + j) H.length)) = cntR (zm_rwX (zm_kX H k) (zm_kY H k) lo H.length) := by
      rw [flat]; show 0 + cntR (zm_rwX (zm_kX H k) (zm_kY H k) (lo + ((0 : Nat) : Int)) H.length) = _
      rw [Int.natCast_zero, Int.add_zero, Int.zero_add]
    rw [one]
    have hY : ∀ i, i ≤ H.length → zm_kY H k i = lo := fun i hi => by have := b1 i hi; have := b2 i hi; omega
    have ar : zm_sm H.length (fun i => (zm_kX H k i + zm_kX H k (i + 1)) * (zm_kY H k (i + 1) - zm_kY H k i)) = 0 := zm_sm_0 (fun i hi => by rw [hY i (by omega), hY (i + 1) (by omega), Int.sub_self, Int.mul_zero])
    rw [zm_area_sm H k H.length (Nat.le_refl _) gl] at ar
    rw [ar]
    by_cases n0 : H.length < 2
    · rw [(zm_sd_n H).1 n0]
      have c := zm_flat_row (X := zm_kX H k) (Y := zm_kY H k) (n := H.length) (y := lo) (a := zm_kX H k 0) (b := zm_kX H k 0) hY (fun i hi => by
        have : i = 0 ∨ i = H.length := by omega
        rcases this with e | e
        · rw [e]; omega
        · rw [e, perX]; omega) (by have := B 0; omega) (by have := B 0; omega) (p := 0) (q := 0) (by omega) (by omega) rfl rfl
      rw [c]; show _ = 0 + 0 * k + 2; omega
    · rw [(zm_sd_n H).2 (by omega)]
      by_cases kz : k = 0
      · have z : ∀ i, zm_kX H k i = 0 := fun i => by unfold zm_kX; rw [kz, Int.zero_mul]
        have c := zm_flat_row (X := zm_kX H k) (Y := zm_kY H k) (n := H.length) (y := lo) (a := 0) (b := 0) hY (fun i hi => by rw [z]; omega) (by omega) (by omega) (p := 0) (q := 0) (by omega) (by omega) (z 0) (z 0)
        rw [c, kz]; omega
      · have nn : n = H.length := by have := h.1; rw [(zm_sd_n H).2 (by omega)] at this; exact this
        have yy : ∀ i, i ≤ H.length → (zm_gC H i).2 = (zm_gC H 0).2 := fun i hi => by
          have a := hY i hi; have b := hY 0 (by omega)
          unfold zm_kY at a b
          exact Int.eq_of_mul_eq_mul_left kz (a.trans b.symm)
        have n2 : H.length = 2 := by
          by_cases n3 : 3 ≤ n
          · exfalso
            obtain ⟨i', a1, a2, a3⟩ := zm_CH_nbr h n3 (i := 0) (by omega)
            have e1 : (zm_ev (zm_gC H) i').2 = 0 := by show (zm_gC H (i' + 1)).2 - (zm_gC H i').2 = 0; rw [yy (i' + 1) (by omega), yy i' (by omega)]; omega
            have e2 : (zm_ev (zm_gC H) 0).2 = 0 := by show (zm_gC H (0 + 1)).2 - (zm_gC H 0).2 = 0; rw [yy (0 + 1) (by omega)]; omega
            unfold zm_cx zm_crs at a3
            rw [e1, e2] at a3; omega
          · omega
        rw [← zm_bord_sm H k0 H.length (Nat.le_refl _), n2]
        rw [n2] at hY perX
        have x0 := B 0; have x1 := B 1
        have sm2 : zm_sm 2 (fun i => (Int.gcd (zm_kX H k (i + 1) - zm_kX H k i) (zm_kY H k (i + 1) - zm_kY H k i) : Int)) = 2 * ((zm_kX H k 1 - zm_kX H k 0).natAbs : Int) := by
          show 0 + (Int.gcd (zm_kX H k 1 - zm_kX H k 0) (zm_kY H k 1 - zm_kY H k 0) : Int) + (Int.gcd (zm_kX H k 2 - zm_kX H k 1) (zm_kY H k 2 - zm_kY H k 1) : Int) = _
          rw [hY 0 (by omega), hY 1 (by omega), hY 2 (by omega), Int.sub_self, Int.gcd_zero, Int.gcd_zero, perX]; omega
        rw [sm2]
        rcases Int.le_total (zm_kX H k 0) (zm_kX H k 1) with o | o
        · have c := zm_flat_row (X := zm_kX H k) (Y := zm_kY H k) (n := 2) (y := lo) (a := zm_kX H k 0) (b := zm_kX H k 1) hY (fun i hi => by
            have : i = 0 ∨ i = 1 ∨ i = 2 := by omega
            rcases this with e | e | e
            · rw [e]; omega
            · rw [e]; omega
            · rw [e, perX]; omega) (by omega) (by omega) (p := 0) (q := 1) (by omega) (by omega) rfl rfl
          rw [c]; omega
        · have c := zm_flat_row (X := zm_kX H k) (Y := zm_kY H k) (n := 2) (y := lo) (a := zm_kX H k 1) (b := zm_kX H k 0) hY (fun i hi => by
            have : i = 0 ∨ i = 1 ∨ i = 2 := by omega
            rcases this with e | e | e
            · rw [e]; omega
            · rw [e]; omega
            · rw [e, perX]; omega) (by omega) (by omega) (p := 1) (q := 0) (by omega) (by omega) rfl rfl
          rw [c]; omega
  · have l2 : 2 ≤ H.length := by
      by_cases q : H.length < 2
      · exfalso
        have e1 : lp = 0 := by omega
        have e2 : hp' = 0 := by omega
        rw [e1] at lp2; rw [e2] at hp2; omega
      · omega
    have nn : n = H.length := by have := h.1; rw [(zm_sd_n H).2 l2] at this; exact this
    have kp : 0 < k := by
      by_cases kz : k = 0
      · exfalso
        unfold zm_kY at lp2 hp2
        rw [kz, Int.zero_mul] at lp2 hp2; omega
      · omega
    rw [(zm_sd_n H).2 l2]
    have pk := zm_pick_X (X := zm_kX H k) (Y := zm_kY H k) (n := H.length) (h := hh) (lo := lo) (nn ▸ zm_CH_mono h k) (fun i _ => by have := B i; omega) (nn ▸ zm_CH_uniU h kp) (nn ▸ zm_CH_uniD h kp) perX per (by omega) b1 b2 lp1 hp1 lp2.symm (by omega)
    rw [zm_area_sm H k H.length (Nat.le_refl _) gl, zm_bord_sm H k0 H.length (Nat.le_refl _)] at pk
    exact pk
theorem mth : MTH := ⟨zm_m_hul, fun Q h => zm_m_hne Q h, zm_m_sums, zm_m_pla, zm_m_pls, zm_m_are, zm_m_bor, zm_m_gro, fun P => zm_m_wid P P.length, fun P h => by have := zm_m_nea P (P.length - 2); rw [show P.length - 2 + 2 = P.length by omega] at this; exact this, zm_m_wdt, zm_m_cir, zm_m_cix, zm_m_lar, zm_m_apa, zm_m_bes, zm_m_sup⟩
