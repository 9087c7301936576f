/-! MATHEMATICS 15: sums of floors -/
def zm_sm : Nat → (Nat → Int) → Int
  | 0, _ => 0
  | n + 1, f => zm_sm n f + f n
theorem zm_sm_c {n : Nat} {f g : Nat → Int} (h : ∀ i, i < n → f i = g i) : zm_sm n f = zm_sm n g := by
  induction n with
  | zero => rfl
  | succ n ih => unfold zm_sm; rw [ih (fun i hi => h i (by omega)), h n (by omega)]
theorem zm_sm_0 {n : Nat} {f : Nat → Int} (h : ∀ i, i < n → f i = 0) : zm_sm n f = 0 := by
  induction n with
  | zero => rfl
  | succ n ih => unfold zm_sm; rw [ih (fun i hi => h i (by omega)), h n (by omega)]; rfl
theorem zm_sm_a (n : Nat) (f g : Nat → Int) : zm_sm n (fun i => f i + g i) = zm_sm n f + zm_sm n g := by
  induction n with
  | zero => rfl
  | succ n ih => unfold zm_sm; rw [ih]; dsimp only; omega
theorem zm_sm_m (n : Nat) (c : Int) (f : Nat → Int) : zm_sm n (fun i => c * f i) = c * zm_sm n f := by
  induction n with
  | zero => show (0 : Int) = c * 0; omega
  | succ n ih => unfold zm_sm; rw [ih, Int.mul_add]
theorem zm_sm_k (n : Nat) (c : Int) : zm_sm n (fun _ => c) = n * c := by
  induction n with
  | zero => show (0 : Int) = ((0 : Nat) : Int) * c; rw [Int.natCast_zero, Int.zero_mul]
  | succ n ih => unfold zm_sm; rw [ih, Int.natCast_add, Int.add_mul]; dsimp only; omega
theorem zm_sm_d (a b : Nat) (f : Nat → Int) : zm_sm (a + b) f = zm_sm a f + zm_sm b (fun i => f (a + i)) := by
  induction b with
  | zero => show zm_sm a f = zm_sm a f + 0; omega
  | succ b ih => show zm_sm (a + b) f + f (a + b) = zm_sm a f + (zm_sm b (fun i => f (a + i)) + f (a + b)); rw [ih]; omega
theorem zm_sm_sw (n m : Nat) (f : Nat → Nat → Int) : zm_sm n (fun i => zm_sm m (fun j => f i j)) = zm_sm m (fun j => zm_sm n (fun i => f i j)) := by
  induction n with
  | zero => exact (zm_sm_0 (fun _ _ => rfl)).symm
  | succ n ih =>
    show zm_sm n (fun i => zm_sm m (fun j => f i j)) + zm_sm m (fun j => f n j) = zm_sm m (fun j => zm_sm n (fun i => f i j) + f n j)
    rw [ih, zm_sm_a]
theorem zm_sm_1 {n i0 : Nat} {f : Nat → Int} (h0 : i0 < n) (h : ∀ i, i < n → i ≠ i0 → f i = 0) : zm_sm n f = f i0 := by
  induction n with
  | zero => omega
  | succ n ih =>
    show zm_sm n f + f n = f i0
    by_cases e : i0 = n
    · rw [zm_sm_0 (fun i hi => h i (by omega) (by omega)), e]; omega
    · rw [ih (by omega) (fun i hi hne => h i (by omega) hne), h n (by omega) (by omega)]; omega
/-- a piece of the rows -/
theorem zm_sm_w {h p m : Nat} (hp : p + m ≤ h) (g : Nat → Int) : zm_sm h (fun j => if p ≤ j ∧ j < p + m then g (j - p) else 0) = zm_sm m g := by
  obtain ⟨r, rfl⟩ : ∃ r, h = p + m + r := ⟨h - (p + m), by omega⟩
  rw [zm_sm_d, zm_sm_d, zm_sm_0 (n := p) (fun i hi => if_neg (by omega)), zm_sm_0 (n := r) (fun i hi => if_neg (by omega))]
  rw [zm_sm_c (n := m) (g := g) (fun i hi => by rw [if_pos (by omega), show p + i - p = i by omega])]
  omega
theorem zm_sm_rev (n : Nat) (f : Nat → Int) : zm_sm n (fun i => f (n - 1 - i)) = zm_sm n f := by
  induction n generalizing f with
  | zero => rfl
  | succ n ih =>
    have e : zm_sm (n + 1) f = f 0 + zm_sm n (fun i => f (i + 1)) := by
      rw [show n + 1 = 1 + n by omega, zm_sm_d]
      show 0 + f 0 + _ = _
      rw [zm_sm_c (n := n) (f := fun i => f (1 + i)) (g := fun i => f (i + 1)) (fun i _ => by rw [Nat.add_comm])]; omega
    rw [e, ← ih (fun i => f (i + 1))]
    show zm_sm n (fun i => f (n + 1 - 1 - i)) + f (n + 1 - 1 - n) = _
    rw [show n + 1 - 1 - n = 0 by omega, zm_sm_c (n := n) (g := fun i => f (n - 1 - i + 1)) (fun i hi => by rw [show n + 1 - 1 - i = n - 1 - i + 1 by omega])]; omega
theorem zm_fl_pair (a : Int) {n : Int} (hn : 0 < n) : a / n + -a / n = (if n ∣ a then 0 else -1) := by
  by_cases h : n ∣ a
  · rw [if_pos h]
    obtain ⟨c, rfl⟩ := h
    rw [← Int.mul_neg, Int.mul_ediv_cancel_left _ (by omega), Int.mul_ediv_cancel_left _ (by omega)]; omega
  · rw [if_neg h]
    have h1 := Int.mul_ediv_add_emod a n
    have h2 := Int.mul_ediv_add_emod (-a) n
    have r1 := Int.emod_nonneg a (show n ≠ 0 by omega); have r2 := Int.emod_lt_of_pos a hn
    have r3 := Int.emod_nonneg (-a) (show n ≠ 0 by omega); have r4 := Int.emod_lt_of_pos (-a) hn
    have nz : a % n ≠ 0 := fun e => h (Int.dvd_of_emod_eq_zero e)
    have s : n * (a / n + -a / n) = -(a % n + -a % n) := by rw [Int.mul_add]; omega
    generalize a / n + -a / n = q at *
    rcases Int.lt_trichotomy q (-1) with u | u | u
    · have : n * q ≤ n * (-2) := Int.mul_le_mul_of_nonneg_left (by omega) (by omega); omega
    · exact u
    · have : n * 0 ≤ n * q := Int.mul_le_mul_of_nonneg_left (by omega) (by omega); omega
theorem zm_cnt_mul {m : Nat} (hm : 0 < m) (d : Nat) : zm_sm (d * m) (fun t => if (m : Int) ∣ (t : Int) then 1 else 0) = d := by
  induction d with
  | zero => rw [Nat.zero_mul]; rfl
  | succ d ih =>
    rw [Nat.succ_mul, zm_sm_d, ih]
    rw [zm_sm_1 (n := m) (i0 := 0) hm (fun i hi h0 => by
      refine if_neg (fun hd => ?_)
      have : (m : Int) ∣ (i : Int) := by
        have e : ((d * m + i : Nat) : Int) = (m : Int) * d + i := by rw [Int.natCast_add, Int.natCast_mul, Int.mul_comm]
        rw [e] at hd
        exact (Int.dvd_add_right (Int.dvd_mul_right ..)).mp hd
      have := Int.le_of_dvd (by omega) this
      omega)]
    rw [if_pos (by rw [Nat.add_zero, Int.natCast_mul]; exact Int.dvd_mul_left ..)]
    omega
theorem zm_cnt_gcd (m : Int) {n : Nat} (hn : 0 < n) : zm_sm n (fun t => if (n : Int) ∣ m * (t : Int) then 1 else 0) = Int.gcd m n := by
  have gp : 0 < Int.gcd m n := Int.gcd_pos_of_ne_zero_right _ (by omega)
  obtain ⟨a, ha⟩ : ((Int.gcd m n : Nat) : Int) ∣ m := Int.gcd_dvd_left ..
  obtain ⟨b', hb'⟩ : ((Int.gcd m n : Nat) : Int) ∣ (n : Int) := Int.gcd_dvd_right ..
  have b0 : 0 ≤ b' := by
    rcases Int.lt_or_le b' 0 with q | q
    · have := Int.mul_neg_of_pos_of_neg (show (0 : Int) < (Int.gcd m n : Int) by omega) q; omega
    · exact q
  obtain ⟨b, rfl⟩ := Int.eq_ofNat_of_zero_le b0
  have co : Int.gcd a b = 1 := by
    have e : Int.gcd m n = Int.gcd m n * Int.gcd a b := by
      have h := Int.gcd_mul_left (Int.gcd m n : Int) a (b : Int)
      rw [← ha, ← hb', Int.natAbs_natCast] at h
      exact h
    exact Nat.eq_of_mul_eq_mul_left gp (by rw [Nat.mul_one]; exact e.symm)
  generalize hg : Int.gcd m n = g at *
  have nb : n = g * b := by
    have : ((n : Nat) : Int) = ((g * b : Nat) : Int) := by rw [Int.natCast_mul]; exact hb'
    exact_mod_cast this
  have bp : 0 < b := by
    rcases Nat.eq_zero_or_pos b with e | e
    · rw [e] at nb; omega
    · exact e
  rw [nb] at *
  rw [← zm_cnt_mul bp g]
  refine zm_sm_c (fun t ht => ?_)
  have iff1 : (((g * b : Nat) : Int) ∣ m * (t : Int)) ↔ ((b : Int) ∣ (t : Int)) := by
    rw [ha, Int.natCast_mul, Int.mul_assoc]
    constructor
    · intro h
      have h2 : (b : Int) ∣ a * (t : Int) := Int.dvd_of_mul_dvd_mul_left (show (g : Int) ≠ 0 by omega) h
      have h3 := Int.natAbs_dvd_natAbs.mpr h2
      rw [Int.natAbs_mul] at h3
      have co' : Nat.Coprime (b : Int).natAbs a.natAbs := by
        have := co; rw [Int.gcd_comm] at this; exact this
      exact Int.natAbs_dvd_natAbs.mp (co'.dvd_of_dvd_mul_left h3)
    · intro h
      exact Int.mul_dvd_mul_left _ (Int.dvd_trans h (Int.dvd_mul_left ..))
  by_cases c : (b : Int) ∣ (t : Int)
  · rw [if_pos (iff1.mpr c), if_pos c]
  · rw [if_neg (fun h => c (iff1.mp h)), if_neg c]
/-- the sum of floors -/
theorem zm_fl_sum (m : Int) {n : Nat} (hn : 0 < n) : zm_sm n (fun t => 2 * (m * (t : Int) / n) + 1) = m * n - m + Int.gcd m n := by
  obtain ⟨k, rfl⟩ : ∃ k, n = 1 + k := ⟨n - 1, by omega⟩
  have hp : (0 : Int) < ((1 + k : Nat) : Int) := by omega
  have c := zm_cnt_gcd m (n := 1 + k) hn
  rw [zm_sm_d] at c
  have c0 : zm_sm 1 (fun t => if ((1 + k : Nat) : Int) ∣ m * (t : Int) then (1 : Int) else 0) = 1 := by
    show 0 + (if _ then (1 : Int) else 0) = 1
    rw [if_pos ⟨0, by simp⟩]; rfl
  rw [c0] at c
  rw [zm_sm_d]
  have e0 : zm_sm 1 (fun t => 2 * (m * (t : Int) / ((1 + k : Nat) : Int)) + 1) = 1 := by
    show 0 + (2 * (m * ((0 : Nat) : Int) / _) + 1) = 1
    rw [Int.natCast_zero, Int.mul_zero, Int.zero_ediv]; rfl
  rw [e0]
  -- the rest, twice
  have rev := zm_sm_rev k (fun i => m * ((1 + i : Nat) : Int) / ((1 + k : Nat) : Int))
  have s1 : zm_sm k (fun i => 2 * (m * ((1 + i : Nat) : Int) / ((1 + k : Nat) : Int)) + 1) = 2 * zm_sm k (fun i => m * ((1 + i : Nat) : Int) / ((1 + k : Nat) : Int)) + k := by
    rw [zm_sm_a, zm_sm_m, zm_sm_k]; omega
  have s2 : zm_sm k (fun i => m * ((1 + i : Nat) : Int) / ((1 + k : Nat) : Int) + m * ((1 + (k - 1 - i) : Nat) : Int) / ((1 + k : Nat) : Int)) = zm_sm k (fun i => (m - 1) + (if ((1 + k : Nat) : Int) ∣ m * ((1 + i : Nat) : Int) then 1 else 0)) := by
    refine zm_sm_c (fun i hi => ?_)
    have e : m * ((1 + (k - 1 - i) : Nat) : Int) = -(m * ((1 + i : Nat) : Int)) + m * ((1 + k : Nat) : Int) := by
      have : ((1 + (k - 1 - i) : Nat) : Int) = ((1 + k : Nat) : Int) - ((1 + i : Nat) : Int) := by omega
      rw [this, Int.mul_sub]; omega
    rw [e, Int.add_mul_ediv_right _ _ (by omega)]
    have := zm_fl_pair (m * ((1 + i : Nat) : Int)) hp
    by_cases d : ((1 + k : Nat) : Int) ∣ m * ((1 + i : Nat) : Int)
    · rw [if_pos d] at *; omega
    · rw [if_neg d] at *; omega
  rw [zm_sm_a, rev, zm_sm_a, zm_sm_k] at s2
  rw [s1]
  have : m * ((1 + k : Nat) : Int) = m + k * m := by rw [Int.natCast_add, Int.mul_add, Int.mul_comm m (k : Int)]; omega
  rw [this]
  have e9 : (k : Int) * (m - 1) = k * m - k := by rw [Int.mul_sub, Int.mul_one]
  rw [e9] at s2
  omega
