/-! MATHEMATICS 9: fractions, least ones, apart -/
theorem zm_frac_eq {u l u' l' : Int} (hl : 0 < l) (hl' : 0 < l') (h : u * l' = u' * l) : frac1 u l = frac1 u' l' ∧ frac2 u l = frac2 u' l' := by
  have gp : 0 < Int.gcd u l := Int.gcd_pos_of_ne_zero_right _ (by omega)
  have gp' : 0 < Int.gcd u' l' := Int.gcd_pos_of_ne_zero_right _ (by omega)
  have e1 : Int.gcd (u * l') (l * l') = Int.gcd u l * l'.natAbs := Int.gcd_mul_right ..
  have e2 : Int.gcd (u' * l) (l' * l) = Int.gcd u' l' * l.natAbs := Int.gcd_mul_right ..
  rw [h, Int.mul_comm l l'] at e1
  have e3 : Int.gcd u l * l'.natAbs = Int.gcd u' l' * l.natAbs := e1.symm.trans e2
  have e4 : (Int.gcd u l : Int) * l' = (Int.gcd u' l' : Int) * l := by
    have := congrArg (fun n : Nat => (n : Int)) e3
    rw [Int.natCast_mul, Int.natCast_mul, Int.natAbs_of_nonneg (by omega), Int.natAbs_of_nonneg (by omega)] at this
    exact this
  unfold frac1 frac2
  rw [if_neg (by omega), if_neg (by omega), if_neg (by omega), if_neg (by omega)]
  obtain ⟨a, ha⟩ : ((Int.gcd u l : Nat) : Int) ∣ u := Int.gcd_dvd_left ..
  obtain ⟨b, hb⟩ : ((Int.gcd u l : Nat) : Int) ∣ l := Int.gcd_dvd_right ..
  obtain ⟨a', ha'⟩ : ((Int.gcd u' l' : Nat) : Int) ∣ u' := Int.gcd_dvd_left ..
  obtain ⟨b', hb'⟩ : ((Int.gcd u' l' : Nat) : Int) ∣ l' := Int.gcd_dvd_right ..
  have p1 : (0 : Int) < (Int.gcd u l : Int) := by omega
  have p2 : (0 : Int) < (Int.gcd u' l' : Int) := by omega
  generalize hg : (Int.gcd u l : Int) = g at *
  generalize hg' : (Int.gcd u' l' : Int) = g' at *
  have bb : b = b' := by
    have : (g * g') * b' = (g * g') * b := by
      rw [hb, hb'] at e4
      rw [Int.mul_assoc, e4]; grind
    exact (Int.eq_of_mul_eq_mul_left (by have := Int.mul_pos p1 p2; omega) this).symm
  have bp : b ≠ 0 := fun e => by rw [e] at hb; omega
  have aa : a = a' := by
    rw [ha, ha', hb, hb', ← bb] at h
    have : (g * g' * b) * a = (g * g' * b) * a' := by grind
    exact Int.eq_of_mul_eq_mul_left (by
      have := Int.mul_ne_zero (Int.mul_ne_zero (show g ≠ 0 by omega) (show g' ≠ 0 by omega)) bp
      exact this) this
  constructor
  · conv => lhs; rw [ha]
    conv => rhs; rw [ha']
    rw [Int.mul_tdiv_cancel_left _ (by omega), Int.mul_tdiv_cancel_left _ (by omega), aa]
  · conv => lhs; rw [hb]
    conv => rhs; rw [hb']
    rw [Int.mul_tdiv_cancel_left _ (by omega), Int.mul_tdiv_cancel_left _ (by omega), bb]
theorem zm_fr_t {x y u w a b : Int} (hy : 0 < y) (hw : 0 < w) (hb : 0 < b) (h1 : x * w ≤ u * y) (h2 : u * b ≤ a * w) : x * b ≤ a * y := by
  have p1 := Int.mul_le_mul_of_nonneg_right h1 (Int.le_of_lt hb)
  have p2 := Int.mul_le_mul_of_nonneg_right h2 (Int.le_of_lt hy)
  refine Int.le_of_mul_le_mul_right (a := w) ?_ hw
  have e1 : x * b * w = x * w * b := by grind
  have e2 : a * y * w = a * w * y := by grind
  have e3 : u * y * b = u * b * y := by grind
  omega
def zm_isMin (C : Int → Int → Prop) (x y : Int) : Prop := 0 < y ∧ C x y ∧ ∀ u w, C u w → 0 < w ∧ x * w ≤ u * y
theorem zm_isMin_add {C : Int → Int → Prop} {x y u w : Int} (h : zm_isMin C x y) (hw : 0 < w) : (u * y < x * w → zm_isMin (fun a b => C a b ∨ (a = u ∧ b = w)) u w) ∧ (¬ u * y < x * w → zm_isMin (fun a b => C a b ∨ (a = u ∧ b = w)) x y) := by
  obtain ⟨h1, h2, h3⟩ := h
  refine ⟨fun q => ⟨hw, Or.inr ⟨rfl, rfl⟩, fun a b hab => ?_⟩, fun q => ⟨h1, Or.inl h2, fun a b hab => ?_⟩⟩
  · rcases hab with hab | ⟨rfl, rfl⟩
    · obtain ⟨k1, k2⟩ := h3 a b hab
      exact ⟨k1, zm_fr_t hw h1 k1 (by omega) k2⟩
    · exact ⟨hw, Int.le_refl _⟩
  · rcases hab with hab | ⟨rfl, rfl⟩
    · exact h3 a b hab
    · exact ⟨hw, by omega⟩
def zm_dom (C C' : Int → Int → Prop) : Prop := ∀ u w, C u w → ∃ u' w', C' u' w' ∧ u' * w ≤ u * w'
theorem zm_isMin_eq {C C' : Int → Int → Prop} {x y x' y' : Int} (h : zm_isMin C x y) (h' : zm_isMin C' x' y') (d : zm_dom C C') (d' : zm_dom C' C) : x * y' = x' * y := by
  refine Int.le_antisymm ?_ ?_
  · obtain ⟨u, w, c, e⟩ := d' x' y' h'.2.1
    have k := h.2.2 u w c
    exact zm_fr_t h.1 k.1 h'.1 k.2 e
  · obtain ⟨u, w, c, e⟩ := d x y h.2.1
    have k := h'.2.2 u w c
    exact zm_fr_t h'.1 k.1 h.1 k.2 e
theorem zm_isMin_c {C C' : Int → Int → Prop} {x y : Int} (h : zm_isMin C x y) (e : ∀ u w, C' u w ↔ C u w) : zm_isMin C' x y := ⟨h.1, (e _ _).mpr h.2.1, fun u w c => h.2.2 u w ((e _ _).mp c)⟩
def zm_lo3 (C : Int → Int → Prop) (s : L3) : Prop := (s = (0, 1, 0) ∧ ∀ u w, ¬ C u w) ∨ (s.2.2 = 1 ∧ zm_isMin C s.1 s.2.1)
theorem zm_lo3_c {C C' : Int → Int → Prop} {s : L3} (h : zm_lo3 C s) (e : ∀ u w, C' u w ↔ C u w) : zm_lo3 C' s := by
  rcases h with ⟨h1, h2⟩ | ⟨h1, h2⟩
  · exact Or.inl ⟨h1, fun u w c => h2 u w ((e _ _).mp c)⟩
  · exact Or.inr ⟨h1, zm_isMin_c h2 e⟩
theorem zm_lo3_add {C : Int → Int → Prop} {s : L3} {u w : Int} (h : zm_lo3 C s) (hw : 0 < w) : zm_lo3 (fun a b => C a b ∨ (a = u ∧ b = w)) (lt3 s u w) := by
  unfold lt3
  rcases h with ⟨rfl, h2⟩ | ⟨h1, h2⟩
  · rw [if_pos (Or.inl rfl)]
    refine Or.inr ⟨rfl, hw, Or.inr ⟨rfl, rfl⟩, fun a b hab => ?_⟩
    rcases hab with hab | ⟨rfl, rfl⟩
    · exact absurd hab (h2 a b)
    · exact ⟨hw, Int.le_refl _⟩
  · obtain ⟨k1, k2⟩ := zm_isMin_add (u := u) h2 hw
    by_cases q : u * s.2.1 < s.1 * w
    · rw [if_pos (Or.inr q)]; exact Or.inr ⟨rfl, k1 q⟩
    · rw [if_neg (by omega)]; exact Or.inr ⟨h1, k2 q⟩
theorem zm_lo3_eq {C C' : Int → Int → Prop} {s s' : L3} (h : zm_lo3 C s) (h' : zm_lo3 C' s') (d : zm_dom C C') (d' : zm_dom C' C) : frac1 s.1 s.2.1 = frac1 s'.1 s'.2.1 ∧ frac2 s.1 s.2.1 = frac2 s'.1 s'.2.1 := by
  rcases h with ⟨rfl, h2⟩ | ⟨h1, h2⟩
  · rcases h' with ⟨rfl, h2'⟩ | ⟨h1', h2'⟩
    · exact ⟨rfl, rfl⟩
    · obtain ⟨u, w, c, _⟩ := d' _ _ h2'.2.1
      exact absurd c (h2 _ _)
  · rcases h' with ⟨rfl, h2'⟩ | ⟨h1', h2'⟩
    · obtain ⟨u, w, c, _⟩ := d _ _ h2.2.1
      exact absurd c (h2' _ _)
    · exact zm_frac_eq h2.1 h2'.1 (zm_isMin_eq h2 h2' d d')
/-! apart -/
theorem zm_sz2_e (H : List Pt) (i : Int) : sz2 H i = pX H i * pX H i + pY H i * pY H i := by unfold sz2; grind
theorem zm_dL1_lo (H : List Pt) (n : Nat) : zm_lo3 (fun u w => ∃ i : Nat, i < n ∧ u = sz2 H i ∧ w = 1) (dL1 H (0, 1, 0) n) := by
  induction n with
  | zero => exact Or.inl ⟨rfl, fun u w ⟨i, hi, _⟩ => by omega⟩
  | succ n ih =>
    unfold dL1
    refine zm_lo3_c (zm_lo3_add ih (by omega)) (fun u w => ?_)
    rw [← zm_sz2_e]
    constructor
    · rintro ⟨i, hi, e1, e2⟩
      by_cases q : i = n
      · subst q; exact Or.inr ⟨e1, e2⟩
      · exact Or.inl ⟨i, by omega, e1, e2⟩
    · rintro (⟨i, hi, e1, e2⟩ | ⟨e1, e2⟩)
      · exact ⟨i, by omega, e1, e2⟩
      · exact ⟨n, by omega, e1, e2⟩
theorem zm_dL2_lo {H : List Pt} {s : L3} {C : Int → Int → Prop} (hs : zm_lo3 C s) (n : Nat) (hp : ∀ i : Nat, i < n → 0 < sq H i (nx H i)) : zm_lo3 (fun u w => C u w ∨ ∃ i : Nat, i < n ∧ faceZ H i ∧ u = off H i 0 0 * off H i 0 0 ∧ w = sq H i (nx H i)) (dL2 H s n) := by
  induction n with
  | zero => exact zm_lo3_c hs (fun u w => ⟨fun h => by rcases h with h | ⟨i, hi, _⟩; exact h; omega, Or.inl⟩)
  | succ n ih =>
    have ih := ih (fun i hi => hp i (by omega))
    unfold dL2
    by_cases f : faceZ H n
    · rw [if_pos f]
      refine zm_lo3_c (zm_lo3_add ih (hp n (by omega))) (fun u w => ?_)
      constructor
      · rintro (h | ⟨i, hi, e1, e2⟩)
        · exact Or.inl (Or.inl h)
        · by_cases q : i = n
          · subst q; exact Or.inr e2
          · exact Or.inl (Or.inr ⟨i, by omega, e1, e2⟩)
      · rintro ((h | ⟨i, hi, e⟩) | e)
        · exact Or.inl h
        · exact Or.inr ⟨i, by omega, e⟩
        · exact Or.inr ⟨n, by omega, f, e⟩
    · rw [if_neg f]
      refine zm_lo3_c ih (fun u w => ?_)
      constructor
      · rintro (h | ⟨i, hi, e1, e2⟩)
        · exact Or.inl h
        · by_cases q : i = n
          · subst q; exact absurd e1 f
          · exact Or.inr ⟨i, by omega, e1, e2⟩
      · rintro (h | ⟨i, hi, e⟩)
        · exact Or.inl h
        · exact Or.inr ⟨i, by omega, e⟩
theorem zm_btr_min {C : Int → Int → Prop} {s : Int × Int} {u w : Int} (h : zm_isMin C s.1 s.2) (hw : 0 < w) : zm_isMin (fun a b => C a b ∨ (a = u ∧ b = w)) (btr s u w).1 (btr s u w).2 := by
  obtain ⟨k1, k2⟩ := zm_isMin_add (u := u) h hw
  unfold btr
  by_cases q : u * s.2 < s.1 * w
  · rw [if_pos q]; exact k1 q
  · rw [if_neg q]; exact k2 q
theorem zm_apN_min {H : List Pt} {C : Int → Int → Prop} {s : Int × Int} (hs : zm_isMin C s.1 s.2) (n : Nat) : zm_isMin (fun u w => C u w ∨ (∃ i : Nat, i < n ∧ u = sz2 H i ∧ w = 1) ∨ ∃ i : Nat, i < n ∧ (0 < alg H i ∧ alg H i < al2 H i) ∧ u = trz H i * trz H i ∧ w = al2 H i) (apN H s n).1 (apN H s n).2 := by
  induction n with
  | zero => exact zm_isMin_c hs (fun u w => ⟨fun h => by rcases h with h | ⟨i, hi, _⟩ | ⟨i, hi, _⟩; exact h; omega; omega, Or.inl⟩)
  | succ n ih =>
    unfold apN apT
    by_cases f : 0 < alg H n ∧ alg H n < al2 H n
    · rw [if_pos f]
      refine zm_isMin_c (zm_btr_min (zm_btr_min ih (show (0 : Int) < 1 by omega)) (show 0 < al2 H n by omega)) (fun u w => ?_)
      constructor
      · rintro (h | ⟨i, hi, e⟩ | ⟨i, hi, f1, e⟩)
        · exact Or.inl (Or.inl (Or.inl h))
        · by_cases q : i = n
          · subst q; exact Or.inl (Or.inr e)
          · exact Or.inl (Or.inl (Or.inr (Or.inl ⟨i, by omega, e⟩)))
        · by_cases q : i = n
          · subst q; exact Or.inr e
          · exact Or.inl (Or.inl (Or.inr (Or.inr ⟨i, by omega, f1, e⟩)))
      · rintro (((h | ⟨i, hi, e⟩ | ⟨i, hi, e⟩) | e) | e)
        · exact Or.inl h
        · exact Or.inr (Or.inl ⟨i, by omega, e⟩)
        · exact Or.inr (Or.inr ⟨i, by omega, e⟩)
        · exact Or.inr (Or.inl ⟨n, by omega, e⟩)
        · exact Or.inr (Or.inr ⟨n, by omega, f, e⟩)
    · rw [if_neg f]
      refine zm_isMin_c (zm_btr_min ih (show (0 : Int) < 1 by omega)) (fun u w => ?_)
      constructor
      · rintro (h | ⟨i, hi, e⟩ | ⟨i, hi, f1, e⟩)
        · exact Or.inl (Or.inl h)
        · by_cases q : i = n
          · subst q; exact Or.inr e
          · exact Or.inl (Or.inr (Or.inl ⟨i, by omega, e⟩))
        · by_cases q : i = n
          · subst q; exact absurd f1 f
          · exact Or.inl (Or.inr (Or.inr ⟨i, by omega, f1, e⟩))
      · rintro ((h | ⟨i, hi, e⟩ | ⟨i, hi, e⟩) | e)
        · exact Or.inl h
        · exact Or.inr (Or.inl ⟨i, by omega, e⟩)
        · exact Or.inr (Or.inr ⟨i, by omega, e⟩)
        · exact Or.inr (Or.inl ⟨n, by omega, e⟩)
theorem zm_sz2_nn (H : List Pt) (i : Int) : 0 ≤ sz2 H i := by
  unfold sz2; have := mul_self_nn (pX H i - 0); have := mul_self_nn (pY H i - 0); omega
theorem zm_apN_z (H : List Pt) (n : Nat) : apN H (0, 1) n = (0, 1) := by
  induction n with
  | zero => rfl
  | succ n ih =>
    unfold apN; rw [ih]
    unfold apT
    have a : btr (0, 1) (sz2 H n) 1 = (0, 1) := by
      unfold btr; rw [if_neg (by have := zm_sz2_nn H n; omega)]
    have b : btr (0, 1) (trz H n * trz H n) (al2 H n) = (0, 1) := by
      unfold btr; rw [if_neg (by have := mul_self_nn (trz H n); dsimp only; omega)]
    rw [a, b]; split <;> rfl
theorem zm_al2_sq (H : List Pt) (i : Int) : sq H i (nx H i) = al2 H i := by unfold sq al2 sX sY; grind
theorem zm_off_trz (H : List Pt) (i : Int) : off H i 0 0 = trz H i := by unfold off pT trz; grind
theorem zm_face_alg (H : List Pt) (i : Int) : faceZ H i ↔ (0 ≤ alg H i ∧ alg H i ≤ al2 H i) := by
  unfold faceZ; rw [zm_al2_sq]
  have : -pX H i * sX H i - pY H i * sY H i = alg H i := by unfold alg; grind
  rw [this]
theorem zm_trz_0 (H : List Pt) (i : Int) (h : alg H i = 0) : trz H i * trz H i = sz2 H i * al2 H i := by
  unfold alg at h; unfold trz sz2 al2
  unfold sX sY at *
  generalize pX H (nx H i) = a at *; generalize pY H (nx H i) = b at *; generalize pX H i = c at *; generalize pY H i = d at *
  have h1 : c * (a - c) + d * (b - d) = 0 := by omega
  have zm_key : (c - 0) * (b - 0) - (d - 0) * (a - 0) = c * (b - d) - d * (a - c) := by grind
  rw [zm_key]
  have : (c * (b - d) - d * (a - c)) * (c * (b - d) - d * (a - c)) = (c * c + d * d) * ((a - c) * (a - c) + (b - d) * (b - d)) - (c * (a - c) + d * (b - d)) * (c * (a - c) + d * (b - d)) := by grind
  rw [this, h1]; grind
theorem zm_trz_1 (H : List Pt) (i : Int) (h : alg H i = al2 H i) : trz H i * trz H i = sz2 H (nx H i) * al2 H i := by
  unfold alg al2 at h; unfold trz sz2 al2
  unfold sX sY at *
  generalize pX H (nx H i) = a at *; generalize pY H (nx H i) = b at *; generalize pX H i = c at *; generalize pY H i = d at *
  have h1 : a * (a - c) + b * (b - d) = 0 := by grind
  have zm_key : (c - 0) * (b - 0) - (d - 0) * (a - 0) = b * (c - a) - a * (d - b) := by grind
  rw [zm_key]
  have : (b * (c - a) - a * (d - b)) * (b * (c - a) - a * (d - b)) = (a * a + b * b) * ((a - c) * (a - c) + (b - d) * (b - d)) - (a * (a - c) + b * (b - d)) * (a * (a - c) + b * (b - d)) := by grind
  rw [this, h1]; grind
theorem zm_CH_al2 {W : Pt → Prop} {H : List Pt} {t n : Nat} (h : zm_CH W H t n) {i : Nat} (hi : i < n) : 0 < al2 H i := by
  have l := zm_CH_len h
  obtain ⟨s, hs, p1, p2, p3⟩ := zm_CH_edge h hi
  have e := zm_s_ev (H := H) (i := i) (by omega)
  have : 0 < (zm_ev (zm_gC H) i).1 * (zm_ev (zm_gC H) i).1 + (zm_ev (zm_gC H) i).2 * (zm_ev (zm_gC H) i).2 := zm_crs_sdot hs p1 p1 (by unfold zm_crs; grind)
  rw [← e] at this; exact this
theorem zm_m_apa : Mq_apa := by
  intro A B hA hB a0 b0
  obtain ⟨T, N, c, hl⟩ := zm_sumH_CH (Or.inr rfl) hA.2.2 hB.2.2 (zm_ne_nil a0) (zm_ne_nil b0)
  generalize sumH A B (-1) = H at *
  have l := zm_CH_len c
  have pe := zm_CH_place c 0 0
  have pb := plc_b H 0 0
  unfold apL apR apS
  by_cases q : plc H 0 0 = 0
  · rw [if_pos q, if_neg (by omega)]
    have m1 := zm_dL2_lo (H := H) (zm_dL1_lo H H.length) (sd H).toNat (fun i hi => by rw [zm_al2_sq]; exact zm_CH_al2 c (by rw [c.1]; exact hi))
    have m2 := zm_apN_min (H := H) (C := fun u w => u = sz2 H 0 ∧ w = 1) (s := (sz2 H 0, 1)) ⟨by dsimp only; omega, ⟨rfl, rfl⟩, fun u w ⟨e1, e2⟩ => by rw [e1, e2]; exact ⟨by omega, Int.le_refl _⟩⟩ H.length
    have h1 := c.2.1
    have e := c.1
    refine zm_lo3_eq (s' := ((apN H (sz2 H 0, 1) H.length).1, (apN H (sz2 H 0, 1) H.length).2, 1)) m1 (Or.inr ⟨rfl, m2⟩) ?_ ?_
    · rintro u w (⟨i, hi, e1, e2⟩ | ⟨i, hi, f, e1, e2⟩)
      · exact ⟨u, w, Or.inr (Or.inl ⟨i, hi, e1, e2⟩), Int.le_refl _⟩
      · rw [zm_face_alg] at f
        rw [zm_al2_sq] at e2; rw [zm_off_trz] at e1
        rw [← e] at hi
        by_cases z0 : alg H i = 0
        · exact ⟨sz2 H i, 1, Or.inr (Or.inl ⟨i, by omega, rfl, rfl⟩), by rw [e1, e2, zm_trz_0 H i z0]; omega⟩
        · by_cases z1 : alg H i = al2 H i
          · refine ⟨sz2 H (nx H i), 1, Or.inr (Or.inl ?_), by rw [e1, e2, zm_trz_1 H i z1]; omega⟩
            unfold nx
            by_cases w : (i : Int) + 1 < H.length
            · rw [if_pos w]; exact ⟨i + 1, by omega, rfl, rfl⟩
            · rw [if_neg w]; exact ⟨0, by omega, rfl, rfl⟩
          · exact ⟨u, w, Or.inr (Or.inr ⟨i, by omega, by omega, e1, e2⟩), Int.le_refl _⟩
    · rintro u w (⟨e1, e2⟩ | ⟨i, hi, e1, e2⟩ | ⟨i, hi, f, e1, e2⟩)
      · exact ⟨u, w, Or.inl ⟨0, by omega, e1, e2⟩, Int.le_refl _⟩
      · exact ⟨u, w, Or.inl ⟨i, hi, e1, e2⟩, Int.le_refl _⟩
      · refine ⟨u, w, Or.inr ⟨i, ?_, (zm_face_alg H i).mpr (by omega), by rw [zm_off_trz]; exact e1, by rw [zm_al2_sq]; exact e2⟩, Int.le_refl _⟩
        by_cases k : H.length < 2
        · exfalso
          have i0 : i = 0 := by omega
          subst i0
          have nz : nx H ((0 : Nat) : Int) = ((0 : Nat) : Int) := by unfold nx; rw [if_neg (by omega)]; rfl
          have : al2 H ((0 : Nat) : Int) = 0 := by unfold al2 sX sY; rw [nz]; grind
          omega
        · rw [(zm_sd_n H).2 (by omega)]; exact hi
  · rw [if_neg q, if_pos (by omega), zm_apN_z]
    exact ⟨rfl, rfl⟩
