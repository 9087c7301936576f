/-! MATHEMATICS 8: extreme corners, place, count of the border -/
theorem zm_gC_in {H : List Pt} (h : 1 ≤ H.length) (k : Nat) : ∃ i, i < H.length ∧ zm_gC H k = zm_gP H i := by
  unfold zm_gC
  by_cases e : k < H.length
  · exact ⟨k, e, by rw [if_pos e]⟩
  · exact ⟨0, h, by rw [if_neg e]⟩
theorem zm_CH_sup {W : Pt → Prop} {H : List Pt} {t n : Nat} (h : zm_CH W H t n) {a b : Int} (hab : ¬ (a = 0 ∧ b = 0)) : ∃ i, i < H.length ∧ ∀ r, W r → 0 ≤ zm_crs a b (r.1 - (zm_gP H i).1) (r.2 - (zm_gP H i).2) := by
  rcases zm_psv_or hab with q | q
  · obtain ⟨k, hk, _, _, hr⟩ := zm_arc_sup zm_s_1 h.2.2.2.2.1 (x := a) (y := b) (by unfold zm_psS; rw [Int.one_mul, Int.one_mul]; exact q)
    obtain ⟨i, hi, e⟩ := zm_gC_in h.2.1 k
    rw [e] at hr; exact ⟨i, hi, hr⟩
  · obtain ⟨k, hk, _, _, hr⟩ := zm_arc_sup zm_s_m h.2.2.2.2.2 (x := a) (y := b) (by unfold zm_psS; rw [show -1 * a = -a by omega, show -1 * b = -b by omega]; exact q)
    obtain ⟨i, hi, e⟩ := zm_gC_in h.2.1 (t + k)
    rw [e] at hr; exact ⟨i, hi, hr⟩
theorem zm_gP_W {W : Pt → Prop} {H : List Pt} {t n : Nat} (h : zm_CH W H t n) {i : Nat} (hi : i < H.length) : W (zm_gP H i) := zm_CH_sub h _ (zm_gP_m hi)
theorem zm_m_lar : Mq_lar := by
  intro A B hA hB a0 b0
  obtain ⟨T, N, c, hl⟩ := zm_sumH_CH (Or.inl rfl) hA.2.2 hB.2.2 (zm_ne_nil a0) (zm_ne_nil b0)
  constructor
  · intro h i h0 h1
    obtain ⟨j, rfl⟩ := Int.eq_ofNat_of_zero_le h0
    have hm : zm_gP (allS A B 1) j ∈ allS A B 1 := zm_gP_m (by omega)
    have g : ∀ k, k < (sumH A B 1).length → (-300 ≤ (zm_gP (sumH A B 1) k).1 ∧ (zm_gP (sumH A B 1) k).1 ≤ 300) ∧ (-300 ≤ (zm_gP (sumH A B 1) k).2 ∧ (zm_gP (sumH A B 1) k).2 ≤ 300) := fun k hk => h k (by omega) (by omega)
    show (-300 ≤ (zm_gP (allS A B 1) j).1 ∧ (zm_gP (allS A B 1) j).1 ≤ 300) ∧ (-300 ≤ (zm_gP (allS A B 1) j).2 ∧ (zm_gP (allS A B 1) j).2 ≤ 300)
    obtain ⟨k1, l1, e1⟩ := zm_CH_sup c (a := 1) (b := 0) (by omega)
    obtain ⟨k2, l2, e2⟩ := zm_CH_sup c (a := -1) (b := 0) (by omega)
    obtain ⟨k3, l3, e3⟩ := zm_CH_sup c (a := 0) (b := 1) (by omega)
    obtain ⟨k4, l4, e4⟩ := zm_CH_sup c (a := 0) (b := -1) (by omega)
    have e1 := e1 _ hm; have e2 := e2 _ hm; have e3 := e3 _ hm; have e4 := e4 _ hm
    have g1 := g k1 l1; have g2 := g k2 l2; have g3 := g k3 l3; have g4 := g k4 l4
    unfold zm_crs at e1 e2 e3 e4
    omega
  · intro h i h0 h1
    obtain ⟨j, rfl⟩ := Int.eq_ofNat_of_zero_le h0
    have hm := zm_gP_W c (i := j) (by omega)
    obtain ⟨q, zm_hq⟩ := List.getElem?_of_mem hm
    have hql := (List.getElem?_eq_some_iff.mp zm_hq).1
    have := h q (by omega) (by omega)
    have e := zm_gP_e zm_hq
    show (-300 ≤ (zm_gP (sumH A B 1) j).1 ∧ (zm_gP (sumH A B 1) j).1 ≤ 300) ∧ (-300 ≤ (zm_gP (sumH A B 1) j).2 ∧ (zm_gP (sumH A B 1) j).2 ≤ 300)
    rw [← e]; exact this
def zm_dt (x y : Int) (p : Pt) : Int := x * p.1 + y * p.2
theorem zm_cnL_0 (H : List Pt) (x y m : Int) (n : Nat) (h : ∀ i, i < n → zm_dt x y (zm_gP H i) ≠ m) : cnL H x y m n = 0 := by
  induction n with
  | zero => rfl
  | succ n ih => unfold cnL; rw [ih (fun i hi => h i (by omega)), bI_f (p := x * pX H n + y * pY H n = m) (h n (by omega))]; rfl
theorem zm_sup_spec (H : List Pt) (x y : Int) (n : Nat) : (∀ i, i < n + 1 → zm_dt x y (zm_gP H i) ≤ (supL H x y (n + 1)).1) ∧ (∃ i, i < n + 1 ∧ zm_dt x y (zm_gP H i) = (supL H x y (n + 1)).1) ∧ (supL H x y (n + 1)).2 = cnL H x y (supL H x y (n + 1)).1 (n + 1) ∧ 1 ≤ (supL H x y (n + 1)).2 := by
  induction n with
  | zero =>
    have e : supL H x y (0 + 1) = (zm_dt x y (zm_gP H 0), 1) := by
      unfold supL; rw [if_pos (c := (supL H x y 0).2 = 0 ∨ _) (Or.inl rfl)]; rfl
    rw [e]
    refine ⟨fun i hi => by rw [show i = 0 by omega]; exact Int.le_refl _, ⟨0, by omega, rfl⟩, ?_, by dsimp only; omega⟩
    unfold cnL cnL; rw [bI_t (by rfl)]; rfl
  | succ n ih =>
    obtain ⟨a, ⟨k, k1, k2⟩, b, c⟩ := ih
    have e : supL H x y (n + 1 + 1) = if (supL H x y (n + 1)).2 = 0 ∨ (supL H x y (n + 1)).1 < zm_dt x y (zm_gP H (n + 1)) then (zm_dt x y (zm_gP H (n + 1)), 1) else if zm_dt x y (zm_gP H (n + 1)) = (supL H x y (n + 1)).1 then ((supL H x y (n + 1)).1, (supL H x y (n + 1)).2 + 1) else supL H x y (n + 1) := by
      conv => lhs; unfold supL
      rfl
    have ec : ∀ m, cnL H x y m (n + 1 + 1) = cnL H x y m (n + 1) + bI (zm_dt x y (zm_gP H (n + 1)) = m) := fun m => rfl
    rw [e, ec]
    generalize supL H x y (n + 1) = z at *
    by_cases q1 : z.1 < zm_dt x y (zm_gP H (n + 1))
    · rw [if_pos (Or.inr q1)]
      refine ⟨fun i hi => ?_, ⟨n + 1, by omega, rfl⟩, ?_, by dsimp only; omega⟩
      · by_cases w : i = n + 1
        · rw [w]; exact Int.le_refl _
        · have := a i (by omega); dsimp only; omega
      · dsimp only
        rw [bI_t (by rfl), zm_cnL_0 H x y _ (n + 1) (fun i hi => by have := a i hi; omega)]; rfl
    · rw [if_neg (by omega)]
      by_cases q2 : zm_dt x y (zm_gP H (n + 1)) = z.1
      · rw [if_pos q2]
        refine ⟨fun i hi => ?_, ⟨k, by omega, k2⟩, ?_, by dsimp only; omega⟩
        · by_cases w : i = n + 1
          · rw [w]; dsimp only; omega
          · exact a i (by omega)
        · dsimp only; rw [bI_t q2, b]
      · rw [if_neg q2]
        refine ⟨fun i hi => ?_, ⟨k, by omega, k2⟩, ?_, c⟩
        · by_cases w : i = n + 1
          · rw [w]; omega
          · exact a i (by omega)
        · rw [bI_f q2, ← b]; omega
theorem zm_mxL_spec (P : List Pt) (x y : Int) (n : Nat) : (∀ i, i ≤ n → zm_dt x y (zm_gP P i) ≤ mxL P x y n) ∧ ∃ i, i ≤ n ∧ zm_dt x y (zm_gP P i) = mxL P x y n := by
  induction n with
  | zero => exact ⟨fun i hi => by rw [show i = 0 by omega]; exact Int.le_refl _, 0, by omega, rfl⟩
  | succ n ih =>
    obtain ⟨a, k, k1, k2⟩ := ih
    have e : mxL P x y (n + 1) = max (zm_dt x y (zm_gP P (n + 1))) (mxL P x y n) := rfl
    rw [e]
    refine ⟨fun i hi => ?_, ?_⟩
    · by_cases w : i = n + 1
      · rw [w]; omega
      · have := a i (by omega); omega
    · by_cases w : mxL P x y n ≤ zm_dt x y (zm_gP P (n + 1))
      · exact ⟨n + 1, by omega, by omega⟩
      · exact ⟨k, by omega, by omega⟩
theorem zm_m_sup : Mq_sup := by
  intro P x y hP p0
  obtain ⟨t, n, c⟩ := zm_hull_CH hP.2.2 (zm_ne_nil p0)
  obtain ⟨h, hh⟩ : ∃ h, (hullF P).length = h + 1 := ⟨(hullF P).length - 1, by have := c.2.1; omega⟩
  obtain ⟨a1, ⟨k, k1, k2⟩, a3, a4⟩ := zm_sup_spec (hullF P) x y h
  obtain ⟨b1, j, j1, j2⟩ := zm_mxL_spec P x y (P.length - 1)
  have zm_key : (supL (hullF P) x y (hullF P).length).1 = mxL P x y (P.length - 1) := by
    rw [hh]
    refine Int.le_antisymm ?_ ?_
    · have hm := zm_gP_W c (i := k) (by omega)
      obtain ⟨q, zm_hq⟩ := List.getElem?_of_mem hm
      have hql := (List.getElem?_eq_some_iff.mp zm_hq).1
      have := b1 q (by omega)
      rw [zm_gP_e zm_hq] at this; omega
    · by_cases z : x = 0 ∧ y = 0
      · have e : ∀ p, zm_dt x y p = 0 := fun p => by unfold zm_dt; rw [z.1, z.2]; omega
        rw [e] at k2 j2; omega
      · obtain ⟨i, hi, hr⟩ := zm_CH_sup c (a := -y) (b := x) (by omega)
        have := hr (zm_gP P j) (zm_gP_m (by omega))
        have e1 : zm_crs (-y) x ((zm_gP P j).1 - (zm_gP (hullF P) i).1) ((zm_gP P j).2 - (zm_gP (hullF P) i).2) = zm_dt x y (zm_gP (hullF P) i) - zm_dt x y (zm_gP P j) := by unfold zm_crs zm_dt; grind
        have := a1 i (by omega)
        omega
  rw [← hh] at a3
  refine Prod.ext zm_key ?_
  rw [a3, zm_key]
/-! place -/
theorem zm_lsS_flip {s s' : Int} (hs : zm_sgn1 s) (hs' : zm_sgn1 s') (h : s ≠ s') {a b : Pt} (q : zm_lsS s' a b) : zm_lsS s b a := by
  unfold zm_lsS zm_psS zm_psv at *
  rcases hs with rfl | rfl <;> rcases hs' with rfl | rfl <;> omega
theorem zm_tr3_c (a b c : Pt) : zm_tr3 a b c = zm_tr3 b c a := by unfold zm_tr3 zm_crs; grind
theorem zm_turn_gen {W : Pt → Prop} {H : List Pt} {t n : Nat} (h : zm_CH W H t n) {k k' : Nat} (hk : k < n) (hk' : k' < n) (e : zm_gC H k' = zm_gC H (k + 1)) (ne : zm_gC H (k' + 1) ≠ zm_gC H k) : 0 < zm_tr3 (zm_gC H k) (zm_gC H (k + 1)) (zm_gC H (k' + 1)) := by
  obtain ⟨s, hs, p1, p2, p3⟩ := zm_CH_edge h hk
  obtain ⟨s', hs', q1, q2, q3⟩ := zm_CH_edge h hk'
  rw [e] at q1 q2 q3
  have m1 := zm_CH_mem h (k := k' + 1) (by omega); have m2 := zm_CH_mem h (k := k) (by omega)
  have h1 := p2 _ m1
  generalize zm_gC H (k' + 1) = r at *
  generalize zm_gC H k = p at *
  generalize zm_gC H (k + 1) = q at *
  by_cases z : zm_tr3 p q r = 0
  · exfalso
    have hqr : q ≠ r := fun e => by rw [e] at q1; exact zm_lsS_irr hs' q1
    have hpq : p ≠ q := fun e => by rw [e] at p1; exact zm_lsS_irr hs p1
    rcases p3 r m1 z with w | w | ⟨w1, w2⟩
    · exact ne w
    · exact hqr w.symm
    · rcases q3 p m2 (by rw [← zm_tr3_c]; exact z) with u | u | ⟨u1, u2⟩
      · exact hpq u
      · exact ne u.symm
      · by_cases f : s = s'
        · subst f; exact zm_lsS_irr hs (zm_lsS_t hs (zm_lsS_t hs u1 u2) w2)
        · have := zm_lsS_flip hs hs' f u2
          exact zm_lsS_irr hs (zm_lsS_t hs w1 this)
  · omega
def zm_insH (H : List Pt) (n : Nat) (z : Pt) : Prop := ∀ k, k < n → 0 ≤ zm_tr3 (zm_gC H k) (zm_gC H (k + 1)) z
theorem zm_CH_ins {W : Pt → Prop} {H : List Pt} {t n : Nat} (h : zm_CH W H t n) (h3 : 3 ≤ n) : zm_CH (zm_insH H n) H t n := by
  have l := zm_CH_len h
  have hl := l.2.2 (by omega)
  obtain ⟨t1, t2⟩ := h.2.2.2.1 (by omega)
  have gn : zm_gC H n = zm_gC H 0 := by rw [hl, zm_gC_n]
  have mem : ∀ k, k ≤ n → zm_insH H n (zm_gC H k) := fun k hk j hj => by
    obtain ⟨s, hs, p1, p2, p3⟩ := zm_CH_edge h hj
    exact p2 _ (zm_CH_mem h hk)
  have T0 : 0 < zm_tr3 (zm_gC H (n - 1)) (zm_gC H 0) (zm_gC H 1) := by
    have := zm_turn_gen h (k := n - 1) (k' := 0) (by omega) (by omega) (by rw [show n - 1 + 1 = n by omega, gn]) (zm_CH_ne h (by omega) (by omega))
    rw [show n - 1 + 1 = n by omega, gn] at this; exact this
  have Tt : 0 < zm_tr3 (zm_gC H (t - 1)) (zm_gC H t) (zm_gC H (t + 1)) := by
    have := zm_turn_gen h (k := t - 1) (k' := t) (by omega) (by omega) (by rw [show t - 1 + 1 = t by omega]) (fun e => by
      by_cases q : t + 1 = n
      · rw [q, gn] at e; exact zm_CH_ne h (i := 0) (j := t - 1) (by omega) (by omega) e
      · exact zm_CH_ne h (i := t - 1) (j := t + 1) (by omega) (by omega) e.symm)
    rw [show t - 1 + 1 = t by omega] at this; exact this
  have f0 : zm_lsS 1 (zm_gC H 0) (zm_gC H 1) := h.2.2.2.2.1.1 0 t1
  have ft : zm_lsS 1 (zm_gC H (t - 1)) (zm_gC H t) := by
    have := h.2.2.2.2.1.1 (t - 1) (by omega); rw [show t - 1 + 1 = t by omega] at this; exact this
  have gt : zm_lsS (-1) (zm_gC H t) (zm_gC H (t + 1)) := h.2.2.2.2.2.1 0 (by omega)
  have g0 : zm_lsS (-1) (zm_gC H (n - 1)) (zm_gC H 0) := by
    have := h.2.2.2.2.2.1 (n - 1 - t) (by omega)
    dsimp only at this
    rw [show t + (n - 1 - t) = n - 1 by omega, show t + (n - 1 - t + 1) = n by omega, gn] at this; exact this
  have E0 : ∀ r, zm_insH H n r → r = zm_gC H 0 ∨ zm_lsS 1 (zm_gC H 0) r := by
    intro r hr
    by_cases e : r = zm_gC H 0
    · exact Or.inl e
    rcases zm_lsS_tot zm_s_1 e with o | o
    · exfalso
      have a1 := hr 0 (by omega)
      have a2 := hr (n - 1) (by omega)
      rw [show n - 1 + 1 = n by omega, gn] at a2
      have gf := zm_lsS_flip zm_s_1 zm_s_m (by decide) g0
      rw [zm_tr3_b] at T0 a2
      rw [zm_tr3_r, ] at a1
      have z := zm_crs_st zm_s_1 (a := (zm_gC H (n - 1)).1 - (zm_gC H 0).1) (b := (zm_gC H (n - 1)).2 - (zm_gC H 0).2) gf o f0 (by
        have : zm_crs ((zm_gC H (n - 1)).1 - (zm_gC H 0).1) ((zm_gC H (n - 1)).2 - (zm_gC H 0).2) ((zm_gC H 0).1 - r.1) ((zm_gC H 0).2 - r.2) = zm_crs ((zm_gC H 0).1 - (zm_gC H (n - 1)).1) ((zm_gC H 0).2 - (zm_gC H (n - 1)).2) (r.1 - (zm_gC H 0).1) (r.2 - (zm_gC H 0).2) := by unfold zm_crs; grind
        omega) a1
      have : zm_crs ((zm_gC H 0).1 - (zm_gC H (n - 1)).1) ((zm_gC H 0).2 - (zm_gC H (n - 1)).2) ((zm_gC H 1).1 - (zm_gC H 0).1) ((zm_gC H 1).2 - (zm_gC H 0).2) = -zm_crs ((zm_gC H (n - 1)).1 - (zm_gC H 0).1) ((zm_gC H (n - 1)).2 - (zm_gC H 0).2) ((zm_gC H 1).1 - (zm_gC H 0).1) ((zm_gC H 1).2 - (zm_gC H 0).2) := by unfold zm_crs; grind
      omega
    · exact Or.inr o
  have Et : ∀ r, zm_insH H n r → r = zm_gC H t ∨ zm_lsS 1 r (zm_gC H t) := by
    intro r hr
    by_cases e : r = zm_gC H t
    · exact Or.inl e
    rcases zm_lsS_tot zm_s_1 e with o | o
    · exact Or.inr o
    · exfalso
      have a1 := hr (t - 1) (by omega)
      have a2 := hr t (by omega)
      rw [show t - 1 + 1 = t by omega] at a1
      have gf := zm_lsS_flip zm_s_1 zm_s_m (by decide) gt
      rw [zm_tr3_b] at Tt a1
      unfold zm_tr3 at a2
      have z := zm_crs_st zm_s_1 (e := (zm_gC H t).1 - (zm_gC H (t + 1)).1) (f := (zm_gC H t).2 - (zm_gC H (t + 1)).2) ft o gf a1 (by
        have : zm_crs (r.1 - (zm_gC H t).1) (r.2 - (zm_gC H t).2) ((zm_gC H t).1 - (zm_gC H (t + 1)).1) ((zm_gC H t).2 - (zm_gC H (t + 1)).2) = zm_crs ((zm_gC H (t + 1)).1 - (zm_gC H t).1) ((zm_gC H (t + 1)).2 - (zm_gC H t).2) (r.1 - (zm_gC H t).1) (r.2 - (zm_gC H t).2) := by unfold zm_crs; grind
        omega)
      have : zm_crs ((zm_gC H t).1 - (zm_gC H (t - 1)).1) ((zm_gC H t).2 - (zm_gC H (t - 1)).2) ((zm_gC H (t + 1)).1 - (zm_gC H t).1) ((zm_gC H (t + 1)).2 - (zm_gC H t).2) = -zm_crs ((zm_gC H t).1 - (zm_gC H (t - 1)).1) ((zm_gC H t).2 - (zm_gC H (t - 1)).2) ((zm_gC H t).1 - (zm_gC H (t + 1)).1) ((zm_gC H t).2 - (zm_gC H (t + 1)).2) := by unfold zm_crs; grind
      omega
  obtain ⟨c1, c2, c3, c4, c5, c6⟩ := h
  refine ⟨c1, c2, c3, c4, ⟨c5.1, c5.2.1, fun k hk r hr => hr k (by omega), fun k hk => mem k (by omega), E0, Et⟩, ⟨c6.1, c6.2.1, fun k hk r hr => hr (t + k) (by omega), fun k hk => mem (t + k) (by omega), fun r hr => ?_, fun r hr => ?_⟩⟩
  · rcases Et r hr with e | e
    · exact Or.inl e
    · exact Or.inr (zm_lsS_flip zm_s_m zm_s_1 (by decide) e)
  · dsimp only
    rw [show t + (n - t) = n by omega, gn]
    rcases E0 r hr with e | e
    · exact Or.inl e
    · exact Or.inr (zm_lsS_flip zm_s_m zm_s_1 (by decide) e)
theorem zm_off_tr {H : List Pt} {i : Nat} (h : i < H.length) (x y : Int) : off H i x y = zm_tr3 (zm_gC H i) (zm_gC H (i + 1)) (x, y) := by
  rw [← zm_gC_nx h, ← zm_gC_i h]; rfl
/-- between two numbers -/
theorem zm_bt_mul {a b c : Int} (h1 : min a b ≤ c) (h2 : c ≤ max a b) : 0 ≤ (b - a) * (c - a) ∧ 0 ≤ (b - a) * (b - c) := by
  rcases Int.le_total a b with q | q
  · exact ⟨Int.mul_nonneg (by omega) (by omega), Int.mul_nonneg (by omega) (by omega)⟩
  · exact ⟨Int.mul_nonneg_of_nonpos_of_nonpos (by omega) (by omega), Int.mul_nonneg_of_nonpos_of_nonpos (by omega) (by omega)⟩
theorem zm_seg_lin (p q z a b : Pt) (h : zm_tr3 p q z = 0) : ((q.1 - p.1) * (q.1 - p.1) + (q.2 - p.2) * (q.2 - p.2)) * zm_tr3 a b z = ((q.1 - p.1) * (q.1 - z.1) + (q.2 - p.2) * (q.2 - z.2)) * zm_tr3 a b p + ((q.1 - p.1) * (z.1 - p.1) + (q.2 - p.2) * (z.2 - p.2)) * zm_tr3 a b q := by
  unfold zm_tr3 zm_crs at *; grind
theorem zm_on_ins {W : Pt → Prop} {H : List Pt} {t n : Nat} (h : zm_CH W H t n) {i : Nat} (hi : i < n) {x y : Int} (ho : on_ H i x y) : zm_insH H n (x, y) := by
  have l := zm_CH_len h
  intro k hk
  obtain ⟨hb, h0⟩ := ho
  rw [zm_off_tr (by omega)] at h0
  have hb' : min (zm_gC H i).1 (zm_gC H (i + 1)).1 ≤ x ∧ x ≤ max (zm_gC H i).1 (zm_gC H (i + 1)).1 ∧ min (zm_gC H i).2 (zm_gC H (i + 1)).2 ≤ y ∧ y ≤ max (zm_gC H i).2 (zm_gC H (i + 1)).2 := by
    rw [← zm_gC_nx (by omega), ← zm_gC_i (by omega)]; exact hb
  obtain ⟨s, hs, p1, p2, p3⟩ := zm_CH_edge h hk
  obtain ⟨s', hs', q1, q2, q3⟩ := zm_CH_edge h hi
  have w1 := p2 _ (zm_CH_mem h (k := i) (by omega)); have w2 := p2 _ (zm_CH_mem h (k := i + 1) (by omega))
  have lin := zm_seg_lin (zm_gC H i) (zm_gC H (i + 1)) (x, y) (zm_gC H k) (zm_gC H (k + 1)) h0
  have x1 := zm_bt_mul hb'.1 hb'.2.1; have y1 := zm_bt_mul hb'.2.2.1 hb'.2.2.2
  have pos : 0 < ((zm_gC H (i + 1)).1 - (zm_gC H i).1) * ((zm_gC H (i + 1)).1 - (zm_gC H i).1) + ((zm_gC H (i + 1)).2 - (zm_gC H i).2) * ((zm_gC H (i + 1)).2 - (zm_gC H i).2) := zm_crs_sdot hs' q1 q1 (by unfold zm_crs; grind)
  refine zm_nn_of pos ?_
  rw [lin]
  dsimp only
  exact Int.add_nonneg (Int.mul_nonneg (by omega) w1) (Int.mul_nonneg (by omega) w2)
theorem zm_ls_bt {s : Int} (hs : zm_sgn1 s) {p q z : Pt} (h1 : zm_lsS s p z) (h2 : zm_lsS s z q) (h0 : zm_tr3 p q z = 0) : min p.1 q.1 ≤ z.1 ∧ z.1 ≤ max p.1 q.1 ∧ min p.2 q.2 ≤ z.2 ∧ z.2 ≤ max p.2 q.2 := by
  unfold zm_tr3 zm_crs at h0
  have zm_key : ∀ a b c d : Int, zm_psv a b → zm_psv c d → (a + c) * b = (b + d) * a → (0 ≤ b ∧ 0 ≤ d) ∨ (b ≤ 0 ∧ d ≤ 0) := by
    intro a b c d g1 g2 g3
    have g4 : c * b = d * a := by rw [Int.add_mul, Int.add_mul, Int.mul_comm b a] at g3; omega
    unfold zm_psv at g1 g2
    rcases g1 with g1 | ⟨g1, g1'⟩
    · rcases g2 with g2 | ⟨g2, g2'⟩
      · rcases Int.lt_trichotomy b 0 with u | u | u
        · have := Int.mul_neg_of_pos_of_neg g2 u
          rcases Int.lt_or_le 0 d with v | v
          · have := Int.mul_pos v g1; omega
          · exact Or.inr ⟨by omega, v⟩
        · subst u
          rcases Int.lt_trichotomy d 0 with v | v | v
          · have := Int.mul_neg_of_neg_of_pos v g1; omega
          · omega
          · omega
        · have := Int.mul_pos g2 u
          rcases Int.lt_or_le d 0 with v | v
          · have := Int.mul_neg_of_neg_of_pos v g1; omega
          · exact Or.inl ⟨by omega, v⟩
      · subst g2
        have := Int.mul_pos g2' g1; omega
    · subst g1
      rcases g2 with g2 | ⟨g2, g2'⟩
      · have := Int.mul_pos g2 g1'; omega
      · omega
  unfold zm_lsS zm_psS at h1 h2
  rcases hs with rfl | rfl
  · have := zm_key (z.1 - p.1) (z.2 - p.2) (q.1 - z.1) (q.2 - z.2) (by simpa using h1) (by simpa using h2) (by
      rw [show z.1 - p.1 + (q.1 - z.1) = q.1 - p.1 by omega, show z.2 - p.2 + (q.2 - z.2) = q.2 - p.2 by omega]; omega)
    unfold zm_psv at h1 h2; omega
  · have := zm_key (p.1 - z.1) (p.2 - z.2) (z.1 - q.1) (z.2 - q.2) (by rw [show p.1 - z.1 = -1 * (z.1 - p.1) by omega, show p.2 - z.2 = -1 * (z.2 - p.2) by omega]; exact h1) (by rw [show z.1 - q.1 = -1 * (q.1 - z.1) by omega, show z.2 - q.2 = -1 * (q.2 - z.2) by omega]; exact h2) (by
      rw [show p.1 - z.1 + (z.1 - q.1) = -(q.1 - p.1) by omega, show p.2 - z.2 + (z.2 - q.2) = -(q.2 - p.2) by omega, show p.2 - z.2 = -(z.2 - p.2) by omega, show p.1 - z.1 = -(z.1 - p.1) by omega, Int.neg_mul_neg, Int.neg_mul_neg]; omega)
    unfold zm_psv at h1 h2; omega
theorem zm_ins_on {W : Pt → Prop} {H : List Pt} {t n : Nat} (h : zm_CH W H t n) {i : Nat} (hi : i < n) {x y : Int} (hw : W (x, y)) (h0 : off H i x y = 0) : on_ H i x y := by
  have l := zm_CH_len h
  refine ⟨?_, h0⟩
  rw [zm_off_tr (by omega)] at h0
  have : min (zm_gC H i).1 (zm_gC H (i + 1)).1 ≤ x ∧ x ≤ max (zm_gC H i).1 (zm_gC H (i + 1)).1 ∧ min (zm_gC H i).2 (zm_gC H (i + 1)).2 ≤ y ∧ y ≤ max (zm_gC H i).2 (zm_gC H (i + 1)).2 := by
    obtain ⟨s, hs, p1, p2, p3⟩ := zm_CH_edge h hi
    rcases p3 _ hw h0 with e | e | ⟨e1, e2⟩
    · rw [← e]; dsimp only; omega
    · rw [← e]; dsimp only; omega
    · exact zm_ls_bt hs e1 e2 h0
  rw [← zm_gC_nx (by omega), ← zm_gC_i (by omega)] at this; exact this
theorem zm_CH_place {W : Pt → Prop} {H : List Pt} {t n : Nat} (h : zm_CH W H t n) (x y : Int) : plc H x y = plM H x y := by
  have l := zm_CH_len h
  unfold plc plM
  by_cases h3 : H.length < 3
  · rw [if_pos h3, if_neg (c := lfA H H.length x y) (fun q => by have := q.1; omega)]
    have zm_key : thin H x y ↔ onA H H.length x y := by
      have h1 := h.2.1
      unfold thin onA on_ btw off
      by_cases e1 : H.length = 1
      · rw [e1]
        have z : pT H 0 0 x y = 0 := by unfold pT; grind
        have nz : nx H 0 = 0 := by unfold nx; rw [if_neg (by omega)]
        constructor
        · rintro ⟨a1, a2, a3⟩
          exact ⟨0, by omega, by omega, by rw [nz]; exact a3, by rw [nz]; exact z⟩
        · rintro ⟨i, i0, i1, a1, a2⟩
          have : i = 0 := by omega
          subst this
          rw [nz] at a1
          exact ⟨by omega, z, a1⟩
      · have e2 : H.length = 2 := by omega
        rw [e2]
        have n0 : nx H 0 = 1 := by unfold nx; rw [if_pos (by omega)]; rfl
        have n1 : nx H 1 = 0 := by unfold nx; rw [if_neg (by omega)]
        have z : pT H 1 0 x y = -pT H 0 1 x y := by unfold pT; grind
        constructor
        · rintro ⟨a1, a2, a3⟩
          exact ⟨0, by omega, by omega, by rw [n0]; exact a3, by rw [n0]; exact a2⟩
        · rintro ⟨i, i0, i1, a1, a2⟩
          have : i = 0 ∨ i = 1 := by omega
          rcases this with rfl | rfl
          · rw [n0] at a1 a2; exact ⟨by omega, a2, a1⟩
          · rw [n1] at a1 a2; rw [z] at a2
            refine ⟨by omega, by show pT H 0 1 x y = 0; omega, ?_⟩
            show min (pX H 0) (pX H 1) ≤ x ∧ x ≤ max (pX H 0) (pX H 1) ∧ min (pY H 0) (pY H 1) ≤ y ∧ y ≤ max (pY H 0) (pY H 1)
            omega
    by_cases q : onA H H.length x y
    · rw [if_pos q, bI_t (zm_key.mpr q)]
    · rw [if_neg q, bI_f (fun w => q (zm_key.mp w))]
  · rw [if_neg h3]
    have hn : n = H.length := by have := h.1; rw [(zm_sd_n H).2 (by omega)] at this; exact this
    by_cases o : out_ H H.length x y
    · rw [bI_t o]
      obtain ⟨i, i0, i1, i2⟩ := o
      obtain ⟨j, rfl⟩ := Int.eq_ofNat_of_zero_le i0
      rw [if_neg (c := onA H H.length x y), if_neg (c := lfA H H.length x y)]
      · omega
      · intro q
        have := q.2 j i0 i1; omega
      · rintro ⟨k, k0, k1, k2⟩
        obtain ⟨k, rfl⟩ := Int.eq_ofNat_of_zero_le k0
        have := zm_on_ins h (i := k) (by omega) k2 j (by omega)
        rw [← zm_off_tr (by omega)] at this; omega
    · rw [bI_f o]
      have ins : zm_insH H n (x, y) := by
        intro k hk
        rcases Int.lt_or_le (zm_tr3 (zm_gC H k) (zm_gC H (k + 1)) (x, y)) 0 with q | q
        · exact absurd ⟨k, by omega, by omega, by rw [zm_off_tr (by omega)]; exact q⟩ o
        · exact q
      have hI := zm_CH_ins h (by omega)
      by_cases b : bor_ H H.length x y
      · rw [bI_t b]
        obtain ⟨i, i0, i1, i2⟩ := b
        obtain ⟨j, rfl⟩ := Int.eq_ofNat_of_zero_le i0
        rw [if_pos (c := onA H H.length x y) ⟨j, i0, i1, zm_ins_on hI (by omega) ins i2⟩]; rfl
      · rw [bI_f b]
        rw [if_neg (c := onA H H.length x y), if_pos (c := lfA H H.length x y)]
        · rfl
        · refine ⟨by omega, fun i i0 i1 => ?_⟩
          obtain ⟨j, rfl⟩ := Int.eq_ofNat_of_zero_le i0
          have := ins j (by omega)
          rw [← zm_off_tr (by omega)] at this
          by_cases z : off H j x y = 0
          · exact absurd ⟨j, i0, i1, z⟩ b
          · omega
        · rintro ⟨k, k0, k1, k2⟩
          exact b ⟨k, k0, k1, k2.2⟩
theorem zm_m_pla : Mq_pla := by
  intro P x y hP
  by_cases p0 : P = []
  · subst p0
    have e : hullF [] = [] := by decide
    rw [e]
    unfold plc plM
    rw [if_pos (by simp), if_neg (c := onA [] _ x y) (fun ⟨i, i0, i1, _⟩ => by simp at i1; omega), if_neg (c := lfA [] _ x y) (fun q => by have := q.1; simp at this)]
    exact bI_f (fun q => q.1 rfl)
  · obtain ⟨t, n, c⟩ := zm_hull_CH hP.2.2 p0
    exact zm_CH_place c x y
theorem zm_m_pls : Mq_pls := by
  intro A B sg x y hs hA hB a0 b0
  obtain ⟨T, N, c, hl⟩ := zm_sumH_CH hs hA.2.2 hB.2.2 (zm_ne_nil a0) (zm_ne_nil b0)
  exact zm_CH_place c x y
/-! the border's count -/
theorem zm_crn_on {W : Pt → Prop} {H : List Pt} {t n : Nat} (h : zm_CH W H t n) {i : Nat} (hi : i < H.length) : plM H (zm_gP H i).1 (zm_gP H i).2 = 1 := by
  unfold plM
  rw [if_pos (c := onA _ _ _ _)]
  refine ⟨i, by omega, by omega, ?_, ?_⟩
  · unfold btw zm_gP; dsimp only; omega
  · unfold off pT zm_gP; dsimp only; grind
theorem zm_pin_iff {H : List Pt} {p : Pt} : pin H H.length p.1 p.2 ↔ p ∈ H := by
  constructor
  · rintro ⟨i, i0, i1, i2, i3⟩
    obtain ⟨j, rfl⟩ := Int.eq_ofNat_of_zero_le i0
    have : zm_gP H j = p := Prod.ext i2 i3
    rw [← this]; exact zm_gP_m (by omega)
  · intro h
    obtain ⟨j, hj⟩ := List.getElem?_of_mem h
    have := zm_gP_e hj
    exact ⟨j, by omega, by have := (List.getElem?_eq_some_iff.mp hj).1; omega, congrArg Prod.fst this, congrArg Prod.snd this⟩
theorem zm_m_bes : Mq_bes := by
  intro P hP
  by_cases p0 : P = []
  · subst p0
    have e : hullF [] = [] := by decide
    rw [e]; rfl
  obtain ⟨t, n, c⟩ := zm_hull_CH hP.2.2 p0
  generalize hullF P = H at *
  have zm_key : ∀ m, m ≤ P.length → cntB P H m = bsM P H m + (((P.take m).filter (fun p => decide (p ∈ H))).length : Int) := by
    intro m
    induction m with
    | zero => intro _; rfl
    | succ m ih =>
      intro hm
      unfold cntB bsM
      rw [ih (by omega), List.take_add_one, List.getElem?_eq_getElem (by omega), Option.toList_some, List.filter_append, List.length_append]
      have e : zm_gP P m = P[m] := zm_gP_e (List.getElem?_eq_getElem (by omega))
      have e1 : pX P m = (P[m]).1 := congrArg Prod.fst e
      have e2 : pY P m = (P[m]).2 := congrArg Prod.snd e
      rw [e1, e2, zm_CH_place c]
      by_cases q : P[m] ∈ H
      · obtain ⟨j, hj⟩ := List.getElem?_of_mem q
        have hjl := (List.getElem?_eq_some_iff.mp hj).1
        have w := zm_crn_on c hjl
        rw [zm_gP_e hj] at w
        rw [bI_t w, bI_f (fun h => h.1 (zm_pin_iff.mpr q)), List.filter_cons_of_pos (by simpa using q)]
        simp; omega
      · rw [List.filter_cons_of_neg (by simpa using q), bI_iff (p := ¬ pin H H.length (P[m]).1 (P[m]).2 ∧ plM H (P[m]).1 (P[m]).2 = 1) (q := plM H (P[m]).1 (P[m]).2 = 1) ⟨fun h => h.2, fun h => ⟨fun w => q (zm_pin_iff.mp w), h⟩⟩]
        simp; omega
  have k := zm_key P.length (Nat.le_refl _)
  rw [List.take_length] at k
  have l1 : (P.filter (fun p => decide (p ∈ H))).length ≤ H.length := zm_nodup_le (hP.2.2.sublist List.filter_sublist) (fun a ha => by simpa using (List.mem_filter.mp ha).2)
  have l2 : H.length ≤ (P.filter (fun p => decide (p ∈ H))).length := zm_nodup_le (zm_CH_nodup c) (fun a ha => List.mem_filter.mpr ⟨zm_CH_sub c a ha, by simpa using ha⟩)
  omega
