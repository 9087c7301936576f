/-! MATHEMATICS 5: a closed polygon is the wrapping -/
theorem zm_crs_sdot {s : Int} (hs : zm_sgn1 s) {a b c d : Int} (h1 : zm_psS s a b) (h2 : zm_psS s c d) (h : zm_crs a b c d = 0) : 0 < a * c + b * d := by
  rw [← zm_crs_s hs] at h
  have := zm_crs_dot h1 h2 h
  rcases hs with rfl | rfl
  · simpa using this
  · have e : -1 * a * (-1 * c) + -1 * b * (-1 * d) = a * c + b * d := by grind
    rw [e] at this; exact this
theorem zm_CH_edge {W : Pt → Prop} {H : List Pt} {t n : Nat} (h : zm_CH W H t n) {k : Nat} (hk : k < n) : ∃ s, zm_sgn1 s ∧ zm_lsS s (zm_gC H k) (zm_gC H (k + 1)) ∧ (∀ r, W r → 0 ≤ zm_tr3 (zm_gC H k) (zm_gC H (k + 1)) r) ∧ (∀ r, W r → zm_tr3 (zm_gC H k) (zm_gC H (k + 1)) r = 0 → r = zm_gC H k ∨ r = zm_gC H (k + 1) ∨ (zm_lsS s (zm_gC H k) r ∧ zm_lsS s r (zm_gC H (k + 1)))) := by
  obtain ⟨h1, h2, h3, h4, h5, h6⟩ := h
  by_cases e : k < t
  · exact ⟨1, zm_s_1, h5.1 k e, h5.2.2.1 k e, fun r hr h0 => zm_arc_on zm_s_1 h5 e hr h0⟩
  · have e2 : k - t < n - t := by omega
    have a := h6.1 (k - t) e2; have b := h6.2.2.1 (k - t) e2
    have c := fun r hr h0 => zm_arc_on zm_s_m h6 e2 (r := r) hr h0
    simp only [show t + (k - t) = k by omega, show t + (k - t + 1) = k + 1 by omega] at a b c
    exact ⟨-1, zm_s_m, a, b, c⟩
theorem zm_CH_mem {W : Pt → Prop} {H : List Pt} {t n : Nat} (h : zm_CH W H t n) {k : Nat} (hk : k ≤ n) : W (zm_gC H k) := by
  obtain ⟨h1, h2, h3, h4, h5, h6⟩ := h
  by_cases e : k ≤ t
  · exact h5.2.2.2.1 k e
  · have := h6.2.2.2.1 (k - t) (by omega)
    simp only [show t + (k - t) = k by omega] at this
    exact this
theorem zm_gC_n {H : List Pt} : zm_gC H H.length = zm_gC H 0 := by
  unfold zm_gC; rw [if_neg (by omega)]
  by_cases e : 0 < H.length
  · rw [if_pos e]
  · rw [if_neg e]
theorem zm_arc_lt {s : Int} (hs : zm_sgn1 s) {m : Nat} {v : Nat → Pt} {W : Pt → Prop} (a : zm_arc s m v W) {i j : Nat} (hij : i < j) (hj : j ≤ m) : zm_lsS s (v i) (v j) := by
  have : ∀ d, i + 1 + d ≤ m → zm_lsS s (v i) (v (i + 1 + d)) := by
    intro d
    induction d with
    | zero => intro h; exact a.1 i (by omega)
    | succ d ih => intro h; exact zm_lsS_t hs (ih (by omega)) (a.1 (i + 1 + d) (by omega))
  have h := this (j - i - 1) (by omega)
  rw [show i + 1 + (j - i - 1) = j by omega] at h; exact h
theorem zm_CH_ne {W : Pt → Prop} {H : List Pt} {t n : Nat} (h : zm_CH W H t n) {i j : Nat} (hij : i < j) (hj : j < n) : zm_gC H i ≠ zm_gC H j := by
  have hh := h
  obtain ⟨h1, h2, h3, h4, h5, h6⟩ := h
  have hl : n = H.length := by
    by_cases e : H.length < 2
    · have := (zm_sd_n H).1 e; omega
    · rw [h1, (zm_sd_n H).2 (by omega)]
  intro e
  by_cases j1 : j ≤ t
  · have := zm_arc_lt zm_s_1 h5 hij j1
    rw [e] at this; exact zm_lsS_irr zm_s_1 this
  by_cases i1 : t ≤ i
  · have := zm_arc_lt zm_s_m h6 (i := i - t) (j := j - t) (by omega) (by omega)
    simp only [show t + (i - t) = i by omega, show t + (j - t) = j by omega] at this
    rw [e] at this; exact zm_lsS_irr zm_s_m this
  have top := zm_arc_lt zm_s_m h6 (i := j - t) (j := n - t) (by omega) (by omega)
  simp only [show t + (j - t) = j by omega, show t + (n - t) = n by omega] at top
  by_cases i0 : i = 0
  · subst i0; rw [hl, zm_gC_n, e] at top; exact zm_lsS_irr zm_s_m top
  have p1 := h5.1 (i - 1) (by omega); have p2 := h5.1 i (by omega); have c1 := h5.2.1 (i - 1) (by omega)
  rw [show i - 1 + 1 = i by omega] at p1 c1
  rw [show i - 1 + 2 = i + 1 by omega] at c1
  have q1 := h6.1 (j - t - 1) (by omega); have q2 := h6.1 (j - t) (by omega); have c2 := h6.2.1 (j - t - 1) (by omega)
  simp only [show t + (j - t - 1) = j - 1 by omega, show t + (j - t - 1 + 1) = j by omega, show t + (j - t) = j by omega, show t + (j - t + 1) = j + 1 by omega, show t + (j - t - 1 + 2) = j + 1 by omega] at q1 q2 c2
  have w1 := h5.2.2.1 (i - 1) (by omega) _ (zm_CH_mem hh (k := j + 1) (by omega))
  rw [show i - 1 + 1 = i by omega] at w1
  have w2 := h5.2.2.1 i (by omega) _ (zm_CH_mem hh (k := j - 1) (by omega))
  rw [zm_tr3_b] at w1 c1 c2
  rw [e] at w1 w2 p1 p2 c1
  unfold zm_tr3 at w2
  unfold zm_lsS zm_psS at p1 p2 q1 q2
  rw [Int.one_mul, Int.one_mul] at p1 p2
  generalize zm_gC H j = p at *
  generalize zm_gC H (i - 1) = a at *
  generalize zm_gC H (i + 1) = b at *
  generalize zm_gC H (j - 1) = c at *
  generalize zm_gC H (j + 1) = d at *
  have q1' : zm_psv (c.1 - p.1) (c.2 - p.2) := by
    have e1 : -1 * (p.1 - c.1) = c.1 - p.1 := by omega
    have e2 : -1 * (p.2 - c.2) = c.2 - p.2 := by omega
    rw [e1, e2] at q1; exact q1
  have q2' : zm_psv (p.1 - d.1) (p.2 - d.2) := by
    have e1 : -1 * (d.1 - p.1) = p.1 - d.1 := by omega
    have e2 : -1 * (d.2 - p.2) = p.2 - d.2 := by omega
    rw [e1, e2] at q2; exact q2
  have c2' : 0 < zm_crs (c.1 - p.1) (c.2 - p.2) (p.1 - d.1) (p.2 - d.2) := by
    have : zm_crs (c.1 - p.1) (c.2 - p.2) (p.1 - d.1) (p.2 - d.2) = zm_crs (p.1 - c.1) (p.2 - c.2) (d.1 - p.1) (d.2 - p.2) := by unfold zm_crs; grind
    omega
  have z1 := zm_crs_t2 p2 q1' q2' w2 c2'
  have z2 := zm_crs_t1 p1 p2 q2' c1 (by omega)
  have : zm_crs (p.1 - a.1) (p.2 - a.2) (p.1 - d.1) (p.2 - d.2) = -zm_crs (p.1 - a.1) (p.2 - a.2) (d.1 - p.1) (d.2 - p.2) := by unfold zm_crs; grind
  omega
theorem zm_CH_nodup {W : Pt → Prop} {H : List Pt} {t n : Nat} (h : zm_CH W H t n) : H.Nodup := by
  unfold List.Nodup
  rw [List.pairwise_iff_getElem]
  intro i j hi hj hij
  have hl : n = H.length := by rw [h.1, (zm_sd_n H).2 (by omega)]
  have := zm_CH_ne h hij (by omega)
  unfold zm_gC at this
  rw [if_pos hi, if_pos hj, zm_gP_e (List.getElem?_eq_getElem hi), zm_gP_e (List.getElem?_eq_getElem hj)] at this
  exact this
theorem zm_CH_isHL {P H : List Pt} {t n : Nat} (h : zm_CH (fun r => r ∈ P) H t n) (hlen : H.length ≤ 576) : isHL P H := by
  have hh := h
  have h1 := h.1; have h2 := h.2.1
  have hm : ∀ r, r ∈ P → ∃ j, j < P.length ∧ (pX P (j : Int), pY P (j : Int)) = r := by
    intro r hr
    obtain ⟨j, hj⟩ := List.getElem?_of_mem hr
    exact ⟨j, (List.getElem?_eq_some_iff.mp hj).1, zm_gP_e hj⟩
  have hg : ∀ j, j < P.length → (pX P (j : Int), pY P (j : Int)) ∈ P := fun j hj => zm_gP_m hj
  have m0 := zm_CH_mem h (k := 0) (by omega)
  refine ⟨fun e => ?_, fun _ e => ?_, hlen, zm_CH_nodup h, ?_, ?_, ?_⟩
  · rw [List.eq_nil_of_length_eq_zero e] at m0; simp at m0
  · rw [e] at h2; simp at h2
  · intro p hp
    have e0 : zm_gC H 0 = p := by unfold zm_gC; rw [if_pos (by omega)]; exact zm_gP_e hp
    refine ⟨hm p (e0 ▸ m0), fun j hj => ?_⟩
    rcases h.2.2.2.2.1.2.2.2.2.1 _ (hg j hj) with e | e
    · rw [e0] at e; show lexle p (pX P (j : Int), pY P (j : Int)); rw [e]; unfold lexle; omega
    · rw [e0] at e; show lexle p (pX P (j : Int), pY P (j : Int)); unfold zm_lsS zm_psS zm_psv at e; unfold lexle; dsimp only at e ⊢; omega
  · intro l2 i p q hi zm_hq
    have hl : n = H.length := by rw [h1, (zm_sd_n H).2 l2]
    have il : i < H.length := (List.getElem?_eq_some_iff.mp hi).1
    have ep : zm_gC H i = p := by unfold zm_gC; rw [if_pos il]; exact zm_gP_e hi
    have eq : zm_gC H (i + 1) = q := by
      by_cases e : i + 1 < H.length
      · rw [Nat.mod_eq_of_lt e] at zm_hq; unfold zm_gC; rw [if_pos e]; exact zm_gP_e zm_hq
      · rw [show i + 1 = H.length by omega, Nat.mod_self] at zm_hq
        rw [show i + 1 = H.length by omega, zm_gC_n]; unfold zm_gC; rw [if_pos (by omega)]; exact zm_gP_e zm_hq
    obtain ⟨s, hs, k1, k2, k3⟩ := zm_CH_edge h (k := i) (by omega)
    have mq := zm_CH_mem h (k := i + 1) (by omega)
    rw [ep, eq] at k1 k2 k3; rw [eq] at mq
    refine ⟨fun e => ?_, hm q mq, fun j hj => ⟨?_, fun z n1 n2 => ?_⟩⟩
    · rw [e] at k1; exact zm_lsS_irr hs k1
    · have := k2 _ (hg j hj); unfold zm_tr3 zm_crs at this; exact this
    · rcases k3 _ (hg j hj) (by unfold zm_tr3 zm_crs; exact z) with e | e | ⟨e1, e2⟩
      · exact absurd e n1
      · exact absurd e n2
      · dsimp only at z n1 n2 ⊢
        clear hm hg k2 k3
        generalize pX P (j : Int) = a at *
        generalize pY P (j : Int) = b at *
        unfold zm_lsS at e1 e2
        dsimp only at e1 e2
        have z2 : zm_crs (a - p.1) (b - p.2) (q.1 - a) (q.2 - b) = 0 := by unfold zm_crs; grind
        have d := zm_crs_sdot hs e1 e2 z2
        have e3 : (p.1 - q.1) * (p.1 - q.1) + (p.2 - q.2) * (p.2 - q.2) = (p.1 - a) * (p.1 - a) + (p.2 - b) * (p.2 - b) + 2 * ((a - p.1) * (q.1 - a) + (b - p.2) * (q.2 - b)) + ((q.1 - a) * (q.1 - a) + (q.2 - b) * (q.2 - b)) := by grind
        have s1 := mul_self_nn (q.1 - a); have s2 := mul_self_nn (q.2 - b)
        omega
  · intro p hp j hj
    have n0 : n = 0 := by rw [h1]; exact (zm_sd_n H).1 (by rw [hp]; simp)
    have t0 : t = 0 := by have := h.2.2.1; omega
    have a := h.2.2.2.2.1
    rw [t0] at a
    have e0 : zm_gC H 0 = p := by unfold zm_gC; rw [if_pos (by omega)]; rw [hp]; rfl
    rcases a.2.2.2.2.1 _ (hg j hj) with e | e
    · exact e.trans e0
    · rcases a.2.2.2.2.2 _ (hg j hj) with e' | e'
      · exact e'.trans e0
      · exact absurd (zm_lsS_t zm_s_1 e e') (zm_lsS_irr zm_s_1)
theorem zm_nodup_le {l : List Pt} : ∀ {m : List Pt}, l.Nodup → (∀ a ∈ l, a ∈ m) → l.length ≤ m.length := by
  induction l with
  | nil => intro m _ _; simp
  | cons x l ih =>
    intro m h1 h2
    have hx := List.nodup_cons.mp h1
    have hxm := h2 x List.mem_cons_self
    have := ih (m := m.erase x) hx.2 (fun a ha => (List.mem_erase_of_ne (fun (e : a = x) => hx.1 (e ▸ ha))).mpr (h2 a (List.mem_cons_of_mem _ ha)))
    rw [List.length_erase_of_mem hxm] at this
    have hp := List.length_pos_of_mem hxm
    rw [List.length_cons]; omega
theorem zm_CH_sub {W : Pt → Prop} {H : List Pt} {t n : Nat} (h : zm_CH W H t n) : ∀ a ∈ H, W a := by
  intro a ha
  obtain ⟨i, hi⟩ := List.getElem?_of_mem ha
  have il := (List.getElem?_eq_some_iff.mp hi).1
  have e : zm_gC H i = a := by unfold zm_gC; rw [if_pos il]; exact zm_gP_e hi
  rw [← e]
  by_cases l2 : 2 ≤ H.length
  · exact zm_CH_mem h (by rw [h.1, (zm_sd_n H).2 l2]; omega)
  · rw [show i = 0 by omega]; exact zm_CH_mem h (by omega)
theorem zm_m_hul : Mq_hul := by
  intro P hP
  by_cases h0 : P = []
  · subst h0
    have e : hullF [] = [] := by decide
    rw [e]
    refine ⟨⟨fun _ => rfl, fun h => absurd h (by simp), by simp, by simp, fun p hp => by simp at hp, fun h => by simp at h, fun p hp => by simp at hp⟩, by simp⟩
  · obtain ⟨t, n, h⟩ := zm_hull_CH hP.2.2 h0
    have hl := zm_nodup_le (zm_CH_nodup h) (zm_CH_sub h)
    have := hP.1
    exact ⟨zm_CH_isHL h (by omega), by omega⟩
