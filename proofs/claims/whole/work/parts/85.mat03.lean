/-! MATHEMATICS 4: arcs and closed polygons -/
def zm_arc (s : Int) (m : Nat) (v : Nat → Pt) (W : Pt → Prop) : Prop :=
  (∀ k, k < m → zm_lsS s (v k) (v (k + 1))) ∧ (∀ k, k + 1 < m → 0 < zm_tr3 (v k) (v (k + 1)) (v (k + 2))) ∧ (∀ k, k < m → ∀ r, W r → 0 ≤ zm_tr3 (v k) (v (k + 1)) r) ∧ (∀ k, k ≤ m → W (v k)) ∧ (∀ r, W r → r = v 0 ∨ zm_lsS s (v 0) r) ∧ (∀ r, W r → r = v m ∨ zm_lsS s r (v m))
theorem zm_arc_c {s : Int} {m : Nat} {v v' : Nat → Pt} {W : Pt → Prop} (h : ∀ k, k ≤ m → v' k = v k) (a : zm_arc s m v W) : zm_arc s m v' W := by
  obtain ⟨a1, a2, a3, a4, a5, a6⟩ := a
  refine ⟨fun k hk => ?_, fun k hk => ?_, fun k hk r hr => ?_, fun k hk => ?_, fun r hr => ?_, fun r hr => ?_⟩
  · rw [h k (by omega), h (k + 1) (by omega)]; exact a1 k hk
  · rw [h k (by omega), h (k + 1) (by omega), h (k + 2) (by omega)]; exact a2 k hk
  · rw [h k (by omega), h (k + 1) (by omega)]; exact a3 k hk r hr
  · rw [h k hk]; exact a4 k hk
  · rw [h 0 (by omega)]; exact a5 r hr
  · rw [h m (by omega)]; exact a6 r hr
theorem zm_arc_w {s : Int} {m : Nat} {v : Nat → Pt} {W W' : Pt → Prop} (h : ∀ r, W' r ↔ W r) (a : zm_arc s m v W) : zm_arc s m v W' := by
  obtain ⟨a1, a2, a3, a4, a5, a6⟩ := a
  exact ⟨a1, a2, fun k hk r hr => a3 k hk r ((h r).mp hr), fun k hk => (h _).mpr (a4 k hk), fun r hr => a5 r ((h r).mp hr), fun r hr => a6 r ((h r).mp hr)⟩
theorem zm_chn_arc {s : Int} (hs : zm_sgn1 s) {l P : List Pt} (hl : l.Pairwise (zm_lsS s)) (h : zm_chn s l P) : zm_arc s (P.length - 1) (zm_gP P) (fun r => r ∈ l) := by
  obtain ⟨ha, hb, hc, hd, he, hf, hg, hn⟩ := h
  refine ⟨fun k hk => zm_srt_g ha (by omega) (by omega), fun k hk => hb k (by omega), fun k hk r hr => hc k (by omega) r hr, fun k hk => hd _ (zm_gP_m (by omega)), fun r hr => ?_, fun r hr => ?_⟩
  · rw [hf]
    by_cases e : r = zm_gP l 0
    · exact Or.inl e
    · rcases zm_lsS_tot hs e with h | h
      · exact absurd h (zm_srt_first hs hl hr)
      · exact Or.inr h
  · rw [hg]
    by_cases e : r = zm_gP l (l.length - 1)
    · exact Or.inl e
    · rcases zm_lsS_tot hs e with h | h
      · exact Or.inr h
      · exact absurd h (zm_srt_last hs hl hr)
/-- on the line of an edge is on the edge -/
theorem zm_arc_on {s : Int} (hs : zm_sgn1 s) {m : Nat} {v : Nat → Pt} {W : Pt → Prop} (a : zm_arc s m v W) {k : Nat} (hk : k < m) {r : Pt} (hr : W r) (h0 : zm_tr3 (v k) (v (k + 1)) r = 0) : r = v k ∨ r = v (k + 1) ∨ (zm_lsS s (v k) r ∧ zm_lsS s r (v (k + 1))) := by
  obtain ⟨a1, a2, a3, a4, a5, a6⟩ := a
  by_cases e1 : r = v k
  · exact Or.inl e1
  by_cases e2 : r = v (k + 1)
  · exact Or.inr (Or.inl e2)
  refine Or.inr (Or.inr ⟨?_, ?_⟩)
  · rcases zm_lsS_tot hs e1 with o | o
    · exfalso
      by_cases k0 : k = 0
      · subst k0
        rcases a5 r hr with h | h
        · exact e1 h
        · exact zm_lsS_irr hs (zm_lsS_t hs o h)
      · have h1 := a3 (k - 1) (by omega) r hr
        have h2 := a2 (k - 1) (by omega)
        have p2 := a1 (k - 1) (by omega)
        rw [show k - 1 + 1 = k by omega] at h1 h2 p2
        rw [show k - 1 + 2 = k + 1 by omega] at h2
        rw [zm_tr3_m] at h1; rw [zm_tr3_b] at h2; rw [zm_tr3_r] at h0
        have := zm_crs_st2 hs o p2 (a1 k hk) h1 h2
        omega
    · exact o
  · rcases zm_lsS_tot hs e2 with o | o
    · exact o
    · exfalso
      by_cases k0 : k + 1 = m
      · rw [k0] at o e2
        rcases a6 r hr with h | h
        · exact e2 h
        · exact zm_lsS_irr hs (zm_lsS_t hs o h)
      · have h1 := a3 (k + 1) (by omega) r hr
        have h2 := a2 k (by omega)
        rw [zm_tr3_b] at h2 h0
        have := zm_crs_st1 hs (a1 k hk) (a1 (k + 1) (by omega)) o h2 h1
        omega
/-- an extreme corner of an zm_arc -/
theorem zm_arc_ext {s : Int} (hs : zm_sgn1 s) {m : Nat} {v : Nat → Pt} {W : Pt → Prop} (a : zm_arc s m v W) {k : Nat} (hk : k ≤ m) {x y : Int} (hd : zm_psS s x y) (h1 : k < m → 0 ≤ zm_crs x y ((v (k + 1)).1 - (v k).1) ((v (k + 1)).2 - (v k).2)) (h2 : k ≠ 0 → 0 ≤ zm_crs ((v k).1 - (v (k - 1)).1) ((v k).2 - (v (k - 1)).2) x y) : ∀ r, W r → 0 ≤ zm_crs x y (r.1 - (v k).1) (r.2 - (v k).2) := by
  obtain ⟨a1, a2, a3, a4, a5, a6⟩ := a
  intro r hr
  by_cases e : r = v k
  · rw [e]; unfold zm_crs; rw [Int.sub_self, Int.sub_self]; omega
  rcases zm_lsS_tot hs e with o | o
  · by_cases k0 : k = 0
    · exfalso
      subst k0
      rcases a5 r hr with h | h
      · exact e h
      · exact zm_lsS_irr hs (zm_lsS_t hs o h)
    · have h3 := a3 (k - 1) (by omega) r hr
      have p2 := a1 (k - 1) (by omega)
      rw [show k - 1 + 1 = k by omega] at h3 p2
      rw [zm_tr3_m] at h3
      have := zm_crs_st hs o p2 hd h3 (h2 k0)
      rw [zm_crs_anti] at this
      have e9 : zm_crs x y (r.1 - (v k).1) (r.2 - (v k).2) = -zm_crs x y ((v k).1 - r.1) ((v k).2 - r.2) := by unfold zm_crs; grind
      omega
  · by_cases k0 : k = m
    · exfalso
      subst k0
      rcases a6 r hr with h | h
      · exact e h
      · exact zm_lsS_irr hs (zm_lsS_t hs o h)
    · have h3 := a3 k (by omega) r hr
      exact zm_crs_st hs hd (a1 k (by omega)) o (h1 (by omega)) h3
theorem zm_arc_sup {s : Int} (hs : zm_sgn1 s) {m : Nat} {v : Nat → Pt} {W : Pt → Prop} (a : zm_arc s m v W) {x y : Int} (hd : zm_psS s x y) : ∃ k, k ≤ m ∧ (k < m → 0 ≤ zm_crs x y ((v (k + 1)).1 - (v k).1) ((v (k + 1)).2 - (v k).2)) ∧ (k ≠ 0 → 0 ≤ zm_crs ((v k).1 - (v (k - 1)).1) ((v k).2 - (v (k - 1)).2) x y) ∧ ∀ r, W r → 0 ≤ zm_crs x y (r.1 - (v k).1) (r.2 - (v k).2) := by
  have : ∀ j k, k + j = m → (k ≠ 0 → 0 ≤ zm_crs ((v k).1 - (v (k - 1)).1) ((v k).2 - (v (k - 1)).2) x y) → ∃ k, k ≤ m ∧ (k < m → 0 ≤ zm_crs x y ((v (k + 1)).1 - (v k).1) ((v (k + 1)).2 - (v k).2)) ∧ (k ≠ 0 → 0 ≤ zm_crs ((v k).1 - (v (k - 1)).1) ((v k).2 - (v (k - 1)).2) x y) := by
    intro j
    induction j with
    | zero => intro k hk h; exact ⟨k, by omega, by omega, h⟩
    | succ j ih =>
      intro k hk h
      rcases Int.lt_or_le (zm_crs x y ((v (k + 1)).1 - (v k).1) ((v (k + 1)).2 - (v k).2)) 0 with q | q
      · refine ih (k + 1) (by omega) (fun _ => ?_)
        rw [zm_crs_anti, show k + 1 - 1 = k by omega]; omega
      · exact ⟨k, by omega, fun _ => q, h⟩
  obtain ⟨k, h1, h2, h3⟩ := this m 0 (by omega) (fun h => absurd rfl h)
  exact ⟨k, h1, h2, h3, zm_arc_ext hs a h1 hd h2 h3⟩
theorem zm_s_1 : zm_sgn1 1 := Or.inl rfl
theorem zm_s_m : zm_sgn1 (-1) := Or.inr rfl
def zm_gC (H : List Pt) (k : Nat) : Pt := if k < H.length then zm_gP H k else zm_gP H 0
def zm_CH (W : Pt → Prop) (H : List Pt) (t n : Nat) : Prop :=
  n = (sd H).toNat ∧ 1 ≤ H.length ∧ t ≤ n ∧ (n ≠ 0 → 0 < t ∧ t < n) ∧ zm_arc 1 t (zm_gC H) W ∧ zm_arc (-1) (n - t) (fun k => zm_gC H (t + k)) W
theorem zm_sd_n (H : List Pt) : (H.length < 2 → (sd H).toNat = 0) ∧ (2 ≤ H.length → (sd H).toNat = H.length) := by
  unfold sd; exact ⟨fun h => by rw [if_pos h]; rfl, fun h => by rw [if_neg (by omega)]; rfl⟩
/-- the hull's corners: two chains -/
theorem zm_popTo_app (A P : List Pt) (q : Pt) (n : Nat) (h : 1 ≤ n) (hn : n ≤ P.length) : popTo (A ++ P) q.1 q.2 ((A.length + 1 : Nat) : Int) (A.length + n) = A.length + popTo P q.1 q.2 1 n := by
  induction n with
  | zero => omega
  | succ n ih =>
    rw [show A.length + (n + 1) = (A.length + n) + 1 by omega]
    unfold popTo
    by_cases n0 : n = 0
    · subst n0
      rw [if_neg (by omega), if_neg (by omega)]
    · have e : pT (A ++ P) (((A.length + n : Nat) : Int) - 1) ((A.length + n : Nat) : Int) q.1 q.2 = pT P ((n : Int) - 1) n q.1 q.2 := by
        rw [show ((A.length + n : Nat) : Int) - 1 = ((A.length + (n - 1) : Nat) : Int) by omega, show (n : Int) - 1 = ((n - 1 : Nat) : Int) by omega, zm_pT_tr, zm_pT_tr, zm_gP_r (by omega), zm_gP_r (by omega)]
      rw [e, ih (by omega) (by omega)]
      by_cases c : pT P ((n : Int) - 1) n q.1 q.2 ≤ 0
      · rw [if_pos ⟨by omega, by omega, c⟩, if_pos ⟨by omega, by omega, c⟩]
      · rw [if_neg (fun h => c h.2.2), if_neg (fun h => c h.2.2)]; omega
theorem zm_addC_app (A P : List Pt) (q : Pt) (h : 1 ≤ P.length) : addC ((A.length + 1 : Nat) : Int) (A ++ P) q = A ++ addC 1 P q := by
  unfold addC
  rw [List.length_append, zm_popTo_app A P q P.length h (Nat.le_refl _), List.take_append]
  rw [List.take_of_length_le (by omega), Nat.add_sub_cancel_left, List.append_assoc]
theorem zm_fold_app (l A : List Pt) : ∀ P : List Pt, 1 ≤ P.length → l.foldl (addC ((A.length + 1 : Nat) : Int)) (A ++ P) = A ++ l.foldl (addC 1) P := by
  induction l with
  | nil => intro P _; rfl
  | cons q l ih =>
    intro P h
    rw [List.foldl_cons, List.foldl_cons, zm_addC_app A P q h]
    exact ih _ (by unfold addC; simp)
theorem zm_uppF_eq {S : List Pt} (hS : S.Pairwise (zm_lsS 1)) (h0 : S ≠ []) : uppF S = (lowF S).dropLast ++ lowF S.reverse := by
  have c := zm_low_chn zm_s_1 hS h0
  obtain ⟨_, _, _, _, he, _, hg, hn⟩ := c
  have hlo : lowF S = (lowF S).dropLast ++ [zm_gP S (S.length - 1)] := by
    have hne : lowF S ≠ [] := fun e => by rw [e] at he; simp at he
    rw [← hg]
    have h1 := (List.dropLast_concat_getLast hne).symm
    have h2 : (lowF S).getLast hne = zm_gP (lowF S) ((lowF S).length - 1) := by
      rw [List.getLast_eq_getElem]; exact (zm_gP_e (List.getElem?_eq_getElem _)).symm
    rw [h2] at h1; exact h1
  have hrev : S.reverse = zm_gP S (S.length - 1) :: S.dropLast.reverse := by
    have h1 := (List.dropLast_concat_getLast h0).symm
    have h2 : S.getLast h0 = zm_gP S (S.length - 1) := by
      rw [List.getLast_eq_getElem]; exact (zm_gP_e (List.getElem?_eq_getElem _)).symm
    rw [h2] at h1
    conv => lhs; rw [h1]
    rw [List.reverse_append]; rfl
  have hlen : (lowF S).length = (lowF S).dropLast.length + 1 := by rw [List.length_dropLast]; omega
  unfold uppF
  rw [hlen]
  conv => lhs; arg 2; rw [hlo]
  rw [zm_fold_app _ _ _ (by simp)]
  conv => rhs; unfold lowF
  rw [hrev, List.foldl_cons, zm_addC_nil]
  rfl
theorem zm_gP_dl {P : List Pt} {i : Nat} (h : i + 1 < P.length) : zm_gP P.dropLast i = zm_gP P i := by
  rw [List.dropLast_eq_take, zm_gP_t (by omega) (by omega)]
theorem zm_llt_ls : zm_llt = zm_lsS 1 := by
  funext a b; unfold zm_llt zm_lsS zm_psS; rw [Int.one_mul, Int.one_mul]
theorem zm_hull_CH {P : List Pt} (h : P.Nodup) (h0 : P ≠ []) : ∃ t n, zm_CH (fun r => r ∈ P) (hullF P) t n := by
  obtain ⟨hs, hm⟩ := zm_sortF_srt h
  rw [zm_llt_ls] at hs
  have hs0 : sortF P ≠ [] := fun e => by
    obtain ⟨a, ha⟩ : ∃ a, a ∈ P := by
      cases P with
      | nil => exact absurd rfl h0
      | cons a l => exact ⟨a, List.mem_cons_self⟩
    have := (hm a).mpr ha; rw [e] at this; simp at this
  unfold hullF
  rw [zm_uppF_eq hs hs0]
  generalize sortF P = S at *
  have hr : S.reverse.Pairwise (zm_lsS (-1)) := by
    rw [List.pairwise_reverse]
    refine hs.imp ?_
    intro a b h
    unfold zm_lsS zm_psS zm_psv at *; omega
  have hr0 : S.reverse ≠ [] := fun e => hs0 (List.reverse_eq_nil_iff.mp e)
  have c1 := zm_low_chn zm_s_1 hs hs0
  have c2 := zm_low_chn zm_s_m hr hr0
  have a1 := zm_arc_w (W' := fun r => r ∈ P) (fun r => (hm r).symm) (zm_chn_arc zm_s_1 hs c1)
  have a2 := zm_arc_w (W' := fun r => r ∈ P) (fun r => by rw [List.mem_reverse]; exact (hm r).symm) (zm_chn_arc zm_s_m hr c2)
  have f1 := c1.2.2.2.2.2.1; have g1 := c1.2.2.2.2.2.2.1; have f2 := c2.2.2.2.2.2.1; have g2 := c2.2.2.2.2.2.2.1
  have n1 := c1.2.2.2.2.1; have n2 := c2.2.2.2.2.1; have n3 := c1.2.2.2.2.2.2.2
  have r0 : zm_gP S.reverse 0 = zm_gP S (S.length - 1) := zm_gP_e (by
    rw [List.getElem?_reverse (by omega), show S.length - 1 - 0 = S.length - 1 by omega]
    have h1 : S[S.length - 1]? = some (S[S.length - 1]'(by omega)) := List.getElem?_eq_getElem (by omega)
    rw [zm_gP_e h1]; exact h1)
  have r1 : zm_gP S.reverse (S.reverse.length - 1) = zm_gP S 0 := zm_gP_e (by
    rw [List.length_reverse, List.getElem?_reverse (by omega), show S.length - 1 - (S.length - 1) = 0 by omega]
    have h1 : S[0]? = some (S[0]'(by omega)) := List.getElem?_eq_getElem (by omega)
    rw [zm_gP_e h1]; exact h1)
  generalize lowF S = lo at *
  generalize lowF S.reverse = up at *
  by_cases one : S.length = 1
  · obtain ⟨p, hp⟩ := List.length_eq_one_iff.mp one
    have hP : ∀ r, r ∈ P ↔ r = p := fun r => by rw [← hm r, hp, List.mem_singleton]
    have l1 : lo.length = 1 := by
      by_cases e : lo.length = 1
      · exact e
      · have := zm_srt_g c1.1 (i := 0) (j := 1) (by omega) (by omega)
        rw [(hP _).mp (a1.2.2.2.1 0 (by omega)), (hP _).mp (a1.2.2.2.1 1 (by omega))] at this
        exact absurd this (zm_lsS_irr zm_s_1)
    have l2 : up.length = 1 := by
      by_cases e : up.length = 1
      · exact e
      · have := zm_srt_g c2.1 (i := 0) (j := 1) (by omega) (by omega)
        rw [(hP _).mp (a2.2.2.2.1 0 (by omega)), (hP _).mp (a2.2.2.2.1 1 (by omega))] at this
        exact absurd this (zm_lsS_irr zm_s_m)
    have e0 : lo.dropLast = [] := List.eq_nil_of_length_eq_zero (by rw [List.length_dropLast]; omega)
    rw [e0, List.nil_append, if_neg (by omega)]
    refine ⟨0, 0, ((zm_sd_n up).1 (by omega)).symm, by omega, Nat.le_refl _, fun h => absurd rfl h, ?_, ?_⟩
    · rw [l1] at a1
      refine zm_arc_c (fun k hk => ?_) a1
      rw [show k = 0 by omega]
      unfold zm_gC; rw [if_pos (by omega), f1, f2, r0, one]
    · rw [l2] at a2
      refine zm_arc_c (fun k hk => ?_) a2
      rw [show k = 0 by omega]
      unfold zm_gC; rw [if_pos (by omega)]
  · have sne : zm_gP S 0 ≠ zm_gP S (S.length - 1) := fun e => by
      have := zm_srt_g hs (i := 0) (j := S.length - 1) (by omega) (by omega)
      rw [e] at this; exact zm_lsS_irr zm_s_1 this
    have l1 : 2 ≤ lo.length := by
      by_cases e : lo.length = 1
      · rw [e] at g1; exact absurd (f1.symm.trans g1) sne
      · omega
    have l2 : 2 ≤ up.length := by
      by_cases e : up.length = 1
      · rw [e] at g2; rw [r1] at g2; rw [r0] at f2; exact absurd (g2.symm.trans f2) sne
      · omega
    have dl : (lo.dropLast ++ up).dropLast = lo.dropLast ++ up.dropLast := List.dropLast_append_of_ne_nil (fun e => by rw [e] at l2; simp at l2)
    rw [if_pos (by rw [List.length_append, List.length_dropLast]; omega), dl]
    have hL : (lo.dropLast ++ up.dropLast).length = lo.length - 1 + (up.length - 1) := by rw [List.length_append, List.length_dropLast, List.length_dropLast]
    have hd1 : lo.dropLast.length = lo.length - 1 := List.length_dropLast
    have hd2 : up.dropLast.length = up.length - 1 := List.length_dropLast
    have v2 : ∀ j, j < up.length - 1 → zm_gC (lo.dropLast ++ up.dropLast) (lo.length - 1 + j) = zm_gP up j := by
      intro j hj
      unfold zm_gC; rw [if_pos (by omega), ← hd1, zm_gP_r (by omega), zm_gP_dl (by omega)]
    have v1 : ∀ k, k ≤ lo.length - 1 → zm_gC (lo.dropLast ++ up.dropLast) k = zm_gP lo k := by
      intro k hk
      by_cases e : k = lo.length - 1
      · have := v2 0 (by omega)
        rw [Nat.add_zero] at this
        rw [e, this, f2, r0, g1]
      · unfold zm_gC; rw [if_pos (by omega), zm_gP_l (by omega), zm_gP_dl (by omega)]
    refine ⟨lo.length - 1, lo.length - 1 + (up.length - 1), ?_, by omega, by omega, fun _ => ⟨by omega, by omega⟩, zm_arc_c v1 a1, ?_⟩
    · rw [(zm_sd_n _).2 (by omega), hL]
    · rw [Nat.add_sub_cancel_left]
      refine zm_arc_c (fun k hk => ?_) a2
      by_cases e : k = up.length - 1
      · rw [e]; unfold zm_gC; rw [if_neg (by omega), zm_gP_l (by omega), zm_gP_dl (by omega), f1, g2, r1]
      · exact v2 k (by omega)
