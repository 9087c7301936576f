/-! MATHEMATICS 7: the merge -/
theorem zm_gC_nx {H : List Pt} {i : Nat} (h : i < H.length) : (pX H (nx H i), pY H (nx H i)) = zm_gC H (i + 1) := by
  unfold nx zm_gC
  by_cases e : i + 1 < H.length
  · rw [if_pos (by omega), if_pos e]; rfl
  · rw [if_neg (by omega), if_neg e]; rfl
theorem zm_gC_i {H : List Pt} {i : Nat} (h : i < H.length) : (pX H i, pY H i) = zm_gC H i := by
  unfold zm_gC; rw [if_pos h]; rfl
theorem zm_s_ev {H : List Pt} {i : Nat} (h : i < H.length) : (sX H i, sY H i) = zm_ev (zm_gC H) i := by
  unfold sX sY zm_ev zm_vs; rw [← zm_gC_nx h, ← zm_gC_i h]
theorem zm_CH_len {W : Pt → Prop} {H : List Pt} {t n : Nat} (h : zm_CH W H t n) : n ≤ H.length ∧ sd H = n ∧ (n ≠ 0 → n = H.length) := by
  have h1 := h.1
  by_cases e : H.length < 2
  · have := (zm_sd_n H).1 e
    refine ⟨by omega, ?_, by omega⟩
    unfold sd at *; rw [if_pos e] at *; omega
  · have := (zm_sd_n H).2 (by omega)
    refine ⟨by omega, ?_, by omega⟩
    unfold sd at *; rw [if_neg e] at *; omega
theorem zm_gbk_1 {s : Int} (hs : zm_sgn1 s) {a : Pt} (h : zm_pp s a) : gbk a.1 a.2 ↔ s = -1 := by
  unfold zm_pp zm_psS zm_psv at h; unfold gbk
  rcases hs with rfl | rfl
  · omega
  · omega
def zm_gP2 (P : List Pt) (i : Nat) : Prop := gbk (sX P i) (sY P i)
theorem zm_CH_flag {W : Pt → Prop} {H : List Pt} {t n : Nat} (h : zm_CH W H t n) {i : Nat} (hi : i < n) : gbk (sX H i) (sY H i) ↔ t ≤ i := by
  have hl := (zm_CH_len h).1
  have e := zm_s_ev (H := H) (i := i) (by omega)
  by_cases q : i < t
  · have := zm_gbk_1 zm_s_1 (zm_arc_p h.2.2.2.2.1 q)
    rw [← e] at this
    dsimp only at this
    rw [this]; omega
  · have := zm_arc_p h.2.2.2.2.2 (i := i - t) (by omega)
    unfold zm_ev at this
    dsimp only at this
    rw [show t + (i - t) = i by omega, show t + (i - t + 1) = i + 1 by omega] at this
    have := zm_gbk_1 zm_s_m this
    have e2 : zm_vs (zm_gC H i) (zm_gC H (i + 1)) = (sX H i, sY H i) := e.symm
    rw [e2] at this; dsimp only at this
    rw [this]; omega
theorem zm_ord_both {P S : List Pt} {i j : Nat} (hi : (i : Int) < sd P) (hj : (j : Int) < sd S) (h : gbk (sX P i) (sY P i) ↔ gbk (sX S j) (sY S j)) : ordS P i S j = zm_cx (sX S j, sY S j) (sX P i, sY P i) := by
  unfold ordS
  rw [if_neg (by omega), if_neg (by omega), if_neg (by rw [propext h]; exact fun h => h rfl)]
  unfold zm_cx zm_crs; rfl
theorem zm_ord_l {P S : List Pt} {i j : Nat} (hi : (i : Int) < sd P) (h : (j : Int) < sd S → gbk (sX S j) (sY S j) ∧ ¬ gbk (sX P i) (sY P i)) : ordS P i S j = -1 := by
  unfold ordS
  rw [if_neg (by omega)]
  by_cases e : sd S ≤ j
  · rw [if_pos e]
  · obtain ⟨h1, h2⟩ := h (by omega)
    rw [if_neg e, if_pos (by unfold bI; rw [if_pos h1, if_neg h2]; decide), if_neg h2]
theorem zm_ord_r {P S : List Pt} {i j : Nat} (hj : (j : Int) < sd S) (h : (i : Int) < sd P → gbk (sX P i) (sY P i) ∧ ¬ gbk (sX S j) (sY S j)) : ordS P i S j = 1 := by
  unfold ordS
  by_cases e : sd P ≤ i
  · rw [if_pos e]
  · obtain ⟨h1, h2⟩ := h (by omega)
    rw [if_neg e, if_neg (by omega), if_pos (by unfold bI; rw [if_pos h1, if_neg h2]; decide), if_pos h1]
/-- the merge's next place -/
noncomputable def zm_stp (P S : List Pt) (z : Nat × Nat) : Nat × Nat := (if ordS P z.1 S z.2 ≤ 0 then z.1 + 1 else z.1, if 0 ≤ ordS P z.1 S z.2 then z.2 + 1 else z.2)
noncomputable def zm_tra (P S : List Pt) : Nat → Nat × Nat
  | 0 => (0, 0)
  | k + 1 => zm_stp P S (zm_tra P S k)
/-- global form of a step between two corners of the grid of places -/
def zm_stG (i1 j1 : Nat) (v v' : Nat → Pt) (i j i2 j2 : Nat) : Prop := zm_stpM i1 j1 v v' i j i2 j2
theorem zm_stp_both {P S : List Pt} {i j i1 j1 : Nat} (hi : i < i1) (hj : j < j1) (hiP : i < P.length) (hjS : j < S.length) (ho : ordS P i S j = zm_cx (sX S j, sY S j) (sX P i, sY P i)) : zm_stpM i1 j1 (zm_gC P) (zm_gC S) i j (zm_stp P S (i, j)).1 (zm_stp P S (i, j)).2 := by
  unfold zm_stp; dsimp only
  rw [ho, zm_s_ev hiP, zm_s_ev hjS]
  have an := zm_cx_an (zm_ev (zm_gC S) j) (zm_ev (zm_gC P) i)
  generalize hc : zm_cx (zm_ev (zm_gC S) j) (zm_ev (zm_gC P) i) = c at *
  unfold zm_stpM
  rcases Int.lt_trichotomy c 0 with q | q | q
  · exact Or.inl ⟨hi, by rw [if_pos (by omega)], by rw [if_neg (by omega)], fun _ => by omega⟩
  · exact Or.inr (Or.inr ⟨hi, hj, by rw [if_pos (by omega)], by rw [if_pos (by omega)], by omega⟩)
  · exact Or.inr (Or.inl ⟨hj, by rw [if_neg (by omega)], by rw [if_pos (by omega)], fun _ => by omega⟩)
theorem zm_stp_l {P S : List Pt} {i j i1 j1 : Nat} (hi : i < i1) (hj : ¬ j < j1) (ho : ordS P i S j = -1) : zm_stpM i1 j1 (zm_gC P) (zm_gC S) i j (zm_stp P S (i, j)).1 (zm_stp P S (i, j)).2 := by
  unfold zm_stp; dsimp only
  rw [ho]
  exact Or.inl ⟨hi, rfl, rfl, fun h => absurd h hj⟩
theorem zm_stp_r {P S : List Pt} {i j i1 j1 : Nat} (hj : j < j1) (hi : ¬ i < i1) (ho : ordS P i S j = 1) : zm_stpM i1 j1 (zm_gC P) (zm_gC S) i j (zm_stp P S (i, j)).1 (zm_stp P S (i, j)).2 := by
  unfold zm_stp; dsimp only
  rw [ho]
  exact Or.inr (Or.inl ⟨hj, rfl, rfl, fun h => absurd h hi⟩)
theorem zm_step_low {W W' : Pt → Prop} {P S : List Pt} {t n t' n' : Nat} (h : zm_CH W P t n) (h' : zm_CH W' S t' n') {i j : Nat} (hi : i ≤ t) (hj : j ≤ t') (hn : ¬ (i = t ∧ j = t')) : zm_stpM t t' (zm_gC P) (zm_gC S) i j (zm_stp P S (i, j)).1 (zm_stp P S (i, j)).2 := by
  have l := zm_CH_len h; have l' := zm_CH_len h'
  have b := h.2.2.1; have b' := h'.2.2.1
  by_cases c1 : i < t
  · by_cases c2 : j < t'
    · refine zm_stp_both c1 c2 (by omega) (by omega) (zm_ord_both (by omega) (by omega) ?_)
      rw [zm_CH_flag h (by omega), zm_CH_flag h' (by omega)]; omega
    · refine zm_stp_l c1 c2 (zm_ord_l (by omega) (fun q => ?_))
      rw [zm_CH_flag h (by omega), zm_CH_flag h' (by omega)]; omega
  · refine zm_stp_r (by omega) c1 (zm_ord_r (by omega) (fun q => ?_))
    rw [zm_CH_flag h (by omega), zm_CH_flag h' (by omega)]; omega
theorem zm_step_upp {W W' : Pt → Prop} {P S : List Pt} {t n t' n' : Nat} (h : zm_CH W P t n) (h' : zm_CH W' S t' n') {i j : Nat} (ti : t ≤ i) (tj : t' ≤ j) (hi : i ≤ n) (hj : j ≤ n') (hn : ¬ (i = n ∧ j = n')) : zm_stpM n n' (zm_gC P) (zm_gC S) i j (zm_stp P S (i, j)).1 (zm_stp P S (i, j)).2 := by
  have l := zm_CH_len h; have l' := zm_CH_len h'
  have b := h.2.2.1; have b' := h'.2.2.1
  by_cases c1 : i < n
  · by_cases c2 : j < n'
    · refine zm_stp_both c1 c2 (by omega) (by omega) (zm_ord_both (by omega) (by omega) ?_)
      rw [zm_CH_flag h (by omega), zm_CH_flag h' (by omega)]; omega
    · exact zm_stp_l c1 c2 (zm_ord_l (by omega) (fun q => by omega))
  · exact zm_stp_r (by omega) c1 (zm_ord_r (by omega) (fun q => by omega))
theorem zm_reach {P S : List Pt} {i0 j0 i1 j1 : Nat} (hst : ∀ i j, i0 ≤ i → j0 ≤ j → i ≤ i1 → j ≤ j1 → ¬ (i = i1 ∧ j = j1) → zm_stpM i1 j1 (zm_gC P) (zm_gC S) i j (zm_stp P S (i, j)).1 (zm_stp P S (i, j)).2) : ∀ (d k : Nat), i0 ≤ (zm_tra P S k).1 → j0 ≤ (zm_tra P S k).2 → (zm_tra P S k).1 ≤ i1 → (zm_tra P S k).2 ≤ j1 → i1 + j1 - ((zm_tra P S k).1 + (zm_tra P S k).2) ≤ d → ∃ e, e ≤ d ∧ zm_tra P S (k + e) = (i1, j1) ∧ ∀ q, q < e → i0 ≤ (zm_tra P S (k + q)).1 ∧ j0 ≤ (zm_tra P S (k + q)).2 ∧ (zm_tra P S (k + q)).1 + (zm_tra P S (k + q)).2 < i1 + j1 ∧ zm_stpM i1 j1 (zm_gC P) (zm_gC S) (zm_tra P S (k + q)).1 (zm_tra P S (k + q)).2 (zm_tra P S (k + q + 1)).1 (zm_tra P S (k + q + 1)).2 := by
  intro d
  induction d with
  | zero =>
    intro k a b c e f
    exact ⟨0, by omega, Prod.ext (by show (zm_tra P S k).1 = i1; omega) (by show (zm_tra P S k).2 = j1; omega), fun q zm_hq => by omega⟩
  | succ d ih =>
    intro k a b c e f
    by_cases q : (zm_tra P S k).1 = i1 ∧ (zm_tra P S k).2 = j1
    · exact ⟨0, by omega, Prod.ext q.1 q.2, fun q zm_hq => by omega⟩
    · have st := hst _ _ a b c e q
      have e1 : zm_tra P S (k + 1) = zm_stp P S ((zm_tra P S k).1, (zm_tra P S k).2) := rfl
      rw [← e1] at st
      have bd : (zm_tra P S (k + 1)).1 ≤ i1 ∧ (zm_tra P S (k + 1)).2 ≤ j1 ∧ (zm_tra P S k).1 ≤ (zm_tra P S (k + 1)).1 ∧ (zm_tra P S k).2 ≤ (zm_tra P S (k + 1)).2 ∧ (zm_tra P S k).1 + (zm_tra P S k).2 < (zm_tra P S (k + 1)).1 + (zm_tra P S (k + 1)).2 := by
        rcases st with ⟨q1, q2, q3, _⟩ | ⟨q1, q2, q3, _⟩ | ⟨q1, q2, q3, q4, _⟩ <;> omega
      obtain ⟨e2, h0, h1, h2⟩ := ih (k + 1) (by omega) (by omega) (by omega) (by omega) (by omega)
      refine ⟨e2 + 1, by omega, by rw [show k + (e2 + 1) = k + 1 + e2 by omega]; exact h1, fun p hp => ?_⟩
      cases p with
      | zero => exact ⟨a, b, by show (zm_tra P S k).1 + (zm_tra P S k).2 < _; omega, st⟩
      | succ p =>
        have := h2 p (by omega)
        rw [show k + 1 + p = k + (p + 1) by omega] at this; exact this
/-- the merge's corners -/
noncomputable def zm_uv (P S : List Pt) (k : Nat) : Pt := zm_ad (zm_gC P (zm_tra P S k).1) (zm_gC S (zm_tra P S k).2)
theorem zm_mrg_run {P S : List Pt} {n n' N : Nat} (hn : sd P = n) (hn' : sd S = n') (hP : n ≤ P.length) (hS : n' ≤ S.length) (hN : zm_tra P S N = (n, n')) (hk : ∀ k, k < N → (zm_tra P S k).1 + (zm_tra P S k).2 < n + n') (hk2 : ∀ k, k < N → ∃ i1 j1, i1 ≤ n ∧ j1 ≤ n' ∧ zm_stpM i1 j1 (zm_gC P) (zm_gC S) (zm_tra P S k).1 (zm_tra P S k).2 (zm_tra P S (k + 1)).1 (zm_tra P S (k + 1)).2) : ∀ (d fu k : Nat) (out : List Pt), k + d = N → d ≤ fu → mrgF P S fu (zm_tra P S k).1 (zm_tra P S k).2 (zm_uv P S k).1 (zm_uv P S k).2 out = out ++ (List.range' (k + 1) (d - 1)).map (zm_uv P S) := by
  intro d
  induction d with
  | zero =>
    intro fu k out h1 h2
    rw [mrg_e (Or.inr (by rw [hn, hn', show k = N by omega, hN]; dsimp only; omega))]
    simp
  | succ d ih =>
    intro fu k out h1 h2
    obtain ⟨fu, rfl⟩ : ∃ g, fu = g + 1 := ⟨fu - 1, by omega⟩
    have hlt := hk k (by omega)
    have e1 : zm_tra P S (k + 1) = zm_stp P S (zm_tra P S k) := rfl
    have zm_key : ((zm_uv P S (k + 1)).1 = if 0 ≤ ordS P (zm_tra P S k).1 S (zm_tra P S k).2 then (if ordS P (zm_tra P S k).1 S (zm_tra P S k).2 ≤ 0 then (zm_uv P S k).1 + sX P (zm_tra P S k).1 else (zm_uv P S k).1) + sX S (zm_tra P S k).2 else (if ordS P (zm_tra P S k).1 S (zm_tra P S k).2 ≤ 0 then (zm_uv P S k).1 + sX P (zm_tra P S k).1 else (zm_uv P S k).1)) ∧ ((zm_uv P S (k + 1)).2 = if 0 ≤ ordS P (zm_tra P S k).1 S (zm_tra P S k).2 then (if ordS P (zm_tra P S k).1 S (zm_tra P S k).2 ≤ 0 then (zm_uv P S k).2 + sY P (zm_tra P S k).1 else (zm_uv P S k).2) + sY S (zm_tra P S k).2 else (if ordS P (zm_tra P S k).1 S (zm_tra P S k).2 ≤ 0 then (zm_uv P S k).2 + sY P (zm_tra P S k).1 else (zm_uv P S k).2)) := by
      obtain ⟨i1, j1, hi1, hj1, st⟩ := hk2 k (by omega)
      have bd : (ordS P (zm_tra P S k).1 S (zm_tra P S k).2 ≤ 0 → (zm_tra P S k).1 < n) ∧ (0 ≤ ordS P (zm_tra P S k).1 S (zm_tra P S k).2 → (zm_tra P S k).2 < n') := by
        rw [e1] at st
        unfold zm_stp at st; dsimp only at st
        constructor
        · intro h
          rw [if_pos h] at st
          rcases st with ⟨q1, q2, q3, _⟩ | ⟨q1, q2, q3, _⟩ | ⟨q1, q2, q3, q4, _⟩ <;> omega
        · intro h
          rw [if_pos h] at st
          rcases st with ⟨q1, q2, q3, _⟩ | ⟨q1, q2, q3, _⟩ | ⟨q1, q2, q3, q4, _⟩ <;> omega
      unfold zm_uv
      rw [e1]
      unfold zm_stp
      generalize zm_tra P S k = z at *
      generalize ordS P z.1 S z.2 = o at *
      dsimp only
      by_cases c1 : o ≤ 0
      · have x1 := zm_s_ev (H := P) (i := z.1) (by have := bd.1 c1; omega)
        have x1a := congrArg Prod.fst x1; have x1b := congrArg Prod.snd x1
        unfold zm_ev zm_vs at x1a x1b; dsimp only at x1a x1b
        by_cases c2 : 0 ≤ o
        · have x2 := zm_s_ev (H := S) (i := z.2) (by have := bd.2 c2; omega)
          have x2a := congrArg Prod.fst x2; have x2b := congrArg Prod.snd x2
          unfold zm_ev zm_vs at x2a x2b; dsimp only at x2a x2b
          rw [if_pos c1, if_pos c2, if_pos c2, if_pos c1, if_pos c2, if_pos c1]
          unfold zm_ad; dsimp only; omega
        · rw [if_pos c1, if_neg c2, if_neg c2, if_pos c1, if_neg c2, if_pos c1]
          unfold zm_ad; dsimp only; omega
      · have c2 : 0 ≤ o := by omega
        have x2 := zm_s_ev (H := S) (i := z.2) (by have := bd.2 c2; omega)
        have x2a := congrArg Prod.fst x2; have x2b := congrArg Prod.snd x2
        unfold zm_ev zm_vs at x2a x2b; dsimp only at x2a x2b
        rw [if_neg c1, if_pos c2, if_pos c2, if_neg c1, if_pos c2, if_neg c1]
        unfold zm_ad; dsimp only; omega
    rw [mrg_s (by rw [hn, hn']; omega) ((zm_tra P S (k + 1)).1 : Int) ((zm_tra P S (k + 1)).2 : Int) (zm_uv P S (k + 1)).1 (zm_uv P S (k + 1)).2 (by rw [e1]; unfold zm_stp; dsimp only; split <;> rfl) (by rw [e1]; unfold zm_stp; dsimp only; split <;> rfl) zm_key.1 zm_key.2]
    rw [ih fu (k + 1) _ (by omega) (by omega), hn, hn']
    by_cases d0 : d = 0
    · subst d0
      rw [show k + 1 = N by omega, hN, if_neg (by dsimp only; omega)]; rfl
    · rw [if_pos (by have := hk (k + 1) (by omega); omega), List.append_assoc]
      obtain ⟨d', rfl⟩ : ∃ d', d = d' + 1 := ⟨d - 1, by omega⟩
      rw [show d' + 1 + 1 - 1 = d' + 1 by omega, show d' + 1 - 1 = d' by omega, List.range'_succ, List.map_cons]
      rfl
theorem zm_stp_shift {P S : List Pt} {t n t' n' i j i2 j2 : Nat} (hi : t ≤ i) (hj : t' ≤ j) (hi2 : i ≤ i2) (hj2 : j ≤ j2) (h : zm_stpM n n' (zm_gC P) (zm_gC S) i j i2 j2) : zm_stpM (n - t) (n' - t') (fun k => zm_gC P (t + k)) (fun k => zm_gC S (t' + k)) (i - t) (j - t') (i2 - t) (j2 - t') := by
  have e1 : zm_ev (fun k => zm_gC P (t + k)) (i - t) = zm_ev (zm_gC P) i := by
    unfold zm_ev; dsimp only; rw [show t + (i - t) = i by omega, show t + (i - t + 1) = i + 1 by omega]
  have e2 : zm_ev (fun k => zm_gC S (t' + k)) (j - t') = zm_ev (zm_gC S) j := by
    unfold zm_ev; dsimp only; rw [show t' + (j - t') = j by omega, show t' + (j - t' + 1) = j + 1 by omega]
  unfold zm_stpM
  rw [e1, e2]
  rcases h with ⟨q1, q2, q3, q4⟩ | ⟨q1, q2, q3, q4⟩ | ⟨q1, q2, q3, q4, q5⟩
  · exact Or.inl ⟨by omega, by omega, by omega, fun h => q4 (by omega)⟩
  · exact Or.inr (Or.inl ⟨by omega, by omega, by omega, fun h => q4 (by omega)⟩)
  · exact Or.inr (Or.inr ⟨by omega, by omega, by omega, by omega, q5⟩)
theorem zm_sum_CH {W W' : Pt → Prop} {P S : List Pt} {t n t' n' : Nat} (h : zm_CH W P t n) (h' : zm_CH W' S t' n') : ∃ T N, zm_CH (zm_sumW W W') (sumF P S) T N ∧ (sumF P S).length ≤ n + n' + 1 := by
  have l := zm_CH_len h; have l' := zm_CH_len h'
  have b := h.2.2.1; have b' := h'.2.2.1
  have p := h.2.1; have p' := h'.2.1
  obtain ⟨T, hT0, hT, hTs⟩ := zm_reach (P := P) (S := S) (i0 := 0) (j0 := 0) (i1 := t) (j1 := t') (fun i j _ _ h3 h4 h5 => zm_step_low h h' h3 h4 h5) (t + t') 0 (by omega) (by omega) (Nat.zero_le _) (Nat.zero_le _) (by omega)
  rw [Nat.zero_add] at hT
  obtain ⟨E, hE0, hE, hEs⟩ := zm_reach (P := P) (S := S) (i0 := t) (j0 := t') (i1 := n) (j1 := n') (fun i j h1 h2 h3 h4 h5 => zm_step_upp h h' h1 h2 h3 h4 h5) (n + n' - (t + t')) T (by rw [hT]; exact Nat.le_refl _) (by rw [hT]; exact Nat.le_refl _) (by rw [hT]; exact b) (by rw [hT]; exact b') (by rw [hT]; dsimp only; omega)
  have A1 := zm_arc_sum zm_s_1 h.2.2.2.2.1 h'.2.2.2.2.1 (fun k => (zm_tra P S k).1) (fun k => (zm_tra P S k).2) T rfl rfl (by rw [hT]) (by rw [hT]) (fun k hk => by
    have := (hTs k hk).2.2.2; simp only [Nat.zero_add] at this; exact this)
  have A2 := zm_arc_sum zm_s_m h.2.2.2.2.2 h'.2.2.2.2.2 (fun k => (zm_tra P S (T + k)).1 - t) (fun k => (zm_tra P S (T + k)).2 - t') E (by rw [Nat.add_zero, hT]; dsimp only; omega) (by rw [Nat.add_zero, hT]; dsimp only; omega) (by rw [hE]) (by rw [hE]) (fun k hk => by
    obtain ⟨q1, q2, q3, q4⟩ := hEs k hk
    have mo : (zm_tra P S (T + k)).1 ≤ (zm_tra P S (T + k + 1)).1 ∧ (zm_tra P S (T + k)).2 ≤ (zm_tra P S (T + k + 1)).2 := by
      rcases q4 with ⟨w1, w2, w3, _⟩ | ⟨w1, w2, w3, _⟩ | ⟨w1, w2, w3, w4, _⟩ <;> omega
    exact zm_stp_shift q1 q2 mo.1 mo.2 q4)
  have run := zm_mrg_run (P := P) (S := S) l.2.1 l'.2.1 l.1 l'.1 hE (fun k hk => by
    by_cases q : k < T
    · have := (hTs k q).2.2.1; rw [Nat.zero_add] at this; omega
    · have := (hEs (k - T) (by omega)).2.2.1; rw [show T + (k - T) = k by omega] at this; exact this) (fun k hk => by
    by_cases q : k < T
    · have := (hTs k q).2.2.2; rw [Nat.zero_add] at this; exact ⟨t, t', b, b', this⟩
    · have := (hEs (k - T) (by omega)).2.2.2; rw [show T + (k - T) = k by omega] at this; exact ⟨n, n', by omega, by omega, this⟩) (T + E) (sd P + sd S).toNat 0 [zm_uv P S 0] (by omega) (by rw [l.2.1, l'.2.1]; omega)
  have e0 : zm_gP P 0 = zm_gC P 0 ∧ zm_gP S 0 = zm_gC S 0 := by
    unfold zm_gC; rw [if_pos (by omega), if_pos (by omega)]; exact ⟨rfl, rfl⟩
  have eu : (pX P 0 + pX S 0, pY P 0 + pY S 0) = zm_uv P S 0 := by
    show zm_ad (zm_gP P 0) (zm_gP S 0) = _
    rw [e0.1, e0.2]; rfl
  have es : sumF P S = zm_uv P S 0 :: (List.range' 1 (T + E - 1)).map (zm_uv P S) := by
    have e3 : sumF P S = mrgF P S (sd P + sd S).toNat ((zm_tra P S 0).1 : Int) ((zm_tra P S 0).2 : Int) (zm_uv P S 0).1 (zm_uv P S 0).2 [zm_uv P S 0] := by
      unfold sumF; rw [eu, ← eu]; rfl
    rw [e3, run]; rfl
  have len : (sumF P S).length = 1 + (T + E - 1) := by rw [es, List.length_cons, List.length_map, List.length_range']; omega
  have gt : ∀ k, k < 1 + (T + E - 1) → zm_gP (sumF P S) k = zm_uv P S k := by
    intro k hk
    refine zm_gP_e ?_
    rw [es]
    cases k with
    | zero => rfl
    | succ k =>
      rw [List.getElem?_cons_succ, List.getElem?_map, List.getElem?_range' (by omega)]
      simp [Nat.add_comm]
  have cl : zm_uv P S (T + E) = zm_uv P S 0 := by
    unfold zm_uv; rw [hE]; show zm_ad (zm_gC P n) (zm_gC S n') = zm_ad (zm_gC P 0) (zm_gC S 0)
    have c1 : zm_gC P n = zm_gC P 0 := by
      by_cases q : n = 0
      · rw [q]
      · rw [l.2.2 q, zm_gC_n]
    have c2 : zm_gC S n' = zm_gC S 0 := by
      by_cases q : n' = 0
      · rw [q]
      · rw [l'.2.2 q, zm_gC_n]
    rw [c1, c2]
  have N1 : T + E ≠ 0 → 0 < T ∧ 0 < E := by
    intro q
    have z := h.2.2.2.1; have z' := h'.2.2.2.1
    constructor
    · refine Nat.pos_of_ne_zero (fun e => ?_)
      rw [e] at hT
      have a1 : (0 : Nat) = t := congrArg Prod.fst hT
      have a2 : (0 : Nat) = t' := congrArg Prod.snd hT
      have E0 := (hEs 0 (by omega)).2.2.1
      rw [Nat.add_zero, e] at E0
      have : (zm_tra P S 0).1 + (zm_tra P S 0).2 = 0 := rfl
      omega
    · refine Nat.pos_of_ne_zero (fun e => ?_)
      rw [e, Nat.add_zero, hT] at hE
      have a1 : t = n := congrArg Prod.fst hE
      have a2 : t' = n' := congrArg Prod.snd hE
      have T0 := (hTs 0 (by omega)).2.2.1
      omega
  have vC : ∀ k, k ≤ T + E → zm_gC (sumF P S) k = zm_uv P S k := by
    intro k hk
    unfold zm_gC
    by_cases q : k < 1 + (T + E - 1)
    · rw [if_pos (by omega), gt k q]
    · rw [if_neg (by omega), gt 0 (by omega), show k = T + E by omega, cl]
  refine ⟨T, T + E, ⟨?_, by omega, by omega, fun q => ⟨(N1 q).1, by have := N1 q; omega⟩, zm_arc_c (fun k hk => vC k (by omega)) A1, ?_⟩, by omega⟩
  · by_cases q : T + E = 0
    · rw [(zm_sd_n _).1 (by omega)]; exact q
    · have := N1 q; rw [(zm_sd_n _).2 (by omega)]; omega
  · rw [Nat.add_sub_cancel_left]
    refine zm_arc_c (fun k hk => ?_) A2
    rw [vC (T + k) (by omega)]
    unfold zm_uv
    have q : t ≤ (zm_tra P S (T + k)).1 ∧ t' ≤ (zm_tra P S (T + k)).2 := by
      by_cases q : k = E
      · rw [q, hE]; exact ⟨b, b'⟩
      · have := hEs k (by omega); exact ⟨this.1, this.2.1⟩
    rw [show t + ((zm_tra P S (T + k)).1 - t) = (zm_tra P S (T + k)).1 by omega, show t' + ((zm_tra P S (T + k)).2 - t') = (zm_tra P S (T + k)).2 by omega]
theorem zm_sgm_inj {sg : Int} (hs : sg = 1 ∨ sg = -1) {a b : Pt} (h : sgm sg a = sgm sg b) : a = b := by
  unfold sgm at h
  have h1 := congrArg Prod.fst h; have h2 := congrArg Prod.snd h
  dsimp only at h1 h2
  rcases hs with rfl | rfl <;> exact Prod.ext (by omega) (by omega)
theorem zm_sgm_nodup {sg : Int} (hs : sg = 1 ∨ sg = -1) {B : List Pt} (h : B.Nodup) : (B.map (sgm sg)).Nodup := by
  unfold List.Nodup at *
  rw [List.pairwise_map]
  exact h.imp (fun hab e => hab (zm_sgm_inj hs e))
theorem zm_sumH_CH {A B : List Pt} {sg : Int} (hs : sg = 1 ∨ sg = -1) (hA : A.Nodup) (hB : B.Nodup) (a0 : A ≠ []) (b0 : B ≠ []) : ∃ T N, zm_CH (fun r => r ∈ allS A B sg) (sumH A B sg) T N ∧ (sumH A B sg).length ≤ A.length + B.length + 1 := by
  obtain ⟨t, n, h⟩ := zm_hull_CH hA a0
  obtain ⟨t', n', h'⟩ := zm_hull_CH (zm_sgm_nodup hs hB) (fun e => b0 (List.map_eq_nil_iff.mp e))
  obtain ⟨T, N, c, hl⟩ := zm_sum_CH h h'
  have e1 := zm_nodup_le (zm_CH_nodup h) (zm_CH_sub h)
  have e2 := zm_nodup_le (zm_CH_nodup h') (zm_CH_sub h')
  rw [List.length_map] at e2
  have l := zm_CH_len h; have l' := zm_CH_len h'
  have hw : ∀ r, r ∈ allS A B sg ↔ zm_sumW (fun r => r ∈ A) (fun r => r ∈ B.map (sgm sg)) r := by
    intro r
    unfold allS zm_sumW
    rw [List.mem_flatMap]
    constructor
    · rintro ⟨a, ha, hr⟩
      obtain ⟨b, hb, rfl⟩ := List.mem_map.mp hr
      exact ⟨a, sgm sg b, ha, List.mem_map_of_mem hb, rfl⟩
    · rintro ⟨a, b, ha, hb, rfl⟩
      obtain ⟨b', hb', rfl⟩ := List.mem_map.mp hb
      exact ⟨a, ha, List.mem_map.mpr ⟨b', hb', rfl⟩⟩
  refine ⟨T, N, ?_, by unfold sumH; omega⟩
  obtain ⟨c1, c2, c3, c4, c5, c6⟩ := c
  exact ⟨c1, c2, c3, c4, zm_arc_w hw c5, zm_arc_w hw c6⟩
theorem zm_ne_nil {A : List Pt} (h : A.length ≠ 0) : A ≠ [] := fun e => h (by rw [e]; rfl)
theorem zm_m_sums : Mq_sums := by
  intro A B sg hs hA hB a0 b0
  obtain ⟨T, N, c, hl⟩ := zm_sumH_CH hs hA.2.2 hB.2.2 (zm_ne_nil a0) (zm_ne_nil b0)
  have h1 := hA.1; have h2 := hB.1
  refine ⟨zm_CH_isHL c (by omega), fun q zm_hq => ?_⟩
  have := zm_CH_sub c q zm_hq
  unfold allS at this
  rw [List.mem_flatMap] at this
  obtain ⟨a, ha, hr⟩ := this
  obtain ⟨b, hb, rfl⟩ := List.mem_map.mp hr
  have w1 := hA.2.1 a ha; have w2 := hB.2.1 b hb
  unfold bq at *; unfold sumP; dsimp only
  rcases hs with rfl | rfl <;> omega
