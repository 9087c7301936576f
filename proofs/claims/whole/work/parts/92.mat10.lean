/-! MATHEMATICS 11: the width, both ways -/
theorem zm_vs_n (a b : Pt) : zm_vs b a = zm_ng (zm_vs a b) := by unfold zm_vs zm_ng; exact Prod.ext (by dsimp only; omega) (by dsimp only; omega)
theorem zm_CH_nbr {W : Pt → Prop} {H : List Pt} {t n : Nat} (h : zm_CH W H t n) (h3 : 3 ≤ n) {i : Nat} (hi : i < n) : ∃ i', i' < n ∧ zm_gC H (i' + 1) = zm_gC H i ∧ 0 < zm_cx (zm_ev (zm_gC H) i') (zm_ev (zm_gC H) i) := by
  have l := zm_CH_len h
  have gn : zm_gC H n = zm_gC H 0 := by rw [l.2.2 (by omega), zm_gC_n]
  by_cases i0 : i = 0
  · subst i0
    have e : zm_gC H (n - 1 + 1) = zm_gC H 0 := by rw [show n - 1 + 1 = n by omega, gn]
    refine ⟨n - 1, by omega, e, ?_⟩
    have := zm_turn_gen h (k := n - 1) (k' := 0) (by omega) (by omega) e.symm (zm_CH_ne h (by omega) (by omega))
    rw [zm_tr_cx, e] at this
    unfold zm_ev; rw [e]; exact this
  · have e : zm_gC H (i - 1 + 1) = zm_gC H i := by rw [show i - 1 + 1 = i by omega]
    refine ⟨i - 1, by omega, e, ?_⟩
    have := zm_turn_gen h (k := i - 1) (k' := i) (by omega) hi e.symm (fun q => by
      by_cases w : i + 1 = n
      · rw [w, gn] at q; exact zm_CH_ne h (i := 0) (j := i - 1) (by omega) (by omega) q
      · exact zm_CH_ne h (i := i - 1) (j := i + 1) (by omega) (by omega) q.symm)
    rw [zm_tr_cx, e] at this
    unfold zm_ev; rw [e]; exact this
theorem zm_ev_dp {H : List Pt} {m : Nat} (h : m < H.length) : sq H m (nx H m) = zm_dp (zm_ev (zm_gC H) m) (zm_ev (zm_gC H) m) := by
  rw [zm_al2_sq, ← zm_s_ev h]; rfl
theorem zm_wid_pair {W : Pt → Prop} {H : List Pt} {t n : Nat} (h : zm_CH W H t n) (h3 : 3 ≤ n) {d : Pt} (hd : 0 < zm_dp d d) : ∃ m k l, m < n ∧ k ∈ H ∧ l ∈ H ∧ (∀ r, W r → 0 ≤ zm_cx d (zm_vs k r)) ∧ (∀ r, W r → 0 ≤ zm_cx d (zm_vs r l)) ∧ rch H m H.length * rch H m H.length * zm_dp d d ≤ zm_cx d (zm_vs k l) * zm_cx d (zm_vs k l) * sq H m (nx H m) := by
  have l' := zm_CH_len h
  have hn : n = H.length := l'.2.2 (by omega)
  have dn : ¬ (d.1 = 0 ∧ d.2 = 0) := fun q => by unfold zm_dp at hd; rw [q.1, q.2] at hd; omega
  obtain ⟨k, hk, ek⟩ := zm_CH_sup h dn
  obtain ⟨l, hl, el⟩ := zm_CH_sup h (a := -d.1) (b := -d.2) (by omega)
  have gk : zm_gP H k = zm_gC H k := by unfold zm_gC; rw [if_pos hk]
  have gl : zm_gP H l = zm_gC H l := by unfold zm_gC; rw [if_pos hl]
  rw [gk] at ek; rw [gl] at el
  have ek : ∀ r, W r → 0 ≤ zm_cx d (zm_vs (zm_gC H k) r) := ek
  have el : ∀ r, W r → 0 ≤ zm_cx d (zm_vs r (zm_gC H l)) := fun r hr => by
    have : 0 ≤ zm_cx (zm_ng d) (zm_vs (zm_gC H l) r) := el r hr
    rw [zm_vs_n r, zm_cx_nl, zm_cx_nr] at this; omega
  obtain ⟨k', hk', ck, tk⟩ := zm_CH_nbr h h3 (i := k) (by omega)
  obtain ⟨j', hj', cl, tl⟩ := zm_CH_nbr h h3 (i := l) (by omega)
  have Ed : ∀ m, m < n → ∀ r, W r → 0 ≤ zm_cx (zm_ev (zm_gC H) m) (zm_vs (zm_gC H m) r) ∧ 0 ≤ zm_cx (zm_ev (zm_gC H) m) (zm_vs (zm_gC H (m + 1)) r) := fun m hm r hr => by
    obtain ⟨s, hs, p1, p2, p3⟩ := zm_CH_edge h hm
    have := p2 r hr
    exact ⟨this, by rw [zm_tr_cx] at this; exact this⟩
  have mk := zm_CH_mem h (k := k) (by omega); have ml := zm_CH_mem h (k := l) (by omega)
  have mk1 := zm_CH_mem h (k := k + 1) (by omega); have ml1 := zm_CH_mem h (k := l + 1) (by omega)
  have mk' := zm_CH_mem h (k := k') (by omega); have ml' := zm_CH_mem h (k := j') (by omega)
  have inH : ∀ m, m < n → zm_gC H m ∈ H := fun m hm => by
    have : zm_gC H m = zm_gP H m := by unfold zm_gC; rw [if_pos (by omega)]
    rw [this]; exact zm_gP_m (by omega)
  have x1 : 0 ≤ zm_cx (zm_ev (zm_gC H) k') (zm_vs (zm_gC H k) (zm_gC H l)) := by have := (Ed k' hk' _ ml).2; rw [ck] at this; exact this
  have x2 : 0 ≤ zm_cx (zm_ev (zm_gC H) k) (zm_vs (zm_gC H k) (zm_gC H l)) := (Ed k (by omega) _ ml).1
  have x3 : 0 ≤ zm_cx (zm_ng (zm_ev (zm_gC H) j')) (zm_vs (zm_gC H k) (zm_gC H l)) := by
    have := (Ed j' hj' _ mk).2; rw [cl] at this
    rw [zm_vs_n (zm_gC H l) (zm_gC H k), zm_cx_nl, zm_cx_nr]; omega
  have x4 : 0 ≤ zm_cx (zm_ng (zm_ev (zm_gC H) l)) (zm_vs (zm_gC H k) (zm_gC H l)) := by
    have := (Ed l (by omega) _ mk).1
    rw [zm_vs_n (zm_gC H l) (zm_gC H k), zm_cx_nl, zm_cx_nr]; omega
  have a1 : 0 ≤ zm_cx (zm_ev (zm_gC H) k') d := by
    have := ek _ mk'
    have e : zm_ev (zm_gC H) k' = zm_vs (zm_gC H k') (zm_gC H k) := by unfold zm_ev; rw [ck]
    rw [e, zm_cx_an, zm_vs_n (zm_gC H k) (zm_gC H k'), zm_cx_nr]
    omega
  have a2 : 0 ≤ zm_cx d (zm_ev (zm_gC H) k) := ek _ mk1
  have b1 : 0 ≤ zm_cx (zm_ng (zm_ev (zm_gC H) j')) d := by
    have := el _ ml'
    have e : zm_ev (zm_gC H) j' = zm_vs (zm_gC H j') (zm_gC H l) := by unfold zm_ev; rw [cl]
    rw [e, zm_cx_nl, zm_cx_an]
    omega
  have b2 : 0 ≤ zm_cx d (zm_ng (zm_ev (zm_gC H) l)) := by
    have := el _ ml1
    rw [zm_vs_n (zm_gC H l) (zm_gC H (l + 1))] at this; exact this
  have val : ∀ m f, m < n → (f = zm_ev (zm_gC H) m ∨ f = zm_ng (zm_ev (zm_gC H) m)) → rch H m H.length = zm_cx f (zm_vs (zm_gC H k) (zm_gC H l)) → zm_wle f d (zm_vs (zm_gC H k) (zm_gC H l)) → rch H m H.length * rch H m H.length * zm_dp d d ≤ zm_cx d (zm_vs (zm_gC H k) (zm_gC H l)) * zm_cx d (zm_vs (zm_gC H k) (zm_gC H l)) * sq H m (nx H m) := by
    intro m f hm hf hr hw
    rw [zm_ev_dp (by omega), hr]
    have e : zm_dp f f = zm_dp (zm_ev (zm_gC H) m) (zm_ev (zm_gC H) m) := by
      rcases hf with rfl | rfl
      · rfl
      · unfold zm_dp zm_ng; dsimp only; grind
    rw [← e]; exact hw
  -- a side at k
  have KA : ∀ m, m < n → (∀ r, W r → 0 ≤ zm_cx (zm_ev (zm_gC H) m) (zm_vs r (zm_gC H l))) → (zm_gC H m = zm_gC H k ∨ zm_gC H (m + 1) = zm_gC H k) → rch H m H.length = zm_cx (zm_ev (zm_gC H) m) (zm_vs (zm_gC H k) (zm_gC H l)) := by
    intro m hm hf zm_hq
    have R := zm_rch_e h hm (u := zm_gC H l) (inH l (by omega)) (fun r hr => by
      have := hf r hr
      have e : zm_tr3 (zm_gC H m) (zm_gC H (m + 1)) (zm_gC H l) = zm_tr3 (zm_gC H m) (zm_gC H (m + 1)) r + zm_cx (zm_ev (zm_gC H) m) (zm_vs r (zm_gC H l)) := by unfold zm_tr3 zm_cx zm_ev zm_vs zm_crs; dsimp only; grind
      omega)
    rw [R]
    rcases zm_hq with q | q
    · rw [zm_tr_c1, q]; unfold zm_ev; rw [q]
    · rw [zm_tr_cx, q]; unfold zm_ev; rw [q]
  have KB : ∀ m, m < n → (∀ r, W r → 0 ≤ zm_cx (zm_ev (zm_gC H) m) (zm_vs r (zm_gC H k))) → (zm_gC H m = zm_gC H l ∨ zm_gC H (m + 1) = zm_gC H l) → rch H m H.length = zm_cx (zm_ng (zm_ev (zm_gC H) m)) (zm_vs (zm_gC H k) (zm_gC H l)) := by
    intro m hm hf zm_hq
    have R := zm_rch_e h hm (u := zm_gC H k) (inH k (by omega)) (fun r hr => by
      have := hf r hr
      have e : zm_tr3 (zm_gC H m) (zm_gC H (m + 1)) (zm_gC H k) = zm_tr3 (zm_gC H m) (zm_gC H (m + 1)) r + zm_cx (zm_ev (zm_gC H) m) (zm_vs r (zm_gC H k)) := by unfold zm_tr3 zm_cx zm_ev zm_vs zm_crs; dsimp only; grind
      omega)
    rw [R, zm_vs_n (zm_gC H l) (zm_gC H k), zm_cx_nl, zm_cx_nr, Int.neg_neg]
    rcases zm_hq with q | q
    · rw [zm_tr_c1, q]; unfold zm_ev; rw [q]
    · rw [zm_tr_cx, q]; unfold zm_ev; rw [q]
  have FA : ∀ f, ((0 ≤ zm_cx (zm_ng (zm_ev (zm_gC H) j')) f ∧ 0 ≤ zm_cx f (zm_ng (zm_ev (zm_gC H) l))) ∨ zm_parl f d) → ∀ r, W r → 0 ≤ zm_cx f (zm_vs r (zm_gC H l)) := by
    intro f hf r hr
    rcases hf with ⟨f1, f2⟩ | f1
    · have y1 := (Ed j' hj' r hr).2; rw [cl] at y1
      have y2 := (Ed l (by omega) r hr).1
      have := zm_cone tl (g := zm_ng f) (y := zm_vs (zm_gC H l) r) (by rw [zm_cx_nr]; rw [zm_cx_nl] at f1; omega) (by rw [zm_cx_nl]; rw [zm_cx_nr] at f2; omega) y1 y2
      rw [zm_vs_n r (zm_gC H l), zm_cx_nl, zm_cx_nr] at this; omega
    · refine zm_nn_of (zm_parl_d f1) ?_
      rw [zm_parl_x f1]; exact Int.mul_nonneg (Int.le_of_lt f1.2) (el r hr)
  have FB : ∀ f, ((0 ≤ zm_cx (zm_ev (zm_gC H) k') f ∧ 0 ≤ zm_cx f (zm_ev (zm_gC H) k)) ∨ zm_parl f d) → ∀ r, W r → 0 ≤ zm_cx f (zm_vs (zm_gC H k) r) := by
    intro f hf r hr
    rcases hf with ⟨f1, f2⟩ | f1
    · have y1 := (Ed k' hk' r hr).2; rw [ck] at y1
      have y2 := (Ed k (by omega) r hr).1
      exact zm_cone tk f1 f2 y1 y2
    · refine zm_nn_of (zm_parl_d f1) ?_
      rw [zm_parl_x f1]; exact Int.mul_nonneg (Int.le_of_lt f1.2) (ek r hr)
  have done : ∀ m, m < n → rch H m H.length * rch H m H.length * zm_dp d d ≤ zm_cx d (zm_vs (zm_gC H k) (zm_gC H l)) * zm_cx d (zm_vs (zm_gC H k) (zm_gC H l)) * sq H m (nx H m) → ∃ m k l, m < n ∧ k ∈ H ∧ l ∈ H ∧ (∀ r, W r → 0 ≤ zm_cx d (zm_vs k r)) ∧ (∀ r, W r → 0 ≤ zm_cx d (zm_vs r l)) ∧ rch H m H.length * rch H m H.length * zm_dp d d ≤ zm_cx d (zm_vs k l) * zm_cx d (zm_vs k l) * sq H m (nx H m) :=
    fun m hm hle => ⟨m, zm_gC H k, zm_gC H l, hm, inH k (by omega), inH l (by omega), ek, el, hle⟩
  have tl' : 0 < zm_cx (zm_ng (zm_ev (zm_gC H) j')) (zm_ng (zm_ev (zm_gC H) l)) := by rw [zm_cx_nl, zm_cx_nr]; omega
  rcases zm_wid_abs hd tk tl' a1 a2 b1 b2 x1 x2 x3 x4 with ⟨f, hf, w, c⟩ | ⟨f, hf, w, c⟩
  · have fa := FA f c
    rcases hf with rfl | rfl
    · exact done k' hk' (val k' _ hk' (Or.inl rfl) (KA k' hk' fa (Or.inr ck)) w)
    · exact done k (by omega) (val k _ (by omega) (Or.inl rfl) (KA k (by omega) fa (Or.inl rfl)) w)
  · have fb := FB f c
    rcases hf with rfl | rfl
    · refine done j' hj' (val j' _ hj' (Or.inr rfl) (KB j' hj' (fun r hr => ?_) (Or.inr cl)) w)
      have := fb r hr
      rw [zm_vs_n r (zm_gC H k), zm_cx_nl, zm_cx_nr] at this; omega
    · refine done l (by omega) (val l _ (by omega) (Or.inr rfl) (KB l (by omega) (fun r hr => ?_) (Or.inl rfl)) w)
      have := fb r hr
      rw [zm_vs_n r (zm_gC H k), zm_cx_nl, zm_cx_nr] at this; omega
theorem zm_sq_dp (P : List Pt) (i j : Nat) : sq P i j = zm_dp (zm_vs (zm_gP P i) (zm_gP P j)) (zm_vs (zm_gP P i) (zm_gP P j)) := by unfold sq zm_dp zm_vs zm_gP; dsimp only; grind
theorem zm_m_wdt : Mq_wdt := by
  intro P hP p0
  obtain ⟨t, n, h⟩ := zm_hull_CH hP.2.2 (zm_ne_nil p0)
  have l := zm_CH_len h
  have e := h.1
  generalize hullF P = H at *
  refine zm_lo3_eq (zm_wLow_lo (H := H) (sd H).toNat (fun i hi => by rw [zm_al2_sq]; exact zm_CH_al2 h (by omega))) (zm_wmL_lo hP.2.2 P.length (Nat.le_refl _)) ?_ ?_
  · rintro u w ⟨m, hm, rfl, rfl⟩
    rw [← e] at hm
    have m1 := zm_CH_mem h (k := m) (by omega); have m2 := zm_CH_mem h (k := m + 1) (by omega)
    obtain ⟨a, ha⟩ := List.getElem?_of_mem m1
    obtain ⟨b, hb⟩ := List.getElem?_of_mem m2
    have ga := zm_gP_e ha; have gb := zm_gP_e hb
    have la := (List.getElem?_eq_some_iff.mp ha).1; have lb := (List.getElem?_eq_some_iff.mp hb).1
    obtain ⟨s, hs, p1, p2, p3⟩ := zm_CH_edge h hm
    have hab : a ≠ b := fun q => by
      subst q; rw [← ga, ← gb] at p1; exact zm_lsS_irr hs p1
    have ev2 : zm_vs (zm_gP P a) (zm_gP P b) = zm_ev (zm_gC H) m := by rw [ga, gb]; rfl
    have es : sq P a b = sq H m (nx H m) := by rw [zm_sq_dp, ev2, zm_ev_dp (by omega)]
    have er : spR P a b = rch H m H.length := by
      have dn : ¬ (-(zm_ev (zm_gC H) m).1 = 0 ∧ -(zm_ev (zm_gC H) m).2 = 0) := fun q => by
        have := zm_CH_al2 h hm
        rw [← zm_al2_sq, zm_ev_dp (by omega)] at this
        unfold zm_dp at this
        rw [show (zm_ev (zm_gC H) m).1 = 0 by omega, show (zm_ev (zm_gC H) m).2 = 0 by omega] at this; omega
      obtain ⟨k, hk, ek⟩ := zm_CH_sup h dn
      have far : ∀ r ∈ P, zm_tr3 (zm_gC H m) (zm_gC H (m + 1)) r ≤ zm_tr3 (zm_gC H m) (zm_gC H (m + 1)) (zm_gP H k) := fun r hr => by
        have := ek r hr
        have e : zm_tr3 (zm_gC H m) (zm_gC H (m + 1)) (zm_gP H k) = zm_tr3 (zm_gC H m) (zm_gC H (m + 1)) r + zm_crs (-(zm_ev (zm_gC H) m).1) (-(zm_ev (zm_gC H) m).2) (r.1 - (zm_gP H k).1) (r.2 - (zm_gP H k).2) := by unfold zm_tr3 zm_ev zm_vs zm_crs; dsimp only; grind
        omega
      rw [zm_rch_e h hm (zm_gP_m hk) far]
      have := zm_spR_e (P := P) (i := a) (j := b) la (lo := zm_gP P a) (hi' := zm_gP H k) (zm_gP_m la) (zm_gP_W h hk) (fun r hr => by rw [ga, gb, (zm_tr3_0 _ _).2.1]; exact p2 r hr) (fun r hr => by rw [ga, gb]; exact far r hr)
      rw [this, (zm_tr3_0 (zm_gP P a) (zm_gP P b)).2.1, ga, gb]; omega
    rcases Nat.lt_or_ge a b with q | q
    · refine ⟨_, _, ⟨b, a, q, lb, rfl, rfl⟩, ?_⟩
      rw [zm_spR_sym P b a, er, zm_sq_comm P b a, es]; exact Int.le_refl _
    · refine ⟨_, _, ⟨a, b, by omega, la, rfl, rfl⟩, ?_⟩
      rw [er, es]; exact Int.le_refl _
  · rintro u w ⟨i, j, hj, hi, rfl, rfl⟩
    have sp := sq_pos hP.2.2 (i := i) (j := j) (by omega) (by omega) (by omega)
    rw [zm_sq_dp] at sp
    by_cases n3 : 3 ≤ n
    · obtain ⟨m, k, l2, hm, hk, hl, ek, el, le⟩ := zm_wid_pair h n3 sp
      refine ⟨_, _, ⟨m, by omega, rfl, rfl⟩, ?_⟩
      have ed : ∀ p q : Pt, zm_tr3 (zm_gP P i) (zm_gP P j) q = zm_tr3 (zm_gP P i) (zm_gP P j) p + zm_cx (zm_vs (zm_gP P i) (zm_gP P j)) (zm_vs p q) := fun p q => by unfold zm_tr3 zm_cx zm_vs zm_crs; dsimp only; grind
      have := zm_spR_e (P := P) (i := i) (j := j) (by omega) (lo := k) (hi' := l2) (zm_CH_sub h k hk) (zm_CH_sub h l2 hl) (fun r hr => by have := ek r hr; have := ed k r; omega) (fun r hr => by have := el r hr; have := ed r l2; omega)
      rw [this, zm_sq_dp]
      have e2 : zm_tr3 (zm_gP P i) (zm_gP P j) l2 - zm_tr3 (zm_gP P i) (zm_gP P j) k = zm_cx (zm_vs (zm_gP P i) (zm_gP P j)) (zm_vs k l2) := by have := ed k l2; omega
      rw [e2]; exact le
    · have n0 : n ≠ 0 := by
        intro q
        -- one corner: all points are one
        have t0 : t = 0 := by have := h.2.2.1; omega
        have a := h.2.2.2.2.1
        rw [t0] at a
        have al : ∀ r ∈ P, r = zm_gC H 0 := fun r hr => by
          rcases a.2.2.2.2.1 r hr with e | e
          · exact e
          · rcases a.2.2.2.2.2 r hr with e' | e'
            · exact e'
            · exact absurd (zm_lsS_t zm_s_1 e e') (zm_lsS_irr zm_s_1)
        have e1 := al _ (zm_gP_m (P := P) (i := i) (by omega)); have e2 := al _ (zm_gP_m (P := P) (i := j) (by omega))
        rw [e1, e2, zm_vs_00] at sp
        exact absurd sp (by decide)
      obtain ⟨t1, t2⟩ := h.2.2.2.1 n0
      have n2 : n = 2 := by omega
      have gn : zm_gC H 2 = zm_gC H 0 := by rw [← n2, l.2.2 n0, zm_gC_n]
      obtain ⟨s, hs, p1, p2, p3⟩ := zm_CH_edge h (k := 0) (by omega)
      obtain ⟨s', hs', q1, q2, q3⟩ := zm_CH_edge h (k := 1) (by omega)
      rw [Nat.zero_add] at p2
      have gn' : zm_gC H (1 + 1) = zm_gC H 0 := gn
      rw [gn'] at q2
      have R := zm_rch_e h (m := 0) (by omega) (u := zm_gC H 0) (by
        have : zm_gC H 0 = zm_gP H 0 := by unfold zm_gC; rw [if_pos (by omega)]
        rw [this]; exact zm_gP_m (by omega)) (fun r hr => by
        rw [Nat.zero_add]
        have := q2 r hr
        have e1 : zm_tr3 (zm_gC H 1) (zm_gC H 0) r = -zm_tr3 (zm_gC H 0) (zm_gC H 1) r := by unfold zm_tr3 zm_crs; grind
        rw [(zm_tr3_0 _ _).2.1]; omega)
      rw [(zm_tr3_0 _ _).2.1] at R
      refine ⟨_, _, ⟨0, by omega, rfl, rfl⟩, ?_⟩
      have R' : rch H ((0 : Nat) : Int) H.length = 0 := R
      rw [R']
      have a := mul_self_nn (spR P i j)
      have b := zm_CH_al2 h (i := 0) (by omega)
      rw [← zm_al2_sq] at b
      have := Int.mul_nonneg a (Int.le_of_lt b)
      omega
