/-! MATHEMATICS 14: there is a least circle -/
theorem zm_rnd_of {P : List Pt} {q : zm_Q4} (q0 : 0 < q.1) (qm : ∀ x ∈ P, zm_pw q x ≤ 0) {a b d : Nat} (la : a < P.length) (lb : b < P.length) (ld : d < P.length) (ht : 0 < zm_tr3 (zm_gP P a) (zm_gP P b) (zm_gP P d)) (pa : zm_pw q (zm_gP P a) = 0) (pb : zm_pw q (zm_gP P b) = 0) (pd : zm_pw q (zm_gP P d) = 0) (s1 : 0 < shD P a b d) (s2 : 0 < shD P b a d) (s3 : 0 < shD P d a b) : ¬ noC P := by
  intro hn
  obtain ⟨e1, e2, e3⟩ := zm_rU_e P a b d
  have hab : (a : Int) ≠ b := fun e => by
    have : a = b := by omega
    rw [this, (zm_tr3_0 _ _).2.2] at ht; omega
  have hbd : (b : Int) ≠ d := fun e => by
    have : b = d := by omega
    rw [this, (zm_tr3_0 _ _).1] at ht; omega
  have had : (a : Int) ≠ d := fun e => by
    have : a = d := by omega
    rw [this, (zm_tr3_0 _ _).2.1] at ht; omega
  refine hn.2 a b d (by omega) (by omega) (by omega) hab hbd had (Or.inl (by omega)) ⟨by omega, s1, s2, s3, fun k k0 k1 => ?_⟩
  obtain ⟨k, rfl⟩ := Int.eq_ofNat_of_zero_le k0
  obtain ⟨r1, r2, r3⟩ := zm_psq_0 1 (zm_gP P a) (zm_gP P b) (zm_gP P d)
  have u := zm_tri_u (q := zm_psq 1 (zm_gP P a) (zm_gP P b) (zm_gP P d)) (r := q) (by omega) r1 r2 r3 pa pb pd (zm_gP P k)
  have n0 : 0 < (zm_psq 1 (zm_gP P a) (zm_gP P b) (zm_gP P d)).1 := by show (0 : Int) < 1 * 2 * zm_tr3 (zm_gP P a) (zm_gP P b) (zm_gP P d); omega
  have m := Int.mul_nonpos_of_nonneg_of_nonpos (Int.le_of_lt n0) (qm _ (zm_gP_m (P := P) (i := k) (by omega)))
  have le : zm_pw (zm_psq 1 (zm_gP P a) (zm_gP P b) (zm_gP P d)) (zm_gP P k) ≤ 0 := zm_np_of q0 (by omega)
  rw [zm_psq_abs] at le
  unfold rL rR
  rw [e1, e2, e3]
  generalize zm_tr3 (zm_gP P a) (zm_gP P b) (zm_gP P d) = T at *
  generalize zm_pxx (zm_gP P a) (zm_gP P b) (zm_gP P d) = U at *
  generalize zm_pyy (zm_gP P a) (zm_gP P b) (zm_gP P d) = V at *
  have le' : 2 * 1 * (((pX P k - pX P a) * (pX P k - pX P a) + (pY P k - pY P a) * (pY P k - pY P a)) * T - ((pX P k - pX P a) * U + (pY P k - pY P a) * V)) ≤ 0 := le
  have e5 : ∀ X : Int, X * (1 * 2 * T) = 2 * (X * T) := fun X => by grind
  rw [e5, Int.one_mul, Int.one_mul]
  omega
theorem zm_kk {w1 w2 w3 A1 A2 B1 B2 C1 C2 : Int} (sx : w1 * A1 + w2 * B1 + w3 * C1 = 0) (sy : w1 * A2 + w2 * B2 + w3 * C2 = 0) : w3 * ((B1 - A1) * (C2 - A2) - (B2 - A2) * (C1 - A1)) = (w1 + w2 + w3) * (A1 * B2 - A2 * B1) ∧ w3 * (A1 * C2 - A2 * C1) = -(w2 * (A1 * B2 - A2 * B1)) := by
  have x1 : w3 * (A1 * C2 - A2 * C1) = A1 * (w3 * C2) - A2 * (w3 * C1) := by grind
  have x2 : w3 * (B1 * C2 - B2 * C1) = B1 * (w3 * C2) - B2 * (w3 * C1) := by grind
  have y1 : w3 * C1 = -(w1 * A1 + w2 * B1) := by omega
  have y2 : w3 * C2 = -(w1 * A2 + w2 * B2) := by omega
  rw [y1, y2] at x1 x2
  have : w3 * ((B1 - A1) * (C2 - A2) - (B2 - A2) * (C1 - A1)) = w3 * (B1 * C2 - B2 * C1) - w3 * (A1 * C2 - A2 * C1) + w3 * (A1 * B2 - A2 * B1) := by grind
  refine ⟨?_, ?_⟩
  · rw [this, x1, x2]; grind
  · rw [x1]; grind
/-- an inscribed triangle with its middle inside is zm_acute -/
theorem zm_acute {w1 w2 w3 A1 A2 B1 B2 C1 C2 R : Int} (h1 : 0 < w1) (h2 : 0 < w2) (h3 : 0 < w3) (ra : A1 * A1 + A2 * A2 = R) (rb : B1 * B1 + B2 * B2 = R) (rc : C1 * C1 + C2 * C2 = R) (sx : w1 * A1 + w2 * B1 + w3 * C1 = 0) (sy : w1 * A2 + w2 * B2 + w3 * C2 = 0) (ht : (B1 - A1) * (C2 - A2) - (B2 - A2) * (C1 - A1) ≠ 0) : 0 < (A1 - C1) * (B1 - C1) + (A2 - C2) * (B2 - C2) := by
  have g : 2 * ((A1 * B2 - A2 * B1) * ((B1 - A1) * (C2 - A2) - (B2 - A2) * (C1 - A1))) = ((B1 - A1) * (B1 - A1) + (B2 - A2) * (B2 - A2)) * ((A1 - C1) * (B1 - C1) + (A2 - C2) * (B2 - C2)) := by grind
  have k := (zm_kk sx sy).1
  generalize (B1 - A1) * (C2 - A2) - (B2 - A2) * (C1 - A1) = T at *
  generalize A1 * B2 - A2 * B1 = G at *
  have tt : 0 < T * T := by
    have := mul_self_nn T
    have : T * T ≠ 0 := Int.mul_ne_zero ht ht
    omega
  have p1 : 0 < (w1 + w2 + w3) * (G * T) := by
    have e : (w1 + w2 + w3) * (G * T) = w3 * (T * T) := by rw [← Int.mul_assoc, ← k]; grind
    rw [e]; exact Int.mul_pos h3 tt
  have p2 := zm_pp_of (show 0 < w1 + w2 + w3 by omega) p1
  have nn : 0 ≤ (B1 - A1) * (B1 - A1) + (B2 - A2) * (B2 - A2) := by have := mul_self_nn (B1 - A1); have := mul_self_nn (B2 - A2); omega
  rcases Int.lt_or_le 0 ((A1 - C1) * (B1 - C1) + (A2 - C2) * (B2 - C2)) with q | q
  · exact q
  · have := Int.mul_nonpos_of_nonneg_of_nonpos nn q; omega
theorem zm_m_cix : Mq_cix := by
  intro P hP p0
  obtain ⟨q0, qm, a, b, z, w1, w2, w3, ce, c1, c2, c3, ca, cb, cz⟩ := zm_cls_ok hP p0
  generalize zm_hq (encA (hullF P) ((hullF P).length - 1)) = q at *
  obtain ⟨pa, pb, pz, hl, hx, hy⟩ := ce
  have za := zm_zz q a; have zb := zm_zz q b; have zc := zm_zz q z
  rw [pa] at za; rw [pb] at zb; rw [pz] at zc
  have sx : w1 * (q.1 * a.1 - q.2.1) + w2 * (q.1 * b.1 - q.2.1) + w3 * (q.1 * z.1 - q.2.1) = 0 := by grind
  have sy : w1 * (q.1 * a.2 - q.2.2.1) + w2 * (q.1 * b.2 - q.2.2.1) + w3 * (q.1 * z.2 - q.2.2.1) = 0 := by grind
  have ra : (q.1 * a.1 - q.2.1) * (q.1 * a.1 - q.2.1) + (q.1 * a.2 - q.2.2.1) * (q.1 * a.2 - q.2.2.1) = zm_rq q := by omega
  have rb : (q.1 * b.1 - q.2.1) * (q.1 * b.1 - q.2.1) + (q.1 * b.2 - q.2.2.1) * (q.1 * b.2 - q.2.2.1) = zm_rq q := by omega
  have rz : (q.1 * z.1 - q.2.1) * (q.1 * z.1 - q.2.1) + (q.1 * z.2 - q.2.2.1) * (q.1 * z.2 - q.2.2.1) = zm_rq q := by omega
  have rn : 0 ≤ zm_rq q := by
    have := mul_self_nn (q.1 * a.1 - q.2.1); have := mul_self_nn (q.1 * a.2 - q.2.2.1); omega
  by_cases r0 : zm_rq q = 0
  · have pm := zm_gP_m (P := P) (i := 0) (by omega)
    have z0 := zm_zz q (zm_gP P 0)
    have m := Int.mul_nonpos_of_nonneg_of_nonpos (Int.le_of_lt q0) (qm _ pm)
    have t1 := mul_self_nn (q.1 * (zm_gP P 0).1 - q.2.1); have t2 := mul_self_nn (q.1 * (zm_gP P 0).2 - q.2.2.1)
    have x := mul_self_0 (show (q.1 * (zm_gP P 0).1 - q.2.1) * (q.1 * (zm_gP P 0).1 - q.2.1) = 0 by omega)
    have y := mul_self_0 (show (q.1 * (zm_gP P 0).2 - q.2.2.1) * (q.1 * (zm_gP P 0).2 - q.2.2.1) = 0 by omega)
    have pz : zm_pw q (zm_gP P 0) = 0 := by
      have : q.1 * zm_pw q (zm_gP P 0) = 0 := by omega
      rcases Int.mul_eq_zero.mp this with h | h
      · omega
      · exact h
    exact zm_opp_acr q0 qm pm pm pz (by omega) (by omega)
  have R : 0 < zm_rq q := by omega
  have one : ∀ {w X Y : Int}, 0 < w → w * X = 0 → w * Y = 0 → X * X + Y * Y = zm_rq q → False := by
    intro w X Y hw e1 e2 e3
    have x : X = 0 := by rcases Int.mul_eq_zero.mp e1 with h | h; omega; exact h
    have y : Y = 0 := by rcases Int.mul_eq_zero.mp e2 with h | h; omega; exact h
    rw [x, y] at e3; omega
  have two : ∀ {u v : Pt} {w w' : Int}, 0 ≤ w → 0 ≤ w' → 0 < w + w' → (w = 0 ∨ u ∈ P) → (w' = 0 ∨ v ∈ P) → zm_pw q u = 0 → (q.1 * u.1 - q.2.1) * (q.1 * u.1 - q.2.1) + (q.1 * u.2 - q.2.2.1) * (q.1 * u.2 - q.2.2.1) = zm_rq q → (q.1 * v.1 - q.2.1) * (q.1 * v.1 - q.2.1) + (q.1 * v.2 - q.2.2.1) * (q.1 * v.2 - q.2.2.1) = zm_rq q → w * (q.1 * u.1 - q.2.1) + w' * (q.1 * v.1 - q.2.1) = 0 → w * (q.1 * u.2 - q.2.2.1) + w' * (q.1 * v.2 - q.2.2.1) = 0 → ¬ noC P := by
    intro u v w w' h1 h2 h3 m1 m2 pu ru rv ex ey
    have w0 : w ≠ 0 := fun e => by rw [e] at ex ey; exact one (w := w') (by omega) (by omega) (by omega) rv
    have w0' : w' ≠ 0 := fun e => by rw [e] at ex ey; exact one (w := w) (by omega) (by omega) (by omega) ru
    obtain ⟨o1, o2⟩ := zm_opp_vec R h1 h2 h3 ru rv ex ey
    exact zm_opp_acr q0 qm (by rcases m1 with h | h; exact absurd h w0; exact h) (by rcases m2 with h | h; exact absurd h w0'; exact h) pu o1 o2
  by_cases k3 : w3 = 0
  · rw [k3] at sx sy; exact two c1 c2 (by omega) ca cb pa ra rb (by omega) (by omega)
  by_cases k2 : w2 = 0
  · rw [k2] at sx sy; exact two c1 c3 (by omega) ca cz pa ra rz (by omega) (by omega)
  by_cases k1 : w1 = 0
  · rw [k1] at sx sy; exact two c2 c3 (by omega) cb cz pb rb rz (by omega) (by omega)
  have ma : a ∈ P := by rcases ca with h | h; exact absurd h k1; exact h
  have mb : b ∈ P := by rcases cb with h | h; exact absurd h k2; exact h
  have mz : z ∈ P := by rcases cz with h | h; exact absurd h k3; exact h
  have tn : ((q.1 * b.1 - q.2.1) - (q.1 * a.1 - q.2.1)) * ((q.1 * z.2 - q.2.2.1) - (q.1 * a.2 - q.2.2.1)) - ((q.1 * b.2 - q.2.2.1) - (q.1 * a.2 - q.2.2.1)) * ((q.1 * z.1 - q.2.1) - (q.1 * a.1 - q.2.1)) = q.1 * q.1 * zm_tr3 a b z := by unfold zm_tr3 zm_crs; grind
  by_cases t0 : zm_tr3 a b z = 0
  · rw [t0, Int.mul_zero] at tn
    have oab := fun o1 o2 => zm_opp_acr q0 qm ma mb pa o1 o2
    have oaz := fun o1 o2 => zm_opp_acr q0 qm ma mz pa o1 o2
    generalize q.1 * a.1 - q.2.1 = A1 at *; generalize q.1 * a.2 - q.2.2.1 = A2 at *
    generalize q.1 * b.1 - q.2.1 = B1 at *; generalize q.1 * b.2 - q.2.2.1 = B2 at *
    generalize q.1 * z.1 - q.2.1 = C1 at *; generalize q.1 * z.2 - q.2.2.1 = C2 at *
    obtain ⟨g0, h0⟩ := zm_kk sx sy
    rw [tn, Int.mul_zero] at g0
    have g : A1 * B2 - A2 * B1 = 0 := by rcases Int.mul_eq_zero.mp g0.symm with h | h; omega; exact h
    rw [g, Int.mul_zero] at h0
    have h : A1 * C2 - A2 * C1 = 0 := by rcases Int.mul_eq_zero.mp h0 with h | h; omega; exact h
    rcases zm_par_eq R ra rb g with ⟨e1, e2⟩ | ⟨e1, e2⟩
    · rcases zm_par_eq R ra rz h with ⟨f1, f2⟩ | ⟨f1, f2⟩
      · exfalso
        rw [← e1, ← f1] at sx; rw [← e2, ← f2] at sy
        exact one (w := w1 + w2 + w3) hl (by rw [Int.add_mul, Int.add_mul]; exact sx) (by rw [Int.add_mul, Int.add_mul]; exact sy) ra
      · exact oaz f1 f2
    · exact oab e1 e2
  · have tn0 : ((q.1 * b.1 - q.2.1) - (q.1 * a.1 - q.2.1)) * ((q.1 * z.2 - q.2.2.1) - (q.1 * a.2 - q.2.2.1)) - ((q.1 * b.2 - q.2.2.1) - (q.1 * a.2 - q.2.2.1)) * ((q.1 * z.1 - q.2.1) - (q.1 * a.1 - q.2.1)) ≠ 0 := by
      rw [tn]; exact Int.mul_ne_zero (Int.mul_ne_zero (by omega) (by omega)) t0
    have qq := Int.mul_pos q0 q0
    have Cz : 0 < (a.1 - z.1) * (b.1 - z.1) + (a.2 - z.2) * (b.2 - z.2) := by
      have := zm_acute (by omega) (by omega) (by omega) ra rb rz sx sy tn0
      refine zm_pp_of qq ?_
      have e : q.1 * q.1 * ((a.1 - z.1) * (b.1 - z.1) + (a.2 - z.2) * (b.2 - z.2)) = (q.1 * a.1 - q.2.1 - (q.1 * z.1 - q.2.1)) * (q.1 * b.1 - q.2.1 - (q.1 * z.1 - q.2.1)) + (q.1 * a.2 - q.2.2.1 - (q.1 * z.2 - q.2.2.1)) * (q.1 * b.2 - q.2.2.1 - (q.1 * z.2 - q.2.2.1)) := by grind
      rw [e]; exact this
    have Cb : 0 < (z.1 - b.1) * (a.1 - b.1) + (z.2 - b.2) * (a.2 - b.2) := by
      have := zm_acute (w1 := w3) (w2 := w1) (w3 := w2) (by omega) (by omega) (by omega) rz ra rb (by omega) (by omega) (fun e => tn0 (by rw [← e]; grind))
      refine zm_pp_of qq ?_
      have e : q.1 * q.1 * ((z.1 - b.1) * (a.1 - b.1) + (z.2 - b.2) * (a.2 - b.2)) = (q.1 * z.1 - q.2.1 - (q.1 * b.1 - q.2.1)) * (q.1 * a.1 - q.2.1 - (q.1 * b.1 - q.2.1)) + (q.1 * z.2 - q.2.2.1 - (q.1 * b.2 - q.2.2.1)) * (q.1 * a.2 - q.2.2.1 - (q.1 * b.2 - q.2.2.1)) := by grind
      rw [e]; exact this
    have Ca : 0 < (b.1 - a.1) * (z.1 - a.1) + (b.2 - a.2) * (z.2 - a.2) := by
      have := zm_acute (w1 := w2) (w2 := w3) (w3 := w1) (by omega) (by omega) (by omega) rb rz ra (by omega) (by omega) (fun e => tn0 (by rw [← e]; grind))
      refine zm_pp_of qq ?_
      have e : q.1 * q.1 * ((b.1 - a.1) * (z.1 - a.1) + (b.2 - a.2) * (z.2 - a.2)) = (q.1 * b.1 - q.2.1 - (q.1 * a.1 - q.2.1)) * (q.1 * z.1 - q.2.1 - (q.1 * a.1 - q.2.1)) + (q.1 * b.2 - q.2.2.1 - (q.1 * a.2 - q.2.2.1)) * (q.1 * z.2 - q.2.2.1 - (q.1 * a.2 - q.2.2.1)) := by grind
      rw [e]; exact this
    obtain ⟨i, hi⟩ := List.getElem?_of_mem ma
    obtain ⟨j, hj⟩ := List.getElem?_of_mem mb
    obtain ⟨k, hk⟩ := List.getElem?_of_mem mz
    have li := (List.getElem?_eq_some_iff.mp hi).1; have lj := (List.getElem?_eq_some_iff.mp hj).1; have lk := (List.getElem?_eq_some_iff.mp hk).1
    have gi := zm_gP_e hi; have gj := zm_gP_e hj; have gk := zm_gP_e hk
    have sh : ∀ i j k : Nat, shD P i j k = ((zm_gP P j).1 - (zm_gP P i).1) * ((zm_gP P k).1 - (zm_gP P i).1) + ((zm_gP P j).2 - (zm_gP P i).2) * ((zm_gP P k).2 - (zm_gP P i).2) := fun i j k => rfl
    rcases Int.lt_or_le 0 (zm_tr3 a b z) with tp | tp
    · refine zm_rnd_of q0 qm li lj lk (by rw [gi, gj, gk]; exact tp) (by rw [gi]; exact pa) (by rw [gj]; exact pb) (by rw [gk]; exact pz) ?_ ?_ ?_
      · rw [sh, gi, gj, gk]; exact Ca
      · rw [sh, gi, gj, gk]
        have e : (a.1 - b.1) * (z.1 - b.1) + (a.2 - b.2) * (z.2 - b.2) = (z.1 - b.1) * (a.1 - b.1) + (z.2 - b.2) * (a.2 - b.2) := by grind
        rw [e]; exact Cb
      · rw [sh, gi, gj, gk]; exact Cz
    · have e9 : zm_tr3 a z b = -zm_tr3 a b z := by unfold zm_tr3 zm_crs; grind
      refine zm_rnd_of q0 qm li lk lj (by rw [gi, gj, gk]; omega) (by rw [gi]; exact pa) (by rw [gk]; exact pz) (by rw [gj]; exact pb) ?_ ?_ ?_
      · rw [sh, gi, gj, gk]
        have e : (z.1 - a.1) * (b.1 - a.1) + (z.2 - a.2) * (b.2 - a.2) = (b.1 - a.1) * (z.1 - a.1) + (b.2 - a.2) * (z.2 - a.2) := by grind
        rw [e]; exact Ca
      · rw [sh, gi, gj, gk]; exact Cz
      · rw [sh, gi, gj, gk]
        have e : (a.1 - b.1) * (z.1 - b.1) + (a.2 - b.2) * (z.2 - b.2) = (z.1 - b.1) * (a.1 - b.1) + (z.2 - b.2) * (a.2 - b.2) := by grind
        rw [e]; exact Cb
