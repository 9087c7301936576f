/-! MATHEMATICS 13: the class's least circle -/
theorem zm_ne_sq {a b : Pt} (h : a ≠ b) : 0 < (b.1 - a.1) * (b.1 - a.1) + (b.2 - a.2) * (b.2 - a.2) := by
  have h1 := mul_self_nn (b.1 - a.1); have h2 := mul_self_nn (b.2 - a.2)
  by_cases e : (b.1 - a.1) * (b.1 - a.1) + (b.2 - a.2) * (b.2 - a.2) = 0
  · have x := mul_self_0 (show (b.1 - a.1) * (b.1 - a.1) = 0 by omega)
    have y := mul_self_0 (show (b.2 - a.2) * (b.2 - a.2) = 0 by omega)
    exact absurd (Prod.ext (by omega) (by omega)) h
  · omega
def zm_atB (P : List Pt) (a b : Pt) (k : Nat) (q : zm_Q4) : Prop := 0 < q.1 ∧ zm_pw q a = 0 ∧ zm_pw q b = 0 ∧ (∀ m, m < k → zm_pw q (zm_gP P m) ≤ 0) ∧ ∃ z w1 w2 w3, zm_cert q a b z w1 w2 w3 ∧ 0 ≤ w3 ∧ zm_pw q z = 0 ∧ (w3 = 0 ∨ ∃ m, m < k ∧ z = zm_gP P m)
theorem zm_encB_ok {P : List Pt} {i j : Nat} (hab : zm_gP P i ≠ zm_gP P j) {f : zm_Q4} (f0 : 0 < f.1) (fa : zm_pw f (zm_gP P i) = 0) (fb : zm_pw f (zm_gP P j) = 0) (J : Nat) (fm : ∀ m, m < J → zm_pw f (zm_gP P m) ≤ 0) : ∀ k, k ≤ J → zm_atB P (zm_gP P i) (zm_gP P j) k (zm_hq (encB P i j k)) := by
  intro k
  induction k with
  | zero =>
    intro _
    have p := zm_span_pw P i j
    have pa : zm_pw (zm_hq (cSpan P i j)) (zm_gP P i) = 0 := by rw [p]; grind
    have pb : zm_pw (zm_hq (cSpan P i j)) (zm_gP P j) = 0 := by rw [p]; grind
    refine ⟨by show (0 : Int) < 2; omega, pa, pb, fun m hm => by omega, zm_gP P i, 1, 1, 0, ⟨pa, pb, pa, by omega, ?_, ?_⟩, by omega, pa, Or.inl rfl⟩
    · show (2 : Int) * (1 * (zm_gP P i).1 + 1 * (zm_gP P j).1 + 0 * (zm_gP P i).1) = (1 + 1 + 0) * (2 * (zm_gP P i).1 + ((zm_gP P j).1 - (zm_gP P i).1)); omega
    · show (2 : Int) * (1 * (zm_gP P i).2 + 1 * (zm_gP P j).2 + 0 * (zm_gP P i).2) = (1 + 1 + 0) * (2 * (zm_gP P i).2 + ((zm_gP P j).2 - (zm_gP P i).2)); omega
  | succ k ih =>
    intro hk
    obtain ⟨q0, qa, qb, qm, z, w1, w2, w3, ce, c3, qz, cz⟩ := ih (by omega)
    unfold encB
    by_cases h : cHas5 (encB P i j k) P k
    · rw [cIf_t h]
      rw [zm_has_pw] at h
      refine ⟨q0, qa, qb, fun m hm => ?_, z, w1, w2, w3, ce, c3, qz, ?_⟩
      · by_cases e : m = k
        · rw [e]; exact h
        · exact qm m (by omega)
      · rcases cz with c | ⟨m, hm, c⟩
        · exact Or.inl c
        · exact Or.inr ⟨m, by omega, c⟩
    · rw [cIf_f h]
      rw [zm_has_pw] at h
      rw [zm_pass_eq, zm_twi_tr]
      generalize zm_hq (encB P i j k) = q at *
      have fk := fm k (by omega)
      have ht : zm_tr3 (zm_gP P i) (zm_gP P j) (zm_gP P k) ≠ 0 := by
        intro t0
        have := zm_line_u (zm_ne_sq hab) t0 qa qb fa fb
        have m1 := Int.mul_pos f0 (show 0 < zm_pw q (zm_gP P k) by omega)
        have m2 := Int.mul_nonpos_of_nonneg_of_nonpos (Int.le_of_lt q0) fk
        omega
      obtain ⟨r1, r2, r3⟩ := zm_psq_0 (sgn (zm_tr3 (zm_gP P i) (zm_gP P j) (zm_gP P k))) (zm_gP P i) (zm_gP P j) (zm_gP P k)
      have rc := zm_psq_cert (s := sgn (zm_tr3 (zm_gP P i) (zm_gP P j) (zm_gP P k))) (zm_gP P i) (zm_gP P j) (zm_gP P k) ht
      have r0 : 0 < (zm_psq (sgn (zm_tr3 (zm_gP P i) (zm_gP P j) (zm_gP P k))) (zm_gP P i) (zm_gP P j) (zm_gP P k)).1 := zm_sgn_pos ht
      generalize zm_psq (sgn (zm_tr3 (zm_gP P i) (zm_gP P j) (zm_gP P k))) (zm_gP P i) (zm_gP P j) (zm_gP P k) = r at *
      -- between the old one and a feasible one
      have sa := zm_pw_lc (-zm_pw f (zm_gP P k)) (zm_pw q (zm_gP P k)) q f
      have s0 : 0 < (zm_lcq (-zm_pw f (zm_gP P k)) (zm_pw q (zm_gP P k)) q f).1 := by
        have m1 := Int.mul_nonneg (show 0 ≤ -zm_pw f (zm_gP P k) by omega) (Int.le_of_lt q0)
        have m2 := Int.mul_pos (show 0 < zm_pw q (zm_gP P k) by omega) f0
        show 0 < -zm_pw f (zm_gP P k) * q.1 + zm_pw q (zm_gP P k) * f.1
        omega
      generalize zm_lcq (-zm_pw f (zm_gP P k)) (zm_pw q (zm_gP P k)) q f = s at *
      have u := fun y => zm_tri_u (q := r) (r := s) ht r1 r2 r3 (by rw [sa, qa, fa]; omega) (by rw [sa, qb, fb]; omega) (by rw [sa, Int.mul_comm (zm_pw q (zm_gP P k)), Int.neg_mul]; omega) y
      have rm : ∀ m, m < k → zm_pw r (zm_gP P m) ≤ 0 := by
        intro m hm
        have e := u (zm_gP P m)
        have le : zm_pw s (zm_gP P m) ≤ 0 := by
          rw [sa]
          have m1 := Int.mul_nonpos_of_nonneg_of_nonpos (show 0 ≤ -zm_pw f (zm_gP P k) by omega) (qm m hm)
          have m2 := Int.mul_nonpos_of_nonneg_of_nonpos (show 0 ≤ zm_pw q (zm_gP P k) by omega) (fm m (by omega))
          omega
        have := Int.mul_nonpos_of_nonneg_of_nonpos (Int.le_of_lt r0) le
        exact zm_np_of s0 (by omega)
      have w3' : 0 ≤ zm_wv (zm_gP P i) (zm_gP P j) (zm_gP P k) := by
        have le : w1 * zm_pw r (zm_gP P i) + w2 * zm_pw r (zm_gP P j) + w3 * zm_pw r z ≤ 0 := by
          rw [r1, r2]
          rcases cz with c | ⟨m, hm, c⟩
          · rw [c]; omega
          · rw [c]; have := Int.mul_nonpos_of_nonneg_of_nonpos c3 (rm m hm); omega
        have := zm_step_pos q0 r0 ce rc le
        rw [qa, qb] at this
        rw [Int.mul_comm (zm_wv (zm_gP P i) (zm_gP P j) (zm_gP P k))] at this
        exact zm_nn_of (c := zm_pw q (zm_gP P k)) (by omega) (by omega)
      refine ⟨r0, r1, r2, fun m hm => ?_, zm_gP P k, _, _, _, rc, w3', r3, Or.inr ⟨k, by omega, rfl⟩⟩
      by_cases e : m = k
      · rw [e, r3]; omega
      · exact rm m (by omega)
def zm_inS (P : List Pt) (k : Nat) (w : Int) (z : Pt) : Prop := w = 0 ∨ ∃ m, m < k ∧ z = zm_gP P m
def zm_atT (P : List Pt) (a : Pt) (k : Nat) (q : zm_Q4) : Prop := 0 < q.1 ∧ zm_pw q a = 0 ∧ (∀ m, m < k → zm_pw q (zm_gP P m) ≤ 0) ∧ ∃ b z w1 w2 w3, zm_cert q a b z w1 w2 w3 ∧ 0 ≤ w2 ∧ 0 ≤ w3 ∧ zm_inS P k w2 b ∧ zm_inS P k w3 z
theorem zm_inS_le {P : List Pt} {k : Nat} {w : Int} {z : Pt} {r : zm_Q4} (h : zm_inS P k w z) (hw : 0 ≤ w) (hr : ∀ m, m < k → zm_pw r (zm_gP P m) ≤ 0) : w * zm_pw r z ≤ 0 := by
  rcases h with c | ⟨m, hm, c⟩
  · rw [c]; omega
  · rw [c]; exact Int.mul_nonpos_of_nonneg_of_nonpos hw (hr m hm)
theorem zm_inS_s {P : List Pt} {k k' : Nat} {w : Int} {z : Pt} (h : zm_inS P k w z) (hk : k ≤ k') : zm_inS P k' w z := by
  rcases h with c | ⟨m, hm, c⟩
  · exact Or.inl c
  · exact Or.inr ⟨m, by omega, c⟩
theorem zm_encT_ok {P : List Pt} {i : Nat} {f : zm_Q4} (f0 : 0 < f.1) (fa : zm_pw f (zm_gP P i) = 0) (J : Nat) (fm : ∀ m, m < J → zm_pw f (zm_gP P m) ≤ 0) : ∀ k, k ≤ J → zm_atT P (zm_gP P i) k (zm_hq (encT P i k)) := by
  intro k
  induction k with
  | zero =>
    intro _
    have pa : zm_pw (zm_hq (cShr P i)) (zm_gP P i) = 0 := by rw [zm_shr_pw]; show ((pX P i) - pX P i) * ((pX P i) - pX P i) + ((pY P i) - pY P i) * ((pY P i) - pY P i) = 0; rw [Int.sub_self, Int.sub_self]; rfl
    refine ⟨by show (0 : Int) < 1; omega, pa, fun m hm => by omega, zm_gP P i, zm_gP P i, 1, 0, 0, ⟨pa, pa, pa, by omega, ?_, ?_⟩, by omega, by omega, Or.inl rfl, Or.inl rfl⟩
    · show (1 : Int) * (1 * (zm_gP P i).1 + 0 * (zm_gP P i).1 + 0 * (zm_gP P i).1) = (1 + 0 + 0) * (1 * (zm_gP P i).1 + 0); omega
    · show (1 : Int) * (1 * (zm_gP P i).2 + 0 * (zm_gP P i).2 + 0 * (zm_gP P i).2) = (1 + 0 + 0) * (1 * (zm_gP P i).2 + 0); omega
  | succ k ih =>
    intro hk
    obtain ⟨q0, qa, qm, b, z, w1, w2, w3, ce, c2, c3, cb, cz⟩ := ih (by omega)
    unfold encT
    by_cases h : cHas5 (encT P i k) P k
    · rw [cIf_t h]
      rw [zm_has_pw] at h
      refine ⟨q0, qa, fun m hm => ?_, b, z, w1, w2, w3, ce, c2, c3, zm_inS_s cb (by omega), zm_inS_s cz (by omega)⟩
      by_cases e : m = k
      · rw [e]; exact h
      · exact qm m (by omega)
    · rw [cIf_f h]
      rw [zm_has_pw] at h
      generalize zm_hq (encT P i k) = q at *
      have fk := fm k (by omega)
      have hab : zm_gP P i ≠ zm_gP P k := fun e => by rw [← e, qa] at h; omega
      have sa := zm_pw_lc (-zm_pw f (zm_gP P k)) (zm_pw q (zm_gP P k)) q f
      have s0 : 0 < (zm_lcq (-zm_pw f (zm_gP P k)) (zm_pw q (zm_gP P k)) q f).1 := by
        have m1 := Int.mul_nonneg (show 0 ≤ -zm_pw f (zm_gP P k) by omega) (Int.le_of_lt q0)
        have m2 := Int.mul_pos (show 0 < zm_pw q (zm_gP P k) by omega) f0
        show 0 < -zm_pw f (zm_gP P k) * q.1 + zm_pw q (zm_gP P k) * f.1
        omega
      generalize zm_lcq (-zm_pw f (zm_gP P k)) (zm_pw q (zm_gP P k)) q f = s at *
      obtain ⟨r0, r1, r2, rm, z', v1, v2, v3, rc, v3p, rz, vz⟩ := zm_encB_ok hab s0 (by rw [sa, qa, fa]; omega) (by rw [sa, Int.mul_comm (zm_pw q (zm_gP P k)), Int.neg_mul]; omega) k (fun m hm => by
        rw [sa]
        have m1 := Int.mul_nonpos_of_nonneg_of_nonpos (show 0 ≤ -zm_pw f (zm_gP P k) by omega) (qm m hm)
        have m2 := Int.mul_nonpos_of_nonneg_of_nonpos (show 0 ≤ zm_pw q (zm_gP P k) by omega) (fm m (by omega))
        omega) k (Nat.le_refl _)
      generalize zm_hq (encB P i k k) = r at *
      have v2p : 0 ≤ v2 := by
        have l1 := zm_inS_le cb c2 rm; have l2 := zm_inS_le cz c3 rm
        have := zm_step_pos q0 r0 ce rc (by rw [r1]; omega)
        have l3 := zm_inS_le vz v3p qm
        rw [qa, Int.mul_comm v2] at this
        exact zm_nn_of (c := zm_pw q (zm_gP P k)) (by omega) (by omega)
      refine ⟨r0, r1, fun m hm => ?_, zm_gP P k, z', v1, v2, v3, rc, v2p, v3p, Or.inr ⟨k, by omega, rfl⟩, zm_inS_s vz (by omega)⟩
      by_cases e : m = k
      · rw [e, r2]; omega
      · exact rm m (by omega)
def zm_atA (P : List Pt) (k : Nat) (q : zm_Q4) : Prop := 0 < q.1 ∧ (∀ m, m < k → zm_pw q (zm_gP P m) ≤ 0) ∧ ∃ a b z w1 w2 w3, zm_cert q a b z w1 w2 w3 ∧ 0 ≤ w1 ∧ 0 ≤ w2 ∧ 0 ≤ w3 ∧ zm_inS P k w1 a ∧ zm_inS P k w2 b ∧ zm_inS P k w3 z
theorem zm_encA_ok {P : List Pt} (hP : ∀ m, m < P.length → bq 300 (zm_gP P m)) : ∀ k, k < P.length → zm_atA P (k + 1) (zm_hq (encA P k)) := by
  intro k
  induction k with
  | zero =>
    intro _
    have pa : zm_pw (zm_hq (cShr P 0)) (zm_gP P 0) = 0 := by rw [zm_shr_pw]; show ((pX P 0) - pX P 0) * ((pX P 0) - pX P 0) + ((pY P 0) - pY P 0) * ((pY P 0) - pY P 0) = 0; rw [Int.sub_self, Int.sub_self]; rfl
    refine ⟨by show (0 : Int) < 1; omega, fun m hm => ?_, zm_gP P 0, zm_gP P 0, zm_gP P 0, 1, 0, 0, ⟨pa, pa, pa, by omega, ?_, ?_⟩, by omega, by omega, by omega, Or.inr ⟨0, by omega, rfl⟩, Or.inl rfl, Or.inl rfl⟩
    · rw [show m = 0 by omega]; show zm_pw (zm_hq (cShr P 0)) (zm_gP P 0) ≤ 0; omega
    · show (1 : Int) * (1 * (zm_gP P 0).1 + 0 * (zm_gP P 0).1 + 0 * (zm_gP P 0).1) = (1 + 0 + 0) * (1 * (zm_gP P 0).1 + 0); omega
    · show (1 : Int) * (1 * (zm_gP P 0).2 + 0 * (zm_gP P 0).2 + 0 * (zm_gP P 0).2) = (1 + 0 + 0) * (1 * (zm_gP P 0).2 + 0); omega
  | succ k ih =>
    intro hk
    obtain ⟨q0, qm, a, b, z, w1, w2, w3, ce, c1, c2, c3, ca, cb, cz⟩ := ih (by omega)
    unfold encA
    have hsame : cHas5 (encA P k) P ((k : Int) + 1) ↔ zm_pw (zm_hq (encA P k)) (zm_gP P (k + 1)) ≤ 0 := zm_has_pw (encA P k) P (k + 1)
    by_cases h : cHas5 (encA P k) P ((k : Int) + 1)
    · rw [cIf_t h]
      rw [hsame] at h
      refine ⟨q0, fun m hm => ?_, a, b, z, w1, w2, w3, ce, c1, c2, c3, zm_inS_s ca (by omega), zm_inS_s cb (by omega), zm_inS_s cz (by omega)⟩
      by_cases e : m = k + 1
      · rw [e]; exact h
      · exact qm m (by omega)
    · rw [cIf_f h]
      rw [hsame] at h
      generalize zm_hq (encA P k) = q at *
      have big : ∀ m, m < P.length → zm_pw (1, 0, 0, -180000) (zm_gP P m) ≤ 0 := by
        intro m hm
        have hb := hP m hm
        have q1 := mbc (a := (zm_gP P m).1) (b := (zm_gP P m).1) 300 300 90000 (by unfold bq at hb; omega) (by unfold bq at hb; omega) (by unfold bq at hb; omega) (by unfold bq at hb; omega) (by decide)
        have q2 := mbc (a := (zm_gP P m).2) (b := (zm_gP P m).2) 300 300 90000 (by unfold bq at hb; omega) (by unfold bq at hb; omega) (by unfold bq at hb; omega) (by unfold bq at hb; omega) (by decide)
        unfold zm_pw; dsimp only; omega
      generalize hf : ((1, 0, 0, -180000) : zm_Q4) = f at *
      have f0 : 0 < f.1 := by rw [← hf]; show (0 : Int) < 1; omega
      have fk := big (k + 1) hk
      have sa := zm_pw_lc (-zm_pw f (zm_gP P (k + 1))) (zm_pw q (zm_gP P (k + 1))) q f
      have s0 : 0 < (zm_lcq (-zm_pw f (zm_gP P (k + 1))) (zm_pw q (zm_gP P (k + 1))) q f).1 := by
        have m1 := Int.mul_nonneg (show 0 ≤ -zm_pw f (zm_gP P (k + 1)) by omega) (Int.le_of_lt q0)
        have m2 := Int.mul_pos (show 0 < zm_pw q (zm_gP P (k + 1)) by omega) f0
        show 0 < -zm_pw f (zm_gP P (k + 1)) * q.1 + zm_pw q (zm_gP P (k + 1)) * f.1
        omega
      generalize zm_lcq (-zm_pw f (zm_gP P (k + 1))) (zm_pw q (zm_gP P (k + 1))) q f = s at *
      obtain ⟨r0, r1, rm, b', z', v1, v2, v3, rc, v2p, v3p, vb, vz⟩ := zm_encT_ok (P := P) (i := k + 1) s0 (by rw [sa, Int.mul_comm (zm_pw q (zm_gP P (k + 1))), Int.neg_mul]; omega) (k + 1) (fun m hm => by
        rw [sa]
        have m1 := Int.mul_nonpos_of_nonneg_of_nonpos (show 0 ≤ -zm_pw f (zm_gP P (k + 1)) by omega) (qm m hm)
        have m2 := Int.mul_nonpos_of_nonneg_of_nonpos (show 0 ≤ zm_pw q (zm_gP P (k + 1)) by omega) (big m (by omega))
        omega) (k + 1) (Nat.le_refl _)
      have ee : encT P ((k : Int) + 1) (k + 1) = encT P ((k + 1 : Nat) : Int) (k + 1) := rfl
      rw [ee]
      generalize zm_hq (encT P ((k + 1 : Nat) : Int) (k + 1)) = r at *
      have v1p : 0 ≤ v1 := by
        have l0 := zm_inS_le ca c1 rm; have l1 := zm_inS_le cb c2 rm; have l2 := zm_inS_le cz c3 rm
        have := zm_step_pos q0 r0 ce rc (by omega)
        have l3 := zm_inS_le vz v3p qm; have l4 := zm_inS_le vb v2p qm
        rw [Int.mul_comm v1] at this
        exact zm_nn_of (c := zm_pw q (zm_gP P (k + 1))) (by omega) (by omega)
      refine ⟨r0, fun m hm => ?_, zm_gP P (k + 1), b', z', v1, v2, v3, rc, v1p, v2p, v3p, Or.inr ⟨k + 1, by omega, rfl⟩, zm_inS_s vb (by omega), zm_inS_s vz (by omega)⟩
      by_cases e : m = k + 1
      · rw [e, r1]; omega
      · exact rm m (by omega)
/-- a disk with the corners has all -/
theorem zm_disk_all {W : Pt → Prop} {H : List Pt} {t n : Nat} (h : zm_CH W H t n) {q : zm_Q4} (q0 : 0 < q.1) (hc : ∀ m, m < H.length → zm_pw q (zm_gP H m) ≤ 0) {r : Pt} (hr : W r) : zm_pw q r ≤ 0 := by
  rcases Int.lt_or_le 0 (zm_pw q r) with g | g
  · exfalso
    have nz : ∀ z : Pt, q.1 * zm_pw q z = (q.1 * z.1 - q.2.1) * (q.1 * z.1 - q.2.1) + (q.1 * z.2 - q.2.2.1) * (q.1 * z.2 - q.2.2.1) - zm_rq q := fun z => by unfold zm_pw zm_rq; grind
    -- the way from the middle to r
    by_cases w0 : -(q.1 * r.2 - q.2.2.1) = 0 ∧ q.1 * r.1 - q.2.1 = 0
    · -- r is the middle
      have e := nz r
      have rn : 0 ≤ zm_rq q := by
        have := nz (zm_gP H 0)
        have m := Int.mul_nonpos_of_nonneg_of_nonpos (Int.le_of_lt q0) (hc 0 h.2.1)
        have s1 := mul_self_nn (q.1 * (zm_gP H 0).1 - q.2.1); have s2 := mul_self_nn (q.1 * (zm_gP H 0).2 - q.2.2.1)
        omega
      rw [w0.2, show q.1 * r.2 - q.2.2.1 = 0 by omega] at e
      have := Int.mul_pos q0 g
      omega
    · obtain ⟨i, hi, hs⟩ := zm_CH_sup h w0
      have hs := hs r hr
      have p1 := nz r; have p2 := nz (zm_gP H i)
      have m := Int.mul_nonpos_of_nonneg_of_nonpos (Int.le_of_lt q0) (hc i hi)
      have mg := Int.mul_pos q0 g
      generalize (zm_gP H i).1 = x at *
      generalize (zm_gP H i).2 = y at *
      unfold zm_crs at hs
      have e : (q.1 * x - q.2.1) * (q.1 * x - q.2.1) + (q.1 * y - q.2.2.1) * (q.1 * y - q.2.2.1) = (q.1 * r.1 - q.2.1) * (q.1 * r.1 - q.2.1) + (q.1 * r.2 - q.2.2.1) * (q.1 * r.2 - q.2.2.1) + 2 * q.1 * ((q.1 * r.1 - q.2.1) * (x - r.1) + (q.1 * r.2 - q.2.2.1) * (y - r.2)) + (q.1 * (x - r.1)) * (q.1 * (x - r.1)) + (q.1 * (y - r.2)) * (q.1 * (y - r.2)) := by grind
      have e2 : -(q.1 * r.2 - q.2.2.1) * (r.2 - y) - (q.1 * r.1 - q.2.1) * (r.1 - x) = (q.1 * r.1 - q.2.1) * (x - r.1) + (q.1 * r.2 - q.2.2.1) * (y - r.2) := by grind
      rw [e2] at hs
      have m3 := Int.mul_nonneg (show 0 ≤ 2 * q.1 by omega) hs
      have s1 := mul_self_nn (q.1 * (x - r.1)); have s2 := mul_self_nn (q.1 * (y - r.2))
      omega
  · exact g
theorem zm_cirN_q (c : C5) : cirN c 0 = (zm_hq c).2.1 ∧ cirN c 1 = (zm_hq c).2.2.1 ∧ cirN c 2 = zm_rq (zm_hq c) ∧ cirD c 0 = (zm_hq c).1 ∧ cirD c 1 = (zm_hq c).1 ∧ cirD c 2 = (zm_hq c).1 * (zm_hq c).1 := by
  refine ⟨?_, ?_, ?_, rfl, rfl, rfl⟩
  · show c.1 * c.2.2.2.2 + c.2.2.1 = c.2.2.2.2 * c.1 + c.2.2.1; rw [Int.mul_comm]
  · show c.2.1 * c.2.2.2.2 + c.2.2.2.1 = c.2.2.2.2 * c.2.1 + c.2.2.2.1; rw [Int.mul_comm]
  · show c.2.2.1 * c.2.2.1 + c.2.2.2.1 * c.2.2.2.1 = zm_rq (zm_hq c)
    unfold zm_rq zm_hq; dsimp only; grind
/-- the class's circle of a set's hull is the set's least one -/
theorem zm_cls_ok {P : List Pt} (hP : gset P) (p0 : P.length ≠ 0) : 0 < (zm_hq (encA (hullF P) ((hullF P).length - 1))).1 ∧ (∀ r ∈ P, zm_pw (zm_hq (encA (hullF P) ((hullF P).length - 1))) r ≤ 0) ∧ ∃ a b z w1 w2 w3, zm_cert (zm_hq (encA (hullF P) ((hullF P).length - 1))) a b z w1 w2 w3 ∧ 0 ≤ w1 ∧ 0 ≤ w2 ∧ 0 ≤ w3 ∧ (w1 = 0 ∨ a ∈ P) ∧ (w2 = 0 ∨ b ∈ P) ∧ (w3 = 0 ∨ z ∈ P) := by
  obtain ⟨t, n, h⟩ := zm_hull_CH hP.2.2 (zm_ne_nil p0)
  have h1 := h.2.1
  have sub : ∀ m, m < (hullF P).length → zm_gP (hullF P) m ∈ P := fun m hm => zm_gP_W h hm
  have ok := zm_encA_ok (P := hullF P) (fun m hm => hP.2.1 _ (sub m hm)) ((hullF P).length - 1) (by omega)
  rw [show (hullF P).length - 1 + 1 = (hullF P).length by omega] at ok
  generalize zm_hq (encA (hullF P) ((hullF P).length - 1)) = q at *
  obtain ⟨q0, qm, a, b, z, w1, w2, w3, ce, c1, c2, c3, ca, cb, cz⟩ := ok
  have tr : ∀ {w : Int} {y : Pt}, zm_inS (hullF P) (hullF P).length w y → w = 0 ∨ y ∈ P := fun hh => by
    rcases hh with e | ⟨m, hm, e⟩
    · exact Or.inl e
    · exact Or.inr (e ▸ sub m hm)
  exact ⟨q0, fun r hr => zm_disk_all h q0 qm hr, a, b, z, w1, w2, w3, ce, c1, c2, c3, tr ca, tr cb, tr cz⟩
theorem zm_w_le {w : Int} {y : Pt} {P : List Pt} {r : zm_Q4} (hw : 0 ≤ w) (h : w = 0 ∨ y ∈ P) (hr : ∀ x ∈ P, zm_pw r x ≤ 0) : w * zm_pw r y ≤ 0 := by
  rcases h with e | e
  · rw [e]; omega
  · exact Int.mul_nonpos_of_nonneg_of_nonpos hw (hr y e)
theorem zm_same_all {P : List Pt} {q r : zm_Q4} {a b z a' b' z' : Pt} {w1 w2 w3 v1 v2 v3 : Int} (q0 : 0 < q.1) (r0 : 0 < r.1) (qm : ∀ x ∈ P, zm_pw q x ≤ 0) (rm : ∀ x ∈ P, zm_pw r x ≤ 0) (ce : zm_cert q a b z w1 w2 w3) (c1 : 0 ≤ w1) (c2 : 0 ≤ w2) (c3 : 0 ≤ w3) (ca : w1 = 0 ∨ a ∈ P) (cb : w2 = 0 ∨ b ∈ P) (cz : w3 = 0 ∨ z ∈ P) (de : zm_cert r a' b' z' v1 v2 v3) (d1 : 0 ≤ v1) (d2 : 0 ≤ v2) (d3 : 0 ≤ v3) (da : v1 = 0 ∨ a' ∈ P) (db : v2 = 0 ∨ b' ∈ P) (dz : v3 = 0 ∨ z' ∈ P) : r.1 * q.2.1 = q.1 * r.2.1 ∧ r.1 * q.2.2.1 = q.1 * r.2.2.1 ∧ zm_rq q * (r.1 * r.1) = zm_rq r * (q.1 * q.1) := by
  have l1 := zm_w_le c1 ca rm; have l2 := zm_w_le c2 cb rm; have l3 := zm_w_le c3 cz rm
  have k1 := zm_w_le d1 da qm; have k2 := zm_w_le d2 db qm; have k3 := zm_w_le d3 dz qm
  exact zm_same_q q0 r0 (zm_gg_le ce (by omega)) (zm_gg_le de (by omega))
theorem zm_all_gP {P : List Pt} {Q : Pt → Prop} (h : ∀ k, k < P.length → Q (zm_gP P k)) : ∀ x ∈ P, Q x := by
  intro x hx
  obtain ⟨k, hk⟩ := List.getElem?_of_mem hx
  have := h k (List.getElem?_eq_some_iff.mp hk).1
  rw [zm_gP_e hk] at this; exact this
theorem zm_rU_e (P : List Pt) (a b d : Nat) : rBy P a b d = 1 * 2 * zm_tr3 (zm_gP P a) (zm_gP P b) (zm_gP P d) ∧ rUx P a b d = 1 * zm_pxx (zm_gP P a) (zm_gP P b) (zm_gP P d) ∧ rUy P a b d = 1 * zm_pyy (zm_gP P a) (zm_gP P b) (zm_gP P d) := by
  unfold rBy rUx rUy zm_pxx zm_pyy sq zm_gP zm_tr3 zm_crs pT; dsimp only
  refine ⟨?_, ?_, ?_⟩ <;> grind
theorem zm_m_cir : Mq_cir := by
  intro P x y n t s wh hP hc w0 w2
  have p0 : P.length ≠ 0 := by
    rcases hc with ⟨a, b, h1, h2, h3, _⟩ | ⟨a, b, d, h1, _⟩ <;> omega
  obtain ⟨q0, qm, a, b, z, w1, w2', w3, ce, c1, c2, c3, ca, cb, cz⟩ := zm_cls_ok hP p0
  have cq := zm_cirN_q (encA (hullF P) ((hullF P).length - 1))
  generalize encA (hullF P) ((hullF P).length - 1) = c at *
  generalize zm_hq c = q at *
  have main : ∃ r : zm_Q4, 0 < r.1 ∧ (∀ x ∈ P, zm_pw r x ≤ 0) ∧ x = r.2.1 ∧ y = r.2.2.1 ∧ n = r.1 ∧ t = zm_rq r ∧ s = r.1 * r.1 ∧ ∃ a' b' z' v1 v2 v3, zm_cert r a' b' z' v1 v2 v3 ∧ 0 ≤ v1 ∧ 0 ≤ v2 ∧ 0 ≤ v3 ∧ (v1 = 0 ∨ a' ∈ P) ∧ (v2 = 0 ∨ b' ∈ P) ∧ (v3 = 0 ∨ z' ∈ P) := by
    rcases hc with ⟨a, b, h1, h2, h3, h4, rfl, rfl, rfl, rfl, rfl⟩ | ⟨a, b, d, h1, h2, h3, h4, rfl, rfl, rfl, rfl, rfl⟩
    · obtain ⟨b, rfl⟩ := Int.eq_ofNat_of_zero_le h1
      obtain ⟨a, rfl⟩ := Int.eq_ofNat_of_zero_le (show 0 ≤ a by omega)
      have p := zm_span_pw P a b
      have pa : zm_pw (zm_hq (cSpan P a b)) (zm_gP P a) = 0 := by rw [p]; grind
      have pb : zm_pw (zm_hq (cSpan P a b)) (zm_gP P b) = 0 := by rw [p]; grind
      refine ⟨zm_hq (cSpan P a b), by show (0 : Int) < 2; omega, zm_all_gP (fun k hk => ?_), ?_, ?_, rfl, ?_, rfl, zm_gP P a, zm_gP P b, zm_gP P a, 1, 1, 0, ⟨pa, pb, pa, by omega, ?_, ?_⟩, by omega, by omega, by omega, Or.inr (zm_gP_m (by omega)), Or.inr (zm_gP_m (by omega)), Or.inl rfl⟩
      · rw [p]
        have := h4 k (by omega) (by omega)
        unfold acD at this; unfold zm_gP; dsimp only; omega
      · show _ = 2 * pX P a + (pX P b - pX P a); omega
      · show _ = 2 * pY P a + (pY P b - pY P a); omega
      · unfold zm_rq zm_hq cSpan sq; dsimp only; grind
      · show (2 : Int) * (1 * (zm_gP P a).1 + 1 * (zm_gP P b).1 + 0 * (zm_gP P a).1) = (1 + 1 + 0) * (2 * (zm_gP P a).1 + ((zm_gP P b).1 - (zm_gP P a).1)); omega
      · show (2 : Int) * (1 * (zm_gP P a).2 + 1 * (zm_gP P b).2 + 0 * (zm_gP P a).2) = (1 + 1 + 0) * (2 * (zm_gP P a).2 + ((zm_gP P b).2 - (zm_gP P a).2)); omega
    · obtain ⟨a, rfl⟩ := Int.eq_ofNat_of_zero_le h1.1
      obtain ⟨b, rfl⟩ := Int.eq_ofNat_of_zero_le h2.1
      obtain ⟨d, rfl⟩ := Int.eq_ofNat_of_zero_le h3.1
      obtain ⟨e1, e2, e3⟩ := zm_rU_e P a b d
      obtain ⟨k1, k2, k3, k4, k5⟩ := h4
      have ht : 0 < zm_tr3 (zm_gP P a) (zm_gP P b) (zm_gP P d) := by omega
      have pc := zm_psq_cert (s := 1) (zm_gP P a) (zm_gP P b) (zm_gP P d) (by omega)
      have sh : ∀ i j k : Nat, 0 < shD P i j k → 0 ≤ zm_wv (zm_gP P j) (zm_gP P k) (zm_gP P i) := fun i j k h => by
        unfold zm_wv
        refine Int.mul_nonneg ?_ ?_
        · have := mul_self_nn ((zm_gP P j).1 - (zm_gP P k).1); have := mul_self_nn ((zm_gP P j).2 - (zm_gP P k).2); omega
        · unfold shD at h
          have : ((zm_gP P i).1 - (zm_gP P j).1) * ((zm_gP P i).1 - (zm_gP P k).1) + ((zm_gP P i).2 - (zm_gP P j).2) * ((zm_gP P i).2 - (zm_gP P k).2) = (pX P j - pX P i) * (pX P k - pX P i) + (pY P j - pY P i) * (pY P k - pY P i) := by unfold zm_gP; dsimp only; grind
          omega
      have wsym : ∀ u v w : Pt, zm_wv u v w = zm_wv v u w := fun u v w => by unfold zm_wv; grind
      refine ⟨zm_psq 1 (zm_gP P a) (zm_gP P b) (zm_gP P d), by show (0 : Int) < 1 * 2 * zm_tr3 (zm_gP P a) (zm_gP P b) (zm_gP P d); omega, zm_all_gP (fun k hk => ?_), ?_, ?_, ?_, ?_, ?_, zm_gP P a, zm_gP P b, zm_gP P d, _, _, _, pc, sh a b d k2, ?_, sh d a b k4, Or.inr (zm_gP_m (by omega)), Or.inr (zm_gP_m (by omega)), Or.inr (zm_gP_m (by omega))⟩
      · have := k5 k (by omega) (by omega)
        unfold rL rR at this
        rw [e1, e2, e3] at this
        rw [zm_psq_abs]
        generalize zm_tr3 (zm_gP P a) (zm_gP P b) (zm_gP P d) = T at *
        generalize zm_pxx (zm_gP P a) (zm_gP P b) (zm_gP P d) = U at *
        generalize zm_pyy (zm_gP P a) (zm_gP P b) (zm_gP P d) = V at *
        show 2 * 1 * (((pX P k - pX P a) * (pX P k - pX P a) + (pY P k - pY P a) * (pY P k - pY P a)) * T - ((pX P k - pX P a) * U + (pY P k - pY P a) * V)) ≤ 0
        have e5 : ∀ X : Int, X * (1 * 2 * T) = 2 * (X * T) := fun X => by grind
        rw [e5, Int.one_mul, Int.one_mul] at this
        omega
      · rw [e1, e2]; show pX P a * _ + _ = _ * pX P a + _; rw [Int.mul_comm]
      · rw [e1, e3]; show pY P a * _ + _ = _ * pY P a + _; rw [Int.mul_comm]
      · rw [e1]; rfl
      · rw [e2, e3]; unfold zm_rq zm_psq zm_hq; dsimp only; grind
      · rw [e1]; rfl
      · rw [wsym]; exact sh b a d k3
  obtain ⟨r, r0, rm, rfl, rfl, rfl, rfl, rfl, a', b', z', v1, v2, v3, de, d1, d2, d3, da, db, dz⟩ := main
  obtain ⟨s1, s2, s3⟩ := zm_same_all q0 r0 qm rm ce c1 c2 c3 ca cb cz de d1 d2 d3 da db dz
  obtain ⟨g1, g2, g3, g4, g5, g6⟩ := cq
  have hw : wh = 0 ∨ wh = 1 ∨ wh = 2 := by omega
  rcases hw with rfl | rfl | rfl
  · rw [g1, g4]; exact zm_frac_eq q0 r0 (by show q.2.1 * r.1 = r.2.1 * q.1; rw [Int.mul_comm, s1, Int.mul_comm])
  · rw [g2, g5]; exact zm_frac_eq q0 r0 (by show q.2.2.1 * r.1 = r.2.2.1 * q.1; rw [Int.mul_comm, s2, Int.mul_comm])
  · rw [g3, g6]; exact zm_frac_eq (Int.mul_pos q0 q0) (Int.mul_pos r0 r0) s3
/-! there is a least circle -/
theorem zm_zz (q : zm_Q4) (z : Pt) : q.1 * zm_pw q z = (q.1 * z.1 - q.2.1) * (q.1 * z.1 - q.2.1) + (q.1 * z.2 - q.2.2.1) * (q.1 * z.2 - q.2.2.1) - zm_rq q := by unfold zm_pw zm_rq; grind
/-- two opposite points -/
theorem zm_opp_acr {P : List Pt} {q : zm_Q4} (q0 : 0 < q.1) (qm : ∀ x ∈ P, zm_pw q x ≤ 0) {a b : Pt} (ha : a ∈ P) (hb : b ∈ P) (pa : zm_pw q a = 0) (ox : q.1 * a.1 - q.2.1 = -(q.1 * b.1 - q.2.1)) (oy : q.1 * a.2 - q.2.2.1 = -(q.1 * b.2 - q.2.2.1)) : ¬ noC P := by
  obtain ⟨i, hi⟩ := List.getElem?_of_mem ha
  obtain ⟨j, hj⟩ := List.getElem?_of_mem hb
  have li := (List.getElem?_eq_some_iff.mp hi).1; have lj := (List.getElem?_eq_some_iff.mp hj).1
  have gi := zm_gP_e hi; have gj := zm_gP_e hj
  have za := zm_zz q a
  rw [pa] at za
  have main : ∀ k : Nat, k < P.length → ((zm_gP P k).1 - a.1) * ((zm_gP P k).1 - b.1) + ((zm_gP P k).2 - a.2) * ((zm_gP P k).2 - b.2) ≤ 0 := by
    intro k hk
    have pk := qm _ (zm_gP_m hk)
    have zk := zm_zz q (zm_gP P k)
    have m := Int.mul_nonpos_of_nonneg_of_nonpos (Int.le_of_lt q0) pk
    generalize (zm_gP P k).1 = x at *; generalize (zm_gP P k).2 = y at *
    refine zm_np_of (Int.mul_pos q0 q0) ?_
    have e : q.1 * q.1 * ((x - a.1) * (x - b.1) + (y - a.2) * (y - b.2)) = ((q.1 * x - q.2.1) - (q.1 * a.1 - q.2.1)) * ((q.1 * x - q.2.1) - (q.1 * b.1 - q.2.1)) + ((q.1 * y - q.2.2.1) - (q.1 * a.2 - q.2.2.1)) * ((q.1 * y - q.2.2.1) - (q.1 * b.2 - q.2.2.1)) := by grind
    rw [e]
    generalize q.1 * x - q.2.1 = X at *; generalize q.1 * y - q.2.2.1 = Y at *
    rw [ox, oy] at za ⊢
    generalize q.1 * b.1 - q.2.1 = U at *; generalize q.1 * b.2 - q.2.2.1 = V at *
    have e2 : (X - -U) * (X - U) + (Y - -V) * (Y - V) = X * X + Y * Y - (-U * -U + -V * -V) := by grind
    rw [e2]; omega
  have fin : ∀ i j : Nat, j ≤ i → i < P.length → (∀ k : Nat, k < P.length → ((zm_gP P k).1 - (zm_gP P i).1) * ((zm_gP P k).1 - (zm_gP P j).1) + ((zm_gP P k).2 - (zm_gP P i).2) * ((zm_gP P k).2 - (zm_gP P j).2) ≤ 0) → ¬ noC P := by
    intro i j hji hi h hn
    refine hn.1 i j (by omega) (by omega) (by omega) (Or.inl (by omega)) (fun k k0 k1 => ?_)
    obtain ⟨k, rfl⟩ := Int.eq_ofNat_of_zero_le k0
    exact h k (by omega)
  rcases Nat.le_total j i with o | o
  · exact fin i j o li (by rw [gi, gj]; exact main)
  · refine fin j i o lj (fun k hk => ?_)
    have := main k hk
    rw [gi, gj, Int.mul_comm ((zm_gP P k).1 - b.1), Int.mul_comm ((zm_gP P k).2 - b.2)]; exact this
/-- equal lengths, opposite weights -/
theorem zm_opp_vec {w v X Y U V R : Int} (hR : 0 < R) (hw : 0 ≤ w) (hv : 0 ≤ v) (hs : 0 < w + v) (h1 : X * X + Y * Y = R) (h2 : U * U + V * V = R) (hx : w * X + v * U = 0) (hy : w * Y + v * V = 0) : X = -U ∧ Y = -V := by
  have e1 : w * w * R = v * v * R := by
    have a1 : w * X = -(v * U) := by omega
    have a2 : w * Y = -(v * V) := by omega
    have b1 : (w * X) * (w * X) + (w * Y) * (w * Y) = w * w * R := by rw [← h1]; grind
    have b2 : (v * U) * (v * U) + (v * V) * (v * V) = v * v * R := by rw [← h2]; grind
    rw [a1, a2] at b1
    rw [Int.neg_mul_neg, Int.neg_mul_neg] at b1; omega
  have e2 : w * w = v * v := Int.eq_of_mul_eq_mul_right (by omega) e1
  have e3 : w = v := by
    have : (w - v) * (w + v) = 0 := by grind
    rcases Int.mul_eq_zero.mp this with h | h <;> omega
  subst e3
  have wp : w ≠ 0 := by omega
  constructor
  · have : w * (X + U) = 0 := by rw [Int.mul_add]; exact hx
    rcases Int.mul_eq_zero.mp this with h | h
    · exact absurd h wp
    · omega
  · have : w * (Y + V) = 0 := by rw [Int.mul_add]; exact hy
    rcases Int.mul_eq_zero.mp this with h | h
    · exact absurd h wp
    · omega
theorem zm_par_eq {X Y U V R : Int} (hR : 0 < R) (h1 : X * X + Y * Y = R) (h2 : U * U + V * V = R) (hc : X * V - Y * U = 0) : (X = U ∧ Y = V) ∨ (X = -U ∧ Y = -V) := by
  have d : (X * U + Y * V) * (X * U + Y * V) = R * R := by
    have : (X * U + Y * V) * (X * U + Y * V) = (X * X + Y * Y) * (U * U + V * V) - (X * V - Y * U) * (X * V - Y * U) := by grind
    rw [this, h1, h2, hc]; omega
  have d2 : (X * U + Y * V - R) * (X * U + Y * V + R) = 0 := by grind
  rcases Int.mul_eq_zero.mp d2 with h | h
  · left
    have : (X - U) * (X - U) + (Y - V) * (Y - V) = 0 := by grind
    have s1 := mul_self_nn (X - U); have s2 := mul_self_nn (Y - V)
    have x := mul_self_0 (show (X - U) * (X - U) = 0 by omega)
    have y := mul_self_0 (show (Y - V) * (Y - V) = 0 by omega)
    omega
  · right
    have : (X + U) * (X + U) + (Y + V) * (Y + V) = 0 := by grind
    have s1 := mul_self_nn (X + U); have s2 := mul_self_nn (Y + V)
    have x := mul_self_0 (show (X + U) * (X + U) = 0 by omega)
    have y := mul_self_0 (show (Y + V) * (Y + V) = 0 by omega)
    omega
