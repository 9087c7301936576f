/-! MATHEMATICS 10: the width -/
def zm_ng (a : Pt) : Pt := (-a.1, -a.2)
def zm_dp (a b : Pt) : Int := a.1 * b.1 + a.2 * b.2
theorem zm_plu (a b c e : Pt) : zm_cx a c * zm_cx b e = zm_cx a b * zm_cx c e + zm_cx a e * zm_cx b c := by unfold zm_cx zm_crs; grind
theorem zm_cx_nl (a b : Pt) : zm_cx (zm_ng a) b = -zm_cx a b := by unfold zm_cx zm_crs zm_ng; dsimp only; grind
theorem zm_cx_nr (a b : Pt) : zm_cx a (zm_ng b) = -zm_cx a b := by unfold zm_cx zm_crs zm_ng; dsimp only; grind
theorem zm_pos_l {a b c : Int} (hb : 0 < b) (h : a * b = c) (hc : 0 < c) : 0 < a := by
  rw [Int.mul_comm] at h; exact zm_pp_of hb (by omega)
theorem zm_le_sq {x y : Int} (hx : 0 ≤ x) (h : y * y ≤ x * x) : y ≤ x := by
  rcases Int.lt_or_le x y with q | q
  · exfalso
    have : x * x < y * y := Int.mul_lt_mul' (by omega) q hx (by omega)
    omega
  · exact q
/-- one half of the combination -/
theorem zm_wd1 {p q g c1 c2 al be D c N : Int} (hp : 0 ≤ p) (ha : 0 ≤ al) (hb : 0 ≤ be) (h1 : 0 ≤ c1) (h2 : 0 ≤ c2) (hD : 0 < D) (hc : D * c = al * c1 + be * c2) (hN : D * D * N = al * al * p + 2 * (al * be) * g + be * be * q) (hg : g * g ≤ p * q) (hm : c1 * c1 * q ≤ c2 * c2 * p) : c1 * c1 * N ≤ c * c * p := by
  have k1 : c1 * g ≤ p * c2 := by
    refine zm_le_sq (Int.mul_nonneg hp h2) ?_
    have a1 := Int.mul_le_mul_of_nonneg_left hg (mul_self_nn c1)
    have a2 := Int.mul_le_mul_of_nonneg_right hm hp
    have e1 : c1 * g * (c1 * g) = c1 * c1 * (g * g) := by grind
    have e2 : p * c2 * (p * c2) = c2 * c2 * p * p := by grind
    have e3 : c1 * c1 * (p * q) = c1 * c1 * q * p := by grind
    omega
  have k2 := Int.mul_le_mul_of_nonneg_left k1 (Int.mul_nonneg (Int.mul_nonneg ha hb) h1)
  have k3 := Int.mul_le_mul_of_nonneg_left hm (mul_self_nn be)
  have DD := Int.mul_pos hD hD
  refine Int.le_of_mul_le_mul_left (a := D * D) ?_ DD
  have e1 : D * D * (c1 * c1 * N) = c1 * c1 * (D * D * N) := by grind
  have e2 : D * D * (c * c * p) = (D * c) * (D * c) * p := by grind
  rw [e1, e2, hN, hc]
  have e3 : c1 * c1 * (al * al * p + 2 * (al * be) * g + be * be * q) = al * al * p * c1 * c1 + 2 * (al * be * c1 * (c1 * g)) + be * be * (c1 * c1 * q) := by grind
  have e4 : (al * c1 + be * c2) * (al * c1 + be * c2) * p = al * al * p * c1 * c1 + 2 * (al * be * c1 * (p * c2)) + be * be * (c2 * c2 * p) := by grind
  rw [e3, e4]; omega
theorem zm_dp_nn (a : Pt) : 0 ≤ zm_dp a a := by unfold zm_dp; have := mul_self_nn a.1; have := mul_self_nn a.2; omega
theorem zm_cs (a b : Pt) : zm_dp a b * zm_dp a b ≤ zm_dp a a * zm_dp b b := by
  have e : zm_dp a a * zm_dp b b = zm_dp a b * zm_dp a b + zm_cx a b * zm_cx a b := by unfold zm_dp zm_cx zm_crs; grind
  have := mul_self_nn (zm_cx a b); omega
theorem zm_WD {f g d x : Pt} (hD : 0 < zm_cx f g) (ha : 0 ≤ zm_cx d g) (hb : 0 ≤ zm_cx f d) (h1 : 0 ≤ zm_cx f x) (h2 : 0 ≤ zm_cx g x) : zm_cx f x * zm_cx f x * zm_dp d d ≤ zm_cx d x * zm_cx d x * zm_dp f f ∨ zm_cx g x * zm_cx g x * zm_dp d d ≤ zm_cx d x * zm_cx d x * zm_dp g g := by
  have hc : zm_cx f g * zm_cx d x = zm_cx d g * zm_cx f x + zm_cx f d * zm_cx g x := by unfold zm_cx zm_crs; grind
  have hN : zm_cx f g * zm_cx f g * zm_dp d d = zm_cx d g * zm_cx d g * zm_dp f f + 2 * (zm_cx d g * zm_cx f d) * zm_dp f g + zm_cx f d * zm_cx f d * zm_dp g g := by
    have e1 : zm_cx f g * d.1 = zm_cx d g * f.1 + zm_cx f d * g.1 := by unfold zm_cx zm_crs; grind
    have e2 : zm_cx f g * d.2 = zm_cx d g * f.2 + zm_cx f d * g.2 := by unfold zm_cx zm_crs; grind
    have e3 : zm_cx f g * zm_cx f g * zm_dp d d = (zm_cx f g * d.1) * (zm_cx f g * d.1) + (zm_cx f g * d.2) * (zm_cx f g * d.2) := by unfold zm_dp; grind
    rw [e3, e1, e2]; unfold zm_dp; grind
  have hg := zm_cs f g
  rcases Int.le_total (zm_cx f x * zm_cx f x * zm_dp g g) (zm_cx g x * zm_cx g x * zm_dp f f) with q | q
  · exact Or.inl (zm_wd1 (zm_dp_nn f) ha hb h1 h2 hD hc hN hg q)
  · refine Or.inr (zm_wd1 (al := zm_cx f d) (be := zm_cx d g) (c2 := zm_cx f x) (q := zm_dp f f) (g := zm_dp f g) (zm_dp_nn g) hb ha h2 h1 hD (by omega) ?_ ?_ q)
    · rw [hN, Int.mul_comm (zm_cx d g) (zm_cx f d)]; omega
    · rw [Int.mul_comm (zm_dp g g)]; exact hg
def zm_parl (f d : Pt) : Prop := zm_cx f d = 0 ∧ 0 < zm_dp f d
theorem zm_parl_x {f d : Pt} (h : zm_parl f d) (y : Pt) : zm_dp d d * zm_cx f y = zm_dp f d * zm_cx d y := by
  have h0 := h.1; unfold zm_cx zm_crs at *; unfold zm_dp; grind
theorem zm_parl_n {f d : Pt} (h : zm_parl f d) : zm_dp d d * zm_dp f f = zm_dp f d * zm_dp f d := by
  have h0 := h.1
  have e : zm_dp d d * zm_dp f f = zm_dp f d * zm_dp f d + zm_cx f d * zm_cx f d := by unfold zm_dp zm_cx zm_crs; grind
  rw [e, h0]; omega
theorem zm_parl_d {f d : Pt} (h : zm_parl f d) : 0 < zm_dp d d := by
  rcases Int.lt_or_le 0 (zm_dp d d) with q | q
  · exact q
  · exfalso
    have : zm_dp d d = 0 := by have := zm_dp_nn d; omega
    have := zm_parl_n h
    have p := Int.mul_pos h.2 h.2
    rw [‹zm_dp d d = 0›] at this; omega
theorem zm_parl_le {f d x : Pt} (h : zm_parl f d) : zm_cx f x * zm_cx f x * zm_dp d d ≤ zm_cx d x * zm_cx d x * zm_dp f f := by
  have hd := zm_parl_d h
  refine Int.le_of_mul_le_mul_left (a := zm_dp d d) ?_ hd
  have e1 : zm_dp d d * (zm_cx f x * zm_cx f x * zm_dp d d) = (zm_dp d d * zm_cx f x) * (zm_dp d d * zm_cx f x) := by grind
  have e2 : zm_dp d d * (zm_cx d x * zm_cx d x * zm_dp f f) = zm_cx d x * zm_cx d x * (zm_dp d d * zm_dp f f) := by grind
  rw [e1, e2, zm_parl_x h, zm_parl_n h]
  have : zm_dp f d * zm_cx d x * (zm_dp f d * zm_cx d x) = zm_cx d x * zm_cx d x * (zm_dp f d * zm_dp f d) := by grind
  omega
theorem zm_parl_l {f g d : Pt} (hd : 0 < zm_dp d d) (h0 : zm_cx f d = 0) (hg : 0 ≤ zm_cx d g) (hfg : 0 < zm_cx f g) : zm_parl f d := by
  refine ⟨h0, ?_⟩
  have e : zm_dp d d * zm_cx f g = zm_dp f d * zm_cx d g := by unfold zm_cx zm_crs at *; unfold zm_dp; grind
  have := Int.mul_pos hd hfg
  rcases Int.lt_or_le 0 (zm_dp f d) with q | q
  · exact q
  · have := Int.mul_nonpos_of_nonpos_of_nonneg q hg; omega
theorem zm_parl_r {f g d : Pt} (hd : 0 < zm_dp d d) (h0 : zm_cx d f = 0) (hg : 0 ≤ zm_cx g d) (hfg : 0 < zm_cx g f) : zm_parl f d := by
  refine ⟨by rw [zm_cx_an]; omega, ?_⟩
  have e : zm_dp d d * zm_cx g f = zm_dp f d * zm_cx g d := by unfold zm_cx zm_crs at *; unfold zm_dp; grind
  have := Int.mul_pos hd hfg
  rcases Int.lt_or_le 0 (zm_dp f d) with q | q
  · exact q
  · have := Int.mul_nonpos_of_nonpos_of_nonneg q hg; omega
def zm_wle (f d x : Pt) : Prop := zm_cx f x * zm_cx f x * zm_dp d d ≤ zm_cx d x * zm_cx d x * zm_dp f f
theorem zm_wid_abs {am ap bm bp d x : Pt} (hd : 0 < zm_dp d d) (ta : 0 < zm_cx am ap) (tb : 0 < zm_cx bm bp) (a1 : 0 ≤ zm_cx am d) (a2 : 0 ≤ zm_cx d ap) (b1 : 0 ≤ zm_cx bm d) (b2 : 0 ≤ zm_cx d bp) (x1 : 0 ≤ zm_cx am x) (x2 : 0 ≤ zm_cx ap x) (x3 : 0 ≤ zm_cx bm x) (x4 : 0 ≤ zm_cx bp x) :
    (∃ f, (f = am ∨ f = ap) ∧ zm_wle f d x ∧ ((0 ≤ zm_cx bm f ∧ 0 ≤ zm_cx f bp) ∨ zm_parl f d)) ∨ (∃ f, (f = bm ∨ f = bp) ∧ zm_wle f d x ∧ ((0 ≤ zm_cx am f ∧ 0 ≤ zm_cx f ap) ∨ zm_parl f d)) := by
  by_cases z1 : zm_cx am d = 0
  · have p := zm_parl_l hd z1 a2 ta; exact Or.inl ⟨am, Or.inl rfl, zm_parl_le p, Or.inr p⟩
  by_cases z2 : zm_cx d ap = 0
  · have p := zm_parl_r hd z2 a1 ta; exact Or.inl ⟨ap, Or.inr rfl, zm_parl_le p, Or.inr p⟩
  by_cases z3 : zm_cx bm d = 0
  · have p := zm_parl_l hd z3 b2 tb; exact Or.inr ⟨bm, Or.inl rfl, zm_parl_le p, Or.inr p⟩
  by_cases z4 : zm_cx d bp = 0
  · have p := zm_parl_r hd z4 b1 tb; exact Or.inr ⟨bp, Or.inr rfl, zm_parl_le p, Or.inr p⟩
  have a1 : 0 < zm_cx am d := by omega
  have a2 : 0 < zm_cx d ap := by omega
  have b1 : 0 < zm_cx bm d := by omega
  have b2 : 0 < zm_cx d bp := by omega
  -- first
  have F : ∃ f, (((f = am) ∧ 0 ≤ zm_cx bm f ∧ 0 < zm_cx am bp) ∨ (f = bm ∧ 0 ≤ zm_cx am f ∧ 0 < zm_cx bm ap)) := by
    rcases Int.lt_or_le (zm_cx am bm) 0 with q | q
    · refine ⟨am, Or.inl ⟨rfl, by rw [zm_cx_an]; omega, ?_⟩⟩
      have k := zm_plu bm am d bp
      rw [zm_cx_an am bm] at k
      refine zm_pp_of b1 ?_
      rw [k]
      have m1 := Int.mul_pos (show 0 < -zm_cx am bm by omega) b2
      have m2 := Int.mul_pos tb a1
      omega
    · refine ⟨bm, Or.inr ⟨rfl, q, ?_⟩⟩
      have k := zm_plu am bm d ap
      refine zm_pp_of a1 ?_
      rw [k]
      have m1 := Int.mul_nonneg q (Int.le_of_lt a2)
      have m2 := Int.mul_pos ta b1
      omega
  have G : ∃ g, (((g = ap) ∧ 0 ≤ zm_cx g bp ∧ 0 < zm_cx bm ap) ∨ (g = bp ∧ 0 ≤ zm_cx g ap ∧ 0 < zm_cx am bp)) := by
    rcases Int.lt_or_le (zm_cx ap bp) 0 with q | q
    · refine ⟨bp, Or.inr ⟨rfl, by rw [zm_cx_an]; omega, ?_⟩⟩
      have k := zm_plu am d bp ap
      rw [zm_cx_an ap bp, Int.mul_comm (zm_cx am bp)] at k
      refine zm_pp_of a2 ?_
      rw [k]
      have m1 := Int.mul_pos a1 (show 0 < -zm_cx ap bp by omega)
      have m2 := Int.mul_pos ta b2
      omega
    · refine ⟨ap, Or.inl ⟨rfl, q, ?_⟩⟩
      have k := zm_plu bm d ap bp
      rw [Int.mul_comm (zm_cx bm ap)] at k
      refine zm_pp_of b2 ?_
      rw [k]
      have m1 := Int.mul_nonneg (Int.le_of_lt b1) q
      have m2 := Int.mul_pos tb a2
      omega
  obtain ⟨f, hf⟩ := F
  obtain ⟨g, hg⟩ := G
  rcases hf with ⟨rfl, f1, f2⟩ | ⟨rfl, f1, f2⟩
  · rcases hg with ⟨rfl, g1, g2⟩ | ⟨rfl, g1, g2⟩
    · rcases zm_WD ta (Int.le_of_lt a2) (Int.le_of_lt a1) x1 x2 with w | w
      · exact Or.inl ⟨f, Or.inl rfl, w, Or.inl ⟨f1, by omega⟩⟩
      · exact Or.inl ⟨g, Or.inr rfl, w, Or.inl ⟨by omega, g1⟩⟩
    · rcases zm_WD g2 (Int.le_of_lt b2) (Int.le_of_lt a1) x1 x4 with w | w
      · exact Or.inl ⟨f, Or.inl rfl, w, Or.inl ⟨f1, by omega⟩⟩
      · exact Or.inr ⟨g, Or.inr rfl, w, Or.inl ⟨by omega, g1⟩⟩
  · rcases hg with ⟨rfl, g1, g2⟩ | ⟨rfl, g1, g2⟩
    · rcases zm_WD g2 (Int.le_of_lt a2) (Int.le_of_lt b1) x3 x2 with w | w
      · exact Or.inr ⟨f, Or.inl rfl, w, Or.inl ⟨f1, by omega⟩⟩
      · exact Or.inl ⟨g, Or.inr rfl, w, Or.inl ⟨by omega, g1⟩⟩
    · rcases zm_WD tb (Int.le_of_lt b2) (Int.le_of_lt b1) x3 x4 with w | w
      · exact Or.inr ⟨f, Or.inl rfl, w, Or.inl ⟨f1, by omega⟩⟩
      · exact Or.inr ⟨g, Or.inr rfl, w, Or.inl ⟨by omega, g1⟩⟩
/-- in the zm_cone of a corner's two sides -/
theorem zm_cone {e1 e2 g y : Pt} (h : 0 < zm_cx e1 e2) (h1 : 0 ≤ zm_cx e1 g) (h2 : 0 ≤ zm_cx g e2) (y1 : 0 ≤ zm_cx e1 y) (y2 : 0 ≤ zm_cx e2 y) : 0 ≤ zm_cx g y := by
  refine zm_nn_of h ?_
  have e : zm_cx e1 e2 * zm_cx g y = zm_cx g e2 * zm_cx e1 y + zm_cx e1 g * zm_cx e2 y := by unfold zm_cx zm_crs; grind
  rw [e]; exact Int.add_nonneg (Int.mul_nonneg h2 y1) (Int.mul_nonneg h1 y2)
theorem zm_rch_spec (H : List Pt) (m : Int) (n : Nat) : 0 ≤ rch H m n ∧ (∀ k : Nat, k < n → off H m (zm_gP H k).1 (zm_gP H k).2 ≤ rch H m n) ∧ (rch H m n = 0 ∨ ∃ k : Nat, k < n ∧ rch H m n = off H m (zm_gP H k).1 (zm_gP H k).2) := by
  induction n with
  | zero => exact ⟨Int.le_refl _, fun k hk => by omega, Or.inl rfl⟩
  | succ n ih =>
    obtain ⟨h1, h2, h3⟩ := ih
    have e : rch H m (n + 1) = max (rch H m n) (off H m (zm_gP H n).1 (zm_gP H n).2) := rfl
    rw [e]
    refine ⟨by omega, fun k hk => ?_, ?_⟩
    · by_cases q : k = n
      · subst q; omega
      · have := h2 k (by omega); omega
    · rcases Int.le_total (rch H m n) (off H m (zm_gP H n).1 (zm_gP H n).2) with q | q
      · exact Or.inr ⟨n, by omega, by omega⟩
      · rcases h3 with h3 | ⟨k, hk, h3⟩
        · exact Or.inl (by omega)
        · exact Or.inr ⟨k, by omega, by omega⟩
theorem zm_rch_e {W : Pt → Prop} {H : List Pt} {t n : Nat} (h : zm_CH W H t n) {m : Nat} (hm : m < n) {u : Pt} (hu : u ∈ H) (hw : ∀ r, W r → zm_tr3 (zm_gC H m) (zm_gC H (m + 1)) r ≤ zm_tr3 (zm_gC H m) (zm_gC H (m + 1)) u) : rch H m H.length = zm_tr3 (zm_gC H m) (zm_gC H (m + 1)) u := by
  have l := zm_CH_len h
  obtain ⟨s, hs, p1, p2, p3⟩ := zm_CH_edge h hm
  obtain ⟨i, hi'⟩ := List.getElem?_of_mem hu
  have hi : i < H.length := (List.getElem?_eq_some_iff.mp hi').1
  have eu := zm_gP_e hi'
  obtain ⟨h1, h2, h3⟩ := zm_rch_spec H m H.length
  have a := h2 i hi
  have nn := p2 _ (zm_CH_sub h u hu)
  rw [zm_off_tr (by omega)] at a
  rw [eu] at a
  have a' : zm_tr3 (zm_gC H m) (zm_gC H (m + 1)) u ≤ rch H m H.length := a
  rcases h3 with h3 | ⟨k, hk, h3⟩
  · exact Int.le_antisymm (by omega) a
  · rw [zm_off_tr (by omega)] at h3
    have h3' : rch H m H.length = zm_tr3 (zm_gC H m) (zm_gC H (m + 1)) (zm_gP H k) := h3
    have := hw _ (zm_gP_W h hk)
    exact Int.le_antisymm (by omega) a
theorem zm_spL_spec (P : List Pt) (i j : Int) (n : Nat) : ((spL P i j n).1 ≤ 0 ∧ (∀ k : Nat, k < n → (spL P i j n).1 ≤ pT P i j (zm_gP P k).1 (zm_gP P k).2) ∧ ((spL P i j n).1 = 0 ∨ ∃ k : Nat, k < n ∧ (spL P i j n).1 = pT P i j (zm_gP P k).1 (zm_gP P k).2)) ∧ (0 ≤ (spL P i j n).2 ∧ (∀ k : Nat, k < n → pT P i j (zm_gP P k).1 (zm_gP P k).2 ≤ (spL P i j n).2) ∧ ((spL P i j n).2 = 0 ∨ ∃ k : Nat, k < n ∧ (spL P i j n).2 = pT P i j (zm_gP P k).1 (zm_gP P k).2)) := by
  induction n with
  | zero => exact ⟨⟨Int.le_refl _, fun k hk => by omega, Or.inl rfl⟩, ⟨Int.le_refl _, fun k hk => by omega, Or.inl rfl⟩⟩
  | succ n ih =>
    obtain ⟨⟨h1, h2, h3⟩, g1, g2, g3⟩ := ih
    have e1 : (spL P i j (n + 1)).1 = min (pT P i j (zm_gP P n).1 (zm_gP P n).2) (spL P i j n).1 := rfl
    have e2 : (spL P i j (n + 1)).2 = max (pT P i j (zm_gP P n).1 (zm_gP P n).2) (spL P i j n).2 := rfl
    rw [e1, e2]
    refine ⟨⟨by omega, fun k hk => ?_, ?_⟩, ⟨by omega, fun k hk => ?_, ?_⟩⟩
    · by_cases q : k = n
      · subst q; omega
      · have := h2 k (by omega); omega
    · rcases Int.le_total (spL P i j n).1 (pT P i j (zm_gP P n).1 (zm_gP P n).2) with q | q
      · rcases h3 with h3 | ⟨k, hk, h3⟩
        · exact Or.inl (by omega)
        · exact Or.inr ⟨k, by omega, by omega⟩
      · exact Or.inr ⟨n, by omega, by omega⟩
    · by_cases q : k = n
      · subst q; omega
      · have := g2 k (by omega); omega
    · rcases Int.le_total (spL P i j n).2 (pT P i j (zm_gP P n).1 (zm_gP P n).2) with q | q
      · exact Or.inr ⟨n, by omega, by omega⟩
      · rcases g3 with h3 | ⟨k, hk, h3⟩
        · exact Or.inl (by omega)
        · exact Or.inr ⟨k, by omega, by omega⟩
theorem zm_spR_e {P : List Pt} {i j : Nat} (hi : i < P.length) {lo hi' : Pt} (m1 : lo ∈ P) (m2 : hi' ∈ P) (h1 : ∀ r ∈ P, zm_tr3 (zm_gP P i) (zm_gP P j) lo ≤ zm_tr3 (zm_gP P i) (zm_gP P j) r) (h2 : ∀ r ∈ P, zm_tr3 (zm_gP P i) (zm_gP P j) r ≤ zm_tr3 (zm_gP P i) (zm_gP P j) hi') : spR P i j = zm_tr3 (zm_gP P i) (zm_gP P j) hi' - zm_tr3 (zm_gP P i) (zm_gP P j) lo := by
  obtain ⟨⟨a1, a2, a3⟩, b1, b2, b3⟩ := zm_spL_spec P i j P.length
  simp only [zm_pT_tr] at a2 a3 b2 b3
  have z1 := h1 _ (zm_gP_m hi); have z2 := h2 _ (zm_gP_m hi)
  rw [(zm_tr3_0 _ _).2.1] at z1 z2
  obtain ⟨x, hx⟩ := List.getElem?_of_mem m1
  obtain ⟨y, hy⟩ := List.getElem?_of_mem m2
  have x1 := a2 x (List.getElem?_eq_some_iff.mp hx).1
  have y1 := b2 y (List.getElem?_eq_some_iff.mp hy).1
  rw [zm_gP_e hx] at x1; rw [zm_gP_e hy] at y1
  unfold spR
  have L1 : (spL P i j P.length).1 = zm_tr3 (zm_gP P i) (zm_gP P j) lo := by
    rcases a3 with a3 | ⟨k, hk, a3⟩
    · omega
    · have := h1 _ (zm_gP_m hk); omega
  have L2 : (spL P i j P.length).2 = zm_tr3 (zm_gP P i) (zm_gP P j) hi' := by
    rcases b3 with a3 | ⟨k, hk, a3⟩
    · omega
    · have := h2 _ (zm_gP_m hk); omega
  rw [L1, L2]
theorem zm_spR_sym (P : List Pt) (i j : Int) : spR P i j = spR P j i := by
  have e : ∀ x y, pT P j i x y = -pT P i j x y := fun x y => by unfold pT; grind
  have : ∀ n, spL P j i n = (-(spL P i j n).2, -(spL P i j n).1) := by
    intro n
    induction n with
    | zero => rfl
    | succ n ih =>
      have e1 : spL P j i (n + 1) = (min (pT P j i (pX P n) (pY P n)) (spL P j i n).1, max (pT P j i (pX P n) (pY P n)) (spL P j i n).2) := rfl
      have e2 : spL P i j (n + 1) = (min (pT P i j (pX P n) (pY P n)) (spL P i j n).1, max (pT P i j (pX P n) (pY P n)) (spL P i j n).2) := rfl
      rw [e1, e2, ih, e]
      refine Prod.ext ?_ ?_ <;> dsimp only <;> omega
  unfold spR; rw [this]; dsimp only; omega
theorem zm_wLow_lo {H : List Pt} (n : Nat) (hp : ∀ i : Nat, i < n → 0 < sq H i (nx H i)) : zm_lo3 (fun u w => ∃ i : Nat, i < n ∧ u = rch H i H.length * rch H i H.length ∧ w = sq H i (nx H i)) (wLow H n) := by
  induction n with
  | zero => exact Or.inl ⟨rfl, fun u w ⟨i, hi, _⟩ => by omega⟩
  | succ n ih =>
    unfold wLow
    refine zm_lo3_c (zm_lo3_add (ih (fun i hi => hp i (by omega))) (hp n (by omega))) (fun u w => ?_)
    constructor
    · rintro ⟨i, hi, e1, e2⟩
      by_cases q : i = n
      · subst q; exact Or.inr ⟨e1, e2⟩
      · exact Or.inl ⟨i, by omega, e1, e2⟩
    · rintro (⟨i, hi, e1, e2⟩ | ⟨e1, e2⟩)
      · exact ⟨i, by omega, e1, e2⟩
      · exact ⟨n, by omega, e1, e2⟩
theorem zm_wmJ_lo {P : List Pt} {s : L3} {C : Int → Int → Prop} (hs : zm_lo3 C s) (i n : Nat) (hp : ∀ j : Nat, j < n → 0 < sq P i j) : zm_lo3 (fun u w => C u w ∨ ∃ j : Nat, j < n ∧ u = spR P i j * spR P i j ∧ w = sq P i j) (wmJ P i n s) := by
  induction n with
  | zero => exact zm_lo3_c hs (fun u w => ⟨fun h => by rcases h with h | ⟨i, hi, _⟩; exact h; omega, Or.inl⟩)
  | succ n ih =>
    unfold wmJ
    refine zm_lo3_c (zm_lo3_add (ih (fun i hi => hp i (by omega))) (hp n (by omega))) (fun u w => ?_)
    constructor
    · rintro (h | ⟨j, hj, e1, e2⟩)
      · exact Or.inl (Or.inl h)
      · by_cases q : j = n
        · subst q; exact Or.inr ⟨e1, e2⟩
        · exact Or.inl (Or.inr ⟨j, by omega, e1, e2⟩)
    · rintro ((h | ⟨j, hj, e1, e2⟩) | ⟨e1, e2⟩)
      · exact Or.inl h
      · exact Or.inr ⟨j, by omega, e1, e2⟩
      · exact Or.inr ⟨n, by omega, e1, e2⟩
theorem zm_wmL_lo {P : List Pt} (hP : P.Nodup) (n : Nat) (hn : n ≤ P.length) : zm_lo3 (fun u w => ∃ i j : Nat, j < i ∧ i < n ∧ u = spR P i j * spR P i j ∧ w = sq P i j) (wmL P n) := by
  induction n with
  | zero => exact Or.inl ⟨rfl, fun u w ⟨i, j, hi, hj, _⟩ => by omega⟩
  | succ n ih =>
    unfold wmL
    refine zm_lo3_c (zm_wmJ_lo (ih (by omega)) n n (fun j hj => sq_pos hP (by omega) (by omega) (by omega))) (fun u w => ?_)
    constructor
    · rintro ⟨i, j, hj, hi, e1, e2⟩
      by_cases q : i = n
      · subst q; exact Or.inr ⟨j, hj, e1, e2⟩
      · exact Or.inl ⟨i, j, hj, by omega, e1, e2⟩
    · rintro (⟨i, j, hj, hi, e1, e2⟩ | ⟨j, hj, e1, e2⟩)
      · exact ⟨i, j, hj, by omega, e1, e2⟩
      · exact ⟨n, j, hj, by omega, e1, e2⟩
