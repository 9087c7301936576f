/-! MATHEMATICS 1: easy facts; vectors -/
theorem zm_m_wdJ (P : List Pt) (i : Int) (n : Nat) (m : Int) : wdJ P i n m = m2J P i n m := by
  induction n with
  | zero => rfl
  | succ n ih => unfold wdJ m2J; rw [ih]; omega
theorem zm_m_wid (P : List Pt) (n : Nat) : wdL P n = m2L P n := by
  induction n with
  | zero => rfl
  | succ n ih => unfold wdL m2L; rw [ih, zm_m_wdJ]
theorem zm_m_neJ (P : List Pt) (i : Int) (n : Nat) (m : Int) : neJ P i n m = n2J P i n m := by
  induction n with
  | zero => rfl
  | succ n ih => unfold neJ n2J; rw [ih]; omega
theorem zm_sq_comm (P : List Pt) (i j : Int) : sq P i j = sq P j i := by unfold sq; grind
theorem zm_m_nea (P : List Pt) (n : Nat) : neL P n = n2L P (n + 2) := by
  induction n with
  | zero =>
    show sq P 0 1 = n2J P ((1 : Nat) : Int) 1 (n2J P ((0 : Nat) : Int) 0 (sq P 0 1))
    unfold n2J n2J
    have := zm_sq_comm P 0 1
    show _ = min (sq P 1 0) (sq P 0 1)
    omega
  | succ n ih =>
    show neJ P ((n : Int) + 2) (n + 2) (neL P n) = n2J P ((n + 2 : Nat) : Int) (n + 2) (n2L P (n + 2))
    rw [ih, zm_m_neJ]; rfl
theorem zm_m_gst (H : List Pt) (n : Nat) : gst H n = bst H n := by
  induction n with
  | zero => rfl
  | succ n ih => unfold gst bst; rw [ih]
theorem zm_m_bor (H : List Pt) : gob H = boM H := by
  unfold gob boM sd
  by_cases h0 : H.length = 0
  · rw [if_pos h0, if_pos (by omega), h0]; rfl
  · rw [if_neg h0]
    by_cases h1 : H.length < 2
    · rw [if_pos (by omega), if_pos h1, if_pos h1, show H.length = 1 by omega]; rfl
    · rw [if_neg h1, if_neg h1]
      by_cases h2 : H.length = 2
      · rw [if_pos (by omega), if_pos h2, zm_m_gst, Int.toNat_natCast]
      · rw [if_neg (by omega), if_neg h2, zm_m_gst, Int.toNat_natCast]
theorem zm_m_are (H : List Pt) : dar H H.length = ar2 H H.length := by
  by_cases h0 : H.length = 0
  · rw [h0]; rfl
  have zm_key : ∀ n : Nat, n < H.length → ar2 H n = dar H n - (pX H 0 * (pY H n - pY H 0) - pY H 0 * (pX H n - pX H 0)) := by
    intro n
    induction n with
    | zero => intro _; unfold ar2 dar; show (0 : Int) = 0 - (pX H 0 * (pY H 0 - pY H 0) - pY H 0 * (pX H 0 - pX H 0)); grind
    | succ n ih =>
      intro hn
      have h1 := ih (by omega)
      have hx : nx H n = ((n + 1 : Nat) : Int) := by unfold nx; rw [if_pos (by omega)]; rfl
      unfold ar2 dar
      rw [hx, h1]
      grind
  obtain ⟨m, hm⟩ : ∃ m, H.length = m + 1 := ⟨H.length - 1, by omega⟩
  have h1 := zm_key m (by omega)
  have hx : nx H m = 0 := by unfold nx; rw [if_neg (by omega)]
  rw [hm]
  unfold ar2 dar
  rw [hx, h1]
  grind
theorem zm_m_hne (Q : List Pt) (h : Q.length ≠ 0) : 1 ≤ (hullF Q).length := by
  have hs := sortF_len Q
  obtain ⟨x, l, e⟩ : ∃ x l, sortF Q = x :: l := by
    cases e : sortF Q with
    | nil => rw [e] at hs; simp at hs; omega
    | cons x l => exact ⟨x, l, rfl⟩
  have ne : ∀ (l : List Pt) (z : List Pt) (k : Int), 1 ≤ z.length → 1 ≤ (l.foldl (addC k) z).length := by
    intro l
    induction l with
    | nil => exact fun z k h => h
    | cons x l ih => exact fun z k _ => ih _ k (by unfold addC; simp)
  have hl : 1 ≤ (lowF (sortF Q)).length := by
    unfold lowF; rw [e, List.foldl_cons]
    exact ne l _ 1 (by unfold addC; simp)
  have hu : 1 ≤ (uppF (sortF Q)).length := by unfold uppF; exact ne _ _ _ hl
  unfold hullF
  split
  · rw [List.length_dropLast]; omega
  · exact hu
/-! vectors -/
def zm_crs (ax ay bx cy : Int) : Int := ax * cy - ay * bx
def zm_psv (x y : Int) : Prop := 0 < x ∨ (x = 0 ∧ 0 < y)
theorem zm_crs_x (a b c d e f : Int) : c * zm_crs a b e f = e * zm_crs a b c d + a * zm_crs c d e f := by unfold zm_crs; grind
theorem zm_crs_y (a b c d e f : Int) : d * zm_crs a b e f = f * zm_crs a b c d + b * zm_crs c d e f := by unfold zm_crs; grind
theorem zm_crs_neg (a b c d : Int) : zm_crs (-a) (-b) (-c) (-d) = zm_crs a b c d := by unfold zm_crs; grind
theorem zm_crs_anti (a b c d : Int) : zm_crs c d a b = -zm_crs a b c d := by unfold zm_crs; grind
theorem zm_psv_add {a b c d : Int} (h1 : zm_psv a b) (h2 : zm_psv c d) : zm_psv (a + c) (b + d) := by unfold zm_psv at *; omega
theorem zm_psv_or {a b : Int} (h : ¬ (a = 0 ∧ b = 0)) : zm_psv a b ∨ zm_psv (-a) (-b) := by unfold zm_psv; omega
theorem zm_psv_not {a b : Int} (h : zm_psv a b) : ¬ zm_psv (-a) (-b) := by unfold zm_psv at *; omega
theorem zm_nn_of {c z : Int} (hc : 0 < c) (h : 0 ≤ c * z) : 0 ≤ z := by
  rcases Int.lt_or_le z 0 with q | q
  · have := Int.mul_neg_of_pos_of_neg hc q; omega
  · exact q
theorem zm_pp_of {c z : Int} (hc : 0 < c) (h : 0 < c * z) : 0 < z := by
  rcases Int.lt_or_le 0 z with q | q
  · exact q
  · have := Int.mul_nonpos_of_nonneg_of_nonpos (Int.le_of_lt hc) q; omega
theorem zm_crs_t {a b c d e f : Int} (h1 : zm_psv a b) (h2 : zm_psv c d) (h3 : zm_psv e f) (h4 : 0 ≤ zm_crs a b c d) (h5 : 0 ≤ zm_crs c d e f) : 0 ≤ zm_crs a b e f := by
  have ha : 0 ≤ a := by unfold zm_psv at h1; omega
  have he : 0 ≤ e := by unfold zm_psv at h3; omega
  rcases h2 with hc | ⟨hc, hd⟩
  · refine zm_nn_of hc ?_
    rw [zm_crs_x a b c d e f]
    exact Int.add_nonneg (Int.mul_nonneg he h4) (Int.mul_nonneg ha h5)
  · subst hc
    have e0 : e = 0 := by
      have : zm_crs 0 d e f = -(d * e) := by unfold zm_crs; grind
      rw [this] at h5
      rcases Int.lt_or_le 0 e with q | q
      · have := Int.mul_pos hd q; omega
      · omega
    subst e0
    have hf : 0 < f := by unfold zm_psv at h3; omega
    have : zm_crs a b 0 f = a * f := by unfold zm_crs; grind
    rw [this]; exact Int.mul_nonneg ha (Int.le_of_lt hf)
theorem zm_crs_t1 {a b c d e f : Int} (h1 : zm_psv a b) (h2 : zm_psv c d) (h3 : zm_psv e f) (h4 : 0 < zm_crs a b c d) (h5 : 0 ≤ zm_crs c d e f) : 0 < zm_crs a b e f := by
  have ha : 0 ≤ a := by unfold zm_psv at h1; omega
  have he : 0 ≤ e := by unfold zm_psv at h3; omega
  rcases h2 with hc | ⟨hc, hd⟩
  · refine zm_pp_of hc ?_
    rw [zm_crs_x a b c d e f]
    have p1 := Int.mul_nonneg he (Int.le_of_lt h4); have p2 := Int.mul_nonneg ha h5
    rcases h3 with q | ⟨q, hf⟩
    · have := Int.mul_pos q h4; omega
    · subst q
      have ecf : zm_crs c d 0 f = c * f := by unfold zm_crs; grind
      have hcf := Int.mul_pos hc hf
      rcases h1 with qa | ⟨qa, hb⟩
      · have := Int.mul_pos qa (show 0 < zm_crs c d 0 f by omega); omega
      · subst qa
        have : zm_crs 0 b c d = -(b * c) := by unfold zm_crs; grind
        have := Int.mul_pos hb hc; omega
  · subst hc
    have e0 : e = 0 := by
      have : zm_crs 0 d e f = -(d * e) := by unfold zm_crs; grind
      rw [this] at h5
      rcases Int.lt_or_le 0 e with q | q
      · have := Int.mul_pos hd q; omega
      · omega
    subst e0
    have hf : 0 < f := by unfold zm_psv at h3; omega
    have e1 : zm_crs a b 0 f = a * f := by unfold zm_crs; grind
    have e2 : zm_crs a b 0 d = a * d := by unfold zm_crs; grind
    rw [e1]
    rw [e2] at h4
    have hap : 0 < a := by
      rcases Int.lt_or_le 0 a with q | q
      · exact q
      · have a0 : a = 0 := by omega
        rw [a0] at h4; omega
    exact Int.mul_pos hap hf
theorem zm_crs_t2 {a b c d e f : Int} (h1 : zm_psv a b) (h2 : zm_psv c d) (h3 : zm_psv e f) (h4 : 0 ≤ zm_crs a b c d) (h5 : 0 < zm_crs c d e f) : 0 < zm_crs a b e f := by
  have ha : 0 ≤ a := by unfold zm_psv at h1; omega
  have he : 0 ≤ e := by unfold zm_psv at h3; omega
  rcases h2 with hc | ⟨hc, hd⟩
  · refine zm_pp_of hc ?_
    rw [zm_crs_x a b c d e f]
    have p1 := Int.mul_nonneg he h4; have p2 := Int.mul_nonneg ha (Int.le_of_lt h5)
    rcases h1 with q | ⟨q, hb⟩
    · have := Int.mul_pos q h5; omega
    · subst q
      have : zm_crs 0 b c d = -(b * c) := by unfold zm_crs; grind
      have := Int.mul_pos hb hc; omega
  · subst hc
    have : zm_crs 0 d e f = -(d * e) := by unfold zm_crs; grind
    have := Int.mul_nonneg (Int.le_of_lt hd) he; omega
/-- same direction -/
theorem zm_crs_dot {a b c d : Int} (h1 : zm_psv a b) (h2 : zm_psv c d) (h : zm_crs a b c d = 0) : 0 < a * c + b * d := by
  unfold zm_crs at h
  rcases h1 with ha | ⟨ha, hb⟩
  · have hs : 0 < a * a + b * b := by
      have := Int.mul_pos ha ha
      have := mul_self_nn b; omega
    have e : a * (a * c + b * d) = c * (a * a + b * b) := by grind
    have hc : 0 < c := by
      rcases h2 with q | ⟨q, hd⟩
      · exact q
      · subst q
        have := Int.mul_pos ha hd; omega
    refine zm_pp_of ha ?_
    rw [e]; exact Int.mul_pos hc hs
  · subst ha
    have hc : c = 0 := by
      rcases h2 with q | ⟨q, hd⟩
      · have := Int.mul_pos hb q; omega
      · exact q
    subst hc
    have hd : 0 < d := by unfold zm_psv at h2; omega
    have := Int.mul_pos hb hd; omega
/-! MATHEMATICS 2: sorting -/
def zm_llt (a b : Pt) : Prop := zm_psv (b.1 - a.1) (b.2 - a.2)
theorem zm_llt_t {a b c : Pt} (h1 : zm_llt a b) (h2 : zm_llt b c) : zm_llt a c := by unfold zm_llt zm_psv at *; omega
theorem zm_llt_irr {a : Pt} (h : zm_llt a a) : False := by unfold zm_llt zm_psv at h; omega
theorem zm_llt_as {a b : Pt} (h1 : zm_llt a b) (h2 : zm_llt b a) : False := zm_llt_irr (zm_llt_t h1 h2)
theorem zm_llt_tot {a b : Pt} (h : a ≠ b) : zm_llt a b ∨ zm_llt b a := by
  have : ¬ (a.1 = b.1 ∧ a.2 = b.2) := fun q => h (Prod.ext q.1 q.2)
  unfold zm_llt zm_psv; omega
theorem zm_llt_ne {a b : Pt} (h : zm_llt a b) : a ≠ b := fun e => by subst e; exact zm_llt_irr h
theorem zm_insAt_spec (P : List Pt) (q : Pt) (n : Nat) : (∀ i : Nat, insAt P q.1 q.2 n ≤ i → i < n → zm_llt q (pX P i, pY P i)) ∧ (insAt P q.1 q.2 n ≠ 0 → ¬ zm_llt q (pX P ((insAt P q.1 q.2 n - 1 : Nat) : Int), pY P ((insAt P q.1 q.2 n - 1 : Nat) : Int))) := by
  induction n with
  | zero => exact ⟨fun i _ h => absurd h (Nat.not_lt_zero _), fun h => absurd rfl h⟩
  | succ n ih =>
    unfold insAt
    split
    · next h =>
      refine ⟨fun i h1 h2 => ?_, ih.2⟩
      by_cases e : i = n
      · subst e; unfold zm_llt zm_psv; dsimp only; omega
      · exact ih.1 i h1 (by omega)
    · next h =>
      refine ⟨fun i h1 h2 => by omega, fun _ h2 => h ?_⟩
      rw [show n + 1 - 1 = n by omega] at h2
      unfold zm_llt zm_psv at h2; dsimp only at h2; omega
theorem zm_get_pt {P : List Pt} {i : Nat} {q : Pt} (h : P[i]? = some q) : (pX P i, pY P i) = q := by rw [pX_nat h, pY_nat h]
theorem zm_insS_mem (P : List Pt) (q r : Pt) : r ∈ insS P q ↔ r = q ∨ r ∈ P := by
  refine ⟨mem_insS, fun h => ?_⟩
  unfold insS
  rcases h with rfl | h
  · exact List.mem_append_right _ List.mem_cons_self
  · rw [← List.take_append_drop (insAt P q.1 q.2 P.length) P] at h
    rcases List.mem_append.mp h with h | h
    · exact List.mem_append_left _ h
    · exact List.mem_append_right _ (List.mem_cons_of_mem _ h)
theorem zm_insS_srt {P : List Pt} {q : Pt} (hP : P.Pairwise zm_llt) (zm_hq : q ∉ P) : (insS P q).Pairwise zm_llt := by
  obtain ⟨h1, h2⟩ := zm_insAt_spec P q P.length
  have hle := insAt_le P q.1 q.2 P.length
  unfold insS
  generalize insAt P q.1 q.2 P.length = k at *
  have hA : ∀ a ∈ P.take k, zm_llt a q := by
    intro a ha
    obtain ⟨i, hi⟩ := List.getElem?_of_mem ha
    have hik : i < k := by
      have := (List.getElem?_eq_some_iff.mp hi).1
      rw [List.length_take] at this; omega
    rw [List.getElem?_take, if_pos hik] at hi
    have hil : i < P.length := (List.getElem?_eq_some_iff.mp hi).1
    have hk1 : P[k - 1]? = some (P[k - 1]'(by omega)) := List.getElem?_eq_getElem (by omega)
    have hlast : zm_llt (P[k - 1]'(by omega)) q := by
      have := h2 (by omega)
      rw [zm_get_pt hk1] at this
      rcases zm_llt_tot (a := P[k - 1]'(by omega)) (b := q) (fun e => zm_hq (e ▸ List.mem_of_getElem? hk1)) with h | h
      · exact h
      · exact absurd h this
    by_cases e : i = k - 1
    · subst e; rw [hk1] at hi; cases hi; exact hlast
    · have := List.pairwise_iff_getElem.mp hP i (k - 1) hil (by omega) (by omega)
      rw [List.getElem?_eq_getElem hil] at hi; cases hi
      exact zm_llt_t this hlast
  have hB : ∀ b ∈ P.drop k, zm_llt q b := by
    intro b hb
    obtain ⟨i, hi⟩ := List.getElem?_of_mem hb
    rw [List.getElem?_drop] at hi
    have := h1 (k + i) (by omega) (List.getElem?_eq_some_iff.mp hi).1
    rw [zm_get_pt hi] at this; exact this
  rw [List.pairwise_append]
  refine ⟨hP.sublist (List.take_sublist _ _), ?_, ?_⟩
  · rw [List.pairwise_cons]; exact ⟨hB, hP.sublist (List.drop_sublist _ _)⟩
  · intro a ha b hb
    rcases List.mem_cons.mp hb with rfl | hb
    · exact hA a ha
    · exact zm_llt_t (hA a ha) (hB b hb)
theorem zm_fold_srt (l : List Pt) : ∀ z : List Pt, z.Pairwise zm_llt → l.Nodup → (∀ a ∈ l, a ∉ z) → (l.foldl insS z).Pairwise zm_llt ∧ ∀ r, r ∈ l.foldl insS z ↔ r ∈ l ∨ r ∈ z := by
  induction l with
  | nil => intro z hz _ _; exact ⟨hz, fun r => by simp⟩
  | cons x l ih =>
    intro z hz hl hd
    have hx := List.nodup_cons.mp hl
    have h1 := ih (insS z x) (zm_insS_srt hz (hd x List.mem_cons_self)) hx.2 (fun a ha h => by
      rcases (zm_insS_mem z x a).mp h with rfl | h
      · exact hx.1 ha
      · exact hd a (List.mem_cons_of_mem _ ha) h)
    refine ⟨h1.1, fun r => ?_⟩
    rw [List.foldl_cons, h1.2, zm_insS_mem, List.mem_cons]
    constructor
    · rintro (h | h | h)
      · exact Or.inl (Or.inr h)
      · exact Or.inl (Or.inl h)
      · exact Or.inr h
    · rintro ((h | h) | h)
      · exact Or.inr (Or.inl h)
      · exact Or.inl h
      · exact Or.inr (Or.inr h)
theorem zm_sortF_srt {Q : List Pt} (h : Q.Nodup) : (sortF Q).Pairwise zm_llt ∧ ∀ r, r ∈ sortF Q ↔ r ∈ Q := by
  have := zm_fold_srt Q [] List.Pairwise.nil h (fun _ _ h => by simp at h)
  refine ⟨this.1, fun r => ?_⟩
  unfold sortF; rw [this.2]; simp
