/-! MATHEMATICS 3: the chain -/
def zm_sgn1 (s : Int) : Prop := s = 1 ∨ s = -1
def zm_psS (s x y : Int) : Prop := zm_psv (s * x) (s * y)
def zm_tr3 (a b c : Pt) : Int := zm_crs (b.1 - a.1) (b.2 - a.2) (c.1 - a.1) (c.2 - a.2)
def zm_lsS (s : Int) (a b : Pt) : Prop := zm_psS s (b.1 - a.1) (b.2 - a.2)
theorem zm_crs_s {s : Int} (hs : zm_sgn1 s) (a b c d : Int) : zm_crs (s * a) (s * b) (s * c) (s * d) = zm_crs a b c d := by
  rcases hs with rfl | rfl <;> unfold zm_crs <;> grind
theorem zm_crs_st {s : Int} (hs : zm_sgn1 s) {a b c d e f : Int} (h1 : zm_psS s a b) (h2 : zm_psS s c d) (h3 : zm_psS s e f) (h4 : 0 ≤ zm_crs a b c d) (h5 : 0 ≤ zm_crs c d e f) : 0 ≤ zm_crs a b e f := by
  rw [← zm_crs_s hs] at h4 h5 ⊢; exact zm_crs_t h1 h2 h3 h4 h5
theorem zm_crs_st1 {s : Int} (hs : zm_sgn1 s) {a b c d e f : Int} (h1 : zm_psS s a b) (h2 : zm_psS s c d) (h3 : zm_psS s e f) (h4 : 0 < zm_crs a b c d) (h5 : 0 ≤ zm_crs c d e f) : 0 < zm_crs a b e f := by
  rw [← zm_crs_s hs] at h4 h5 ⊢; exact zm_crs_t1 h1 h2 h3 h4 h5
theorem zm_crs_st2 {s : Int} (hs : zm_sgn1 s) {a b c d e f : Int} (h1 : zm_psS s a b) (h2 : zm_psS s c d) (h3 : zm_psS s e f) (h4 : 0 ≤ zm_crs a b c d) (h5 : 0 < zm_crs c d e f) : 0 < zm_crs a b e f := by
  rw [← zm_crs_s hs] at h4 h5 ⊢; exact zm_crs_t2 h1 h2 h3 h4 h5
theorem zm_lsS_t {s : Int} (hs : zm_sgn1 s) {a b c : Pt} (h1 : zm_lsS s a b) (h2 : zm_lsS s b c) : zm_lsS s a c := by
  unfold zm_lsS zm_psS zm_psv at *; rcases hs with rfl | rfl <;> omega
theorem zm_lsS_irr {s : Int} (hs : zm_sgn1 s) {a : Pt} (h : zm_lsS s a a) : False := by
  unfold zm_lsS zm_psS zm_psv at h; rcases hs with rfl | rfl <;> omega
theorem zm_lsS_tot {s : Int} (hs : zm_sgn1 s) {a b : Pt} (h : a ≠ b) : zm_lsS s a b ∨ zm_lsS s b a := by
  have : ¬ (a.1 = b.1 ∧ a.2 = b.2) := fun q => h (Prod.ext q.1 q.2)
  unfold zm_lsS zm_psS zm_psv; rcases hs with rfl | rfl <;> omega
theorem zm_tr3_b (a b c : Pt) : zm_tr3 a b c = zm_crs (b.1 - a.1) (b.2 - a.2) (c.1 - b.1) (c.2 - b.2) := by unfold zm_tr3 zm_crs; grind
theorem zm_tr3_m (a b c : Pt) : zm_tr3 a b c = zm_crs (b.1 - c.1) (b.2 - c.2) (b.1 - a.1) (b.2 - a.2) := by unfold zm_tr3 zm_crs; grind
theorem zm_tr3_r (a b c : Pt) : zm_tr3 a b c = zm_crs (a.1 - c.1) (a.2 - c.2) (b.1 - a.1) (b.2 - a.2) := by unfold zm_tr3 zm_crs; grind
theorem zm_tr3_0 (a b : Pt) : zm_tr3 a b b = 0 ∧ zm_tr3 a b a = 0 ∧ zm_tr3 a a b = 0 := by unfold zm_tr3 zm_crs; grind
def zm_gP (P : List Pt) (i : Nat) : Pt := (pX P i, pY P i)
theorem zm_gP_e {P : List Pt} {i : Nat} {q : Pt} (h : P[i]? = some q) : zm_gP P i = q := zm_get_pt h
theorem zm_gP_m {P : List Pt} {i : Nat} (h : i < P.length) : zm_gP P i ∈ P := by
  have := List.getElem?_eq_getElem h
  rw [zm_gP_e this]; exact List.mem_of_getElem? this
theorem zm_gP_l {A B : List Pt} {i : Nat} (h : i < A.length) : zm_gP (A ++ B) i = zm_gP A i := by
  have h1 : A[i]? = some A[i] := List.getElem?_eq_getElem h
  rw [zm_gP_e h1, zm_gP_e (P := A ++ B) (q := A[i])]
  rw [List.getElem?_append_left h]; exact h1
theorem zm_gP_r {A B : List Pt} {i : Nat} (h : i < B.length) : zm_gP (A ++ B) (A.length + i) = zm_gP B i := by
  have h1 : B[i]? = some B[i] := List.getElem?_eq_getElem h
  rw [zm_gP_e h1, zm_gP_e (P := A ++ B) (q := B[i])]
  rw [List.getElem?_append_right (by omega), show A.length + i - A.length = i by omega]; exact h1
theorem zm_gP_t {P : List Pt} {m i : Nat} (h : i < m) (hm : m ≤ P.length) : zm_gP (P.take m) i = zm_gP P i := by
  have h1 : P[i]? = some (P[i]'(by omega)) := List.getElem?_eq_getElem (by omega)
  rw [zm_gP_e h1, zm_gP_e (P := P.take m) (q := P[i]'(by omega))]
  rw [List.getElem?_take, if_pos h]; exact h1
theorem zm_pT_tr (P : List Pt) (i j : Nat) (q : Pt) : pT P i j q.1 q.2 = zm_tr3 (zm_gP P i) (zm_gP P j) q := by unfold pT zm_tr3 zm_gP zm_crs; rfl
theorem zm_popTo_spec (P : List Pt) (q : Pt) : ∀ n : Nat, 1 ≤ n → 1 ≤ popTo P q.1 q.2 1 n ∧ popTo P q.1 q.2 1 n ≤ n ∧ (popTo P q.1 q.2 1 n < n → zm_tr3 (zm_gP P (popTo P q.1 q.2 1 n - 1)) (zm_gP P (popTo P q.1 q.2 1 n)) q ≤ 0) ∧ (1 < popTo P q.1 q.2 1 n → 0 < zm_tr3 (zm_gP P (popTo P q.1 q.2 1 n - 2)) (zm_gP P (popTo P q.1 q.2 1 n - 1)) q) := by
  intro n
  induction n with
  | zero => intro h; omega
  | succ n ih =>
    intro _
    unfold popTo
    split
    · next h =>
      obtain ⟨h1, h2, h3⟩ := h
      have hn : 1 ≤ n := by omega
      obtain ⟨a, b, c, d⟩ := ih hn
      refine ⟨a, by omega, fun _ => ?_, d⟩
      by_cases e : popTo P q.1 q.2 1 n < n
      · exact c e
      · have e2 : popTo P q.1 q.2 1 n = n := by omega
        rw [e2]
        rw [show (n : Int) - 1 = ((n - 1 : Nat) : Int) by omega, zm_pT_tr] at h3
        exact h3
    · next h =>
      refine ⟨by omega, by omega, fun h9 => by omega, fun h9 => ?_⟩
      rw [show n + 1 - 2 = n - 1 by omega, show n + 1 - 1 = n by omega, ← zm_pT_tr, show ((n - 1 : Nat) : Int) = (n : Int) - 1 by omega]
      omega
/-- P is the chain of l so far -/
def zm_chn (s : Int) (l P : List Pt) : Prop :=
  P.Pairwise (zm_lsS s) ∧ (∀ i, i + 2 < P.length → 0 < zm_tr3 (zm_gP P i) (zm_gP P (i + 1)) (zm_gP P (i + 2))) ∧ (∀ i, i + 1 < P.length → ∀ r ∈ l, 0 ≤ zm_tr3 (zm_gP P i) (zm_gP P (i + 1)) r) ∧ (∀ a ∈ P, a ∈ l) ∧ 1 ≤ P.length ∧ zm_gP P 0 = zm_gP l 0 ∧ zm_gP P (P.length - 1) = zm_gP l (l.length - 1) ∧ 1 ≤ l.length
theorem zm_srt_first {s : Int} (hs : zm_sgn1 s) {l : List Pt} (h : l.Pairwise (zm_lsS s)) {r : Pt} (hr : r ∈ l) : ¬ zm_lsS s r (zm_gP l 0) := by
  intro h9
  obtain ⟨i, hi⟩ := List.getElem?_of_mem hr
  have hil := (List.getElem?_eq_some_iff.mp hi).1
  have h0 : l[0]? = some (l[0]'(by omega)) := List.getElem?_eq_getElem (by omega)
  rw [zm_gP_e h0] at h9
  rw [List.getElem?_eq_getElem hil] at hi; cases hi
  by_cases e : i = 0
  · subst e; exact zm_lsS_irr hs h9
  · have := List.pairwise_iff_getElem.mp h 0 i (by omega) hil (by omega)
    exact zm_lsS_irr hs (zm_lsS_t hs h9 this)
theorem zm_srt_last {s : Int} (hs : zm_sgn1 s) {l : List Pt} (h : l.Pairwise (zm_lsS s)) {r : Pt} (hr : r ∈ l) : ¬ zm_lsS s (zm_gP l (l.length - 1)) r := by
  intro h9
  obtain ⟨i, hi⟩ := List.getElem?_of_mem hr
  have hil := (List.getElem?_eq_some_iff.mp hi).1
  have h0 : l[l.length - 1]? = some (l[l.length - 1]'(by omega)) := List.getElem?_eq_getElem (by omega)
  rw [zm_gP_e h0] at h9
  rw [List.getElem?_eq_getElem hil] at hi; cases hi
  by_cases e : i = l.length - 1
  · subst e; exact zm_lsS_irr hs h9
  · have := List.pairwise_iff_getElem.mp h i (l.length - 1) hil (by omega) (by omega)
    exact zm_lsS_irr hs (zm_lsS_t hs h9 this)
theorem zm_srt_g {s : Int} {l : List Pt} (h : l.Pairwise (zm_lsS s)) {i j : Nat} (hij : i < j) (hj : j < l.length) : zm_lsS s (zm_gP l i) (zm_gP l j) := by
  rw [zm_gP_e (List.getElem?_eq_getElem (show i < l.length by omega)), zm_gP_e (List.getElem?_eq_getElem hj)]
  exact List.pairwise_iff_getElem.mp h i j (by omega) hj hij
theorem zm_chn_add {s : Int} (hs : zm_sgn1 s) {l P : List Pt} {q : Pt} (hl : (l ++ [q]).Pairwise (zm_lsS s)) (h : zm_chn s l P) : zm_chn s (l ++ [q]) (addC 1 P q) := by
  obtain ⟨ha, hb, hc, hd, he, hf, hg, hn⟩ := h
  obtain ⟨m1, mn, mp, mx⟩ := zm_popTo_spec P q P.length he
  unfold addC
  generalize popTo P q.1 q.2 1 P.length = m at *
  have hlt : ∀ r ∈ l, zm_lsS s r q := fun r hr => (List.pairwise_append.mp hl).2.2 r hr q (List.mem_singleton.mpr rfl)
  have hl1 : l.Pairwise (zm_lsS s) := (List.pairwise_append.mp hl).1
  have lenT : (P.take m).length = m := by rw [List.length_take]; omega
  have len' : (P.take m ++ [q]).length = m + 1 := by rw [List.length_append, lenT]; rfl
  have gi : ∀ i, i < m → zm_gP (P.take m ++ [q]) i = zm_gP P i := fun i hi => by rw [zm_gP_l (by omega), zm_gP_t hi mn]
  have gm : zm_gP (P.take m ++ [q]) m = q := zm_gP_e (by rw [List.getElem?_append_right (by omega), lenT, Nat.sub_self]; rfl)
  have hPl : ∀ i, i < P.length → zm_gP P i ∈ l := fun i hi => hd _ (zm_gP_m hi)
  have zm_hq : ∀ j i, i + 2 + j = m → 0 ≤ zm_tr3 (zm_gP P i) (zm_gP P (i + 1)) q := by
    intro j
    induction j with
    | zero =>
      intro i hi
      have := mx (by omega)
      rw [show m - 2 = i by omega, show m - 1 = i + 1 by omega] at this
      omega
    | succ j ih =>
      intro i hi
      have h1 := hb i (by omega)
      have h2 := ih (i + 1) (by omega)
      rw [zm_tr3_b] at h1 ⊢
      have p1 := zm_srt_g ha (i := i) (j := i + 1) (by omega) (by omega)
      have p2 := zm_srt_g ha (i := i + 1) (j := i + 2) (by omega) (by omega)
      exact zm_crs_st hs p1 p2 (hlt _ (hPl (i + 1) (by omega))) (by omega) h2
  refine ⟨?_, ?_, ?_, ?_, by omega, ?_, ?_, by rw [List.length_append]; simp⟩
  · rw [List.pairwise_append]
    refine ⟨ha.sublist (List.take_sublist _ _), by simp, fun a h1 b h2 => ?_⟩
    rw [List.mem_singleton.mp h2]; exact hlt _ (hd _ (List.mem_of_mem_take h1))
  · intro i hi
    rw [gi i (by omega), gi (i + 1) (by omega)]
    by_cases e : i + 2 = m
    · rw [e, gm]
      have := mx (by omega)
      rw [show m - 2 = i by omega, show m - 1 = i + 1 by omega] at this
      exact this
    · rw [gi (i + 2) (by omega)]; exact hb i (by omega)
  · intro i hi r hr
    by_cases e : i + 1 = m
    · rw [gi i (by omega), e, gm]
      rcases List.mem_append.mp hr with hr | hr
      · by_cases e2 : r = zm_gP P i
        · rw [e2]; have := (zm_tr3_0 (zm_gP P i) q).2.1; omega
        rcases zm_lsS_tot hs e2 with o | o
        · by_cases e3 : i = 0
          · subst e3; rw [hf] at o; exact absurd o (zm_srt_first hs hl1 hr)
          · have h1 := hc (i - 1) (by omega) r hr
            rw [show i - 1 + 1 = i by omega] at h1
            have h2 := mx (by omega)
            rw [show m - 2 = i - 1 by omega, show m - 1 = i by omega] at h2
            rw [zm_tr3_m] at h1; rw [zm_tr3_b] at h2
            rw [zm_tr3_r]
            have p2 := zm_srt_g ha (i := i - 1) (j := i) (by omega) (by omega)
            exact zm_crs_st hs o p2 (hlt _ (hPl i (by omega))) h1 (by omega)
        · have hml : m < P.length := by
            by_cases e4 : m = P.length
            · rw [show i = P.length - 1 by omega, hg] at o
              exact absurd o (zm_srt_last hs hl1 hr)
            · omega
          have h1 := mp hml
          rw [show m - 1 = i by omega] at h1
          have h2 := hc i (by omega) r hr
          rw [e] at h2
          have p1 := zm_srt_g ha (i := i) (j := m) (by omega) (by omega)
          have h3 : 0 ≤ zm_crs (q.1 - (zm_gP P i).1) (q.2 - (zm_gP P i).2) ((zm_gP P m).1 - (zm_gP P i).1) ((zm_gP P m).2 - (zm_gP P i).2) := by
            rw [zm_crs_anti]; unfold zm_tr3 at h1; omega
          exact zm_crs_st hs (hlt _ (hPl i (by omega))) p1 o h3 h2
      · rw [List.mem_singleton.mp hr]; have := (zm_tr3_0 (zm_gP P i) q).1; omega
    · rw [gi i (by omega), gi (i + 1) (by omega)]
      rcases List.mem_append.mp hr with hr | hr
      · exact hc i (by omega) r hr
      · rw [List.mem_singleton.mp hr]; exact zm_hq (m - 2 - i) i (by omega)
  · intro a h1
    rcases List.mem_append.mp h1 with h1 | h1
    · exact List.mem_append_left _ (hd _ (List.mem_of_mem_take h1))
    · exact List.mem_append_right _ h1
  · rw [gi 0 (by omega), hf, zm_gP_l (by omega)]
  · rw [len', show m + 1 - 1 = m by omega, gm, List.length_append]
    show q = _
    rw [show l.length + [q].length - 1 = l.length + 0 by simp, zm_gP_r (by simp)]; rfl
theorem zm_chn_fold {s : Int} (hs : zm_sgn1 s) (l2 : List Pt) : ∀ l1 P : List Pt, (l1 ++ l2).Pairwise (zm_lsS s) → zm_chn s l1 P → zm_chn s (l1 ++ l2) (l2.foldl (addC 1) P) := by
  induction l2 with
  | nil => intro l1 P _ h; simpa using h
  | cons q l2 ih =>
    intro l1 P hl h
    have hl' : (l1 ++ [q] ++ l2).Pairwise (zm_lsS s) := by simpa using hl
    have := ih (l1 ++ [q]) (addC 1 P q) hl' (zm_chn_add hs (hl'.sublist (List.sublist_append_left _ _)) h)
    simpa using this
theorem zm_addC_nil (k : Int) (q : Pt) : addC k [] q = [q] := by unfold addC; simp
theorem zm_low_chn {s : Int} (hs : zm_sgn1 s) {l : List Pt} (hl : l.Pairwise (zm_lsS s)) (h0 : l ≠ []) : zm_chn s l (lowF l) := by
  obtain ⟨a, l2, rfl⟩ : ∃ a l2, l = a :: l2 := by
    cases l with
    | nil => exact absurd rfl h0
    | cons a l2 => exact ⟨a, l2, rfl⟩
  unfold lowF
  rw [List.foldl_cons, zm_addC_nil]
  have : zm_chn s [a] [a] := ⟨by simp, fun i hi => by simp at hi, fun i hi => by simp at hi, fun _ h => h, by simp, rfl, rfl, by simp⟩
  exact zm_chn_fold hs l2 [a] [a] hl this
