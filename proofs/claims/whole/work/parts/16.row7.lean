/-! ROWS: becomeHull -/
def sgm (s : Int) (q : Pt) : Pt := (s * q.1, s * q.2)
def sortF (Q : List Pt) : List Pt := Q.foldl insS []
def lowF (S : List Pt) : List Pt := S.foldl (addC 1) []
def uppF (S : List Pt) : List Pt := S.dropLast.reverse.foldl (addC ((lowF S).length : Int)) (lowF S)
def hullF (Q : List Pt) : List Pt := if 1 < (uppF (sortF Q)).length then (uppF (sortF Q)).dropLast else uppF (sortF Q)
def bq (B : Int) (q : Pt) : Prop := -B ≤ q.1 ∧ q.1 ≤ B ∧ -B ≤ q.2 ∧ q.2 ≤ B
def pbl (B : Int) (P : List Pt) : Prop := ∀ q ∈ P, bq B q
theorem pb_of {B : Int} {P : List Pt} (h0 : 0 ≤ B) (h : pbl B P) : pb B P := by
  intro i
  by_cases h1 : 0 ≤ i ∧ i < P.length
  · obtain ⟨k, q, e, hq, ex, ey⟩ := px_get h1.1 h1.2
    rw [ex, ey]; exact h q (List.mem_of_getElem? hq)
  · by_cases h2 : i < 0
    · rw [pX_neg h2, pY_neg h2]; omega
    · rw [pX_big (by omega), pY_big (by omega)]; omega
theorem sg_b {s z B : Int} (hs : s = 1 ∨ s = -1) (h : -B ≤ z ∧ z ≤ B) : -B ≤ s * z ∧ s * z ≤ B := by
  rcases hs with rfl | rfl <;> omega
theorem mem_insS {P : List Pt} {q r : Pt} (h : r ∈ insS P q) : r = q ∨ r ∈ P := by
  unfold insS at h
  rcases List.mem_append.mp h with h | h
  · exact Or.inr (List.mem_of_mem_take h)
  · rcases List.mem_cons.mp h with h | h
    · exact Or.inl h
    · exact Or.inr (List.mem_of_mem_drop h)
theorem mem_addC {k : Int} {P : List Pt} {q r : Pt} (h : r ∈ addC k P q) : r = q ∨ r ∈ P := by
  unfold addC at h
  rcases List.mem_append.mp h with h | h
  · exact Or.inr (List.mem_of_mem_take h)
  · exact Or.inl (List.mem_singleton.mp h)
theorem mem_fold {g : List Pt → Pt → List Pt} (hg : ∀ P q r, r ∈ g P q → r = q ∨ r ∈ P) (l : List Pt) : ∀ (z : List Pt) (r : Pt), r ∈ l.foldl g z → r ∈ l ∨ r ∈ z := by
  induction l with
  | nil => exact fun z r h => Or.inr h
  | cons x l ih =>
    intro z r h
    rcases ih (g z x) r h with h | h
    · exact Or.inl (List.mem_cons_of_mem _ h)
    · rcases hg _ _ _ h with h | h
      · exact Or.inl (by rw [h]; exact List.mem_cons_self)
      · exact Or.inr h
theorem pbl_fold {B : Int} {g : List Pt → Pt → List Pt} (hg : ∀ P q r, r ∈ g P q → r = q ∨ r ∈ P) {l z : List Pt} (hl : pbl B l) (hz : pbl B z) : pbl B (l.foldl g z) := fun r h => (mem_fold hg l z r h).elim (hl r) (hz r)
theorem pbl_take {B : Int} {l : List Pt} (h : pbl B l) (n : Nat) : pbl B (l.take n) := fun r q => h r (List.mem_of_mem_take q)
theorem fold_len {g : List Pt → Pt → List Pt} (hg : ∀ P q, (g P q).length ≤ P.length + 1) (l : List Pt) : ∀ z : List Pt, (l.foldl g z).length ≤ z.length + l.length := by
  induction l with
  | nil => exact fun z => Nat.le_refl _
  | cons x l ih =>
    intro z
    have h1 := ih (g z x); have h2 := hg z x
    simp only [List.foldl_cons, List.length_cons]; omega
theorem fold_ins_len (l : List Pt) : ∀ z : List Pt, (l.foldl insS z).length = z.length + l.length := by
  induction l with
  | nil => exact fun z => rfl
  | cons x l ih => intro z; rw [List.foldl_cons, ih, insS_len, List.length_cons]; omega
theorem sortF_len (Q : List Pt) : (sortF Q).length = Q.length := by unfold sortF; rw [fold_ins_len]; simp
theorem fold_take {g : List Pt → Pt → List Pt} {l z : List Pt} {i : Nat} {x : Pt} (h : l[i]? = some x) : (l.take (i + 1)).foldl g z = g ((l.take i).foldl g z) x := by
  rw [List.take_add_one, h, List.foldl_append]; rfl
theorem pbl_sgm {B s : Int} {P : List Pt} (hs : s = 1 ∨ s = -1) (h : pbl B P) : pbl B (P.map (sgm s)) := by
  intro r hr
  obtain ⟨q, hq, rfl⟩ := List.mem_map.mp hr
  have := h q hq
  have h1 := sg_b hs (z := q.1) (B := B) ⟨this.1, this.2.1⟩
  have h2 := sg_b hs (z := q.2) (B := B) ⟨this.2.2.1, this.2.2.2⟩
  exact ⟨h1.1, h1.2, h2.1, h2.2⟩
theorem rev_at {S : List Pt} {j : Int} (h0 : 0 ≤ j) (h1 : j ≤ S.length - 2) : S.dropLast.reverse[((S.length : Int) - 2 - j).toNat]? = S[j.toNat]? := by
  have hl : S.dropLast.length = S.length - 1 := List.length_dropLast
  rw [List.getElem?_reverse (by omega), List.getElem?_dropLast, if_pos (by omega), hl]
  congr 1
  omega
def chg2 (rx ry : Nat → Nat) (a c : Nat) (f g : Nat → va_E) : Prop := ∀ q, q ≠ a → q ≠ rx a → q ≠ ry a → q ≠ c → q ≠ rx c → q ≠ ry c → g q = f q

set_option maxHeartbeats 4000000 in
set_option maxRecDepth 100000 in
theorem c_R_becomeHull (l : Launch) {D : va_G} {cI cR : ClassId} {L : List Nat} {f : Nat → va_E} {rx ry : Nat → Nat} {a b c : Nat} {A P C : List Pt} (hoa : ro L rx ry a) (hob : ro L rx ry b) (hoc : ro L rx ry c) (hab : rd rx ry a b) (hac : rd rx ry a c) (hbc : rd rx ry b c) (hra : rowIs cI rx ry f a A) (hrb : rowIs cI rx ry f b P) (hrc : rowIs cI rx ry f c C) (hP : pbl 600 P) (hP24 : P.length ≤ 24) {sg : Int} (hsg : sg = 1 ∨ sg = -1) : gMv D cI cR l y_R_becomeHull (Cond.code y_R_becomeHull b_R_becomeHull 6 none :: lw_g) { frames := 3, cells := 0, slots := 0, locals := 68 } [.ref a, .ref b, .int (iN (sg)), .ref c] L f (fun u => ∃ g, u = (L, g) ∧ rowIs cI rx ry g a (hullF (P.map (sgm sg))) ∧ rowIs cI rx ry g c (sortF (P.map (sgm sg))) ∧ chg2 rx ry a c f g) := by
  intro sz
  refine g_enter (by decide) rfl (Nat.le_of_ble_eq_true rfl) ?_
  intro p e s m below meth cd ls X hrt hlk hnm hl hsz w
  have X : gx p m cd b_R_becomeHull 6 s _ "HullSums$Row" D cI cR := X
  have hx := X.1.1
  have hb := X.1.2.1
  have hl : lv_has ls 6 [(0, .ref a), (1, .ref b), (2, .int (iN (sg))), (3, .ref c)] := hl
  have hn24 := hP24
  have hBP := pb_of (by decide) hP
  have hQ := pbl_sgm hsg hP
  have hQl : (P.map (sgm sg)).length = P.length := List.length_map _
  have hSl := sortF_len (P.map (sgm sg))
  have hS : pbl 600 (sortF (P.map (sgm sg))) := pbl_fold (fun _ _ _ h => mem_insS h) hQ (fun _ h => by simp at h)
  have hBS := pb_of (by decide) hS
  generalize hSe : sortF (P.map (sgm sg)) = S at hSl hS hBS
  refine lv_aload_n hx hb d_R_becomeHull_0 rfl (lv_at hl 3 rfl) ?_
  refine g_cv w (g_runV (As := []) (rest := []) X w (c_R_empty l hoc hrc) k_R_empty v_R_empty lk_R_33 hoc.1 hrc.2.1 rfl ⟨(Nat.le_of_ble_eq_true rfl), (Nat.le_of_ble_eq_true rfl)⟩ rfl hl.1 rfl (Nat.le_of_ble_eq_true rfl) d_R_becomeHull_1 ⟨(Nat.le_of_ble_eq_true rfl), (Nat.le_of_ble_eq_true rfl)⟩) (fun u H locs hp w => ?_)
  obtain ⟨g1x, rfl, hn1, hk1⟩ := hp
  have w : gw D (gA L sz) s.heap H locs L g1x := w
  have ha1 := rowIs_keep hac hk1 hra
  have hb1 := rowIs_keep hbc hk1 hrb
  refine lv_iconst (v := iN (0)) hx hb d_R_becomeHull_4 (by decide) ?_
  refine lv_istore (lv' := [(4, .int (iN (0))), (0, .ref a), (1, .ref b), (2, .int (iN (sg))), (3, .ref c)]) hx hb d_R_becomeHull_5 hl (by decide) rfl (fun ls hl => ?_)
  refine g_loop (σ := Int × (Nat → va_E)) (fun z9 => (P.length - z9.1).toNat) (fun z9 => [(0, .ref a), (1, .ref b), (2, .int (iN (sg))), (3, .ref c), (4, .int (iN (z9.1)))]) L (fun z9 => z9.2) (fun z9 => 0 ≤ z9.1 ∧ z9.1 ≤ P.length ∧ rowIs cI rx ry z9.2 c (((P.map (sgm sg)).take z9.1.toNat).foldl insS []) ∧ rowIs cI rx ry z9.2 b P ∧ rowIs cI rx ry z9.2 a A ∧ chg rx ry c f z9.2) ?_ (0, g1x) _ _ _ ⟨by omega, by omega, hn1, hb1, ha1, hk1⟩ w (lv_sub hl [1, 2, 3, 4, 0] rfl)
  intro z9 H locs ls hI w hl ih
  obtain ⟨i, g⟩ := z9
  have hl : lv_has ls 6 [(0, .ref a), (1, .ref b), (2, .int (iN (sg))), (3, .ref c), (4, .int (iN (i)))] := hl
  have w : gw D (gA L sz) s.heap H locs L (g) := w
  have hI : 0 ≤ i ∧ i ≤ P.length ∧ rowIs cI rx ry g c (((P.map (sgm sg)).take i.toNat).foldl insS []) ∧ rowIs cI rx ry g b P ∧ rowIs cI rx ry g a A ∧ chg rx ry c f g := hI
  obtain ⟨h0, h1, hc, hb9, ha, hch⟩ := hI
  have hle : (((P.map (sgm sg)).take i.toNat).foldl insS []).length = i.toNat := by rw [fold_ins_len, List.length_take]; simp; omega
  have hBC : pb 600 (((P.map (sgm sg)).take i.toNat).foldl insS []) := pb_of (by decide) (pbl_fold (fun _ _ _ h => mem_insS h) (pbl_take hQ _) (fun _ h => by simp at h))
  refine lv_iload hx hb d_R_becomeHull_7 (lv_at hl 4 rfl) ?_
  refine lv_aload_n hx hb d_R_becomeHull_9 rfl (lv_at hl 1 rfl) ?_
  refine g_ci w (g_runV (As := []) (rest := [.int (iN (i))]) X w (c_R_size l hob hb9) k_R_size v_R_size lk_R_36 hob.1 hb9.2.1 rfl ⟨(Nat.le_of_ble_eq_true rfl), (Nat.le_of_ble_eq_true rfl)⟩ rfl hl.1 rfl (Nat.le_of_ble_eq_true rfl) d_R_becomeHull_10 ⟨Nat.zero_le _, Nat.zero_le _⟩) (fun r u H locs hp w => ?_)
  obtain ⟨rfl, rfl⟩ := hp
  have w : gw D (gA L sz) s.heap H locs L g := w
  refine ri_cge (a := i) (b := (P.length : Int)) (tgt := 42) hx hb d_R_becomeHull_13 (by decide) rfl rfl (by unfold i3; omega) (by unfold i3; omega) (fun c13 => ?_) (fun c13 => ?_)
  · skip
    have hcS : rowIs cI rx ry g c S := by rw [← hSe]; rw [show i.toNat = (P.map (sgm sg)).length by omega, List.take_length] at hc; exact hc
    refine lv_aload_n hx hb d_R_becomeHull_42 rfl (lv_at hl 0 rfl) ?_
    refine g_cv w (g_runV (As := []) (rest := []) X w (c_R_empty l hoa ha) k_R_empty v_R_empty lk_R_33 hoa.1 ha.2.1 rfl ⟨(Nat.le_of_ble_eq_true rfl), (Nat.le_of_ble_eq_true rfl)⟩ rfl hl.1 rfl (Nat.le_of_ble_eq_true rfl) d_R_becomeHull_43 ⟨(Nat.le_of_ble_eq_true rfl), (Nat.le_of_ble_eq_true rfl)⟩) (fun u H locs hp w => ?_)
    obtain ⟨g2x, rfl, hn2, hk2⟩ := hp
    have w : gw D (gA L sz) s.heap H locs L g2x := w
    have hb2 := rowIs_keep hab.symm hk2 hb9
    have hc2 := rowIs_keep hac.symm hk2 hcS
    refine lv_iconst (v := iN (0)) hx hb d_R_becomeHull_46 (by decide) ?_
    refine lv_istore (lv' := [(4, .int (iN (0))), (0, .ref a), (1, .ref b), (2, .int (iN (sg))), (3, .ref c)]) hx hb d_R_becomeHull_47 hl (by decide) rfl (fun ls hl => ?_)
    refine g_loop (σ := Int × (Nat → va_E)) (fun z9 => (S.length - z9.1).toNat) (fun z9 => [(0, .ref a), (1, .ref b), (2, .int (iN (sg))), (3, .ref c), (4, .int (iN (z9.1)))]) L (fun z9 => z9.2) (fun z9 => 0 ≤ z9.1 ∧ z9.1 ≤ S.length ∧ rowIs cI rx ry z9.2 a ((S.take z9.1.toNat).foldl (addC 1) []) ∧ rowIs cI rx ry z9.2 b P ∧ rowIs cI rx ry z9.2 c S ∧ chg2 rx ry a c f z9.2) ?_ (0, g2x) _ _ _ ⟨by omega, by omega, hn2, hb2, hc2, fun q q1 q2 q3 q4 q5 q6 => (hk2 q q1 q2 q3).trans (hch q q4 q5 q6)⟩ w (lv_sub hl [1, 2, 3, 4, 0] rfl)
    intro z9 H locs ls hI w hl ih
    obtain ⟨i, g⟩ := z9
    have hl : lv_has ls 6 [(0, .ref a), (1, .ref b), (2, .int (iN (sg))), (3, .ref c), (4, .int (iN (i)))] := hl
    have w : gw D (gA L sz) s.heap H locs L (g) := w
    have hI : 0 ≤ i ∧ i ≤ S.length ∧ rowIs cI rx ry g a ((S.take i.toNat).foldl (addC 1) []) ∧ rowIs cI rx ry g b P ∧ rowIs cI rx ry g c S ∧ chg2 rx ry a c f g := hI
    obtain ⟨h0, h1, ha, hb9, hc, hch⟩ := hI
    have hle : ((S.take i.toNat).foldl (addC 1) []).length ≤ i.toNat := by have := fold_len (g := addC 1) (fun _ _ => addC_len _ _ _) (S.take i.toNat) []; simp at this; omega
    have hBA : pb 600 ((S.take i.toNat).foldl (addC 1) []) := pb_of (by decide) (pbl_fold (fun _ _ _ h => mem_addC h) (pbl_take hS _) (fun _ h => by simp at h))
    refine lv_iload hx hb d_R_becomeHull_49 (lv_at hl 4 rfl) ?_
    refine lv_aload_n hx hb d_R_becomeHull_51 rfl (lv_at hl 3 rfl) ?_
    refine g_ci w (g_runV (As := []) (rest := [.int (iN (i))]) X w (c_R_size l hoc hc) k_R_size v_R_size lk_R_36 hoc.1 hc.2.1 rfl ⟨(Nat.le_of_ble_eq_true rfl), (Nat.le_of_ble_eq_true rfl)⟩ rfl hl.1 rfl (Nat.le_of_ble_eq_true rfl) d_R_becomeHull_52 ⟨Nat.zero_le _, Nat.zero_le _⟩) (fun r u H locs hp w => ?_)
    obtain ⟨rfl, rfl⟩ := hp
    have w : gw D (gA L sz) s.heap H locs L g := w
    refine ri_cge (a := i) (b := (S.length : Int)) (tgt := 81) hx hb d_R_becomeHull_55 (by decide) rfl rfl (by unfold i3; omega) (by unfold i3; omega) (fun c55 => ?_) (fun c55 => ?_)
    · skip
      have haL : rowIs cI rx ry g a (lowF S) := by unfold lowF; rw [show i.toNat = S.length by omega, List.take_length] at ha; exact ha
      have hlL : (lowF S).length ≤ S.length := by have := fold_len (g := addC 1) (fun _ _ => addC_len _ _ _) S []; simp at this; exact this
      have hLb : pbl 600 (lowF S) := pbl_fold (fun _ _ _ h => mem_addC h) hS (fun _ h => by simp at h)
      refine lv_aload_n hx hb d_R_becomeHull_81 rfl (lv_at hl 0 rfl) ?_
      refine gk_get X w hoa.1 haL.2.1 rfl in_R 2 (by decide) lk_R_18 rfl d_R_becomeHull_82 ?_
      refine lv_istore (lv' := [(4, .int (iN (((lowF S).length : Int)))), (0, .ref a), (1, .ref b), (2, .int (iN (sg))), (3, .ref c)]) hx hb d_R_becomeHull_85 hl (by decide) rfl (fun ls hl => ?_)
      refine lv_aload_n hx hb d_R_becomeHull_87 rfl (lv_at hl 4 rfl) ?_
      refine g_ci w (g_runV (As := []) (rest := []) X w (c_R_size l hoc hc) k_R_size v_R_size lk_R_36 hoc.1 hc.2.1 rfl ⟨(Nat.le_of_ble_eq_true rfl), (Nat.le_of_ble_eq_true rfl)⟩ rfl hl.1 rfl (Nat.le_of_ble_eq_true rfl) d_R_becomeHull_88 ⟨Nat.zero_le _, Nat.zero_le _⟩) (fun r u H locs hp w => ?_)
      obtain ⟨rfl, rfl⟩ := hp
      have w : gw D (gA L sz) s.heap H locs L g := w
      refine lv_iconst (v := iN (2)) hx hb d_R_becomeHull_91 (by decide) ?_
      refine ri_sub (a := (S.length : Int)) (b := 2) hx hb d_R_becomeHull_92 rfl rfl ?_
      refine lv_istore (lv' := [(5, .int (iN (((S.length : Int) - 2)))), (4, .int (iN (((lowF S).length : Int)))), (0, .ref a), (1, .ref b), (2, .int (iN (sg))), (3, .ref c)]) hx hb d_R_becomeHull_93 hl (by decide) rfl (fun ls hl => ?_)
      refine g_loop (σ := Int × (Nat → va_E)) (fun z9 => (z9.1 + 3).toNat) (fun z9 => [(0, .ref a), (1, .ref b), (2, .int (iN (sg))), (3, .ref c), (4, .int (iN (((lowF S).length : Int)))), (5, .int (iN (z9.1)))]) L (fun z9 => z9.2) (fun z9 => -2 ≤ z9.1 ∧ z9.1 ≤ (S.length : Int) - 2 ∧ (z9.1 = -2 → S.length = 0) ∧ rowIs cI rx ry z9.2 a ((S.dropLast.reverse.take ((S.length : Int) - 2 - z9.1).toNat).foldl (addC ((lowF S).length : Int)) (lowF S)) ∧ rowIs cI rx ry z9.2 b P ∧ rowIs cI rx ry z9.2 c S ∧ chg2 rx ry a c f z9.2) ?_ (((S.length : Int) - 2), g) _ _ _ ⟨by omega, by omega, fun h => by omega, by rw [show ((S.length : Int) - 2 - ((S.length : Int) - 2)).toNat = 0 by omega]; exact haL, hb9, hc, hch⟩ w (lv_sub hl [2, 3, 4, 5, 1, 0] rfl)
      intro z9 H locs ls hI w hl ih
      obtain ⟨j, g⟩ := z9
      have hl : lv_has ls 6 [(0, .ref a), (1, .ref b), (2, .int (iN (sg))), (3, .ref c), (4, .int (iN (((lowF S).length : Int)))), (5, .int (iN (j)))] := hl
      have w : gw D (gA L sz) s.heap H locs L (g) := w
      have hI : -2 ≤ j ∧ j ≤ (S.length : Int) - 2 ∧ (j = -2 → S.length = 0) ∧ rowIs cI rx ry g a ((S.dropLast.reverse.take ((S.length : Int) - 2 - j).toNat).foldl (addC ((lowF S).length : Int)) (lowF S)) ∧ rowIs cI rx ry g b P ∧ rowIs cI rx ry g c S ∧ chg2 rx ry a c f g := hI
      obtain ⟨h0, h1, hz, ha, hb9, hc, hch⟩ := hI
      have hle : ((S.dropLast.reverse.take ((S.length : Int) - 2 - j).toNat).foldl (addC ((lowF S).length : Int)) (lowF S)).length ≤ (lowF S).length + ((S.length : Int) - 2 - j).toNat := by have := fold_len (g := addC ((lowF S).length : Int)) (fun _ _ => addC_len _ _ _) (S.dropLast.reverse.take ((S.length : Int) - 2 - j).toNat) (lowF S); rw [List.length_take] at this; omega
      have hBA : pb 600 ((S.dropLast.reverse.take ((S.length : Int) - 2 - j).toNat).foldl (addC ((lowF S).length : Int)) (lowF S)) := pb_of (by decide) (pbl_fold (fun _ _ _ h => mem_addC h) (pbl_take (fun q hq => hS q (List.dropLast_subset S (List.mem_reverse.mp hq))) _) hLb)
      refine lv_iload hx hb d_R_becomeHull_95 (lv_at hl 5 rfl) ?_
      refine ri_zlt (a := j) (tgt := 124) hx hb d_R_becomeHull_97 (by decide) rfl (by unfold i3; omega) (fun c97 => ?_) (fun c97 => ?_)
      · skip
        have haU : rowIs cI rx ry g a (uppF S) := by
          unfold uppF
          rw [List.take_of_length_le (by rw [List.length_reverse, List.length_dropLast]; omega)] at ha; exact ha
        have hBU := hBA
        refine lv_aload_n hx hb d_R_becomeHull_124 rfl (lv_at hl 0 rfl) ?_
        refine gk_get X w hoa.1 haU.2.1 rfl in_R 2 (by decide) lk_R_18 rfl d_R_becomeHull_125 ?_
        refine lv_iconst (v := iN (1)) hx hb d_R_becomeHull_128 (by decide) ?_
        refine ri_cle (a := ((uppF S).length : Int)) (b := 1) (tgt := 136) hx hb d_R_becomeHull_129 (by decide) rfl rfl (by have := haU.1; unfold i3; omega) (by unfold i3; omega) (fun c129 => ?_) (fun c129 => ?_)
        · skip
          exact g_vret X w hrt hlk d_R_becomeHull_136 ⟨g, rfl, by unfold hullF; rw [hSe, if_neg (by omega)]; exact haU, hc, hch⟩
        · skip
          refine lv_aload_n hx hb d_R_becomeHull_132 rfl (lv_at hl 0 rfl) ?_
          refine g_cv w (g_runV (As := []) (rest := []) X w (c_R_dropLast l hoa haU) k_R_dropLast v_R_dropLast lk_R_47 hoa.1 haU.2.1 rfl ⟨(Nat.le_of_ble_eq_true rfl), (Nat.le_of_ble_eq_true rfl)⟩ rfl hl.1 rfl (Nat.le_of_ble_eq_true rfl) d_R_becomeHull_133 ⟨(Nat.le_of_ble_eq_true rfl), (Nat.le_of_ble_eq_true rfl)⟩) (fun u H locs hp w => ?_)
          obtain ⟨g3x, rfl, hn3, hk3⟩ := hp
          have w : gw D (gA L sz) s.heap H locs L g3x := w
          have hb3 := rowIs_keep hab.symm hk3 hb9
          have hc3 := rowIs_keep hac.symm hk3 hc
          exact g_vret X w hrt hlk d_R_becomeHull_136 ⟨_, rfl, by unfold hullF; rw [hSe, if_pos (by omega)]; exact hn3, hc3, fun q q1 q2 q3 q4 q5 q6 => (hk3 q q1 q2 q3).trans (hch q q1 q2 q3 q4 q5 q6)⟩
      · skip
        obtain ⟨ki, qi, eki, hqi0, exi, eyi⟩ := px_get (P := S) (i := j) (by omega) (by omega)
        have hsj : S.dropLast.reverse[((S.length : Int) - 2 - j).toNat]? = some (pX S j, pY S j) := by rw [rev_at (by omega) h1, show j.toNat = ki by omega, hqi0, exi, eyi]
        refine lv_aload_n hx hb d_R_becomeHull_100 rfl (lv_at hl 0 rfl) ?_
        refine lv_aload_n hx hb d_R_becomeHull_101 rfl (lv_at hl 3 rfl) ?_
        refine lv_iload hx hb d_R_becomeHull_102 (lv_at hl 5 rfl) ?_
        refine g_ci w (g_runV (As := [.int (iN (j))]) (rest := [.ref a]) X w (c_R_x l hoc hc (by unfold i3; omega)) k_R_x v_R_x lk_R_22 hoc.1 hc.2.1 rfl ⟨(Nat.le_of_ble_eq_true rfl), (Nat.le_of_ble_eq_true rfl)⟩ rfl hl.1 rfl (Nat.le_of_ble_eq_true rfl) d_R_becomeHull_104 ⟨Nat.zero_le _, Nat.zero_le _⟩) (fun r u H locs hp w => ?_)
        obtain ⟨rfl, rfl⟩ := hp
        have w : gw D (gA L sz) s.heap H locs L g := w
        refine lv_aload_n hx hb d_R_becomeHull_107 rfl (lv_at hl 3 rfl) ?_
        refine lv_iload hx hb d_R_becomeHull_108 (lv_at hl 5 rfl) ?_
        refine g_ci w (g_runV (As := [.int (iN (j))]) (rest := [.int (iN ((pX S j))), .ref a]) X w (c_R_y l hoc hc (by unfold i3; omega)) k_R_y v_R_y lk_R_26 hoc.1 hc.2.1 rfl ⟨(Nat.le_of_ble_eq_true rfl), (Nat.le_of_ble_eq_true rfl)⟩ rfl hl.1 rfl (Nat.le_of_ble_eq_true rfl) d_R_becomeHull_110 ⟨Nat.zero_le _, Nat.zero_le _⟩) (fun r u H locs hp w => ?_)
        obtain ⟨rfl, rfl⟩ := hp
        have w : gw D (gA L sz) s.heap H locs L g := w
        refine lv_iload hx hb d_R_becomeHull_113 (lv_at hl 4 rfl) ?_
        refine g_cv w (g_runV (As := [.int (iN ((pX S j))), .int (iN ((pY S j))), .int (iN (((lowF S).length : Int)))]) (rest := []) X w (c_R_addCorner l hoa ha (by omega) (x := pX S j) (y := pY S j) (by unfold i3; omega) hBA (by have := hBS j; omega) (by have := hBS j; omega)) k_R_addCorner v_R_addCorner lk_R_43 hoa.1 ha.2.1 rfl ⟨(Nat.le_of_ble_eq_true rfl), (Nat.le_of_ble_eq_true rfl)⟩ rfl hl.1 rfl (Nat.le_of_ble_eq_true rfl) d_R_becomeHull_115 ⟨(Nat.le_of_ble_eq_true rfl), (Nat.le_of_ble_eq_true rfl)⟩) (fun u H locs hp w => ?_)
        obtain ⟨g4x, rfl, hn4, hk4⟩ := hp
        have w : gw D (gA L sz) s.heap H locs L g4x := w
        have hb4 := rowIs_keep hab.symm hk4 hb9
        have hc4 := rowIs_keep hac.symm hk4 hc
        refine lv_iinc (v := iN ((j - 1))) (lv' := [(5, .int (iN ((j - 1)))), (0, .ref a), (1, .ref b), (2, .int (iN (sg))), (3, .ref c), (4, .int (iN (((lowF S).length : Int))))]) hx hb d_R_becomeHull_118 hl (k := 5) rfl (by rw [show (j - 1) = j + (-1 : Int) by omega, ← iN_add]; rfl) (by decide) rfl (fun ls hl => ?_)
        refine lv_goto (tgt := 95) hx hb d_R_becomeHull_121 (by decide) ?_
        have hI' : -2 ≤ (j - 1) ∧ (j - 1) ≤ (S.length : Int) - 2 ∧ ((j - 1) = -2 → S.length = 0) ∧ rowIs cI rx ry g4x a ((S.dropLast.reverse.take ((S.length : Int) - 2 - (j - 1)).toNat).foldl (addC ((lowF S).length : Int)) (lowF S)) ∧ rowIs cI rx ry g4x b P ∧ rowIs cI rx ry g4x c S ∧ chg2 rx ry a c f g4x := ⟨by omega, by omega, fun h => by omega, by rw [show ((S.length : Int) - 2 - (j - 1)).toNat = ((S.length : Int) - 2 - j).toNat + 1 by omega, fold_take hsj]; exact hn4, hb4, hc4, fun q q1 q2 q3 q4 q5 q6 => (hk4 q q1 q2 q3).trans (hch q q1 q2 q3 q4 q5 q6)⟩
        exact ih ((j - 1), g4x) _ _ _ (by omega) hI' w (lv_sub hl [1, 2, 3, 4, 5, 0] rfl)
    · skip
      obtain ⟨ki, qi, eki, hqi0, exi, eyi⟩ := px_get (P := S) (i := i) h0 (by omega)
      have hsi : S[i.toNat]? = some (pX S i, pY S i) := by rw [show i.toNat = ki by omega, hqi0, exi, eyi]
      refine lv_aload_n hx hb d_R_becomeHull_58 rfl (lv_at hl 0 rfl) ?_
      refine lv_aload_n hx hb d_R_becomeHull_59 rfl (lv_at hl 3 rfl) ?_
      refine lv_iload hx hb d_R_becomeHull_60 (lv_at hl 4 rfl) ?_
      refine g_ci w (g_runV (As := [.int (iN (i))]) (rest := [.ref a]) X w (c_R_x l hoc hc (by unfold i3; omega)) k_R_x v_R_x lk_R_22 hoc.1 hc.2.1 rfl ⟨(Nat.le_of_ble_eq_true rfl), (Nat.le_of_ble_eq_true rfl)⟩ rfl hl.1 rfl (Nat.le_of_ble_eq_true rfl) d_R_becomeHull_62 ⟨Nat.zero_le _, Nat.zero_le _⟩) (fun r u H locs hp w => ?_)
      obtain ⟨rfl, rfl⟩ := hp
      have w : gw D (gA L sz) s.heap H locs L g := w
      refine lv_aload_n hx hb d_R_becomeHull_65 rfl (lv_at hl 3 rfl) ?_
      refine lv_iload hx hb d_R_becomeHull_66 (lv_at hl 4 rfl) ?_
      refine g_ci w (g_runV (As := [.int (iN (i))]) (rest := [.int (iN ((pX S i))), .ref a]) X w (c_R_y l hoc hc (by unfold i3; omega)) k_R_y v_R_y lk_R_26 hoc.1 hc.2.1 rfl ⟨(Nat.le_of_ble_eq_true rfl), (Nat.le_of_ble_eq_true rfl)⟩ rfl hl.1 rfl (Nat.le_of_ble_eq_true rfl) d_R_becomeHull_68 ⟨Nat.zero_le _, Nat.zero_le _⟩) (fun r u H locs hp w => ?_)
      obtain ⟨rfl, rfl⟩ := hp
      have w : gw D (gA L sz) s.heap H locs L g := w
      refine lv_iconst (v := iN (1)) hx hb d_R_becomeHull_71 (by decide) ?_
      refine g_cv w (g_runV (As := [.int (iN ((pX S i))), .int (iN ((pY S i))), .int (iN (1))]) (rest := []) X w (c_R_addCorner l hoa ha (by omega) (x := pX S i) (y := pY S i) (by unfold i3; omega) hBA (by have := hBS i; omega) (by have := hBS i; omega)) k_R_addCorner v_R_addCorner lk_R_43 hoa.1 ha.2.1 rfl ⟨(Nat.le_of_ble_eq_true rfl), (Nat.le_of_ble_eq_true rfl)⟩ rfl hl.1 rfl (Nat.le_of_ble_eq_true rfl) d_R_becomeHull_72 ⟨(Nat.le_of_ble_eq_true rfl), (Nat.le_of_ble_eq_true rfl)⟩) (fun u H locs hp w => ?_)
      obtain ⟨g5x, rfl, hn5, hk5⟩ := hp
      have w : gw D (gA L sz) s.heap H locs L g5x := w
      have hb5 := rowIs_keep hab.symm hk5 hb9
      have hc5 := rowIs_keep hac.symm hk5 hc
      refine lv_iinc (v := iN ((i + 1))) (lv' := [(4, .int (iN ((i + 1)))), (0, .ref a), (1, .ref b), (2, .int (iN (sg))), (3, .ref c)]) hx hb d_R_becomeHull_75 hl (k := 4) rfl (by rw [show (i + 1) = i + (1 : Int) by omega, ← iN_add]; rfl) (by decide) rfl (fun ls hl => ?_)
      refine lv_goto (tgt := 49) hx hb d_R_becomeHull_78 (by decide) ?_
      have hI' : 0 ≤ (i + 1) ∧ (i + 1) ≤ S.length ∧ rowIs cI rx ry g5x a ((S.take (i + 1).toNat).foldl (addC 1) []) ∧ rowIs cI rx ry g5x b P ∧ rowIs cI rx ry g5x c S ∧ chg2 rx ry a c f g5x := ⟨by omega, by omega, by rw [tn_s h0, fold_take hsi]; exact hn5, hb5, hc5, fun q q1 q2 q3 q4 q5 q6 => (hk5 q q1 q2 q3).trans (hch q q1 q2 q3 q4 q5 q6)⟩
      exact ih ((i + 1), g5x) _ _ _ (by omega) hI' w (lv_sub hl [1, 2, 3, 4, 0] rfl)
  · skip
    obtain ⟨ki, qi, eki, hqi0, exi, eyi⟩ := px_get (P := P) (i := i) h0 (by omega)
    have hqi : (P.map (sgm sg))[i.toNat]? = some (sg * pX P i, sg * pY P i) := by rw [List.getElem?_map, show i.toNat = ki by omega, hqi0, exi, eyi]; rfl
    refine lv_aload_n hx hb d_R_becomeHull_16 rfl (lv_at hl 3 rfl) ?_
    refine lv_iload_n hx hb d_R_becomeHull_17 rfl (lv_at hl 2 rfl) ?_
    refine lv_aload_n hx hb d_R_becomeHull_18 rfl (lv_at hl 1 rfl) ?_
    refine lv_iload hx hb d_R_becomeHull_19 (lv_at hl 4 rfl) ?_
    refine g_ci w (g_runV (As := [.int (iN (i))]) (rest := [.int (iN (sg)), .ref c]) X w (c_R_x l hob hb9 (by unfold i3; omega)) k_R_x v_R_x lk_R_22 hob.1 hb9.2.1 rfl ⟨(Nat.le_of_ble_eq_true rfl), (Nat.le_of_ble_eq_true rfl)⟩ rfl hl.1 rfl (Nat.le_of_ble_eq_true rfl) d_R_becomeHull_21 ⟨Nat.zero_le _, Nat.zero_le _⟩) (fun r u H locs hp w => ?_)
    obtain ⟨rfl, rfl⟩ := hp
    have w : gw D (gA L sz) s.heap H locs L g := w
    refine ri_mul (a := sg) (b := (pX P i)) hx hb d_R_becomeHull_24 rfl rfl ?_
    refine lv_iload_n hx hb d_R_becomeHull_25 rfl (lv_at hl 2 rfl) ?_
    refine lv_aload_n hx hb d_R_becomeHull_26 rfl (lv_at hl 1 rfl) ?_
    refine lv_iload hx hb d_R_becomeHull_27 (lv_at hl 4 rfl) ?_
    refine g_ci w (g_runV (As := [.int (iN (i))]) (rest := [.int (iN (sg)), .int (iN ((sg * (pX P i)))), .ref c]) X w (c_R_y l hob hb9 (by unfold i3; omega)) k_R_y v_R_y lk_R_26 hob.1 hb9.2.1 rfl ⟨(Nat.le_of_ble_eq_true rfl), (Nat.le_of_ble_eq_true rfl)⟩ rfl hl.1 rfl (Nat.le_of_ble_eq_true rfl) d_R_becomeHull_29 ⟨Nat.zero_le _, Nat.zero_le _⟩) (fun r u H locs hp w => ?_)
    obtain ⟨rfl, rfl⟩ := hp
    have w : gw D (gA L sz) s.heap H locs L g := w
    refine ri_mul (a := sg) (b := (pY P i)) hx hb d_R_becomeHull_32 rfl rfl ?_
    refine g_cv w (g_runV (As := [.int (iN ((sg * (pX P i)))), .int (iN ((sg * (pY P i))))]) (rest := []) X w (c_R_addSorted l hoc hc (by omega) (x := sg * (pX P i)) (y := sg * (pY P i)) hBC (by have := hBP i; have := sg_b hsg (z := pX P i) (B := 600) (by omega); omega) (by have := hBP i; have := sg_b hsg (z := pY P i) (B := 600) (by omega); omega)) k_R_addSorted v_R_addSorted lk_R_39 hoc.1 hc.2.1 rfl ⟨(Nat.le_of_ble_eq_true rfl), (Nat.le_of_ble_eq_true rfl)⟩ rfl hl.1 rfl (Nat.le_of_ble_eq_true rfl) d_R_becomeHull_33 ⟨(Nat.le_of_ble_eq_true rfl), (Nat.le_of_ble_eq_true rfl)⟩) (fun u H locs hp w => ?_)
    obtain ⟨g6x, rfl, hn6, hk6⟩ := hp
    have w : gw D (gA L sz) s.heap H locs L g6x := w
    have ha6 := rowIs_keep hac hk6 ha
    have hb6 := rowIs_keep hbc hk6 hb9
    refine lv_iinc (v := iN ((i + 1))) (lv' := [(4, .int (iN ((i + 1)))), (0, .ref a), (1, .ref b), (2, .int (iN (sg))), (3, .ref c)]) hx hb d_R_becomeHull_36 hl (k := 4) rfl (by rw [show (i + 1) = i + (1 : Int) by omega, ← iN_add]; rfl) (by decide) rfl (fun ls hl => ?_)
    refine lv_goto (tgt := 7) hx hb d_R_becomeHull_39 (by decide) ?_
    have hI' : 0 ≤ (i + 1) ∧ (i + 1) ≤ P.length ∧ rowIs cI rx ry g6x c (((P.map (sgm sg)).take (i + 1).toNat).foldl insS []) ∧ rowIs cI rx ry g6x b P ∧ rowIs cI rx ry g6x a A ∧ chg rx ry c f g6x := ⟨by omega, by omega, by rw [tn_s h0, fold_take hqi]; exact hn6, hb6, ha6, chg_trans hch hk6⟩
    exact ih ((i + 1), g6x) _ _ _ (by omega) hI' w (lv_sub hl [1, 2, 3, 4, 0] rfl)
