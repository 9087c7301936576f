/-- a set as the calls can make it -/
def gset (P : List Pt) : Prop := P.length ≤ 24 ∧ pbl 300 P ∧ P.Nodup
/-- WHAT THE MATHEMATICS GIVES: the class's way and the reference's way come to the same -/
def Mq_hul : Prop := ∀ P, gset P → isHL P (hullF P) ∧ (hullF P).length ≤ 24
def Mq_hne : Prop := ∀ Q : List Pt, Q.length ≠ 0 → 1 ≤ (hullF Q).length
def Mq_sums : Prop := ∀ A B sg, (sg = 1 ∨ sg = -1) → gset A → gset B → A.length ≠ 0 → B.length ≠ 0 → isHL (allS A B sg) (sumH A B sg) ∧ pbl 600 (sumH A B sg)
def Mq_pla : Prop := ∀ P x y, gset P → plc (hullF P) x y = plM (hullF P) x y
def Mq_pls : Prop := ∀ A B sg x y, (sg = 1 ∨ sg = -1) → gset A → gset B → A.length ≠ 0 → B.length ≠ 0 → plc (sumH A B sg) x y = plM (sumH A B sg) x y
def Mq_are : Prop := ∀ H : List Pt, dar H H.length = ar2 H H.length
def Mq_bor : Prop := ∀ H : List Pt, gob H = boM H
def Mq_gro : Prop := ∀ P k, gset P → 0 ≤ k → k ≤ 6 → gwg (hullF P) k = apM (hullF P) k
def Mq_wid : Prop := ∀ P : List Pt, wdL P P.length = m2L P P.length
def Mq_nea : Prop := ∀ P : List Pt, 2 ≤ P.length → neL P (P.length - 2) = n2L P P.length
def Mq_wdt : Prop := ∀ P, gset P → P.length ≠ 0 → frac1 (wLow (hullF P) (sd (hullF P)).toNat).1 (wLow (hullF P) (sd (hullF P)).toNat).2.1 = frac1 (wmL P P.length).1 (wmL P P.length).2.1 ∧ frac2 (wLow (hullF P) (sd (hullF P)).toNat).1 (wLow (hullF P) (sd (hullF P)).toNat).2.1 = frac2 (wmL P P.length).1 (wmL P P.length).2.1
def Mq_cir : Prop := ∀ P x y q t s wh, gset P → crc P x y q t s → 0 ≤ wh → wh ≤ 2 → frac1 (cirN (encA (hullF P) ((hullF P).length - 1)) wh) (cirD (encA (hullF P) ((hullF P).length - 1)) wh) = frac1 (ciN x y t wh) (ciD q s wh) ∧ frac2 (cirN (encA (hullF P) ((hullF P).length - 1)) wh) (cirD (encA (hullF P) ((hullF P).length - 1)) wh) = frac2 (ciN x y t wh) (ciD q s wh)
def Mq_cix : Prop := ∀ P, gset P → P.length ≠ 0 → ¬ noC P
def Mq_lar : Prop := ∀ A B, gset A → gset B → A.length ≠ 0 → B.length ≠ 0 → (wth (sumH A B 1) (sumH A B 1).length 300 ↔ within3 (allS A B 1) (allS A B 1).length)
def Mq_apa : Prop := ∀ A B, gset A → gset B → A.length ≠ 0 → B.length ≠ 0 → frac1 (apL (sumH A B (-1))).1 (apL (sumH A B (-1))).2.1 = frac1 (apR (sumH A B (-1))).1 (apR (sumH A B (-1))).2 ∧ frac2 (apL (sumH A B (-1))).1 (apL (sumH A B (-1))).2.1 = frac2 (apR (sumH A B (-1))).1 (apR (sumH A B (-1))).2
def Mq_bes : Prop := ∀ P, gset P → cntB P (hullF P) P.length - (hullF P).length = bsM P (hullF P) P.length
def Mq_sup : Prop := ∀ P x y, gset P → P.length ≠ 0 → supL (hullF P) x y (hullF P).length = (mxL P x y (P.length - 1), cnL (hullF P) x y (mxL P x y (P.length - 1)) (hullF P).length)
def MTH : Prop := Mq_hul ∧ Mq_hne ∧ Mq_sums ∧ Mq_pla ∧ Mq_pls ∧ Mq_are ∧ Mq_bor ∧ Mq_gro ∧ Mq_wid ∧ Mq_nea ∧ Mq_wdt ∧ Mq_cir ∧ Mq_cix ∧ Mq_lar ∧ Mq_apa ∧ Mq_bes ∧ Mq_sup
theorem MTH.hul (M : MTH) : ∀ P, gset P → isHL P (hullF P) ∧ (hullF P).length ≤ 24 := M.1
theorem MTH.hne (M : MTH) : ∀ Q : List Pt, Q.length ≠ 0 → 1 ≤ (hullF Q).length := M.2.1
theorem MTH.sums (M : MTH) : ∀ A B sg, (sg = 1 ∨ sg = -1) → gset A → gset B → A.length ≠ 0 → B.length ≠ 0 → isHL (allS A B sg) (sumH A B sg) ∧ pbl 600 (sumH A B sg) := M.2.2.1
theorem MTH.pla (M : MTH) : ∀ P x y, gset P → plc (hullF P) x y = plM (hullF P) x y := M.2.2.2.1
theorem MTH.pls (M : MTH) : ∀ A B sg x y, (sg = 1 ∨ sg = -1) → gset A → gset B → A.length ≠ 0 → B.length ≠ 0 → plc (sumH A B sg) x y = plM (sumH A B sg) x y := M.2.2.2.2.1
theorem MTH.are (M : MTH) : ∀ H : List Pt, dar H H.length = ar2 H H.length := M.2.2.2.2.2.1
theorem MTH.bor (M : MTH) : ∀ H : List Pt, gob H = boM H := M.2.2.2.2.2.2.1
theorem MTH.gro (M : MTH) : ∀ P k, gset P → 0 ≤ k → k ≤ 6 → gwg (hullF P) k = apM (hullF P) k := M.2.2.2.2.2.2.2.1
theorem MTH.wid (M : MTH) : ∀ P : List Pt, wdL P P.length = m2L P P.length := M.2.2.2.2.2.2.2.2.1
theorem MTH.nea (M : MTH) : ∀ P : List Pt, 2 ≤ P.length → neL P (P.length - 2) = n2L P P.length := M.2.2.2.2.2.2.2.2.2.1
theorem MTH.wdt (M : MTH) : ∀ P, gset P → P.length ≠ 0 → frac1 (wLow (hullF P) (sd (hullF P)).toNat).1 (wLow (hullF P) (sd (hullF P)).toNat).2.1 = frac1 (wmL P P.length).1 (wmL P P.length).2.1 ∧ frac2 (wLow (hullF P) (sd (hullF P)).toNat).1 (wLow (hullF P) (sd (hullF P)).toNat).2.1 = frac2 (wmL P P.length).1 (wmL P P.length).2.1 := M.2.2.2.2.2.2.2.2.2.2.1
theorem MTH.cir (M : MTH) : ∀ P x y q t s wh, gset P → crc P x y q t s → 0 ≤ wh → wh ≤ 2 → frac1 (cirN (encA (hullF P) ((hullF P).length - 1)) wh) (cirD (encA (hullF P) ((hullF P).length - 1)) wh) = frac1 (ciN x y t wh) (ciD q s wh) ∧ frac2 (cirN (encA (hullF P) ((hullF P).length - 1)) wh) (cirD (encA (hullF P) ((hullF P).length - 1)) wh) = frac2 (ciN x y t wh) (ciD q s wh) := M.2.2.2.2.2.2.2.2.2.2.2.1
theorem MTH.cix (M : MTH) : ∀ P, gset P → P.length ≠ 0 → ¬ noC P := M.2.2.2.2.2.2.2.2.2.2.2.2.1
theorem MTH.lar (M : MTH) : ∀ A B, gset A → gset B → A.length ≠ 0 → B.length ≠ 0 → (wth (sumH A B 1) (sumH A B 1).length 300 ↔ within3 (allS A B 1) (allS A B 1).length) := M.2.2.2.2.2.2.2.2.2.2.2.2.2.1
theorem MTH.apa (M : MTH) : ∀ A B, gset A → gset B → A.length ≠ 0 → B.length ≠ 0 → frac1 (apL (sumH A B (-1))).1 (apL (sumH A B (-1))).2.1 = frac1 (apR (sumH A B (-1))).1 (apR (sumH A B (-1))).2 ∧ frac2 (apL (sumH A B (-1))).1 (apL (sumH A B (-1))).2.1 = frac2 (apR (sumH A B (-1))).1 (apR (sumH A B (-1))).2 := M.2.2.2.2.2.2.2.2.2.2.2.2.2.2.1
theorem MTH.bes (M : MTH) : ∀ P, gset P → cntB P (hullF P) P.length - (hullF P).length = bsM P (hullF P) P.length := M.2.2.2.2.2.2.2.2.2.2.2.2.2.2.2.1
theorem MTH.sup (M : MTH) : ∀ P x y, gset P → P.length ≠ 0 → supL (hullF P) x y (hullF P).length = (mxL P x y (P.length - 1), cnL (hullF P) x y (mxL P x y (P.length - 1)) (hullF P).length) := M.2.2.2.2.2.2.2.2.2.2.2.2.2.2.2.2

section JW
variable {cI cR : ClassId} {L : List Nat} {rx ry ra : Nat → Nat} {h ar ci lo mo : Nat} {A : Nat → Nat} {f g : Nat → va_E} {v : Nat → Int} {F : Nat → Nat → Int} {K t1 t2 : Int} {S S' : Nat → List Pt}
def dj (rx ry ra : Nat → Nat) (h ar ci lo mo : Nat) (A : Nat → Nat) : Prop := ∀ q, hOwn rx ry ra h ar ci lo q → q ≠ mo ∧ q ≠ A 2 ∧ q ≠ A 3 ∧ q ≠ A 4 ∧ q ≠ A 5 ∧ q ≠ A 6 ∧ q ≠ A 8 ∧ q ≠ A 9
theorem mS_o {q : Nat} (h0 : q ≠ mo) (h2 : q ≠ A 2) (h3 : q ≠ A 3) (h4 : q ≠ A 4) (h5 : q ≠ A 5) (h6 : q ≠ A 6) (h8 : q ≠ A 8) (h9 : q ≠ A 9) : mSt cI mo A f v F q = f q := by
  unfold mSt; rw [if_neg h0, if_neg h2, if_neg h3, if_neg h4, if_neg h5, if_neg h6, if_neg h8, if_neg h9]
theorem mS_id (h0 : g mo = mCell A v) (h2 : g (A 2) = mArr cI 192 (F 2)) (h3 : g (A 3) = mArr cI 192 (F 3)) (h4 : g (A 4) = mArr cI 8 (F 4)) (h5 : g (A 5) = mArr cI 576 (F 5)) (h6 : g (A 6) = mArr cI 576 (F 6)) (h8 : g (A 8) = mArr cI 576 (F 8)) (h9 : g (A 9) = mArr cI 576 (F 9)) : mSt cI mo A g v F = g := by
  funext q; unfold mSt
  by_cases c : q = mo
  · rw [if_pos c, c, h0]
  rw [if_neg c]
  by_cases c2 : q = A 2
  · rw [if_pos c2, c2, h2]
  rw [if_neg c2]
  by_cases c3 : q = A 3
  · rw [if_pos c3, c3, h3]
  rw [if_neg c3]
  by_cases c4 : q = A 4
  · rw [if_pos c4, c4, h4]
  rw [if_neg c4]
  by_cases c5 : q = A 5
  · rw [if_pos c5, c5, h5]
  rw [if_neg c5]
  by_cases c6 : q = A 6
  · rw [if_pos c6, c6, h6]
  rw [if_neg c6]
  by_cases c8 : q = A 8
  · rw [if_pos c8, c8, h8]
  rw [if_neg c8]
  by_cases c9 : q = A 9
  · rw [if_pos c9, c9, h9]
  rw [if_neg c9]
theorem mS_idem (g0 : mg L mo A) : mSt cI mo A (mSt cI mo A f v F) v F = mSt cI mo A f v F := mS_id mS_m (mS_2 g0) (mS_3 g0) (mS_4 g0) (mS_5 g0) (mS_6 g0) (mS_8 g0) (mS_9 g0)
theorem cls_congr (hc : clsIs cI cR rx ry ra h ar ci lo f K t1 t2 S) (hg : ∀ q, hOwn rx ry ra h ar ci lo q → g q = f q) : clsIs cI cR rx ry ra h ar ci lo g K t1 t2 S := by
  obtain ⟨h1, ⟨F, h2, h3⟩, h4, ⟨c, h5⟩, ⟨o, u, b, h6, h7⟩, h8⟩ := hc
  refine ⟨by rw [hg _ (Or.inl rfl)]; exact h1, ⟨F, by rw [hg _ (Or.inr (Or.inl rfl))]; exact h2, h3⟩, fun i hi => ?_, ⟨c, by rw [hg _ (Or.inr (Or.inr (Or.inl rfl)))]; exact h5⟩, ⟨o, u, b, h6, by rw [hg _ (Or.inr (Or.inr (Or.inr (Or.inl rfl))))]; exact h7⟩, h8⟩
  obtain ⟨r0, r1, X, Y, r2, r3, r4⟩ := h4 i hi
  exact ⟨r0, by rw [hg _ (Or.inr (Or.inr (Or.inr (Or.inr ⟨i, hi, Or.inl rfl⟩))))]; exact r1, X, Y, by rw [hg _ (Or.inr (Or.inr (Or.inr (Or.inr ⟨i, hi, Or.inr (Or.inl rfl)⟩))))]; exact r2, by rw [hg _ (Or.inr (Or.inr (Or.inr (Or.inr ⟨i, hi, Or.inr (Or.inr rfl)⟩))))]; exact r3, r4⟩
/-- both sides at the same -/
def JS (cI cR : ClassId) (rx ry ra : Nat → Nat) (h ar ci lo mo : Nat) (A : Nat → Nat) (f : Nat → va_E) (v : Nat → Int) (F : Nat → Nat → Int) (K t1 t2 : Int) (S : Nat → List Pt) : Prop :=
  mSt cI mo A f v F = f ∧ clsIs cI cR rx ry ra h ar ci lo f K t1 t2 S ∧ mInv v F K S ∧ v 11 = t1 ∧ v 12 = t2 ∧ ∀ i : Nat, (i : Int) < K → gset (S i)
theorem js_cls (g0 : mg L mo A) (d : dj rx ry ra h ar ci lo mo A) (J : mSt cI mo A f v F = f) (hu : unch rx ry ra h ar ci lo f g) : mSt cI mo A g v F = g := by
  have e : ∀ q, ¬ hOwn rx ry ra h ar ci lo q → g q = mSt cI mo A f v F q := fun q hq => by rw [hu q hq, J]
  exact mS_id (by rw [e _ (fun z => (d _ z).1 rfl)]; exact mS_m) (by rw [e _ (fun z => (d _ z).2.1 rfl)]; exact mS_2 g0) (by rw [e _ (fun z => (d _ z).2.2.1 rfl)]; exact mS_3 g0) (by rw [e _ (fun z => (d _ z).2.2.2.1 rfl)]; exact mS_4 g0) (by rw [e _ (fun z => (d _ z).2.2.2.2.1 rfl)]; exact mS_5 g0) (by rw [e _ (fun z => (d _ z).2.2.2.2.2.1 rfl)]; exact mS_6 g0) (by rw [e _ (fun z => (d _ z).2.2.2.2.2.2.1 rfl)]; exact mS_8 g0) (by rw [e _ (fun z => (d _ z).2.2.2.2.2.2.2 rfl)]; exact mS_9 g0)
theorem mInv_S (hm : mInv v F K S) (hS : ∀ i : Nat, (i : Int) < K → S' i = S i) : mInv v F K S' := by
  obtain ⟨a, b, c, d, e⟩ := hm
  exact ⟨a, b, c, d, fun i hi => by rw [hS i hi]; exact e i hi⟩
theorem js_mk {u : List Nat × (Nat → va_E)} (g0 : mg L mo A) (d : dj rx ry ra h ar ci lo mo A) (hc : clsIs cI cR rx ry ra h ar ci lo g K t1 t2 S') (hS : ∀ i : Nat, (i : Int) < K → S' i = S i) (hm : mpost L cI mo A g K t1 t2 S u) (hg : ∀ i : Nat, (i : Int) < K → gset (S i)) :
    ∃ (f' : Nat → va_E) (v' : Nat → Int) (F' : Nat → Nat → Int), u = (L, f') ∧ JS cI cR rx ry ra h ar ci lo mo A f' v' F' K t1 t2 S' := by
  obtain ⟨v', F', hu, hI, h11, h12⟩ := hm
  refine ⟨_, v', F', hu, mS_idem g0, cls_congr hc (fun q hq => ?_), mInv_S hI hS, h11, h12, fun i hi => by rw [hS i hi]; exact hg i hi⟩
  obtain ⟨a, b⟩ := d q hq
  obtain ⟨b2, b3, b4, b5, b6, b8, b9⟩ := b
  exact mS_o a b2 b3 b4 b5 b6 b8 b9
theorem js_ok (hg : ∀ i : Nat, (i : Int) < K → gset (S i)) : okS K S := fun i hi => ⟨(hg i hi).1, (hg i hi).2.1⟩
theorem js_nd (hg : ∀ i : Nat, (i : Int) < K → gset (S i)) : ndS K S := fun i hi => (hg i hi).2.2
theorem sgm_id (P : List Pt) : P.map (sgm 1) = P := by
  have : sgm 1 = id := by funext q; unfold sgm; rw [Int.one_mul, Int.one_mul]; rfl
  rw [this, List.map_id]
theorem sgm_nd {P : List Pt} (hP : P.Nodup) : (P.map (sgm (-1))).Nodup := by
  refine List.Pairwise.map _ (fun a b hab e => hab ?_) hP
  unfold sgm at e
  have e1 := congrArg Prod.fst e; have e2 := congrArg Prod.snd e
  dsimp only at e1 e2
  exact Prod.ext (by omega) (by omega)
theorem gset_m {P : List Pt} (hP : gset P) : gset (P.map (sgm (-1))) := ⟨by rw [List.length_map]; exact hP.1, pbl_sgm (Or.inr rfl) hP.2.1, sgm_nd hP.2.2⟩
theorem gset_hull (M : MTH) {P : List Pt} (hP : gset P) : gset (hullF P) := ⟨(M.hul P hP).2, pbl_hull hP.2.1, (M.hul P hP).1.2.2.2.1⟩
theorem js_hu (M : MTH) (hg : ∀ i : Nat, (i : Int) < K → gset (S i)) : hulS K S := fun i hi => (M.hul _ (hg i hi)).1
theorem js_tu (M : MTH) (hg : ∀ i : Nat, (i : Int) < K → gset (S i)) : hulT K S := fun i hi => (M.hul _ (gset_m (hg i hi))).1
theorem js_su (M : MTH) (hg : ∀ i : Nat, (i : Int) < K → gset (S i)) {sg : Int} (hs : sg = 1 ∨ sg = -1) : sumS K S sg := fun a b ha hb h1 h2 => M.sums _ _ sg hs (hg a ha) (hg b hb) h1 h2
theorem js_cx (M : MTH) (hg : ∀ i : Nat, (i : Int) < K → gset (S i)) : cirX K S := fun i hi h1 => M.cix _ (hg i hi) h1
theorem js_HL (M : MTH) (hg : ∀ i : Nat, (i : Int) < K → gset (S i)) {sg : Int} (hs : sg = 1 ∨ sg = -1) : ∀ i : Nat, (i : Int) < K → (hullF (S i)).length ≤ 24 ∧ (hullF ((S i).map (sgm sg))).length ≤ 24 := by
  intro i hi
  refine ⟨(M.hul _ (hg i hi)).2, ?_⟩
  rcases hs with rfl | rfl
  · rw [sgm_id]; exact (M.hul _ (hg i hi)).2
  · exact (M.hul _ (gset_m (hg i hi))).2
theorem js_SM (M : MTH) (hg : ∀ i : Nat, (i : Int) < K → gset (S i)) {sg : Int} (hs : sg = 1 ∨ sg = -1) : ∀ a b : Nat, (a : Int) < K → (b : Int) < K → (S a).length ≠ 0 → (S b).length ≠ 0 → pbl 600 (sumF (hullF (S a)) (hullF ((S b).map (sgm sg)))) := fun a b ha hb h1 h2 => (M.sums _ _ sg hs (hg a ha) (hg b hb) h1 h2).2
theorem gset_su {C : List Pt} (hg : ∀ i : Nat, (i : Int) < K → gset (S i)) (hC : gset C) (h0 : 0 ≤ K) : ∀ i : Nat, (i : Int) < K + 1 → gset (supd S K.toNat C i) := by
  intro i hi
  by_cases e : i = K.toNat
  · rw [e, su_s]; exact hC
  · rw [su_n e]; exact hg i (by omega)
theorem gset_pt (hg : ∀ i : Nat, (i : Int) < K → gset (S i)) {z x y : Int} : ∀ i : Nat, (i : Int) < K → gset (ptS K S z x y i) := by
  intro i hi
  unfold ptS
  split
  · next h =>
    by_cases e : i = z.toNat
    · rw [e, su_s]
      have hz : 0 ≤ z ∧ z < K := by
        unfold ptA at h; split at h
        · assumption
        · omega
      have hq := hg z.toNat (by omega)
      unfold ptA at h
      rw [if_pos hz] at h
      split at h
      · next hb =>
        split at h
        · omega
        · next hp =>
          split at h
          · omega
          · next hl =>
            refine ⟨by rw [List.length_append]; simp; omega, fun q hq2 => ?_, ?_⟩
            · rcases List.mem_append.mp hq2 with h1 | h1
              · exact hq.2.1 q h1
              · rw [List.mem_singleton.mp h1]; unfold bq; dsimp only; omega
            · rw [List.nodup_append]
              refine ⟨hq.2.2, by simp, fun a ha b hb2 => ?_⟩
              rw [List.mem_singleton.mp hb2]
              intro e2
              obtain ⟨k, hk⟩ := List.getElem?_of_mem ha
              have hkl := (List.getElem?_eq_some_iff.mp hk).1
              exact hp ⟨k, by omega, by omega, by rw [pX_nat hk, e2], by rw [pY_nat hk, e2]⟩
      · omega
    · rw [su_n e]; exact hg i hi
  · exact hg i hi
end JW

