/-! THE REFERENCE: gift wrapping. GX, GY hold the points, n of them. -/
def tW (GX GY : Nat → Int) (i j k : Nat) : Int := (GX j - GX i) * (GY k - GY i) - (GY j - GY i) * (GX k - GX i)
def sW (GX GY : Nat → Int) (i j : Nat) : Int := (GX i - GX j) * (GX i - GX j) + (GY i - GY j) * (GY i - GY j)
def wbd (GX GY : Nat → Int) (n : Int) : Prop := ∀ j : Nat, (j : Int) < n → -600 ≤ GX j ∧ GX j ≤ 600 ∧ -600 ≤ GY j ∧ GY j ≤ 600
theorem tW_b {GX GY : Nat → Int} {n : Int} (h : wbd GX GY n) {i j k : Nat} (hi : (i : Int) < n) (hj : (j : Int) < n) (hk : (k : Int) < n) : -2880000 ≤ tW GX GY i j k ∧ tW GX GY i j k ≤ 2880000 := by
  have a := h i hi; have b := h j hj; have c := h k hk
  have q1 := mbc (a := GX j - GX i) (b := GY k - GY i) 1200 1200 1440000 (by omega) (by omega) (by omega) (by omega) (by decide)
  have q2 := mbc (a := GY j - GY i) (b := GX k - GX i) 1200 1200 1440000 (by omega) (by omega) (by omega) (by omega) (by decide)
  unfold tW; omega
theorem sW_b {GX GY : Nat → Int} {n : Int} (h : wbd GX GY n) {i j : Nat} (hi : (i : Int) < n) (hj : (j : Int) < n) : 0 ≤ sW GX GY i j ∧ sW GX GY i j ≤ 2880000 := by
  have a := h i hi; have b := h j hj
  have q1 := mbc (a := GX i - GX j) (b := GX i - GX j) 1200 1200 1440000 (by omega) (by omega) (by omega) (by omega) (by decide)
  have q2 := mbc (a := GY i - GY j) (b := GY i - GY j) 1200 1200 1440000 (by omega) (by omega) (by omega) (by omega) (by decide)
  have r1 := ssq (GX i - GX j); have r2 := ssq (GY i - GY j)
  unfold sW; omega
def nxS (GX GY : Nat → Int) (at_ : Nat) : Nat → Int
  | 0 => -1
  | k + 1 => if GX k = GX at_ ∧ GY k = GY at_ then nxS GX GY at_ k else if nxS GX GY at_ k < 0 then k else if tW GX GY at_ (nxS GX GY at_ k).toNat k < 0 ∨ (tW GX GY at_ (nxS GX GY at_ k).toNat k = 0 ∧ sW GX GY at_ (nxS GX GY at_ k).toNat < sW GX GY at_ k) then k else nxS GX GY at_ k
theorem nxS_b (GX GY : Nat → Int) (at_ : Nat) (k : Nat) : -1 ≤ nxS GX GY at_ k ∧ nxS GX GY at_ k < k := by
  induction k with
  | zero => unfold nxS; omega
  | succ k ih => unfold nxS; split; omega; split; omega; split <;> omega
/-- q is the next corner behind p -/
def NXT (GX GY : Nat → Int) (n : Nat) (p q : Pt) : Prop := q ≠ p ∧ (∃ j, j < n ∧ (GX j, GY j) = q) ∧ ∀ j, j < n → (0 ≤ (q.1 - p.1) * (GY j - p.2) - (q.2 - p.2) * (GX j - p.1)) ∧ ((q.1 - p.1) * (GY j - p.2) - (q.2 - p.2) * (GX j - p.1) = 0 → (GX j, GY j) ≠ p → (GX j, GY j) ≠ q → (p.1 - GX j) * (p.1 - GX j) + (p.2 - GY j) * (p.2 - GY j) < (p.1 - q.1) * (p.1 - q.1) + (p.2 - q.2) * (p.2 - q.2))
theorem nxS_is {GX GY : Nat → Int} {n at_ : Nat} {q : Pt} (h : NXT GX GY n (GX at_, GY at_) q) : ∀ k, k ≤ n → (nxS GX GY at_ k < 0 → ∀ j, j < k → (GX j, GY j) = (GX at_, GY at_)) ∧ ((∃ j, j < k ∧ (GX j, GY j) = q) → 0 ≤ nxS GX GY at_ k ∧ (GX (nxS GX GY at_ k).toNat, GY (nxS GX GY at_ k).toNat) = q) ∧ (0 ≤ nxS GX GY at_ k → (GX (nxS GX GY at_ k).toNat, GY (nxS GX GY at_ k).toNat) ≠ (GX at_, GY at_)) := by
  intro k
  induction k with
  | zero => intro _; exact ⟨fun _ j hj => absurd hj (Nat.not_lt_zero _), fun ⟨j, hj, _⟩ => absurd hj (Nat.not_lt_zero _), fun h0 => by unfold nxS at h0; omega⟩
  | succ k ih =>
    intro hk
    obtain ⟨i1, i2, i3⟩ := ih (by omega)
    obtain ⟨hqp, hqe, hall⟩ := h
    unfold nxS
    by_cases e1 : GX k = GX at_ ∧ GY k = GY at_
    · rw [if_pos e1]
      refine ⟨fun hn j hj => ?_, fun ⟨j, hj, hjq⟩ => ?_, i3⟩
      · by_cases ejk : j = k
        · subst ejk; rw [e1.1, e1.2]
        · exact i1 hn j (by omega)
      · by_cases ejk : j = k
        · subst ejk; rw [e1.1, e1.2] at hjq; exact absurd hjq.symm hqp
        · exact i2 ⟨j, by omega, hjq⟩
    · have e1' : (GX k, GY k) ≠ (GX at_, GY at_) := fun z => e1 ⟨congrArg Prod.fst z, congrArg Prod.snd z⟩
      rw [if_neg e1]
      by_cases e2 : nxS GX GY at_ k < 0
      · rw [if_pos e2]
        refine ⟨fun hn => by omega, fun ⟨j, hj, hjq⟩ => ?_, fun _ => by simpa using e1'⟩
        by_cases ejk : j = k
        · subst ejk; exact ⟨by omega, by simpa using hjq⟩
        · have := i1 e2 j (by omega); rw [hjq] at this; exact absurd this hqp
      · rw [if_neg e2]
        generalize hc : nxS GX GY at_ k = c at *
        have hc3 := i3 (by omega)
        have hcb := nxS_b GX GY at_ k
        rw [hc] at hcb
        have hk' := hall k (by omega)
        have hc' := hall c.toNat (by omega)
        by_cases e3 : tW GX GY at_ c.toNat k < 0 ∨ (tW GX GY at_ c.toNat k = 0 ∧ sW GX GY at_ c.toNat < sW GX GY at_ k)
        · rw [if_pos e3]
          refine ⟨fun hn => by omega, fun ⟨j, hj, hjq⟩ => ⟨by omega, ?_⟩, fun _ => by simpa using e1'⟩
          show (GX (k : Int).toNat, GY (k : Int).toNat) = q
          rw [Int.toNat_natCast]
          by_cases hkq : (GX k, GY k) = q
          · exact hkq
          · exfalso
            have hjk : j ≠ k := fun z => hkq (by rw [← z]; exact hjq)
            have hcq := (i2 ⟨j, by omega, hjq⟩).2
            rw [← hcq] at hk'
            dsimp only at hk'
            have h5 := hk'.1
            have ht : (GX c.toNat - GX at_) * (GY k - GY at_) - (GY c.toNat - GY at_) * (GX k - GX at_) = tW GX GY at_ c.toNat k := rfl
            rw [ht] at h5 hk'
            have hs1 : sW GX GY at_ k = (GX at_ - GX k) * (GX at_ - GX k) + (GY at_ - GY k) * (GY at_ - GY k) := rfl
            have hs2 : sW GX GY at_ c.toNat = (GX at_ - GX c.toNat) * (GX at_ - GX c.toNat) + (GY at_ - GY c.toNat) * (GY at_ - GY c.toNat) := rfl
            rcases e3 with e3 | ⟨e3, e4⟩
            · omega
            · have := hk'.2 e3 e1' (by rw [hcq]; exact hkq)
              omega
        · rw [if_neg e3]
          refine ⟨fun hn => by omega, fun ⟨j, hj, hjq⟩ => ?_, fun _ => hc3⟩
          by_cases ejk : j = k
          · subst ejk
            refine ⟨by omega, ?_⟩
            by_cases hcq : (GX c.toNat, GY c.toNat) = q
            · exact hcq
            · exfalso
              rw [← hjq] at hc' hcq
              dsimp only at hc'
              have h5 := hc'.1
              have ht : (GX j - GX at_) * (GY c.toNat - GY at_) - (GY j - GY at_) * (GX c.toNat - GX at_) = - tW GX GY at_ c.toNat j := by unfold tW; grind
              rw [ht] at h5 hc'
              have hs1 : sW GX GY at_ j = (GX at_ - GX j) * (GX at_ - GX j) + (GY at_ - GY j) * (GY at_ - GY j) := rfl
              have hs2 : sW GX GY at_ c.toNat = (GX at_ - GX c.toNat) * (GX at_ - GX c.toNat) + (GY at_ - GY c.toNat) * (GY at_ - GY c.toNat) := rfl
              by_cases h6 : tW GX GY at_ c.toNat j = 0
              · have := hc'.2 (by omega) hc3 hcq
                exact e3 (Or.inr ⟨h6, by omega⟩)
              · exact e3 (Or.inl (by omega))
          · exact i2 ⟨j, by omega, hjq⟩
theorem nxS_all {GX GY : Nat → Int} {at_ : Nat} : ∀ k, (∀ j, j < k → (GX j, GY j) = (GX at_, GY at_)) → nxS GX GY at_ k = -1 := by
  intro k
  induction k with
  | zero => intro _; rfl
  | succ k ih =>
    intro h
    have e := h k (by omega)
    unfold nxS
    rw [if_pos ⟨congrArg Prod.fst e, congrArg Prod.snd e⟩]
    exact ih (fun j hj => h j (by omega))

set_option maxHeartbeats 4000000 in
set_option maxRecDepth 100000 in
theorem c_M_nextOf (l : Launch) {D : va_G} {cI cR : ClassId} {L : List Nat} {f : Nat → va_E} {mo : Nat} {A : Nat → Nat} {v : Nat → Int} {F : Nat → Nat → Int} (g : mg L mo A) (h7 : 0 ≤ v 7 ∧ v 7 ≤ 576) (hwb : wbd (F 5) (F 6) (v 7)) {a : Int} (ha : 0 ≤ a ∧ a < v 7) : gMi D cI cR l y_M_nextOf (Cond.code y_M_nextOf b_M_nextOf 7 (some .int) :: lw_g) { frames := 1, cells := 0, slots := 0, locals := 31 } [.ref mo, .int (iN (a))] L (mSt cI mo A f v F) (fun r u => r = iN (nxS (F 5) (F 6) a.toNat (v 7).toNat) ∧ u = (L, mSt cI mo A f v F)) := by
  intro sz
  refine g_enter (by decide) rfl (Nat.le_of_ble_eq_true rfl) ?_
  intro p e s m below meth cd ls X hrt hlk hnm hl hsz w
  have X : gx p m cd b_M_nextOf 7 s _ "HullSumsModel" D cI cR := X
  have hx := X.1.1
  have hb := X.1.2.1
  have hl : lv_has ls 7 [(0, .ref mo), (1, .int (iN (a)))] := hl
  refine lv_iconst (v := iN (-1)) hx hb d_M_nextOf_0 (by decide) ?_
  refine lv_istore_n (lv' := [(2, .int (iN (-1))), (0, .ref mo), (1, .int (iN (a)))]) hx hb d_M_nextOf_1 rfl hl (by decide) rfl (fun ls hl => ?_)
  refine lv_iconst (v := iN (0)) hx hb d_M_nextOf_2 (by decide) ?_
  refine lv_istore_n (lv' := [(3, .int (iN (0))), (2, .int (iN (-1))), (0, .ref mo), (1, .int (iN (a)))]) hx hb d_M_nextOf_3 rfl hl (by decide) rfl (fun ls hl => ?_)
  refine g_loop (σ := Int × Int) (fun z9 => (v 7 - z9.1).toNat) (fun z9 => [(0, .ref mo), (1, .int (iN (a))), (2, .int (iN (z9.2))), (3, .int (iN (z9.1)))]) L (fun z9 => (mSt cI mo A f v F)) (fun z9 => 0 ≤ z9.1 ∧ z9.1 ≤ v 7 ∧ z9.2 = nxS (F 5) (F 6) a.toNat z9.1.toNat) ?_ (0, (-1)) _ _ _ ⟨by omega, by omega, rfl⟩ w (lv_sub hl [2, 3, 1, 0] rfl)
  intro z9 H locs ls hI w hl ih
  obtain ⟨k, q⟩ := z9
  have hl : lv_has ls 7 [(0, .ref mo), (1, .int (iN (a))), (2, .int (iN (q))), (3, .int (iN (k)))] := hl
  have w : gw D (gA L sz) s.heap H locs L ((mSt cI mo A f v F)) := w
  have hI : 0 ≤ k ∧ k ≤ v 7 ∧ q = nxS (F 5) (F 6) a.toNat k.toNat := hI
  obtain ⟨h0, h1, h2⟩ := hI
  have hqb := nxS_b (F 5) (F 6) a.toNat k.toNat
  rw [← h2] at hqb
  refine lv_iload_n hx hb d_M_nextOf_4 rfl (lv_at hl 3 rfl) ?_
  refine lv_aload_n hx hb d_M_nextOf_5 rfl (lv_at hl 0 rfl) ?_
  refine gk_get X w g.1.1 (show (mSt cI mo A f v F) mo = .inr (4, _) from mS_m) rfl in_M 7 (by decide) lk_M_45 rfl d_M_nextOf_6 ?_
  refine ri_cge (a := k) (b := (v 7)) (tgt := 201) hx hb d_M_nextOf_9 (by decide) rfl rfl (by unfold i3; omega) (by unfold i3; omega) (fun c9 => ?_) (fun c9 => ?_)
  · skip
    refine lv_iload_n hx hb d_M_nextOf_201 rfl (lv_at hl 2 rfl) ?_
    exact g_iret X w hrt hlk d_M_nextOf_202 ⟨by rw [h2, show k = v 7 by omega], rfl⟩
  · skip
    refine lv_aload_n hx hb d_M_nextOf_12 rfl (lv_at hl 0 rfl) ?_
    refine gk_get X w g.1.1 (show (mSt cI mo A f v F) mo = .inr (4, _) from mS_m) rfl in_M 5 (by decide) lk_M_19 rfl d_M_nextOf_13 ?_
    refine lv_iload_n hx hb d_M_nextOf_16 rfl (lv_at hl 3 rfl) ?_
    refine gk_iald X w 0 g.1.2.2.2.2.1 (mS_5 g) rfl (vin (by omega) (by omega) (by decide)) d_M_nextOf_17 ?_
    rw [vclN 576 (by omega) (by omega) (by decide)]
    refine lv_aload_n hx hb d_M_nextOf_18 rfl (lv_at hl 0 rfl) ?_
    refine gk_get X w g.1.1 (show (mSt cI mo A f v F) mo = .inr (4, _) from mS_m) rfl in_M 5 (by decide) lk_M_19 rfl d_M_nextOf_19 ?_
    refine lv_iload_n hx hb d_M_nextOf_22 rfl (lv_at hl 1 rfl) ?_
    refine gk_iald X w 0 g.1.2.2.2.2.1 (mS_5 g) rfl (vin (by omega) (by omega) (by decide)) d_M_nextOf_23 ?_
    rw [vclN 576 (by omega) (by omega) (by decide)]
    refine ri_cne (a := (F 5 k.toNat)) (b := (F 5 a.toNat)) (tgt := 45) hx hb d_M_nextOf_24 (by decide) rfl rfl (by have := hwb k.toNat (by omega); unfold i3; omega) (by have := hwb a.toNat (by omega); unfold i3; omega) (fun c24 => ?_) (fun c24 => ?_)
    · skip
      refine lv_iload_n hx hb d_M_nextOf_45 rfl (lv_at hl 2 rfl) ?_
      refine ri_zge (a := q) (tgt := 54) hx hb d_M_nextOf_46 (by decide) rfl (by unfold i3; omega) (fun c46 => ?_) (fun c46 => ?_)
      · skip
        refine lv_aload_n hx hb d_M_nextOf_54 rfl (lv_at hl 0 rfl) ?_
        refine gk_get X w g.1.1 (show (mSt cI mo A f v F) mo = .inr (4, _) from mS_m) rfl in_M 5 (by decide) lk_M_19 rfl d_M_nextOf_55 ?_
        refine lv_iload_n hx hb d_M_nextOf_58 rfl (lv_at hl 1 rfl) ?_
        refine gk_iald X w 0 g.1.2.2.2.2.1 (mS_5 g) rfl (vin (by omega) (by omega) (by decide)) d_M_nextOf_59 ?_
        rw [vclN 576 (by omega) (by omega) (by decide)]
        refine ri_i2l (a := (F 5 a.toNat)) hx hb d_M_nextOf_60 rfl (by have := hwb a.toNat (by omega); unfold i3; omega) ?_
        refine lv_aload_n hx hb d_M_nextOf_61 rfl (lv_at hl 0 rfl) ?_
        refine gk_get X w g.1.1 (show (mSt cI mo A f v F) mo = .inr (4, _) from mS_m) rfl in_M 6 (by decide) lk_M_22 rfl d_M_nextOf_62 ?_
        refine lv_iload_n hx hb d_M_nextOf_65 rfl (lv_at hl 1 rfl) ?_
        refine gk_iald X w 0 g.1.2.2.2.2.2.1 (mS_6 g) rfl (vin (by omega) (by omega) (by decide)) d_M_nextOf_66 ?_
        rw [vclN 576 (by omega) (by omega) (by decide)]
        refine ri_i2l (a := (F 6 a.toNat)) hx hb d_M_nextOf_67 rfl (by have := hwb a.toNat (by omega); unfold i3; omega) ?_
        refine lv_aload_n hx hb d_M_nextOf_68 rfl (lv_at hl 0 rfl) ?_
        refine gk_get X w g.1.1 (show (mSt cI mo A f v F) mo = .inr (4, _) from mS_m) rfl in_M 5 (by decide) lk_M_19 rfl d_M_nextOf_69 ?_
        refine lv_iload_n hx hb d_M_nextOf_72 rfl (lv_at hl 2 rfl) ?_
        refine gk_iald X w 0 g.1.2.2.2.2.1 (mS_5 g) rfl (vin (by omega) (by omega) (by decide)) d_M_nextOf_73 ?_
        rw [vclN 576 (by omega) (by omega) (by decide)]
        refine ri_i2l (a := (F 5 q.toNat)) hx hb d_M_nextOf_74 rfl (by have := hwb q.toNat (by omega); unfold i3; omega) ?_
        refine lv_aload_n hx hb d_M_nextOf_75 rfl (lv_at hl 0 rfl) ?_
        refine gk_get X w g.1.1 (show (mSt cI mo A f v F) mo = .inr (4, _) from mS_m) rfl in_M 6 (by decide) lk_M_22 rfl d_M_nextOf_76 ?_
        refine lv_iload_n hx hb d_M_nextOf_79 rfl (lv_at hl 2 rfl) ?_
        refine gk_iald X w 0 g.1.2.2.2.2.2.1 (mS_6 g) rfl (vin (by omega) (by omega) (by decide)) d_M_nextOf_80 ?_
        rw [vclN 576 (by omega) (by omega) (by decide)]
        refine ri_i2l (a := (F 6 q.toNat)) hx hb d_M_nextOf_81 rfl (by have := hwb q.toNat (by omega); unfold i3; omega) ?_
        refine lv_aload_n hx hb d_M_nextOf_82 rfl (lv_at hl 0 rfl) ?_
        refine gk_get X w g.1.1 (show (mSt cI mo A f v F) mo = .inr (4, _) from mS_m) rfl in_M 5 (by decide) lk_M_19 rfl d_M_nextOf_83 ?_
        refine lv_iload_n hx hb d_M_nextOf_86 rfl (lv_at hl 3 rfl) ?_
        refine gk_iald X w 0 g.1.2.2.2.2.1 (mS_5 g) rfl (vin (by omega) (by omega) (by decide)) d_M_nextOf_87 ?_
        rw [vclN 576 (by omega) (by omega) (by decide)]
        refine ri_i2l (a := (F 5 k.toNat)) hx hb d_M_nextOf_88 rfl (by have := hwb k.toNat (by omega); unfold i3; omega) ?_
        refine lv_aload_n hx hb d_M_nextOf_89 rfl (lv_at hl 0 rfl) ?_
        refine gk_get X w g.1.1 (show (mSt cI mo A f v F) mo = .inr (4, _) from mS_m) rfl in_M 6 (by decide) lk_M_22 rfl d_M_nextOf_90 ?_
        refine lv_iload_n hx hb d_M_nextOf_93 rfl (lv_at hl 3 rfl) ?_
        refine gk_iald X w 0 g.1.2.2.2.2.2.1 (mS_6 g) rfl (vin (by omega) (by omega) (by decide)) d_M_nextOf_94 ?_
        rw [vclN 576 (by omega) (by omega) (by decide)]
        refine ri_i2l (a := (F 6 k.toNat)) hx hb d_M_nextOf_95 rfl (by have := hwb k.toNat (by omega); unfold i3; omega) ?_
        refine g_cl w (g_runS (As := [.long (jN ((F 5 a.toNat))), .long (jN ((F 6 a.toNat))), .long (jN ((F 5 q.toNat))), .long (jN ((F 6 q.toNat))), .long (jN ((F 5 k.toNat))), .long (jN ((F 6 k.toNat)))]) (rest := []) X w (c_M_turn l (px := (F 5 a.toNat)) (py := (F 6 a.toNat)) (ax := (F 5 q.toNat)) (ay := (F 6 q.toNat)) (bx := (F 5 k.toNat)) (by_ := (F 6 k.toNat))) k_M_turn lk_M_58 st_M_turn ⟨(Nat.le_of_ble_eq_true rfl), (Nat.le_of_ble_eq_true rfl)⟩ rfl hl.1 rfl (Nat.le_of_ble_eq_true rfl) d_M_nextOf_96 ⟨Nat.zero_le _, Nat.zero_le _⟩) (fun r u H locs hp w => ?_)
        obtain ⟨rfl, rfl⟩ := hp
        have w : gw D (gA L sz) s.heap H locs L (mSt cI mo A f v F) := w
        refine lv_lstore (lv' := [(4, .long (jN ((((F 5 q.toNat) - (F 5 a.toNat)) * ((F 6 k.toNat) - (F 6 a.toNat)) - ((F 6 q.toNat) - (F 6 a.toNat)) * ((F 5 k.toNat) - (F 5 a.toNat)))))), (0, .ref mo), (1, .int (iN (a))), (2, .int (iN (q))), (3, .int (iN (k)))]) hx hb d_M_nextOf_99 hl (by decide) rfl (fun ls hl => ?_)
        refine lv_aload_n hx hb d_M_nextOf_101 rfl (lv_at hl 1 rfl) ?_
        refine gk_get X w g.1.1 (show (mSt cI mo A f v F) mo = .inr (4, _) from mS_m) rfl in_M 5 (by decide) lk_M_19 rfl d_M_nextOf_102 ?_
        refine lv_iload_n hx hb d_M_nextOf_105 rfl (lv_at hl 2 rfl) ?_
        refine gk_iald X w 0 g.1.2.2.2.2.1 (mS_5 g) rfl (vin (by omega) (by omega) (by decide)) d_M_nextOf_106 ?_
        rw [vclN 576 (by omega) (by omega) (by decide)]
        refine ri_i2l (a := (F 5 a.toNat)) hx hb d_M_nextOf_107 rfl (by have := hwb a.toNat (by omega); unfold i3; omega) ?_
        refine lv_aload_n hx hb d_M_nextOf_108 rfl (lv_at hl 1 rfl) ?_
        refine gk_get X w g.1.1 (show (mSt cI mo A f v F) mo = .inr (4, _) from mS_m) rfl in_M 6 (by decide) lk_M_22 rfl d_M_nextOf_109 ?_
        refine lv_iload_n hx hb d_M_nextOf_112 rfl (lv_at hl 2 rfl) ?_
        refine gk_iald X w 0 g.1.2.2.2.2.2.1 (mS_6 g) rfl (vin (by omega) (by omega) (by decide)) d_M_nextOf_113 ?_
        rw [vclN 576 (by omega) (by omega) (by decide)]
        refine ri_i2l (a := (F 6 a.toNat)) hx hb d_M_nextOf_114 rfl (by have := hwb a.toNat (by omega); unfold i3; omega) ?_
        refine lv_aload_n hx hb d_M_nextOf_115 rfl (lv_at hl 1 rfl) ?_
        refine gk_get X w g.1.1 (show (mSt cI mo A f v F) mo = .inr (4, _) from mS_m) rfl in_M 5 (by decide) lk_M_19 rfl d_M_nextOf_116 ?_
        refine lv_iload_n hx hb d_M_nextOf_119 rfl (lv_at hl 4 rfl) ?_
        refine gk_iald X w 0 g.1.2.2.2.2.1 (mS_5 g) rfl (vin (by omega) (by omega) (by decide)) d_M_nextOf_120 ?_
        rw [vclN 576 (by omega) (by omega) (by decide)]
        refine ri_i2l (a := (F 5 k.toNat)) hx hb d_M_nextOf_121 rfl (by have := hwb k.toNat (by omega); unfold i3; omega) ?_
        refine lv_aload_n hx hb d_M_nextOf_122 rfl (lv_at hl 1 rfl) ?_
        refine gk_get X w g.1.1 (show (mSt cI mo A f v F) mo = .inr (4, _) from mS_m) rfl in_M 6 (by decide) lk_M_22 rfl d_M_nextOf_123 ?_
        refine lv_iload_n hx hb d_M_nextOf_126 rfl (lv_at hl 4 rfl) ?_
        refine gk_iald X w 0 g.1.2.2.2.2.2.1 (mS_6 g) rfl (vin (by omega) (by omega) (by decide)) d_M_nextOf_127 ?_
        rw [vclN 576 (by omega) (by omega) (by decide)]
        refine ri_i2l (a := (F 6 k.toNat)) hx hb d_M_nextOf_128 rfl (by have := hwb k.toNat (by omega); unfold i3; omega) ?_
        refine g_cl w (g_runS (As := [.long (jN ((F 5 a.toNat))), .long (jN ((F 6 a.toNat))), .long (jN ((F 5 k.toNat))), .long (jN ((F 6 k.toNat)))]) (rest := []) X w (c_M_square l (px := (F 5 a.toNat)) (py := (F 6 a.toNat)) (ax := (F 5 k.toNat)) (ay := (F 6 k.toNat))) k_M_square lk_M_62 st_M_square ⟨(Nat.le_of_ble_eq_true rfl), (Nat.le_of_ble_eq_true rfl)⟩ rfl hl.1 rfl (Nat.le_of_ble_eq_true rfl) d_M_nextOf_129 ⟨Nat.zero_le _, Nat.zero_le _⟩) (fun r u H locs hp w => ?_)
        obtain ⟨rfl, rfl⟩ := hp
        have w : gw D (gA L sz) s.heap H locs L (mSt cI mo A f v F) := w
        refine lv_aload_n hx hb d_M_nextOf_132 rfl (lv_at hl 1 rfl) ?_
        refine gk_get X w g.1.1 (show (mSt cI mo A f v F) mo = .inr (4, _) from mS_m) rfl in_M 5 (by decide) lk_M_19 rfl d_M_nextOf_133 ?_
        refine lv_iload_n hx hb d_M_nextOf_136 rfl (lv_at hl 2 rfl) ?_
        refine gk_iald X w 0 g.1.2.2.2.2.1 (mS_5 g) rfl (vin (by omega) (by omega) (by decide)) d_M_nextOf_137 ?_
        rw [vclN 576 (by omega) (by omega) (by decide)]
        refine ri_i2l (a := (F 5 a.toNat)) hx hb d_M_nextOf_138 rfl (by have := hwb a.toNat (by omega); unfold i3; omega) ?_
        refine lv_aload_n hx hb d_M_nextOf_139 rfl (lv_at hl 1 rfl) ?_
        refine gk_get X w g.1.1 (show (mSt cI mo A f v F) mo = .inr (4, _) from mS_m) rfl in_M 6 (by decide) lk_M_22 rfl d_M_nextOf_140 ?_
        refine lv_iload_n hx hb d_M_nextOf_143 rfl (lv_at hl 2 rfl) ?_
        refine gk_iald X w 0 g.1.2.2.2.2.2.1 (mS_6 g) rfl (vin (by omega) (by omega) (by decide)) d_M_nextOf_144 ?_
        rw [vclN 576 (by omega) (by omega) (by decide)]
        refine ri_i2l (a := (F 6 a.toNat)) hx hb d_M_nextOf_145 rfl (by have := hwb a.toNat (by omega); unfold i3; omega) ?_
        refine lv_aload_n hx hb d_M_nextOf_146 rfl (lv_at hl 1 rfl) ?_
        refine gk_get X w g.1.1 (show (mSt cI mo A f v F) mo = .inr (4, _) from mS_m) rfl in_M 5 (by decide) lk_M_19 rfl d_M_nextOf_147 ?_
        refine lv_iload_n hx hb d_M_nextOf_150 rfl (lv_at hl 3 rfl) ?_
        refine gk_iald X w 0 g.1.2.2.2.2.1 (mS_5 g) rfl (vin (by omega) (by omega) (by decide)) d_M_nextOf_151 ?_
        rw [vclN 576 (by omega) (by omega) (by decide)]
        refine ri_i2l (a := (F 5 q.toNat)) hx hb d_M_nextOf_152 rfl (by have := hwb q.toNat (by omega); unfold i3; omega) ?_
        refine lv_aload_n hx hb d_M_nextOf_153 rfl (lv_at hl 1 rfl) ?_
        refine gk_get X w g.1.1 (show (mSt cI mo A f v F) mo = .inr (4, _) from mS_m) rfl in_M 6 (by decide) lk_M_22 rfl d_M_nextOf_154 ?_
        refine lv_iload_n hx hb d_M_nextOf_157 rfl (lv_at hl 3 rfl) ?_
        refine gk_iald X w 0 g.1.2.2.2.2.2.1 (mS_6 g) rfl (vin (by omega) (by omega) (by decide)) d_M_nextOf_158 ?_
        rw [vclN 576 (by omega) (by omega) (by decide)]
        refine ri_i2l (a := (F 6 q.toNat)) hx hb d_M_nextOf_159 rfl (by have := hwb q.toNat (by omega); unfold i3; omega) ?_
        refine g_cl w (g_runS (As := [.long (jN ((F 5 a.toNat))), .long (jN ((F 6 a.toNat))), .long (jN ((F 5 q.toNat))), .long (jN ((F 6 q.toNat)))]) (rest := [.long (jN ((((F 5 a.toNat) - (F 5 k.toNat)) * ((F 5 a.toNat) - (F 5 k.toNat)) + ((F 6 a.toNat) - (F 6 k.toNat)) * ((F 6 a.toNat) - (F 6 k.toNat)))))]) X w (c_M_square l (px := (F 5 a.toNat)) (py := (F 6 a.toNat)) (ax := (F 5 q.toNat)) (ay := (F 6 q.toNat))) k_M_square lk_M_62 st_M_square ⟨(Nat.le_of_ble_eq_true rfl), (Nat.le_of_ble_eq_true rfl)⟩ rfl hl.1 rfl (Nat.le_of_ble_eq_true rfl) d_M_nextOf_160 ⟨Nat.zero_le _, Nat.zero_le _⟩) (fun r u H locs hp w => ?_)
        obtain ⟨rfl, rfl⟩ := hp
        have w : gw D (gA L sz) s.heap H locs L (mSt cI mo A f v F) := w
        refine rj_cle (a := (((F 5 a.toNat) - (F 5 k.toNat)) * ((F 5 a.toNat) - (F 5 k.toNat)) + ((F 6 a.toNat) - (F 6 k.toNat)) * ((F 6 a.toNat) - (F 6 k.toNat)))) (b := (((F 5 a.toNat) - (F 5 q.toNat)) * ((F 5 a.toNat) - (F 5 q.toNat)) + ((F 6 a.toNat) - (F 6 q.toNat)) * ((F 6 a.toNat) - (F 6 q.toNat)))) (tgt := 171) hx hb d_M_nextOf_163 d_M_nextOf_164 (by decide) rfl rfl (by have := sW_b hwb (i := a.toNat) (j := k.toNat) (by omega) (by omega); unfold sW at this; unfold i6; omega) (by have := sW_b hwb (i := a.toNat) (j := q.toNat) (by omega) (by omega); unfold sW at this; unfold i6; omega) (fun c163 => ?_) (fun c163 => ?_)
        · skip
          refine lv_iconst (v := iN (0)) hx hb d_M_nextOf_171 (by decide) ?_
          refine lv_istore (lv' := [(6, .int (iN (0))), (4, .long (jN ((((F 5 q.toNat) - (F 5 a.toNat)) * ((F 6 k.toNat) - (F 6 a.toNat)) - ((F 6 q.toNat) - (F 6 a.toNat)) * ((F 5 k.toNat) - (F 5 a.toNat)))))), (0, .ref mo), (1, .int (iN (a))), (2, .int (iN (q))), (3, .int (iN (k)))]) hx hb d_M_nextOf_172 hl (by decide) rfl (fun ls hl => ?_)
          refine lv_lload hx hb d_M_nextOf_174 (lv_at hl 1 rfl) ?_
          refine lv_lconst (v := jN (0)) hx hb d_M_nextOf_176 (by decide) ?_
          refine rj_clt (a := (((F 5 q.toNat) - (F 5 a.toNat)) * ((F 6 k.toNat) - (F 6 a.toNat)) - ((F 6 q.toNat) - (F 6 a.toNat)) * ((F 5 k.toNat) - (F 5 a.toNat)))) (b := 0) (tgt := 193) hx hb d_M_nextOf_177 d_M_nextOf_178 (by decide) rfl rfl (by have := tW_b hwb (i := a.toNat) (j := q.toNat) (k := k.toNat) (by omega) (by omega) (by omega); unfold tW at this; unfold i6; omega) (by unfold i6; omega) (fun c177 => ?_) (fun c177 => ?_)
          · skip
            refine lv_iload_n hx hb d_M_nextOf_193 rfl (lv_at hl 5 rfl) ?_
            refine lv_istore_n (lv' := [(2, .int (iN (k))), (6, .int (iN (0))), (4, .long (jN ((((F 5 q.toNat) - (F 5 a.toNat)) * ((F 6 k.toNat) - (F 6 a.toNat)) - ((F 6 q.toNat) - (F 6 a.toNat)) * ((F 5 k.toNat) - (F 5 a.toNat)))))), (0, .ref mo), (1, .int (iN (a))), (3, .int (iN (k)))]) hx hb d_M_nextOf_194 rfl hl (by decide) rfl (fun ls hl => ?_)
            refine lv_iinc (v := iN ((k + 1))) (lv' := [(3, .int (iN ((k + 1)))), (2, .int (iN (k))), (6, .int (iN (0))), (4, .long (jN ((((F 5 q.toNat) - (F 5 a.toNat)) * ((F 6 k.toNat) - (F 6 a.toNat)) - ((F 6 q.toNat) - (F 6 a.toNat)) * ((F 5 k.toNat) - (F 5 a.toNat)))))), (0, .ref mo), (1, .int (iN (a)))]) hx hb d_M_nextOf_195 hl (k := 5) rfl (by rw [show (k + 1) = k + (1 : Int) by omega, ← iN_add]; rfl) (by decide) rfl (fun ls hl => ?_)
            refine lv_goto (tgt := 4) hx hb d_M_nextOf_198 (by decide) ?_
            exact ih ((k + 1), k) _ _ _ (by omega) ⟨by omega, by omega, by rw [tn_s h0]; unfold nxS; rw [← h2, tn_c h0]; rw [if_neg (by omega), if_neg (by omega), if_pos (by unfold tW sW; omega)]⟩ w (lv_sub hl [4, 5, 1, 0] rfl)
          · skip
            refine lv_lload hx hb d_M_nextOf_181 (lv_at hl 1 rfl) ?_
            refine lv_lconst (v := jN (0)) hx hb d_M_nextOf_183 (by decide) ?_
            refine rj_cne (a := (((F 5 q.toNat) - (F 5 a.toNat)) * ((F 6 k.toNat) - (F 6 a.toNat)) - ((F 6 q.toNat) - (F 6 a.toNat)) * ((F 5 k.toNat) - (F 5 a.toNat)))) (b := 0) (tgt := 195) hx hb d_M_nextOf_184 d_M_nextOf_185 (by decide) rfl rfl (by have := tW_b hwb (i := a.toNat) (j := q.toNat) (k := k.toNat) (by omega) (by omega) (by omega); unfold tW at this; unfold i6; omega) (by unfold i6; omega) (fun c184 => ?_) (fun c184 => ?_)
            · skip
              refine lv_iinc (v := iN ((k + 1))) (lv' := [(3, .int (iN ((k + 1)))), (6, .int (iN (0))), (4, .long (jN ((((F 5 q.toNat) - (F 5 a.toNat)) * ((F 6 k.toNat) - (F 6 a.toNat)) - ((F 6 q.toNat) - (F 6 a.toNat)) * ((F 5 k.toNat) - (F 5 a.toNat)))))), (0, .ref mo), (1, .int (iN (a))), (2, .int (iN (q)))]) hx hb d_M_nextOf_195 hl (k := 5) rfl (by rw [show (k + 1) = k + (1 : Int) by omega, ← iN_add]; rfl) (by decide) rfl (fun ls hl => ?_)
              refine lv_goto (tgt := 4) hx hb d_M_nextOf_198 (by decide) ?_
              exact ih ((k + 1), q) _ _ _ (by omega) ⟨by omega, by omega, by rw [tn_s h0]; unfold nxS; rw [← h2, tn_c h0]; rw [if_neg (by omega), if_neg (by omega), if_neg (by unfold tW sW; omega)]⟩ w (lv_sub hl [3, 4, 5, 0] rfl)
            · skip
              refine lv_iload hx hb d_M_nextOf_188 (lv_at hl 0 rfl) ?_
              refine ri_zeq (a := 0) (tgt := 195) hx hb d_M_nextOf_190 (by decide) rfl (by unfold i3; omega) (fun c190 => ?_) (fun c190 => ?_)
              · skip
                refine lv_iinc (v := iN ((k + 1))) (lv' := [(3, .int (iN ((k + 1)))), (6, .int (iN (0))), (4, .long (jN ((((F 5 q.toNat) - (F 5 a.toNat)) * ((F 6 k.toNat) - (F 6 a.toNat)) - ((F 6 q.toNat) - (F 6 a.toNat)) * ((F 5 k.toNat) - (F 5 a.toNat)))))), (0, .ref mo), (1, .int (iN (a))), (2, .int (iN (q)))]) hx hb d_M_nextOf_195 hl (k := 5) rfl (by rw [show (k + 1) = k + (1 : Int) by omega, ← iN_add]; rfl) (by decide) rfl (fun ls hl => ?_)
                refine lv_goto (tgt := 4) hx hb d_M_nextOf_198 (by decide) ?_
                exact ih ((k + 1), q) _ _ _ (by omega) ⟨by omega, by omega, by rw [tn_s h0]; unfold nxS; rw [← h2, tn_c h0]; rw [if_neg (by omega), if_neg (by omega), if_neg (by unfold tW sW; omega)]⟩ w (lv_sub hl [3, 4, 5, 0] rfl)
              · skip
                refine lv_iload_n hx hb d_M_nextOf_193 rfl (lv_at hl 5 rfl) ?_
                refine lv_istore_n (lv' := [(2, .int (iN (k))), (6, .int (iN (0))), (4, .long (jN ((((F 5 q.toNat) - (F 5 a.toNat)) * ((F 6 k.toNat) - (F 6 a.toNat)) - ((F 6 q.toNat) - (F 6 a.toNat)) * ((F 5 k.toNat) - (F 5 a.toNat)))))), (0, .ref mo), (1, .int (iN (a))), (3, .int (iN (k)))]) hx hb d_M_nextOf_194 rfl hl (by decide) rfl (fun ls hl => ?_)
                refine lv_iinc (v := iN ((k + 1))) (lv' := [(3, .int (iN ((k + 1)))), (2, .int (iN (k))), (6, .int (iN (0))), (4, .long (jN ((((F 5 q.toNat) - (F 5 a.toNat)) * ((F 6 k.toNat) - (F 6 a.toNat)) - ((F 6 q.toNat) - (F 6 a.toNat)) * ((F 5 k.toNat) - (F 5 a.toNat)))))), (0, .ref mo), (1, .int (iN (a)))]) hx hb d_M_nextOf_195 hl (k := 5) rfl (by rw [show (k + 1) = k + (1 : Int) by omega, ← iN_add]; rfl) (by decide) rfl (fun ls hl => ?_)
                refine lv_goto (tgt := 4) hx hb d_M_nextOf_198 (by decide) ?_
                exact ih ((k + 1), k) _ _ _ (by omega) ⟨by omega, by omega, by rw [tn_s h0]; unfold nxS; rw [← h2, tn_c h0]; rw [if_neg (by omega), if_neg (by omega), if_pos (by unfold tW sW; omega)]⟩ w (lv_sub hl [4, 5, 1, 0] rfl)
        · skip
          refine lv_iconst (v := iN (1)) hx hb d_M_nextOf_167 (by decide) ?_
          refine lv_goto (tgt := 172) hx hb d_M_nextOf_168 (by decide) ?_
          refine lv_istore (lv' := [(6, .int (iN (1))), (4, .long (jN ((((F 5 q.toNat) - (F 5 a.toNat)) * ((F 6 k.toNat) - (F 6 a.toNat)) - ((F 6 q.toNat) - (F 6 a.toNat)) * ((F 5 k.toNat) - (F 5 a.toNat)))))), (0, .ref mo), (1, .int (iN (a))), (2, .int (iN (q))), (3, .int (iN (k)))]) hx hb d_M_nextOf_172 hl (by decide) rfl (fun ls hl => ?_)
          refine lv_lload hx hb d_M_nextOf_174 (lv_at hl 1 rfl) ?_
          refine lv_lconst (v := jN (0)) hx hb d_M_nextOf_176 (by decide) ?_
          refine rj_clt (a := (((F 5 q.toNat) - (F 5 a.toNat)) * ((F 6 k.toNat) - (F 6 a.toNat)) - ((F 6 q.toNat) - (F 6 a.toNat)) * ((F 5 k.toNat) - (F 5 a.toNat)))) (b := 0) (tgt := 193) hx hb d_M_nextOf_177 d_M_nextOf_178 (by decide) rfl rfl (by have := tW_b hwb (i := a.toNat) (j := q.toNat) (k := k.toNat) (by omega) (by omega) (by omega); unfold tW at this; unfold i6; omega) (by unfold i6; omega) (fun c177 => ?_) (fun c177 => ?_)
          · skip
            refine lv_iload_n hx hb d_M_nextOf_193 rfl (lv_at hl 5 rfl) ?_
            refine lv_istore_n (lv' := [(2, .int (iN (k))), (6, .int (iN (1))), (4, .long (jN ((((F 5 q.toNat) - (F 5 a.toNat)) * ((F 6 k.toNat) - (F 6 a.toNat)) - ((F 6 q.toNat) - (F 6 a.toNat)) * ((F 5 k.toNat) - (F 5 a.toNat)))))), (0, .ref mo), (1, .int (iN (a))), (3, .int (iN (k)))]) hx hb d_M_nextOf_194 rfl hl (by decide) rfl (fun ls hl => ?_)
            refine lv_iinc (v := iN ((k + 1))) (lv' := [(3, .int (iN ((k + 1)))), (2, .int (iN (k))), (6, .int (iN (1))), (4, .long (jN ((((F 5 q.toNat) - (F 5 a.toNat)) * ((F 6 k.toNat) - (F 6 a.toNat)) - ((F 6 q.toNat) - (F 6 a.toNat)) * ((F 5 k.toNat) - (F 5 a.toNat)))))), (0, .ref mo), (1, .int (iN (a)))]) hx hb d_M_nextOf_195 hl (k := 5) rfl (by rw [show (k + 1) = k + (1 : Int) by omega, ← iN_add]; rfl) (by decide) rfl (fun ls hl => ?_)
            refine lv_goto (tgt := 4) hx hb d_M_nextOf_198 (by decide) ?_
            exact ih ((k + 1), k) _ _ _ (by omega) ⟨by omega, by omega, by rw [tn_s h0]; unfold nxS; rw [← h2, tn_c h0]; rw [if_neg (by omega), if_neg (by omega), if_pos (by unfold tW sW; omega)]⟩ w (lv_sub hl [4, 5, 1, 0] rfl)
          · skip
            refine lv_lload hx hb d_M_nextOf_181 (lv_at hl 1 rfl) ?_
            refine lv_lconst (v := jN (0)) hx hb d_M_nextOf_183 (by decide) ?_
            refine rj_cne (a := (((F 5 q.toNat) - (F 5 a.toNat)) * ((F 6 k.toNat) - (F 6 a.toNat)) - ((F 6 q.toNat) - (F 6 a.toNat)) * ((F 5 k.toNat) - (F 5 a.toNat)))) (b := 0) (tgt := 195) hx hb d_M_nextOf_184 d_M_nextOf_185 (by decide) rfl rfl (by have := tW_b hwb (i := a.toNat) (j := q.toNat) (k := k.toNat) (by omega) (by omega) (by omega); unfold tW at this; unfold i6; omega) (by unfold i6; omega) (fun c184 => ?_) (fun c184 => ?_)
            · skip
              refine lv_iinc (v := iN ((k + 1))) (lv' := [(3, .int (iN ((k + 1)))), (6, .int (iN (1))), (4, .long (jN ((((F 5 q.toNat) - (F 5 a.toNat)) * ((F 6 k.toNat) - (F 6 a.toNat)) - ((F 6 q.toNat) - (F 6 a.toNat)) * ((F 5 k.toNat) - (F 5 a.toNat)))))), (0, .ref mo), (1, .int (iN (a))), (2, .int (iN (q)))]) hx hb d_M_nextOf_195 hl (k := 5) rfl (by rw [show (k + 1) = k + (1 : Int) by omega, ← iN_add]; rfl) (by decide) rfl (fun ls hl => ?_)
              refine lv_goto (tgt := 4) hx hb d_M_nextOf_198 (by decide) ?_
              exact ih ((k + 1), q) _ _ _ (by omega) ⟨by omega, by omega, by rw [tn_s h0]; unfold nxS; rw [← h2, tn_c h0]; rw [if_neg (by omega), if_neg (by omega), if_neg (by unfold tW sW; omega)]⟩ w (lv_sub hl [3, 4, 5, 0] rfl)
            · skip
              refine lv_iload hx hb d_M_nextOf_188 (lv_at hl 0 rfl) ?_
              refine ri_zeq (a := 1) (tgt := 195) hx hb d_M_nextOf_190 (by decide) rfl (by unfold i3; omega) (fun c190 => ?_) (fun c190 => ?_)
              · skip
                refine lv_iinc (v := iN ((k + 1))) (lv' := [(3, .int (iN ((k + 1)))), (6, .int (iN (1))), (4, .long (jN ((((F 5 q.toNat) - (F 5 a.toNat)) * ((F 6 k.toNat) - (F 6 a.toNat)) - ((F 6 q.toNat) - (F 6 a.toNat)) * ((F 5 k.toNat) - (F 5 a.toNat)))))), (0, .ref mo), (1, .int (iN (a))), (2, .int (iN (q)))]) hx hb d_M_nextOf_195 hl (k := 5) rfl (by rw [show (k + 1) = k + (1 : Int) by omega, ← iN_add]; rfl) (by decide) rfl (fun ls hl => ?_)
                refine lv_goto (tgt := 4) hx hb d_M_nextOf_198 (by decide) ?_
                exact ih ((k + 1), q) _ _ _ (by omega) ⟨by omega, by omega, by rw [tn_s h0]; unfold nxS; rw [← h2, tn_c h0]; rw [if_neg (by omega), if_neg (by omega), if_neg (by unfold tW sW; omega)]⟩ w (lv_sub hl [3, 4, 5, 0] rfl)
              · skip
                refine lv_iload_n hx hb d_M_nextOf_193 rfl (lv_at hl 5 rfl) ?_
                refine lv_istore_n (lv' := [(2, .int (iN (k))), (6, .int (iN (1))), (4, .long (jN ((((F 5 q.toNat) - (F 5 a.toNat)) * ((F 6 k.toNat) - (F 6 a.toNat)) - ((F 6 q.toNat) - (F 6 a.toNat)) * ((F 5 k.toNat) - (F 5 a.toNat)))))), (0, .ref mo), (1, .int (iN (a))), (3, .int (iN (k)))]) hx hb d_M_nextOf_194 rfl hl (by decide) rfl (fun ls hl => ?_)
                refine lv_iinc (v := iN ((k + 1))) (lv' := [(3, .int (iN ((k + 1)))), (2, .int (iN (k))), (6, .int (iN (1))), (4, .long (jN ((((F 5 q.toNat) - (F 5 a.toNat)) * ((F 6 k.toNat) - (F 6 a.toNat)) - ((F 6 q.toNat) - (F 6 a.toNat)) * ((F 5 k.toNat) - (F 5 a.toNat)))))), (0, .ref mo), (1, .int (iN (a)))]) hx hb d_M_nextOf_195 hl (k := 5) rfl (by rw [show (k + 1) = k + (1 : Int) by omega, ← iN_add]; rfl) (by decide) rfl (fun ls hl => ?_)
                refine lv_goto (tgt := 4) hx hb d_M_nextOf_198 (by decide) ?_
                exact ih ((k + 1), k) _ _ _ (by omega) ⟨by omega, by omega, by rw [tn_s h0]; unfold nxS; rw [← h2, tn_c h0]; rw [if_neg (by omega), if_neg (by omega), if_pos (by unfold tW sW; omega)]⟩ w (lv_sub hl [4, 5, 1, 0] rfl)
      · skip
        refine lv_iload_n hx hb d_M_nextOf_49 rfl (lv_at hl 3 rfl) ?_
        refine lv_istore_n (lv' := [(2, .int (iN (k))), (0, .ref mo), (1, .int (iN (a))), (3, .int (iN (k)))]) hx hb d_M_nextOf_50 rfl hl (by decide) rfl (fun ls hl => ?_)
        refine lv_goto (tgt := 195) hx hb d_M_nextOf_51 (by decide) ?_
        refine lv_iinc (v := iN ((k + 1))) (lv' := [(3, .int (iN ((k + 1)))), (2, .int (iN (k))), (0, .ref mo), (1, .int (iN (a)))]) hx hb d_M_nextOf_195 hl (k := 3) rfl (by rw [show (k + 1) = k + (1 : Int) by omega, ← iN_add]; rfl) (by decide) rfl (fun ls hl => ?_)
        refine lv_goto (tgt := 4) hx hb d_M_nextOf_198 (by decide) ?_
        exact ih ((k + 1), k) _ _ _ (by omega) ⟨by omega, by omega, by rw [tn_s h0]; unfold nxS; rw [← h2, tn_c h0]; rw [if_neg (by omega), if_pos (by omega)]⟩ w (lv_sub hl [2, 3, 1, 0] rfl)
    · skip
      refine lv_aload_n hx hb d_M_nextOf_27 rfl (lv_at hl 0 rfl) ?_
      refine gk_get X w g.1.1 (show (mSt cI mo A f v F) mo = .inr (4, _) from mS_m) rfl in_M 6 (by decide) lk_M_22 rfl d_M_nextOf_28 ?_
      refine lv_iload_n hx hb d_M_nextOf_31 rfl (lv_at hl 3 rfl) ?_
      refine gk_iald X w 0 g.1.2.2.2.2.2.1 (mS_6 g) rfl (vin (by omega) (by omega) (by decide)) d_M_nextOf_32 ?_
      rw [vclN 576 (by omega) (by omega) (by decide)]
      refine lv_aload_n hx hb d_M_nextOf_33 rfl (lv_at hl 0 rfl) ?_
      refine gk_get X w g.1.1 (show (mSt cI mo A f v F) mo = .inr (4, _) from mS_m) rfl in_M 6 (by decide) lk_M_22 rfl d_M_nextOf_34 ?_
      refine lv_iload_n hx hb d_M_nextOf_37 rfl (lv_at hl 1 rfl) ?_
      refine gk_iald X w 0 g.1.2.2.2.2.2.1 (mS_6 g) rfl (vin (by omega) (by omega) (by decide)) d_M_nextOf_38 ?_
      rw [vclN 576 (by omega) (by omega) (by decide)]
      refine ri_cne (a := (F 6 k.toNat)) (b := (F 6 a.toNat)) (tgt := 45) hx hb d_M_nextOf_39 (by decide) rfl rfl (by have := hwb k.toNat (by omega); unfold i3; omega) (by have := hwb a.toNat (by omega); unfold i3; omega) (fun c39 => ?_) (fun c39 => ?_)
      · skip
        refine lv_iload_n hx hb d_M_nextOf_45 rfl (lv_at hl 2 rfl) ?_
        refine ri_zge (a := q) (tgt := 54) hx hb d_M_nextOf_46 (by decide) rfl (by unfold i3; omega) (fun c46 => ?_) (fun c46 => ?_)
        · skip
          refine lv_aload_n hx hb d_M_nextOf_54 rfl (lv_at hl 0 rfl) ?_
          refine gk_get X w g.1.1 (show (mSt cI mo A f v F) mo = .inr (4, _) from mS_m) rfl in_M 5 (by decide) lk_M_19 rfl d_M_nextOf_55 ?_
          refine lv_iload_n hx hb d_M_nextOf_58 rfl (lv_at hl 1 rfl) ?_
          refine gk_iald X w 0 g.1.2.2.2.2.1 (mS_5 g) rfl (vin (by omega) (by omega) (by decide)) d_M_nextOf_59 ?_
          rw [vclN 576 (by omega) (by omega) (by decide)]
          refine ri_i2l (a := (F 5 a.toNat)) hx hb d_M_nextOf_60 rfl (by have := hwb a.toNat (by omega); unfold i3; omega) ?_
          refine lv_aload_n hx hb d_M_nextOf_61 rfl (lv_at hl 0 rfl) ?_
          refine gk_get X w g.1.1 (show (mSt cI mo A f v F) mo = .inr (4, _) from mS_m) rfl in_M 6 (by decide) lk_M_22 rfl d_M_nextOf_62 ?_
          refine lv_iload_n hx hb d_M_nextOf_65 rfl (lv_at hl 1 rfl) ?_
          refine gk_iald X w 0 g.1.2.2.2.2.2.1 (mS_6 g) rfl (vin (by omega) (by omega) (by decide)) d_M_nextOf_66 ?_
          rw [vclN 576 (by omega) (by omega) (by decide)]
          refine ri_i2l (a := (F 6 a.toNat)) hx hb d_M_nextOf_67 rfl (by have := hwb a.toNat (by omega); unfold i3; omega) ?_
          refine lv_aload_n hx hb d_M_nextOf_68 rfl (lv_at hl 0 rfl) ?_
          refine gk_get X w g.1.1 (show (mSt cI mo A f v F) mo = .inr (4, _) from mS_m) rfl in_M 5 (by decide) lk_M_19 rfl d_M_nextOf_69 ?_
          refine lv_iload_n hx hb d_M_nextOf_72 rfl (lv_at hl 2 rfl) ?_
          refine gk_iald X w 0 g.1.2.2.2.2.1 (mS_5 g) rfl (vin (by omega) (by omega) (by decide)) d_M_nextOf_73 ?_
          rw [vclN 576 (by omega) (by omega) (by decide)]
          refine ri_i2l (a := (F 5 q.toNat)) hx hb d_M_nextOf_74 rfl (by have := hwb q.toNat (by omega); unfold i3; omega) ?_
          refine lv_aload_n hx hb d_M_nextOf_75 rfl (lv_at hl 0 rfl) ?_
          refine gk_get X w g.1.1 (show (mSt cI mo A f v F) mo = .inr (4, _) from mS_m) rfl in_M 6 (by decide) lk_M_22 rfl d_M_nextOf_76 ?_
          refine lv_iload_n hx hb d_M_nextOf_79 rfl (lv_at hl 2 rfl) ?_
          refine gk_iald X w 0 g.1.2.2.2.2.2.1 (mS_6 g) rfl (vin (by omega) (by omega) (by decide)) d_M_nextOf_80 ?_
          rw [vclN 576 (by omega) (by omega) (by decide)]
          refine ri_i2l (a := (F 6 q.toNat)) hx hb d_M_nextOf_81 rfl (by have := hwb q.toNat (by omega); unfold i3; omega) ?_
          refine lv_aload_n hx hb d_M_nextOf_82 rfl (lv_at hl 0 rfl) ?_
          refine gk_get X w g.1.1 (show (mSt cI mo A f v F) mo = .inr (4, _) from mS_m) rfl in_M 5 (by decide) lk_M_19 rfl d_M_nextOf_83 ?_
          refine lv_iload_n hx hb d_M_nextOf_86 rfl (lv_at hl 3 rfl) ?_
          refine gk_iald X w 0 g.1.2.2.2.2.1 (mS_5 g) rfl (vin (by omega) (by omega) (by decide)) d_M_nextOf_87 ?_
          rw [vclN 576 (by omega) (by omega) (by decide)]
          refine ri_i2l (a := (F 5 k.toNat)) hx hb d_M_nextOf_88 rfl (by have := hwb k.toNat (by omega); unfold i3; omega) ?_
          refine lv_aload_n hx hb d_M_nextOf_89 rfl (lv_at hl 0 rfl) ?_
          refine gk_get X w g.1.1 (show (mSt cI mo A f v F) mo = .inr (4, _) from mS_m) rfl in_M 6 (by decide) lk_M_22 rfl d_M_nextOf_90 ?_
          refine lv_iload_n hx hb d_M_nextOf_93 rfl (lv_at hl 3 rfl) ?_
          refine gk_iald X w 0 g.1.2.2.2.2.2.1 (mS_6 g) rfl (vin (by omega) (by omega) (by decide)) d_M_nextOf_94 ?_
          rw [vclN 576 (by omega) (by omega) (by decide)]
          refine ri_i2l (a := (F 6 k.toNat)) hx hb d_M_nextOf_95 rfl (by have := hwb k.toNat (by omega); unfold i3; omega) ?_
          refine g_cl w (g_runS (As := [.long (jN ((F 5 a.toNat))), .long (jN ((F 6 a.toNat))), .long (jN ((F 5 q.toNat))), .long (jN ((F 6 q.toNat))), .long (jN ((F 5 k.toNat))), .long (jN ((F 6 k.toNat)))]) (rest := []) X w (c_M_turn l (px := (F 5 a.toNat)) (py := (F 6 a.toNat)) (ax := (F 5 q.toNat)) (ay := (F 6 q.toNat)) (bx := (F 5 k.toNat)) (by_ := (F 6 k.toNat))) k_M_turn lk_M_58 st_M_turn ⟨(Nat.le_of_ble_eq_true rfl), (Nat.le_of_ble_eq_true rfl)⟩ rfl hl.1 rfl (Nat.le_of_ble_eq_true rfl) d_M_nextOf_96 ⟨Nat.zero_le _, Nat.zero_le _⟩) (fun r u H locs hp w => ?_)
          obtain ⟨rfl, rfl⟩ := hp
          have w : gw D (gA L sz) s.heap H locs L (mSt cI mo A f v F) := w
          refine lv_lstore (lv' := [(4, .long (jN ((((F 5 q.toNat) - (F 5 a.toNat)) * ((F 6 k.toNat) - (F 6 a.toNat)) - ((F 6 q.toNat) - (F 6 a.toNat)) * ((F 5 k.toNat) - (F 5 a.toNat)))))), (0, .ref mo), (1, .int (iN (a))), (2, .int (iN (q))), (3, .int (iN (k)))]) hx hb d_M_nextOf_99 hl (by decide) rfl (fun ls hl => ?_)
          refine lv_aload_n hx hb d_M_nextOf_101 rfl (lv_at hl 1 rfl) ?_
          refine gk_get X w g.1.1 (show (mSt cI mo A f v F) mo = .inr (4, _) from mS_m) rfl in_M 5 (by decide) lk_M_19 rfl d_M_nextOf_102 ?_
          refine lv_iload_n hx hb d_M_nextOf_105 rfl (lv_at hl 2 rfl) ?_
          refine gk_iald X w 0 g.1.2.2.2.2.1 (mS_5 g) rfl (vin (by omega) (by omega) (by decide)) d_M_nextOf_106 ?_
          rw [vclN 576 (by omega) (by omega) (by decide)]
          refine ri_i2l (a := (F 5 a.toNat)) hx hb d_M_nextOf_107 rfl (by have := hwb a.toNat (by omega); unfold i3; omega) ?_
          refine lv_aload_n hx hb d_M_nextOf_108 rfl (lv_at hl 1 rfl) ?_
          refine gk_get X w g.1.1 (show (mSt cI mo A f v F) mo = .inr (4, _) from mS_m) rfl in_M 6 (by decide) lk_M_22 rfl d_M_nextOf_109 ?_
          refine lv_iload_n hx hb d_M_nextOf_112 rfl (lv_at hl 2 rfl) ?_
          refine gk_iald X w 0 g.1.2.2.2.2.2.1 (mS_6 g) rfl (vin (by omega) (by omega) (by decide)) d_M_nextOf_113 ?_
          rw [vclN 576 (by omega) (by omega) (by decide)]
          refine ri_i2l (a := (F 6 a.toNat)) hx hb d_M_nextOf_114 rfl (by have := hwb a.toNat (by omega); unfold i3; omega) ?_
          refine lv_aload_n hx hb d_M_nextOf_115 rfl (lv_at hl 1 rfl) ?_
          refine gk_get X w g.1.1 (show (mSt cI mo A f v F) mo = .inr (4, _) from mS_m) rfl in_M 5 (by decide) lk_M_19 rfl d_M_nextOf_116 ?_
          refine lv_iload_n hx hb d_M_nextOf_119 rfl (lv_at hl 4 rfl) ?_
          refine gk_iald X w 0 g.1.2.2.2.2.1 (mS_5 g) rfl (vin (by omega) (by omega) (by decide)) d_M_nextOf_120 ?_
          rw [vclN 576 (by omega) (by omega) (by decide)]
          refine ri_i2l (a := (F 5 k.toNat)) hx hb d_M_nextOf_121 rfl (by have := hwb k.toNat (by omega); unfold i3; omega) ?_
          refine lv_aload_n hx hb d_M_nextOf_122 rfl (lv_at hl 1 rfl) ?_
          refine gk_get X w g.1.1 (show (mSt cI mo A f v F) mo = .inr (4, _) from mS_m) rfl in_M 6 (by decide) lk_M_22 rfl d_M_nextOf_123 ?_
          refine lv_iload_n hx hb d_M_nextOf_126 rfl (lv_at hl 4 rfl) ?_
          refine gk_iald X w 0 g.1.2.2.2.2.2.1 (mS_6 g) rfl (vin (by omega) (by omega) (by decide)) d_M_nextOf_127 ?_
          rw [vclN 576 (by omega) (by omega) (by decide)]
          refine ri_i2l (a := (F 6 k.toNat)) hx hb d_M_nextOf_128 rfl (by have := hwb k.toNat (by omega); unfold i3; omega) ?_
          refine g_cl w (g_runS (As := [.long (jN ((F 5 a.toNat))), .long (jN ((F 6 a.toNat))), .long (jN ((F 5 k.toNat))), .long (jN ((F 6 k.toNat)))]) (rest := []) X w (c_M_square l (px := (F 5 a.toNat)) (py := (F 6 a.toNat)) (ax := (F 5 k.toNat)) (ay := (F 6 k.toNat))) k_M_square lk_M_62 st_M_square ⟨(Nat.le_of_ble_eq_true rfl), (Nat.le_of_ble_eq_true rfl)⟩ rfl hl.1 rfl (Nat.le_of_ble_eq_true rfl) d_M_nextOf_129 ⟨Nat.zero_le _, Nat.zero_le _⟩) (fun r u H locs hp w => ?_)
          obtain ⟨rfl, rfl⟩ := hp
          have w : gw D (gA L sz) s.heap H locs L (mSt cI mo A f v F) := w
          refine lv_aload_n hx hb d_M_nextOf_132 rfl (lv_at hl 1 rfl) ?_
          refine gk_get X w g.1.1 (show (mSt cI mo A f v F) mo = .inr (4, _) from mS_m) rfl in_M 5 (by decide) lk_M_19 rfl d_M_nextOf_133 ?_
          refine lv_iload_n hx hb d_M_nextOf_136 rfl (lv_at hl 2 rfl) ?_
          refine gk_iald X w 0 g.1.2.2.2.2.1 (mS_5 g) rfl (vin (by omega) (by omega) (by decide)) d_M_nextOf_137 ?_
          rw [vclN 576 (by omega) (by omega) (by decide)]
          refine ri_i2l (a := (F 5 a.toNat)) hx hb d_M_nextOf_138 rfl (by have := hwb a.toNat (by omega); unfold i3; omega) ?_
          refine lv_aload_n hx hb d_M_nextOf_139 rfl (lv_at hl 1 rfl) ?_
          refine gk_get X w g.1.1 (show (mSt cI mo A f v F) mo = .inr (4, _) from mS_m) rfl in_M 6 (by decide) lk_M_22 rfl d_M_nextOf_140 ?_
          refine lv_iload_n hx hb d_M_nextOf_143 rfl (lv_at hl 2 rfl) ?_
          refine gk_iald X w 0 g.1.2.2.2.2.2.1 (mS_6 g) rfl (vin (by omega) (by omega) (by decide)) d_M_nextOf_144 ?_
          rw [vclN 576 (by omega) (by omega) (by decide)]
          refine ri_i2l (a := (F 6 a.toNat)) hx hb d_M_nextOf_145 rfl (by have := hwb a.toNat (by omega); unfold i3; omega) ?_
          refine lv_aload_n hx hb d_M_nextOf_146 rfl (lv_at hl 1 rfl) ?_
          refine gk_get X w g.1.1 (show (mSt cI mo A f v F) mo = .inr (4, _) from mS_m) rfl in_M 5 (by decide) lk_M_19 rfl d_M_nextOf_147 ?_
          refine lv_iload_n hx hb d_M_nextOf_150 rfl (lv_at hl 3 rfl) ?_
          refine gk_iald X w 0 g.1.2.2.2.2.1 (mS_5 g) rfl (vin (by omega) (by omega) (by decide)) d_M_nextOf_151 ?_
          rw [vclN 576 (by omega) (by omega) (by decide)]
          refine ri_i2l (a := (F 5 q.toNat)) hx hb d_M_nextOf_152 rfl (by have := hwb q.toNat (by omega); unfold i3; omega) ?_
          refine lv_aload_n hx hb d_M_nextOf_153 rfl (lv_at hl 1 rfl) ?_
          refine gk_get X w g.1.1 (show (mSt cI mo A f v F) mo = .inr (4, _) from mS_m) rfl in_M 6 (by decide) lk_M_22 rfl d_M_nextOf_154 ?_
          refine lv_iload_n hx hb d_M_nextOf_157 rfl (lv_at hl 3 rfl) ?_
          refine gk_iald X w 0 g.1.2.2.2.2.2.1 (mS_6 g) rfl (vin (by omega) (by omega) (by decide)) d_M_nextOf_158 ?_
          rw [vclN 576 (by omega) (by omega) (by decide)]
          refine ri_i2l (a := (F 6 q.toNat)) hx hb d_M_nextOf_159 rfl (by have := hwb q.toNat (by omega); unfold i3; omega) ?_
          refine g_cl w (g_runS (As := [.long (jN ((F 5 a.toNat))), .long (jN ((F 6 a.toNat))), .long (jN ((F 5 q.toNat))), .long (jN ((F 6 q.toNat)))]) (rest := [.long (jN ((((F 5 a.toNat) - (F 5 k.toNat)) * ((F 5 a.toNat) - (F 5 k.toNat)) + ((F 6 a.toNat) - (F 6 k.toNat)) * ((F 6 a.toNat) - (F 6 k.toNat)))))]) X w (c_M_square l (px := (F 5 a.toNat)) (py := (F 6 a.toNat)) (ax := (F 5 q.toNat)) (ay := (F 6 q.toNat))) k_M_square lk_M_62 st_M_square ⟨(Nat.le_of_ble_eq_true rfl), (Nat.le_of_ble_eq_true rfl)⟩ rfl hl.1 rfl (Nat.le_of_ble_eq_true rfl) d_M_nextOf_160 ⟨Nat.zero_le _, Nat.zero_le _⟩) (fun r u H locs hp w => ?_)
          obtain ⟨rfl, rfl⟩ := hp
          have w : gw D (gA L sz) s.heap H locs L (mSt cI mo A f v F) := w
          refine rj_cle (a := (((F 5 a.toNat) - (F 5 k.toNat)) * ((F 5 a.toNat) - (F 5 k.toNat)) + ((F 6 a.toNat) - (F 6 k.toNat)) * ((F 6 a.toNat) - (F 6 k.toNat)))) (b := (((F 5 a.toNat) - (F 5 q.toNat)) * ((F 5 a.toNat) - (F 5 q.toNat)) + ((F 6 a.toNat) - (F 6 q.toNat)) * ((F 6 a.toNat) - (F 6 q.toNat)))) (tgt := 171) hx hb d_M_nextOf_163 d_M_nextOf_164 (by decide) rfl rfl (by have := sW_b hwb (i := a.toNat) (j := k.toNat) (by omega) (by omega); unfold sW at this; unfold i6; omega) (by have := sW_b hwb (i := a.toNat) (j := q.toNat) (by omega) (by omega); unfold sW at this; unfold i6; omega) (fun c163 => ?_) (fun c163 => ?_)
          · skip
            refine lv_iconst (v := iN (0)) hx hb d_M_nextOf_171 (by decide) ?_
            refine lv_istore (lv' := [(6, .int (iN (0))), (4, .long (jN ((((F 5 q.toNat) - (F 5 a.toNat)) * ((F 6 k.toNat) - (F 6 a.toNat)) - ((F 6 q.toNat) - (F 6 a.toNat)) * ((F 5 k.toNat) - (F 5 a.toNat)))))), (0, .ref mo), (1, .int (iN (a))), (2, .int (iN (q))), (3, .int (iN (k)))]) hx hb d_M_nextOf_172 hl (by decide) rfl (fun ls hl => ?_)
            refine lv_lload hx hb d_M_nextOf_174 (lv_at hl 1 rfl) ?_
            refine lv_lconst (v := jN (0)) hx hb d_M_nextOf_176 (by decide) ?_
            refine rj_clt (a := (((F 5 q.toNat) - (F 5 a.toNat)) * ((F 6 k.toNat) - (F 6 a.toNat)) - ((F 6 q.toNat) - (F 6 a.toNat)) * ((F 5 k.toNat) - (F 5 a.toNat)))) (b := 0) (tgt := 193) hx hb d_M_nextOf_177 d_M_nextOf_178 (by decide) rfl rfl (by have := tW_b hwb (i := a.toNat) (j := q.toNat) (k := k.toNat) (by omega) (by omega) (by omega); unfold tW at this; unfold i6; omega) (by unfold i6; omega) (fun c177 => ?_) (fun c177 => ?_)
            · skip
              refine lv_iload_n hx hb d_M_nextOf_193 rfl (lv_at hl 5 rfl) ?_
              refine lv_istore_n (lv' := [(2, .int (iN (k))), (6, .int (iN (0))), (4, .long (jN ((((F 5 q.toNat) - (F 5 a.toNat)) * ((F 6 k.toNat) - (F 6 a.toNat)) - ((F 6 q.toNat) - (F 6 a.toNat)) * ((F 5 k.toNat) - (F 5 a.toNat)))))), (0, .ref mo), (1, .int (iN (a))), (3, .int (iN (k)))]) hx hb d_M_nextOf_194 rfl hl (by decide) rfl (fun ls hl => ?_)
              refine lv_iinc (v := iN ((k + 1))) (lv' := [(3, .int (iN ((k + 1)))), (2, .int (iN (k))), (6, .int (iN (0))), (4, .long (jN ((((F 5 q.toNat) - (F 5 a.toNat)) * ((F 6 k.toNat) - (F 6 a.toNat)) - ((F 6 q.toNat) - (F 6 a.toNat)) * ((F 5 k.toNat) - (F 5 a.toNat)))))), (0, .ref mo), (1, .int (iN (a)))]) hx hb d_M_nextOf_195 hl (k := 5) rfl (by rw [show (k + 1) = k + (1 : Int) by omega, ← iN_add]; rfl) (by decide) rfl (fun ls hl => ?_)
              refine lv_goto (tgt := 4) hx hb d_M_nextOf_198 (by decide) ?_
              exact ih ((k + 1), k) _ _ _ (by omega) ⟨by omega, by omega, by rw [tn_s h0]; unfold nxS; rw [← h2, tn_c h0]; rw [if_neg (by omega), if_neg (by omega), if_pos (by unfold tW sW; omega)]⟩ w (lv_sub hl [4, 5, 1, 0] rfl)
            · skip
              refine lv_lload hx hb d_M_nextOf_181 (lv_at hl 1 rfl) ?_
              refine lv_lconst (v := jN (0)) hx hb d_M_nextOf_183 (by decide) ?_
              refine rj_cne (a := (((F 5 q.toNat) - (F 5 a.toNat)) * ((F 6 k.toNat) - (F 6 a.toNat)) - ((F 6 q.toNat) - (F 6 a.toNat)) * ((F 5 k.toNat) - (F 5 a.toNat)))) (b := 0) (tgt := 195) hx hb d_M_nextOf_184 d_M_nextOf_185 (by decide) rfl rfl (by have := tW_b hwb (i := a.toNat) (j := q.toNat) (k := k.toNat) (by omega) (by omega) (by omega); unfold tW at this; unfold i6; omega) (by unfold i6; omega) (fun c184 => ?_) (fun c184 => ?_)
              · skip
                refine lv_iinc (v := iN ((k + 1))) (lv' := [(3, .int (iN ((k + 1)))), (6, .int (iN (0))), (4, .long (jN ((((F 5 q.toNat) - (F 5 a.toNat)) * ((F 6 k.toNat) - (F 6 a.toNat)) - ((F 6 q.toNat) - (F 6 a.toNat)) * ((F 5 k.toNat) - (F 5 a.toNat)))))), (0, .ref mo), (1, .int (iN (a))), (2, .int (iN (q)))]) hx hb d_M_nextOf_195 hl (k := 5) rfl (by rw [show (k + 1) = k + (1 : Int) by omega, ← iN_add]; rfl) (by decide) rfl (fun ls hl => ?_)
                refine lv_goto (tgt := 4) hx hb d_M_nextOf_198 (by decide) ?_
                exact ih ((k + 1), q) _ _ _ (by omega) ⟨by omega, by omega, by rw [tn_s h0]; unfold nxS; rw [← h2, tn_c h0]; rw [if_neg (by omega), if_neg (by omega), if_neg (by unfold tW sW; omega)]⟩ w (lv_sub hl [3, 4, 5, 0] rfl)
              · skip
                refine lv_iload hx hb d_M_nextOf_188 (lv_at hl 0 rfl) ?_
                refine ri_zeq (a := 0) (tgt := 195) hx hb d_M_nextOf_190 (by decide) rfl (by unfold i3; omega) (fun c190 => ?_) (fun c190 => ?_)
                · skip
                  refine lv_iinc (v := iN ((k + 1))) (lv' := [(3, .int (iN ((k + 1)))), (6, .int (iN (0))), (4, .long (jN ((((F 5 q.toNat) - (F 5 a.toNat)) * ((F 6 k.toNat) - (F 6 a.toNat)) - ((F 6 q.toNat) - (F 6 a.toNat)) * ((F 5 k.toNat) - (F 5 a.toNat)))))), (0, .ref mo), (1, .int (iN (a))), (2, .int (iN (q)))]) hx hb d_M_nextOf_195 hl (k := 5) rfl (by rw [show (k + 1) = k + (1 : Int) by omega, ← iN_add]; rfl) (by decide) rfl (fun ls hl => ?_)
                  refine lv_goto (tgt := 4) hx hb d_M_nextOf_198 (by decide) ?_
                  exact ih ((k + 1), q) _ _ _ (by omega) ⟨by omega, by omega, by rw [tn_s h0]; unfold nxS; rw [← h2, tn_c h0]; rw [if_neg (by omega), if_neg (by omega), if_neg (by unfold tW sW; omega)]⟩ w (lv_sub hl [3, 4, 5, 0] rfl)
                · skip
                  refine lv_iload_n hx hb d_M_nextOf_193 rfl (lv_at hl 5 rfl) ?_
                  refine lv_istore_n (lv' := [(2, .int (iN (k))), (6, .int (iN (0))), (4, .long (jN ((((F 5 q.toNat) - (F 5 a.toNat)) * ((F 6 k.toNat) - (F 6 a.toNat)) - ((F 6 q.toNat) - (F 6 a.toNat)) * ((F 5 k.toNat) - (F 5 a.toNat)))))), (0, .ref mo), (1, .int (iN (a))), (3, .int (iN (k)))]) hx hb d_M_nextOf_194 rfl hl (by decide) rfl (fun ls hl => ?_)
                  refine lv_iinc (v := iN ((k + 1))) (lv' := [(3, .int (iN ((k + 1)))), (2, .int (iN (k))), (6, .int (iN (0))), (4, .long (jN ((((F 5 q.toNat) - (F 5 a.toNat)) * ((F 6 k.toNat) - (F 6 a.toNat)) - ((F 6 q.toNat) - (F 6 a.toNat)) * ((F 5 k.toNat) - (F 5 a.toNat)))))), (0, .ref mo), (1, .int (iN (a)))]) hx hb d_M_nextOf_195 hl (k := 5) rfl (by rw [show (k + 1) = k + (1 : Int) by omega, ← iN_add]; rfl) (by decide) rfl (fun ls hl => ?_)
                  refine lv_goto (tgt := 4) hx hb d_M_nextOf_198 (by decide) ?_
                  exact ih ((k + 1), k) _ _ _ (by omega) ⟨by omega, by omega, by rw [tn_s h0]; unfold nxS; rw [← h2, tn_c h0]; rw [if_neg (by omega), if_neg (by omega), if_pos (by unfold tW sW; omega)]⟩ w (lv_sub hl [4, 5, 1, 0] rfl)
          · skip
            refine lv_iconst (v := iN (1)) hx hb d_M_nextOf_167 (by decide) ?_
            refine lv_goto (tgt := 172) hx hb d_M_nextOf_168 (by decide) ?_
            refine lv_istore (lv' := [(6, .int (iN (1))), (4, .long (jN ((((F 5 q.toNat) - (F 5 a.toNat)) * ((F 6 k.toNat) - (F 6 a.toNat)) - ((F 6 q.toNat) - (F 6 a.toNat)) * ((F 5 k.toNat) - (F 5 a.toNat)))))), (0, .ref mo), (1, .int (iN (a))), (2, .int (iN (q))), (3, .int (iN (k)))]) hx hb d_M_nextOf_172 hl (by decide) rfl (fun ls hl => ?_)
            refine lv_lload hx hb d_M_nextOf_174 (lv_at hl 1 rfl) ?_
            refine lv_lconst (v := jN (0)) hx hb d_M_nextOf_176 (by decide) ?_
            refine rj_clt (a := (((F 5 q.toNat) - (F 5 a.toNat)) * ((F 6 k.toNat) - (F 6 a.toNat)) - ((F 6 q.toNat) - (F 6 a.toNat)) * ((F 5 k.toNat) - (F 5 a.toNat)))) (b := 0) (tgt := 193) hx hb d_M_nextOf_177 d_M_nextOf_178 (by decide) rfl rfl (by have := tW_b hwb (i := a.toNat) (j := q.toNat) (k := k.toNat) (by omega) (by omega) (by omega); unfold tW at this; unfold i6; omega) (by unfold i6; omega) (fun c177 => ?_) (fun c177 => ?_)
            · skip
              refine lv_iload_n hx hb d_M_nextOf_193 rfl (lv_at hl 5 rfl) ?_
              refine lv_istore_n (lv' := [(2, .int (iN (k))), (6, .int (iN (1))), (4, .long (jN ((((F 5 q.toNat) - (F 5 a.toNat)) * ((F 6 k.toNat) - (F 6 a.toNat)) - ((F 6 q.toNat) - (F 6 a.toNat)) * ((F 5 k.toNat) - (F 5 a.toNat)))))), (0, .ref mo), (1, .int (iN (a))), (3, .int (iN (k)))]) hx hb d_M_nextOf_194 rfl hl (by decide) rfl (fun ls hl => ?_)
              refine lv_iinc (v := iN ((k + 1))) (lv' := [(3, .int (iN ((k + 1)))), (2, .int (iN (k))), (6, .int (iN (1))), (4, .long (jN ((((F 5 q.toNat) - (F 5 a.toNat)) * ((F 6 k.toNat) - (F 6 a.toNat)) - ((F 6 q.toNat) - (F 6 a.toNat)) * ((F 5 k.toNat) - (F 5 a.toNat)))))), (0, .ref mo), (1, .int (iN (a)))]) hx hb d_M_nextOf_195 hl (k := 5) rfl (by rw [show (k + 1) = k + (1 : Int) by omega, ← iN_add]; rfl) (by decide) rfl (fun ls hl => ?_)
              refine lv_goto (tgt := 4) hx hb d_M_nextOf_198 (by decide) ?_
              exact ih ((k + 1), k) _ _ _ (by omega) ⟨by omega, by omega, by rw [tn_s h0]; unfold nxS; rw [← h2, tn_c h0]; rw [if_neg (by omega), if_neg (by omega), if_pos (by unfold tW sW; omega)]⟩ w (lv_sub hl [4, 5, 1, 0] rfl)
            · skip
              refine lv_lload hx hb d_M_nextOf_181 (lv_at hl 1 rfl) ?_
              refine lv_lconst (v := jN (0)) hx hb d_M_nextOf_183 (by decide) ?_
              refine rj_cne (a := (((F 5 q.toNat) - (F 5 a.toNat)) * ((F 6 k.toNat) - (F 6 a.toNat)) - ((F 6 q.toNat) - (F 6 a.toNat)) * ((F 5 k.toNat) - (F 5 a.toNat)))) (b := 0) (tgt := 195) hx hb d_M_nextOf_184 d_M_nextOf_185 (by decide) rfl rfl (by have := tW_b hwb (i := a.toNat) (j := q.toNat) (k := k.toNat) (by omega) (by omega) (by omega); unfold tW at this; unfold i6; omega) (by unfold i6; omega) (fun c184 => ?_) (fun c184 => ?_)
              · skip
                refine lv_iinc (v := iN ((k + 1))) (lv' := [(3, .int (iN ((k + 1)))), (6, .int (iN (1))), (4, .long (jN ((((F 5 q.toNat) - (F 5 a.toNat)) * ((F 6 k.toNat) - (F 6 a.toNat)) - ((F 6 q.toNat) - (F 6 a.toNat)) * ((F 5 k.toNat) - (F 5 a.toNat)))))), (0, .ref mo), (1, .int (iN (a))), (2, .int (iN (q)))]) hx hb d_M_nextOf_195 hl (k := 5) rfl (by rw [show (k + 1) = k + (1 : Int) by omega, ← iN_add]; rfl) (by decide) rfl (fun ls hl => ?_)
                refine lv_goto (tgt := 4) hx hb d_M_nextOf_198 (by decide) ?_
                exact ih ((k + 1), q) _ _ _ (by omega) ⟨by omega, by omega, by rw [tn_s h0]; unfold nxS; rw [← h2, tn_c h0]; rw [if_neg (by omega), if_neg (by omega), if_neg (by unfold tW sW; omega)]⟩ w (lv_sub hl [3, 4, 5, 0] rfl)
              · skip
                refine lv_iload hx hb d_M_nextOf_188 (lv_at hl 0 rfl) ?_
                refine ri_zeq (a := 1) (tgt := 195) hx hb d_M_nextOf_190 (by decide) rfl (by unfold i3; omega) (fun c190 => ?_) (fun c190 => ?_)
                · skip
                  refine lv_iinc (v := iN ((k + 1))) (lv' := [(3, .int (iN ((k + 1)))), (6, .int (iN (1))), (4, .long (jN ((((F 5 q.toNat) - (F 5 a.toNat)) * ((F 6 k.toNat) - (F 6 a.toNat)) - ((F 6 q.toNat) - (F 6 a.toNat)) * ((F 5 k.toNat) - (F 5 a.toNat)))))), (0, .ref mo), (1, .int (iN (a))), (2, .int (iN (q)))]) hx hb d_M_nextOf_195 hl (k := 5) rfl (by rw [show (k + 1) = k + (1 : Int) by omega, ← iN_add]; rfl) (by decide) rfl (fun ls hl => ?_)
                  refine lv_goto (tgt := 4) hx hb d_M_nextOf_198 (by decide) ?_
                  exact ih ((k + 1), q) _ _ _ (by omega) ⟨by omega, by omega, by rw [tn_s h0]; unfold nxS; rw [← h2, tn_c h0]; rw [if_neg (by omega), if_neg (by omega), if_neg (by unfold tW sW; omega)]⟩ w (lv_sub hl [3, 4, 5, 0] rfl)
                · skip
                  refine lv_iload_n hx hb d_M_nextOf_193 rfl (lv_at hl 5 rfl) ?_
                  refine lv_istore_n (lv' := [(2, .int (iN (k))), (6, .int (iN (1))), (4, .long (jN ((((F 5 q.toNat) - (F 5 a.toNat)) * ((F 6 k.toNat) - (F 6 a.toNat)) - ((F 6 q.toNat) - (F 6 a.toNat)) * ((F 5 k.toNat) - (F 5 a.toNat)))))), (0, .ref mo), (1, .int (iN (a))), (3, .int (iN (k)))]) hx hb d_M_nextOf_194 rfl hl (by decide) rfl (fun ls hl => ?_)
                  refine lv_iinc (v := iN ((k + 1))) (lv' := [(3, .int (iN ((k + 1)))), (2, .int (iN (k))), (6, .int (iN (1))), (4, .long (jN ((((F 5 q.toNat) - (F 5 a.toNat)) * ((F 6 k.toNat) - (F 6 a.toNat)) - ((F 6 q.toNat) - (F 6 a.toNat)) * ((F 5 k.toNat) - (F 5 a.toNat)))))), (0, .ref mo), (1, .int (iN (a)))]) hx hb d_M_nextOf_195 hl (k := 5) rfl (by rw [show (k + 1) = k + (1 : Int) by omega, ← iN_add]; rfl) (by decide) rfl (fun ls hl => ?_)
                  refine lv_goto (tgt := 4) hx hb d_M_nextOf_198 (by decide) ?_
                  exact ih ((k + 1), k) _ _ _ (by omega) ⟨by omega, by omega, by rw [tn_s h0]; unfold nxS; rw [← h2, tn_c h0]; rw [if_neg (by omega), if_neg (by omega), if_pos (by unfold tW sW; omega)]⟩ w (lv_sub hl [4, 5, 1, 0] rfl)
        · skip
          refine lv_iload_n hx hb d_M_nextOf_49 rfl (lv_at hl 3 rfl) ?_
          refine lv_istore_n (lv' := [(2, .int (iN (k))), (0, .ref mo), (1, .int (iN (a))), (3, .int (iN (k)))]) hx hb d_M_nextOf_50 rfl hl (by decide) rfl (fun ls hl => ?_)
          refine lv_goto (tgt := 195) hx hb d_M_nextOf_51 (by decide) ?_
          refine lv_iinc (v := iN ((k + 1))) (lv' := [(3, .int (iN ((k + 1)))), (2, .int (iN (k))), (0, .ref mo), (1, .int (iN (a)))]) hx hb d_M_nextOf_195 hl (k := 3) rfl (by rw [show (k + 1) = k + (1 : Int) by omega, ← iN_add]; rfl) (by decide) rfl (fun ls hl => ?_)
          refine lv_goto (tgt := 4) hx hb d_M_nextOf_198 (by decide) ?_
          exact ih ((k + 1), k) _ _ _ (by omega) ⟨by omega, by omega, by rw [tn_s h0]; unfold nxS; rw [← h2, tn_c h0]; rw [if_neg (by omega), if_pos (by omega)]⟩ w (lv_sub hl [2, 3, 1, 0] rfl)
      · skip
        refine lv_goto (tgt := 195) hx hb d_M_nextOf_42 (by decide) ?_
        refine lv_iinc (v := iN ((k + 1))) (lv' := [(3, .int (iN ((k + 1)))), (0, .ref mo), (1, .int (iN (a))), (2, .int (iN (q)))]) hx hb d_M_nextOf_195 hl (k := 3) rfl (by rw [show (k + 1) = k + (1 : Int) by omega, ← iN_add]; rfl) (by decide) rfl (fun ls hl => ?_)
        refine lv_goto (tgt := 4) hx hb d_M_nextOf_198 (by decide) ?_
        exact ih ((k + 1), q) _ _ _ (by omega) ⟨by omega, by omega, by rw [tn_s h0]; unfold nxS; rw [← h2, tn_c h0]; exact (if_pos ⟨by omega, by omega⟩).symm⟩ w (lv_sub hl [1, 2, 3, 0] rfl)
