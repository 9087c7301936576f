/-! THE REFERENCE: goRound, load, loadBoth: H is the hull of the points in GX, GY -/
def lexle (p q : Pt) : Prop := p.1 < q.1 ∨ (p.1 = q.1 ∧ p.2 ≤ q.2)
theorem lex_anti {p q : Pt} (h1 : lexle p q) (h2 : lexle q p) : p = q := by
  unfold lexle at *; exact Prod.ext (by omega) (by omega)
def isHW (GX GY : Nat → Int) (n : Nat) (H : List Pt) : Prop :=
  (n = 0 → H = []) ∧ (0 < n → H ≠ []) ∧ H.length ≤ 576 ∧ H.Nodup ∧ (∀ p, H[0]? = some p → (∃ j, j < n ∧ (GX j, GY j) = p) ∧ ∀ j, j < n → lexle p (GX j, GY j)) ∧ (2 ≤ H.length → ∀ i p q, H[i]? = some p → H[(i + 1) % H.length]? = some q → NXT GX GY n p q) ∧ (∀ p, H = [p] → ∀ j, j < n → (GX j, GY j) = p)
def hld (F : Nat → Nat → Int) (H : List Pt) (n : Int) : Prop := ∀ (i : Nat) (q : Pt), (i : Int) < n → H[i]? = some q → F 8 i = q.1 ∧ F 9 i = q.2
/-- one corner more: what the step of the walk says -/
theorem go_next {GX GY : Nat → Int} {n a k : Nat} {H : List Pt} (h : isHW GX GY n H) (ha : a < n) (hk : k < H.length) (hak : H[k]? = some (GX a, GY a)) :
    (k + 1 < H.length → 0 ≤ nxS GX GY a n ∧ H[k + 1]? = some (GX (nxS GX GY a n).toNat, GY (nxS GX GY a n).toNat) ∧ ∀ p, H[0]? = some p → (GX (nxS GX GY a n).toNat, GY (nxS GX GY a n).toNat) ≠ p) ∧
    (k + 1 = H.length → nxS GX GY a n < 0 ∨ (0 ≤ nxS GX GY a n ∧ H[0]? = some (GX (nxS GX GY a n).toNat, GY (nxS GX GY a n).toNat))) := by
  obtain ⟨h1, h2, h3, h4, h5, h6, h7⟩ := h
  constructor
  · intro hk1
    have hq : H[k + 1]? = some H[k + 1] := List.getElem?_eq_getElem hk1
    have hN := h6 (by omega) k _ _ hak (by rw [Nat.mod_eq_of_lt hk1]; exact hq)
    have hn := (nxS_is hN n (Nat.le_refl _)).2.1 hN.2.1
    refine ⟨hn.1, by rw [hn.2]; exact hq, fun p hp hpe => ?_⟩
    rw [hn.2] at hpe
    have h0 : 0 < H.length := by omega
    rw [List.getElem?_eq_getElem h0] at hp
    have e : H[k + 1] = H[0] := hpe.trans (Option.some.inj hp).symm
    have := (List.getElem?_inj (l := H) (i := k + 1) (j := 0) hk1 h4).mp (by rw [hq, List.getElem?_eq_getElem h0, e])
    omega
  · intro hk1
    by_cases hl : H.length = 1
    · left
      obtain ⟨p, hp⟩ := List.length_eq_one_iff.mp hl
      have hall := h7 p hp
      have := nxS_all (GX := GX) (GY := GY) (at_ := a) n (fun j hj => (hall j hj).trans (hall a ha).symm)
      omega
    · right
      have h0 : 0 < H.length := by omega
      have hq : H[0]? = some H[0] := List.getElem?_eq_getElem h0
      have hN := h6 (by omega) k _ _ hak (by rw [hk1, Nat.mod_self]; exact hq)
      have hn := (nxS_is hN n (Nat.le_refl _)).2.1 hN.2.1
      exact ⟨hn.1, by rw [hn.2]; exact hq⟩

set_option maxHeartbeats 4000000 in
set_option maxRecDepth 100000 in
theorem c_M_goRound (l : Launch) {D : va_G} {cI cR : ClassId} {L : List Nat} {f : Nat → va_E} {mo : Nat} {A : Nat → Nat} {v : Nat → Int} {F : Nat → Nat → Int} (g : mg L mo A) (h7 : 0 ≤ v 7 ∧ v 7 ≤ 576) (hwb : wbd (F 5) (F 6) (v 7)) {Hu : List Pt} (hH : isHW (F 5) (F 6) (v 7).toNat Hu) : gMv D cI cR l y_M_goRound (Cond.code y_M_goRound b_M_goRound 4 none :: lw_g) { frames := 2, cells := 0, slots := 0, locals := 57 } [.ref mo] L (mSt cI mo A f v F) (fun u => ∃ (v' : Nat → Int) (F' : Nat → Nat → Int), u = (L, mSt cI mo A f v' F') ∧ v' 10 = Hu.length ∧ (∀ j, j ≠ 10 → v' j = v j) ∧ (∀ j, j ≠ 8 → j ≠ 9 → F' j = F j) ∧ hld F' Hu Hu.length) := by
  intro sz
  refine g_enter (by decide) rfl (Nat.le_of_ble_eq_true rfl) ?_
  intro p e s m below meth cd ls X hrt hlk hnm hl hsz w
  have X : gx p m cd b_M_goRound 4 s _ "HullSumsModel" D cI cR := X
  have hx := X.1.1
  have hb := X.1.2.1
  have hl : lv_has ls 4 [(0, .ref mo)] := hl
  have hv7 := h7
  refine lv_aload_n hx hb d_M_goRound_0 rfl (lv_at hl 0 rfl) ?_
  refine lv_iconst (v := iN (0)) hx hb d_M_goRound_1 (by decide) ?_
  refine gk_put X w g.1.1 (show (mSt cI mo A f v F) mo = .inr (4, _) from mS_m) rfl in_M ty_M tyok_M nm_M 10 (by decide) lk_M_51 rfl (ty := .int) (by decide +kernel) rfl rfl (Nat.le_of_ble_eq_true rfl) d_M_goRound_2 (fun H locs w => ?_)
  obtain ⟨v1, hv1⟩ : ∃ q : Nat → Int, q = va_up v 10 (0) := ⟨_, rfl⟩
  have v1s : v1 10 = 0 := by rw [hv1, va_up_self]
  have v1n : ∀ j, j ≠ 10 → v1 j = v j := fun j hj => by rw [hv1, va_up_ne _ _ hj]
  have w : gw D (gA L sz) s.heap H locs L (mSt cI mo A f v1 F) := by rw [hv1, ← mU_m (v := v)]; exact w
  have e7 : v1 7 = v 7 := v1n 7 (by decide)
  refine lv_iconst (v := iN (-1)) hx hb d_M_goRound_5 (by decide) ?_
  refine lv_istore_n (lv' := [(1, .int (iN (-1))), (0, .ref mo)]) hx hb d_M_goRound_6 rfl hl (by decide) rfl (fun ls hl => ?_)
  refine lv_iconst (v := iN (0)) hx hb d_M_goRound_7 (by decide) ?_
  refine lv_istore_n (lv' := [(2, .int (iN (0))), (1, .int (iN (-1))), (0, .ref mo)]) hx hb d_M_goRound_8 rfl hl (by decide) rfl (fun ls hl => ?_)
  refine g_loop (σ := Int × Int) (fun z9 => (v 7 - z9.1).toNat) (fun z9 => [(0, .ref mo), (1, .int (iN (z9.2))), (2, .int (iN (z9.1)))]) L (fun z9 => (mSt cI mo A f v1 F)) (fun z9 => 0 ≤ z9.1 ∧ z9.1 ≤ v 7 ∧ (z9.1 = 0 → z9.2 = -1) ∧ (0 < z9.1 → 0 ≤ z9.2 ∧ z9.2 < z9.1 ∧ ∀ j : Nat, (j : Int) < z9.1 → lexle (F 5 z9.2.toNat, F 6 z9.2.toNat) (F 5 j, F 6 j))) ?_ (0, (-1)) _ _ _ ⟨by omega, by omega, fun _ => rfl, fun h9 => by (try dsimp only at h9); omega⟩ w (lv_sub hl [2, 1, 0] rfl)
  intro z9 H locs ls hI w hl ih
  obtain ⟨k, a⟩ := z9
  have hl : lv_has ls 4 [(0, .ref mo), (1, .int (iN (a))), (2, .int (iN (k)))] := hl
  have w : gw D (gA L sz) s.heap H locs L ((mSt cI mo A f v1 F)) := w
  have hI : 0 ≤ k ∧ k ≤ v 7 ∧ (k = 0 → a = -1) ∧ (0 < k → 0 ≤ a ∧ a < k ∧ ∀ j : Nat, (j : Int) < k → lexle (F 5 a.toNat, F 6 a.toNat) (F 5 j, F 6 j)) := hI
  obtain ⟨h0, h1, h2, h3⟩ := hI
  have h3a : 0 < k → 0 ≤ a ∧ a < k := fun h9 => ⟨(h3 h9).1, (h3 h9).2.1⟩
  refine lv_iload_n hx hb d_M_goRound_9 rfl (lv_at hl 2 rfl) ?_
  refine lv_aload_n hx hb d_M_goRound_10 rfl (lv_at hl 0 rfl) ?_
  refine gk_get X w g.1.1 (show (mSt cI mo A f v1 F) mo = .inr (4, _) from mS_m) rfl in_M 7 (by decide) lk_M_45 rfl d_M_goRound_11 ?_
  rw [show v1 7 = (v 7) from (v1n 7 (by decide))]
  refine ri_cge (a := k) (b := (v 7)) (tgt := 74) hx hb d_M_goRound_14 (by decide) rfl rfl (by unfold i3; omega) (by unfold i3; omega) (fun c14 => ?_) (fun c14 => ?_)
  · skip
    refine lv_iload_n hx hb d_M_goRound_74 rfl (lv_at hl 1 rfl) ?_
    refine ri_zlt (a := a) (tgt := 82) hx hb d_M_goRound_75 (by decide) rfl (by unfold i3; omega) (fun c75 => ?_) (fun c75 => ?_)
    · skip
      refine lv_iconst (v := iN (0)) hx hb d_M_goRound_82 (by decide) ?_
      refine lv_istore_n (lv' := [(2, .int (iN (0))), (0, .ref mo), (1, .int (iN (a)))]) hx hb d_M_goRound_83 rfl hl (by decide) rfl (fun ls hl => ?_)
      have hN10 : v1 10 = 0 := v1s
      have hNn : ∀ j, j ≠ 10 → v1 j = v j := fun j hj => v1n j hj
      have hk0 : k = 0 := by by_cases e9 : k = 0; exact e9; have := h3a (by omega); omega
      have hHn : Hu = [] := hH.1 (by omega)
      have hlen : Hu.length = 0 := by rw [hHn]; rfl
      refine g_loop (σ := Int × Int × Int × (Nat → Int) × (Nat → Nat → Int)) (fun z9 => ((Hu.length : Int) - z9.1).toNat) (fun z9 => [(0, .ref mo), (1, .int (iN (z9.2.1))), (2, .int (iN (z9.2.2.1)))]) L (fun z9 => (mSt cI mo A f z9.2.2.2.1 z9.2.2.2.2)) (fun z9 => 0 ≤ z9.1 ∧ z9.1 ≤ Hu.length ∧ (((z9.2.2.1 : Int) = 0 ∧ z9.1 = Hu.length) ∨ ((z9.2.2.1 : Int) = 1 ∧ z9.1 < Hu.length ∧ 0 ≤ z9.2.1 ∧ z9.2.1 < v 7 ∧ Hu[z9.1.toNat]? = some (F 5 z9.2.1.toNat, F 6 z9.2.1.toNat))) ∧ z9.2.2.2.1 10 = z9.1 ∧ (∀ j, j ≠ 10 → z9.2.2.2.1 j = v j) ∧ (∀ j, j ≠ 8 → j ≠ 9 → z9.2.2.2.2 j = F j) ∧ hld z9.2.2.2.2 Hu z9.1) ?_ (0, a, 0, v1, F) _ _ _ ⟨by (try dsimp only); omega, by (try dsimp only); omega, Or.inl ⟨rfl, by (try dsimp only); omega⟩, hN10, hNn, fun _ _ _ => rfl, fun i q hi => by (try dsimp only at hi); omega⟩ w (lv_sub hl [1, 2, 0] rfl)
      intro z9 H locs ls hI w hl ih
      obtain ⟨k, a, fl, v9, F9⟩ := z9
      have hl : lv_has ls 4 [(0, .ref mo), (1, .int (iN (a))), (2, .int (iN (fl)))] := hl
      have w : gw D (gA L sz) s.heap H locs L ((mSt cI mo A f v9 F9)) := w
      have hI : 0 ≤ k ∧ k ≤ Hu.length ∧ (((fl : Int) = 0 ∧ k = Hu.length) ∨ ((fl : Int) = 1 ∧ k < Hu.length ∧ 0 ≤ a ∧ a < v 7 ∧ Hu[k.toNat]? = some (F 5 a.toNat, F 6 a.toNat))) ∧ v9 10 = k ∧ (∀ j, j ≠ 10 → v9 j = v j) ∧ (∀ j, j ≠ 8 → j ≠ 9 → F9 j = F j) ∧ hld F9 Hu k := hI
      obtain ⟨h0, h1, h2, hn10, hnn, eFF, hhd⟩ := hI
      have hfl : fl = 0 ∨ fl = 1 := by omega
      have hlen := hH.2.2.1
      refine lv_iload_n hx hb d_M_goRound_84 rfl (lv_at hl 2 rfl) ?_
      refine ri_zeq (a := fl) (tgt := 179) hx hb d_M_goRound_85 (by decide) rfl (by unfold i3; omega) (fun c85 => ?_) (fun c85 => ?_)
      · skip
        exact g_vret X w hrt hlk d_M_goRound_179 ⟨v9, F9, rfl, by rw [hn10]; omega, hnn, eFF, by rw [show (Hu.length : Int) = k by omega]; exact hhd⟩
      · skip
        have h2' : k < Hu.length ∧ 0 ≤ a ∧ a < v 7 ∧ Hu[k.toNat]? = some (F 5 a.toNat, F 6 a.toNat) := by rcases h2 with q | q; omega; exact q.2
        obtain ⟨hkl, ha0, ha1, hak⟩ := h2'
        have e7 : v9 7 = v 7 := hnn 7 (by decide)
        refine lv_aload_n hx hb d_M_goRound_88 rfl (lv_at hl 0 rfl) ?_
        refine gk_get X w g.1.1 (show (mSt cI mo A f v9 F9) mo = .inr (4, _) from mS_m) rfl in_M 8 (by decide) lk_M_25 rfl d_M_goRound_89 ?_
        refine lv_aload_n hx hb d_M_goRound_92 rfl (lv_at hl 0 rfl) ?_
        refine gk_get X w g.1.1 (show (mSt cI mo A f v9 F9) mo = .inr (4, _) from mS_m) rfl in_M 10 (by decide) lk_M_51 rfl d_M_goRound_93 ?_
        refine lv_aload_n hx hb d_M_goRound_96 rfl (lv_at hl 0 rfl) ?_
        refine gk_get X w g.1.1 (show (mSt cI mo A f v9 F9) mo = .inr (4, _) from mS_m) rfl in_M 5 (by decide) lk_M_19 rfl d_M_goRound_97 ?_
        refine lv_iload_n hx hb d_M_goRound_100 rfl (lv_at hl 1 rfl) ?_
        refine gk_iald X w 0 g.1.2.2.2.2.1 (mS_5 g) rfl (vin (by omega) (by omega) (by decide)) d_M_goRound_101 ?_
        rw [vclN 576 (by omega) (by omega) (by decide)]
        refine gk_iast X w 0 g.1.2.2.2.2.2.2.1 (mS_8 g) rfl (vin (by omega) (by omega) (by decide)) d_M_goRound_102 (fun H locs w => ?_)
        rw [vclN 576 (by omega) (by omega) (by decide), upd_iN] at w
        obtain ⟨F2, hF2⟩ : ∃ q : Nat → Nat → Int, q = (va_up F9 8 (va_up (F9 8) (v9 10).toNat (F9 5 a.toNat))) := ⟨_, rfl⟩
        have w : gw D (gA L sz) s.heap H locs L (mSt cI mo A f v9 F2) := by rw [hF2, ← mU_8 (F := F9) g]; exact w
        refine lv_aload_n hx hb d_M_goRound_103 rfl (lv_at hl 0 rfl) ?_
        refine gk_get X w g.1.1 (show (mSt cI mo A f v9 F2) mo = .inr (4, _) from mS_m) rfl in_M 9 (by decide) lk_M_28 rfl d_M_goRound_104 ?_
        refine lv_aload_n hx hb d_M_goRound_107 rfl (lv_at hl 0 rfl) ?_
        refine gk_get X w g.1.1 (show (mSt cI mo A f v9 F2) mo = .inr (4, _) from mS_m) rfl in_M 10 (by decide) lk_M_51 rfl d_M_goRound_108 ?_
        refine lv_aload_n hx hb d_M_goRound_111 rfl (lv_at hl 0 rfl) ?_
        refine gk_get X w g.1.1 (show (mSt cI mo A f v9 F2) mo = .inr (4, _) from mS_m) rfl in_M 6 (by decide) lk_M_22 rfl d_M_goRound_112 ?_
        refine lv_iload_n hx hb d_M_goRound_115 rfl (lv_at hl 1 rfl) ?_
        refine gk_iald X w 0 g.1.2.2.2.2.2.1 (mS_6 g) rfl (vin (by omega) (by omega) (by decide)) d_M_goRound_116 ?_
        rw [vclN 576 (by omega) (by omega) (by decide)]
        refine gk_iast X w 0 g.1.2.2.2.2.2.2.2 (mS_9 g) rfl (vin (by omega) (by omega) (by decide)) d_M_goRound_117 (fun H locs w => ?_)
        rw [vclN 576 (by omega) (by omega) (by decide), upd_iN] at w
        obtain ⟨F3, hF3⟩ : ∃ q : Nat → Nat → Int, q = (va_up F2 9 (va_up (F2 9) (v9 10).toNat (F2 6 a.toNat))) := ⟨_, rfl⟩
        have w : gw D (gA L sz) s.heap H locs L (mSt cI mo A f v9 F3) := by rw [hF3, ← mU_9 (F := F2) g]; exact w
        refine lv_aload_n hx hb d_M_goRound_118 rfl (lv_at hl 0 rfl) ?_
        refine lv_dup hx hb d_M_goRound_119 rfl ?_
        refine gk_get X w g.1.1 (show (mSt cI mo A f v9 F3) mo = .inr (4, _) from mS_m) rfl in_M 10 (by decide) lk_M_51 rfl d_M_goRound_120 ?_
        refine lv_iconst (v := iN (1)) hx hb d_M_goRound_123 (by decide) ?_
        refine ri_add (a := (v9 10)) (b := 1) hx hb d_M_goRound_124 rfl rfl ?_
        refine gk_put X w g.1.1 (show (mSt cI mo A f v9 F3) mo = .inr (4, _) from mS_m) rfl in_M ty_M tyok_M nm_M 10 (by decide) lk_M_51 rfl (ty := .int) (by decide +kernel) rfl rfl (Nat.le_of_ble_eq_true rfl) d_M_goRound_125 (fun H locs w => ?_)
        obtain ⟨v4, hv4⟩ : ∃ q : Nat → Int, q = va_up v9 10 (((v9 10) + 1)) := ⟨_, rfl⟩
        have v4s : v4 10 = ((v9 10) + 1) := by rw [hv4, va_up_self]
        have v4n : ∀ j, j ≠ 10 → v4 j = v9 j := fun j hj => by rw [hv4, va_up_ne _ _ hj]
        have w : gw D (gA L sz) s.heap H locs L (mSt cI mo A f v4 F3) := by rw [hv4, ← mU_m (v := v9)]; exact w
        have eF5 : F9 5 = F 5 := eFF 5 (by decide) (by decide)
        have eF6 : F9 6 = F 6 := eFF 6 (by decide) (by decide)
        have hN : ∀ j, j ≠ 8 → j ≠ 9 → F3 j = F9 j := fun j q1 q2 => by rw [hF3, va_up_ne _ _ q2, hF2, va_up_ne _ _ q1]
        have eN8 : F3 8 = va_up (F9 8) (v9 10).toNat (F9 5 a.toNat) := by rw [hF3, va_up_ne _ _ (by decide), hF2, va_up_self]
        have eN9 : F3 9 = va_up (F9 9) (v9 10).toNat (F9 6 a.toNat) := by rw [hF3, va_up_self, hF2, va_up_ne _ _ (by decide), va_up_ne _ _ (by decide)]
        have hn10' : v4 10 = k + 1 := by rw [v4s, hn10]
        have hnn' : ∀ j, j ≠ 10 → v4 j = v j := fun j hj => (v4n j hj).trans (hnn j hj)
        have eFF' : ∀ j, j ≠ 8 → j ≠ 9 → F3 j = F j := fun j q1 q2 => (hN j q1 q2).trans (eFF j q1 q2)
        have hhd' : hld F3 Hu (k + 1) := by
          intro i q hi hq
          rw [eN8, eN9, hn10, eF5, eF6]
          by_cases e9 : i = k.toNat
          · subst e9; rw [va_up_self, va_up_self]; rw [hak] at hq; cases hq; exact ⟨rfl, rfl⟩
          · rw [va_up_ne _ _ e9, va_up_ne _ _ e9]; exact hhd i q (by omega) hq
        have e7' : v4 7 = v 7 := hnn' 7 (by decide)
        have hgo := go_next hH (a := a.toNat) (k := k.toNat) (by omega) (by omega) hak
        have h00 : ∀ p, Hu[0]? = some p → F3 8 0 = p.1 ∧ F3 9 0 = p.2 := fun p hp => hhd' 0 p (by omega) hp
        have hnb := nxS_b (F 5) (F 6) a.toNat (v 7).toNat
        have hH0 : Hu[0]? = some Hu[0] := List.getElem?_eq_getElem (by omega)
        have h00 := h00 _ hH0
        have eG5 : F3 5 = F 5 := eFF' 5 (by decide) (by decide)
        have eG6 : F3 6 = F 6 := eFF' 6 (by decide) (by decide)
        have h0i : i3 Hu[0].1 ∧ i3 Hu[0].2 := by
          obtain ⟨⟨j0, hj0, hj1⟩, _⟩ := hH.2.2.2.2.1 _ hH0
          have q9 := hwb j0 (by omega)
          rw [← hj1]; unfold i3; dsimp only; omega
        have hn10 := hn10'
        have hnn := hnn'
        have eFF := eFF'
        have hhd := hhd'
        refine lv_aload_n hx hb d_M_goRound_128 rfl (lv_at hl 0 rfl) ?_
        refine lv_iload_n hx hb d_M_goRound_129 rfl (lv_at hl 1 rfl) ?_
        refine g_ci w (g_runV (As := [.int (iN (a))]) (rest := []) X w (c_M_nextOf l g (v := v4) (F := F3) (by omega) (by rw [eG5, eG6, e7']; exact hwb) (a := a) (by omega)) k_M_nextOf v_M_nextOf lk_M_54 g.1.1 (show (mSt cI mo A f v4 F3) mo = .inr (4, _) from mS_m) rfl ⟨(Nat.le_of_ble_eq_true rfl), (Nat.le_of_ble_eq_true rfl)⟩ rfl hl.1 rfl (Nat.le_of_ble_eq_true rfl) d_M_goRound_130 ⟨(Nat.le_of_ble_eq_true rfl), (Nat.le_of_ble_eq_true rfl)⟩) (fun r u H locs hp w => ?_)
        obtain ⟨hr9, rfl⟩ := hp
        rw [eG5, eG6, e7'] at hr9
        subst hr9
        have w : gw D (gA L sz) s.heap H locs L (mSt cI mo A f v4 F3) := w
        refine lv_istore_n (lv' := [(3, .int (iN ((nxS (F 5) (F 6) a.toNat (v 7).toNat)))), (0, .ref mo), (1, .int (iN (a))), (2, .int (iN (fl)))]) hx hb d_M_goRound_133 rfl hl (by decide) rfl (fun ls hl => ?_)
        refine lv_iload_n hx hb d_M_goRound_134 rfl (lv_at hl 0 rfl) ?_
        refine ri_zlt (a := (nxS (F 5) (F 6) a.toNat (v 7).toNat)) (tgt := 172) hx hb d_M_goRound_135 (by decide) rfl (by have := nxS_b (F 5) (F 6) a.toNat (v 7).toNat; unfold i3; omega) (fun c135 => ?_) (fun c135 => ?_)
        · skip
          refine lv_iconst (v := iN (0)) hx hb d_M_goRound_172 (by decide) ?_
          have hkk : k + 1 = Hu.length := by
            by_cases e9 : k + 1 = Hu.length
            · exact e9
            · exfalso
              have hq := hgo.1 (by omega)
              omega
          refine lv_istore_n (lv' := [(2, .int (iN (0))), (3, .int (iN ((nxS (F 5) (F 6) a.toNat (v 7).toNat)))), (0, .ref mo), (1, .int (iN (a)))]) hx hb d_M_goRound_173 rfl hl (by decide) rfl (fun ls hl => ?_)
          refine lv_iload_n hx hb d_M_goRound_174 rfl (lv_at hl 1 rfl) ?_
          refine lv_istore_n (lv' := [(1, .int (iN ((nxS (F 5) (F 6) a.toNat (v 7).toNat)))), (2, .int (iN (0))), (3, .int (iN ((nxS (F 5) (F 6) a.toNat (v 7).toNat)))), (0, .ref mo)]) hx hb d_M_goRound_175 rfl hl (by decide) rfl (fun ls hl => ?_)
          refine lv_goto (tgt := 84) hx hb d_M_goRound_176 (by decide) ?_
          have hI' : 0 ≤ (k + 1) ∧ (k + 1) ≤ Hu.length ∧ (((0 : Int) = 0 ∧ (k + 1) = Hu.length) ∨ ((0 : Int) = 1 ∧ (k + 1) < Hu.length ∧ 0 ≤ (nxS (F 5) (F 6) a.toNat (v 7).toNat) ∧ (nxS (F 5) (F 6) a.toNat (v 7).toNat) < v 7 ∧ Hu[(k + 1).toNat]? = some (F 5 (nxS (F 5) (F 6) a.toNat (v 7).toNat).toNat, F 6 (nxS (F 5) (F 6) a.toNat (v 7).toNat).toNat))) ∧ v4 10 = (k + 1) ∧ (∀ j, j ≠ 10 → v4 j = v j) ∧ (∀ j, j ≠ 8 → j ≠ 9 → F3 j = F j) ∧ hld F3 Hu (k + 1) := ⟨by omega, by omega, Or.inl ⟨rfl, by omega⟩, hn10, hnn, eFF, hhd⟩
          exact ih ((k + 1), (nxS (F 5) (F 6) a.toNat (v 7).toNat), 0, v4, F3) _ _ _ (by omega) hI' w (lv_sub hl [3, 0, 1] rfl)
        · skip
          refine lv_aload_n hx hb d_M_goRound_138 rfl (lv_at hl 1 rfl) ?_
          refine gk_get X w g.1.1 (show (mSt cI mo A f v4 F3) mo = .inr (4, _) from mS_m) rfl in_M 5 (by decide) lk_M_19 rfl d_M_goRound_139 ?_
          refine lv_iload_n hx hb d_M_goRound_142 rfl (lv_at hl 0 rfl) ?_
          refine gk_iald X w 0 g.1.2.2.2.2.1 (mS_5 g) rfl (vin (by omega) (by omega) (by decide)) d_M_goRound_143 ?_
          rw [vclN 576 (by omega) (by omega) (by decide)]
          refine lv_aload_n hx hb d_M_goRound_144 rfl (lv_at hl 1 rfl) ?_
          refine gk_get X w g.1.1 (show (mSt cI mo A f v4 F3) mo = .inr (4, _) from mS_m) rfl in_M 8 (by decide) lk_M_25 rfl d_M_goRound_145 ?_
          refine lv_iconst (v := iN (0)) hx hb d_M_goRound_148 (by decide) ?_
          refine gk_iald X w 0 g.1.2.2.2.2.2.2.1 (mS_8 g) rfl (vin (by omega) (by omega) (by decide)) d_M_goRound_149 ?_
          rw [vclN 576 (by omega) (by omega) (by decide)]
          refine ri_cne (a := (F3 5 (nxS (F 5) (F 6) a.toNat (v 7).toNat).toNat)) (b := (F3 8 (0 : Int).toNat)) (tgt := 168) hx hb d_M_goRound_150 (by decide) rfl rfl (by have := hwb (nxS (F 5) (F 6) a.toNat (v 7).toNat).toNat (by omega); rw [eG5]; unfold i3; omega) (show i3 (F3 8 0) by rw [h00.1]; exact h0i.1) (fun c150 => ?_) (fun c150 => ?_)
          · skip
            refine lv_iconst (v := iN (1)) hx hb d_M_goRound_168 (by decide) ?_
            refine lv_goto (tgt := 173) hx hb d_M_goRound_169 (by decide) ?_
            have hkk : k + 1 < Hu.length := by
              by_cases e9 : k + 1 = Hu.length
              · exfalso
                rcases hgo.2 (by omega) with q | ⟨q1, q2⟩
                · omega
                · rw [hH0] at q2
                  have e1 : Hu[0].1 = F 5 (nxS (F 5) (F 6) a.toNat (v 7).toNat).toNat := congrArg Prod.fst (Option.some.inj q2)
                  have e2 : Hu[0].2 = F 6 (nxS (F 5) (F 6) a.toNat (v 7).toNat).toNat := congrArg Prod.snd (Option.some.inj q2)
                  exact c150 (show F3 5 _ = F3 8 0 by rw [eG5, h00.1, e1])
              · omega
            have hnx0 := (hgo.1 (by omega)).1
            refine lv_istore_n (lv' := [(2, .int (iN (1))), (3, .int (iN ((nxS (F 5) (F 6) a.toNat (v 7).toNat)))), (0, .ref mo), (1, .int (iN (a)))]) hx hb d_M_goRound_173 rfl hl (by decide) rfl (fun ls hl => ?_)
            refine lv_iload_n hx hb d_M_goRound_174 rfl (lv_at hl 1 rfl) ?_
            refine lv_istore_n (lv' := [(1, .int (iN ((nxS (F 5) (F 6) a.toNat (v 7).toNat)))), (2, .int (iN (1))), (3, .int (iN ((nxS (F 5) (F 6) a.toNat (v 7).toNat)))), (0, .ref mo)]) hx hb d_M_goRound_175 rfl hl (by decide) rfl (fun ls hl => ?_)
            refine lv_goto (tgt := 84) hx hb d_M_goRound_176 (by decide) ?_
            have hI' : 0 ≤ (k + 1) ∧ (k + 1) ≤ Hu.length ∧ (((1 : Int) = 0 ∧ (k + 1) = Hu.length) ∨ ((1 : Int) = 1 ∧ (k + 1) < Hu.length ∧ 0 ≤ (nxS (F 5) (F 6) a.toNat (v 7).toNat) ∧ (nxS (F 5) (F 6) a.toNat (v 7).toNat) < v 7 ∧ Hu[(k + 1).toNat]? = some (F 5 (nxS (F 5) (F 6) a.toNat (v 7).toNat).toNat, F 6 (nxS (F 5) (F 6) a.toNat (v 7).toNat).toNat))) ∧ v4 10 = (k + 1) ∧ (∀ j, j ≠ 10 → v4 j = v j) ∧ (∀ j, j ≠ 8 → j ≠ 9 → F3 j = F j) ∧ hld F3 Hu (k + 1) := ⟨by omega, by omega, Or.inr ⟨rfl, by omega, by omega, by have := nxS_b (F 5) (F 6) a.toNat (v 7).toNat; omega, by rw [show (k + 1).toNat = k.toNat + 1 by omega]; exact (hgo.1 (by omega)).2.1⟩, hn10, hnn, eFF, hhd⟩
            exact ih ((k + 1), (nxS (F 5) (F 6) a.toNat (v 7).toNat), 1, v4, F3) _ _ _ (by omega) hI' w (lv_sub hl [3, 0, 1] rfl)
          · skip
            refine lv_aload_n hx hb d_M_goRound_153 rfl (lv_at hl 1 rfl) ?_
            refine gk_get X w g.1.1 (show (mSt cI mo A f v4 F3) mo = .inr (4, _) from mS_m) rfl in_M 6 (by decide) lk_M_22 rfl d_M_goRound_154 ?_
            refine lv_iload_n hx hb d_M_goRound_157 rfl (lv_at hl 0 rfl) ?_
            refine gk_iald X w 0 g.1.2.2.2.2.2.1 (mS_6 g) rfl (vin (by omega) (by omega) (by decide)) d_M_goRound_158 ?_
            rw [vclN 576 (by omega) (by omega) (by decide)]
            refine lv_aload_n hx hb d_M_goRound_159 rfl (lv_at hl 1 rfl) ?_
            refine gk_get X w g.1.1 (show (mSt cI mo A f v4 F3) mo = .inr (4, _) from mS_m) rfl in_M 9 (by decide) lk_M_28 rfl d_M_goRound_160 ?_
            refine lv_iconst (v := iN (0)) hx hb d_M_goRound_163 (by decide) ?_
            refine gk_iald X w 0 g.1.2.2.2.2.2.2.2 (mS_9 g) rfl (vin (by omega) (by omega) (by decide)) d_M_goRound_164 ?_
            rw [vclN 576 (by omega) (by omega) (by decide)]
            refine ri_ceq (a := (F3 6 (nxS (F 5) (F 6) a.toNat (v 7).toNat).toNat)) (b := (F3 9 (0 : Int).toNat)) (tgt := 172) hx hb d_M_goRound_165 (by decide) rfl rfl (by have := hwb (nxS (F 5) (F 6) a.toNat (v 7).toNat).toNat (by omega); rw [eG6]; unfold i3; omega) (show i3 (F3 9 0) by rw [h00.2]; exact h0i.2) (fun c165 => ?_) (fun c165 => ?_)
            · skip
              refine lv_iconst (v := iN (0)) hx hb d_M_goRound_172 (by decide) ?_
              have hkk : k + 1 = Hu.length := by
                by_cases e9 : k + 1 = Hu.length
                · exact e9
                · exfalso
                  have hq := hgo.1 (by omega)
                  have d1 : F3 5 (nxS (F 5) (F 6) a.toNat (v 7).toNat).toNat = F3 8 0 := Classical.not_not.mp c150
                  have d2 : F3 6 (nxS (F 5) (F 6) a.toNat (v 7).toNat).toNat = F3 9 0 := c165
                  rw [eG5, h00.1] at d1; rw [eG6, h00.2] at d2
                  exact hq.2.2 _ hH0 (Prod.ext d1 d2)
              refine lv_istore_n (lv' := [(2, .int (iN (0))), (3, .int (iN ((nxS (F 5) (F 6) a.toNat (v 7).toNat)))), (0, .ref mo), (1, .int (iN (a)))]) hx hb d_M_goRound_173 rfl hl (by decide) rfl (fun ls hl => ?_)
              refine lv_iload_n hx hb d_M_goRound_174 rfl (lv_at hl 1 rfl) ?_
              refine lv_istore_n (lv' := [(1, .int (iN ((nxS (F 5) (F 6) a.toNat (v 7).toNat)))), (2, .int (iN (0))), (3, .int (iN ((nxS (F 5) (F 6) a.toNat (v 7).toNat)))), (0, .ref mo)]) hx hb d_M_goRound_175 rfl hl (by decide) rfl (fun ls hl => ?_)
              refine lv_goto (tgt := 84) hx hb d_M_goRound_176 (by decide) ?_
              have hI' : 0 ≤ (k + 1) ∧ (k + 1) ≤ Hu.length ∧ (((0 : Int) = 0 ∧ (k + 1) = Hu.length) ∨ ((0 : Int) = 1 ∧ (k + 1) < Hu.length ∧ 0 ≤ (nxS (F 5) (F 6) a.toNat (v 7).toNat) ∧ (nxS (F 5) (F 6) a.toNat (v 7).toNat) < v 7 ∧ Hu[(k + 1).toNat]? = some (F 5 (nxS (F 5) (F 6) a.toNat (v 7).toNat).toNat, F 6 (nxS (F 5) (F 6) a.toNat (v 7).toNat).toNat))) ∧ v4 10 = (k + 1) ∧ (∀ j, j ≠ 10 → v4 j = v j) ∧ (∀ j, j ≠ 8 → j ≠ 9 → F3 j = F j) ∧ hld F3 Hu (k + 1) := ⟨by omega, by omega, Or.inl ⟨rfl, by omega⟩, hn10, hnn, eFF, hhd⟩
              exact ih ((k + 1), (nxS (F 5) (F 6) a.toNat (v 7).toNat), 0, v4, F3) _ _ _ (by omega) hI' w (lv_sub hl [3, 0, 1] rfl)
            · skip
              refine lv_iconst (v := iN (1)) hx hb d_M_goRound_168 (by decide) ?_
              refine lv_goto (tgt := 173) hx hb d_M_goRound_169 (by decide) ?_
              have hkk : k + 1 < Hu.length := by
                by_cases e9 : k + 1 = Hu.length
                · exfalso
                  rcases hgo.2 (by omega) with q | ⟨q1, q2⟩
                  · omega
                  · rw [hH0] at q2
                    have e1 : Hu[0].1 = F 5 (nxS (F 5) (F 6) a.toNat (v 7).toNat).toNat := congrArg Prod.fst (Option.some.inj q2)
                    have e2 : Hu[0].2 = F 6 (nxS (F 5) (F 6) a.toNat (v 7).toNat).toNat := congrArg Prod.snd (Option.some.inj q2)
                    exact c165 (show F3 6 _ = F3 9 0 by rw [eG6, h00.2, e2])
                · omega
              have hnx0 := (hgo.1 (by omega)).1
              refine lv_istore_n (lv' := [(2, .int (iN (1))), (3, .int (iN ((nxS (F 5) (F 6) a.toNat (v 7).toNat)))), (0, .ref mo), (1, .int (iN (a)))]) hx hb d_M_goRound_173 rfl hl (by decide) rfl (fun ls hl => ?_)
              refine lv_iload_n hx hb d_M_goRound_174 rfl (lv_at hl 1 rfl) ?_
              refine lv_istore_n (lv' := [(1, .int (iN ((nxS (F 5) (F 6) a.toNat (v 7).toNat)))), (2, .int (iN (1))), (3, .int (iN ((nxS (F 5) (F 6) a.toNat (v 7).toNat)))), (0, .ref mo)]) hx hb d_M_goRound_175 rfl hl (by decide) rfl (fun ls hl => ?_)
              refine lv_goto (tgt := 84) hx hb d_M_goRound_176 (by decide) ?_
              have hI' : 0 ≤ (k + 1) ∧ (k + 1) ≤ Hu.length ∧ (((1 : Int) = 0 ∧ (k + 1) = Hu.length) ∨ ((1 : Int) = 1 ∧ (k + 1) < Hu.length ∧ 0 ≤ (nxS (F 5) (F 6) a.toNat (v 7).toNat) ∧ (nxS (F 5) (F 6) a.toNat (v 7).toNat) < v 7 ∧ Hu[(k + 1).toNat]? = some (F 5 (nxS (F 5) (F 6) a.toNat (v 7).toNat).toNat, F 6 (nxS (F 5) (F 6) a.toNat (v 7).toNat).toNat))) ∧ v4 10 = (k + 1) ∧ (∀ j, j ≠ 10 → v4 j = v j) ∧ (∀ j, j ≠ 8 → j ≠ 9 → F3 j = F j) ∧ hld F3 Hu (k + 1) := ⟨by omega, by omega, Or.inr ⟨rfl, by omega, by omega, by have := nxS_b (F 5) (F 6) a.toNat (v 7).toNat; omega, by rw [show (k + 1).toNat = k.toNat + 1 by omega]; exact (hgo.1 (by omega)).2.1⟩, hn10, hnn, eFF, hhd⟩
              exact ih ((k + 1), (nxS (F 5) (F 6) a.toNat (v 7).toNat), 1, v4, F3) _ _ _ (by omega) hI' w (lv_sub hl [3, 0, 1] rfl)
    · skip
      refine lv_iconst (v := iN (1)) hx hb d_M_goRound_78 (by decide) ?_
      refine lv_goto (tgt := 83) hx hb d_M_goRound_79 (by decide) ?_
      refine lv_istore_n (lv' := [(2, .int (iN (1))), (0, .ref mo), (1, .int (iN (a)))]) hx hb d_M_goRound_83 rfl hl (by decide) rfl (fun ls hl => ?_)
      have hN10 : v1 10 = 0 := v1s
      have hNn : ∀ j, j ≠ 10 → v1 j = v j := fun j hj => v1n j hj
      have hk7 : k = v 7 := by omega
      have hk0 : 0 < k := by by_cases e9 : k = 0; (have := h2 e9; omega); omega
      obtain ⟨ha0, ha1, hal⟩ := h3 hk0
      have hne := hH.2.1 (by omega)
      have hlen : 0 < Hu.length := List.length_pos_iff.mpr hne
      have hH0 : Hu[0]? = some Hu[0] := List.getElem?_eq_getElem hlen
      obtain ⟨⟨j0, hj0, hj1⟩, hj2⟩ := hH.2.2.2.2.1 _ hH0
      have ea : (F 5 a.toNat, F 6 a.toNat) = Hu[0] := by have q1 := hal j0 (by omega); rw [hj1] at q1; exact lex_anti q1 (hj2 a.toNat (by omega))
      refine g_loop (σ := Int × Int × Int × (Nat → Int) × (Nat → Nat → Int)) (fun z9 => ((Hu.length : Int) - z9.1).toNat) (fun z9 => [(0, .ref mo), (1, .int (iN (z9.2.1))), (2, .int (iN (z9.2.2.1)))]) L (fun z9 => (mSt cI mo A f z9.2.2.2.1 z9.2.2.2.2)) (fun z9 => 0 ≤ z9.1 ∧ z9.1 ≤ Hu.length ∧ (((z9.2.2.1 : Int) = 0 ∧ z9.1 = Hu.length) ∨ ((z9.2.2.1 : Int) = 1 ∧ z9.1 < Hu.length ∧ 0 ≤ z9.2.1 ∧ z9.2.1 < v 7 ∧ Hu[z9.1.toNat]? = some (F 5 z9.2.1.toNat, F 6 z9.2.1.toNat))) ∧ z9.2.2.2.1 10 = z9.1 ∧ (∀ j, j ≠ 10 → z9.2.2.2.1 j = v j) ∧ (∀ j, j ≠ 8 → j ≠ 9 → z9.2.2.2.2 j = F j) ∧ hld z9.2.2.2.2 Hu z9.1) ?_ (0, a, 1, v1, F) _ _ _ ⟨by (try dsimp only); omega, by (try dsimp only); omega, Or.inr ⟨rfl, by (try dsimp only); omega, ha0, by (try dsimp only); omega, by rw [ea]; exact hH0⟩, hN10, hNn, fun _ _ _ => rfl, fun i q hi => by (try dsimp only at hi); omega⟩ w (lv_sub hl [1, 2, 0] rfl)
      intro z9 H locs ls hI w hl ih
      obtain ⟨k, a, fl, v9, F9⟩ := z9
      have hl : lv_has ls 4 [(0, .ref mo), (1, .int (iN (a))), (2, .int (iN (fl)))] := hl
      have w : gw D (gA L sz) s.heap H locs L ((mSt cI mo A f v9 F9)) := w
      have hI : 0 ≤ k ∧ k ≤ Hu.length ∧ (((fl : Int) = 0 ∧ k = Hu.length) ∨ ((fl : Int) = 1 ∧ k < Hu.length ∧ 0 ≤ a ∧ a < v 7 ∧ Hu[k.toNat]? = some (F 5 a.toNat, F 6 a.toNat))) ∧ v9 10 = k ∧ (∀ j, j ≠ 10 → v9 j = v j) ∧ (∀ j, j ≠ 8 → j ≠ 9 → F9 j = F j) ∧ hld F9 Hu k := hI
      obtain ⟨h0, h1, h2, hn10, hnn, eFF, hhd⟩ := hI
      have hfl : fl = 0 ∨ fl = 1 := by omega
      have hlen := hH.2.2.1
      refine lv_iload_n hx hb d_M_goRound_84 rfl (lv_at hl 2 rfl) ?_
      refine ri_zeq (a := fl) (tgt := 179) hx hb d_M_goRound_85 (by decide) rfl (by unfold i3; omega) (fun c85 => ?_) (fun c85 => ?_)
      · skip
        exact g_vret X w hrt hlk d_M_goRound_179 ⟨v9, F9, rfl, by rw [hn10]; omega, hnn, eFF, by rw [show (Hu.length : Int) = k by omega]; exact hhd⟩
      · skip
        have h2' : k < Hu.length ∧ 0 ≤ a ∧ a < v 7 ∧ Hu[k.toNat]? = some (F 5 a.toNat, F 6 a.toNat) := by rcases h2 with q | q; omega; exact q.2
        obtain ⟨hkl, ha0, ha1, hak⟩ := h2'
        have e7 : v9 7 = v 7 := hnn 7 (by decide)
        refine lv_aload_n hx hb d_M_goRound_88 rfl (lv_at hl 0 rfl) ?_
        refine gk_get X w g.1.1 (show (mSt cI mo A f v9 F9) mo = .inr (4, _) from mS_m) rfl in_M 8 (by decide) lk_M_25 rfl d_M_goRound_89 ?_
        refine lv_aload_n hx hb d_M_goRound_92 rfl (lv_at hl 0 rfl) ?_
        refine gk_get X w g.1.1 (show (mSt cI mo A f v9 F9) mo = .inr (4, _) from mS_m) rfl in_M 10 (by decide) lk_M_51 rfl d_M_goRound_93 ?_
        refine lv_aload_n hx hb d_M_goRound_96 rfl (lv_at hl 0 rfl) ?_
        refine gk_get X w g.1.1 (show (mSt cI mo A f v9 F9) mo = .inr (4, _) from mS_m) rfl in_M 5 (by decide) lk_M_19 rfl d_M_goRound_97 ?_
        refine lv_iload_n hx hb d_M_goRound_100 rfl (lv_at hl 1 rfl) ?_
        refine gk_iald X w 0 g.1.2.2.2.2.1 (mS_5 g) rfl (vin (by omega) (by omega) (by decide)) d_M_goRound_101 ?_
        rw [vclN 576 (by omega) (by omega) (by decide)]
        refine gk_iast X w 0 g.1.2.2.2.2.2.2.1 (mS_8 g) rfl (vin (by omega) (by omega) (by decide)) d_M_goRound_102 (fun H locs w => ?_)
        rw [vclN 576 (by omega) (by omega) (by decide), upd_iN] at w
        obtain ⟨F5, hF5⟩ : ∃ q : Nat → Nat → Int, q = (va_up F9 8 (va_up (F9 8) (v9 10).toNat (F9 5 a.toNat))) := ⟨_, rfl⟩
        have w : gw D (gA L sz) s.heap H locs L (mSt cI mo A f v9 F5) := by rw [hF5, ← mU_8 (F := F9) g]; exact w
        refine lv_aload_n hx hb d_M_goRound_103 rfl (lv_at hl 0 rfl) ?_
        refine gk_get X w g.1.1 (show (mSt cI mo A f v9 F5) mo = .inr (4, _) from mS_m) rfl in_M 9 (by decide) lk_M_28 rfl d_M_goRound_104 ?_
        refine lv_aload_n hx hb d_M_goRound_107 rfl (lv_at hl 0 rfl) ?_
        refine gk_get X w g.1.1 (show (mSt cI mo A f v9 F5) mo = .inr (4, _) from mS_m) rfl in_M 10 (by decide) lk_M_51 rfl d_M_goRound_108 ?_
        refine lv_aload_n hx hb d_M_goRound_111 rfl (lv_at hl 0 rfl) ?_
        refine gk_get X w g.1.1 (show (mSt cI mo A f v9 F5) mo = .inr (4, _) from mS_m) rfl in_M 6 (by decide) lk_M_22 rfl d_M_goRound_112 ?_
        refine lv_iload_n hx hb d_M_goRound_115 rfl (lv_at hl 1 rfl) ?_
        refine gk_iald X w 0 g.1.2.2.2.2.2.1 (mS_6 g) rfl (vin (by omega) (by omega) (by decide)) d_M_goRound_116 ?_
        rw [vclN 576 (by omega) (by omega) (by decide)]
        refine gk_iast X w 0 g.1.2.2.2.2.2.2.2 (mS_9 g) rfl (vin (by omega) (by omega) (by decide)) d_M_goRound_117 (fun H locs w => ?_)
        rw [vclN 576 (by omega) (by omega) (by decide), upd_iN] at w
        obtain ⟨F6, hF6⟩ : ∃ q : Nat → Nat → Int, q = (va_up F5 9 (va_up (F5 9) (v9 10).toNat (F5 6 a.toNat))) := ⟨_, rfl⟩
        have w : gw D (gA L sz) s.heap H locs L (mSt cI mo A f v9 F6) := by rw [hF6, ← mU_9 (F := F5) g]; exact w
        refine lv_aload_n hx hb d_M_goRound_118 rfl (lv_at hl 0 rfl) ?_
        refine lv_dup hx hb d_M_goRound_119 rfl ?_
        refine gk_get X w g.1.1 (show (mSt cI mo A f v9 F6) mo = .inr (4, _) from mS_m) rfl in_M 10 (by decide) lk_M_51 rfl d_M_goRound_120 ?_
        refine lv_iconst (v := iN (1)) hx hb d_M_goRound_123 (by decide) ?_
        refine ri_add (a := (v9 10)) (b := 1) hx hb d_M_goRound_124 rfl rfl ?_
        refine gk_put X w g.1.1 (show (mSt cI mo A f v9 F6) mo = .inr (4, _) from mS_m) rfl in_M ty_M tyok_M nm_M 10 (by decide) lk_M_51 rfl (ty := .int) (by decide +kernel) rfl rfl (Nat.le_of_ble_eq_true rfl) d_M_goRound_125 (fun H locs w => ?_)
        obtain ⟨v7, hv7⟩ : ∃ q : Nat → Int, q = va_up v9 10 (((v9 10) + 1)) := ⟨_, rfl⟩
        have v7s : v7 10 = ((v9 10) + 1) := by rw [hv7, va_up_self]
        have v7n : ∀ j, j ≠ 10 → v7 j = v9 j := fun j hj => by rw [hv7, va_up_ne _ _ hj]
        have w : gw D (gA L sz) s.heap H locs L (mSt cI mo A f v7 F6) := by rw [hv7, ← mU_m (v := v9)]; exact w
        have eF5 : F9 5 = F 5 := eFF 5 (by decide) (by decide)
        have eF6 : F9 6 = F 6 := eFF 6 (by decide) (by decide)
        have hN : ∀ j, j ≠ 8 → j ≠ 9 → F6 j = F9 j := fun j q1 q2 => by rw [hF6, va_up_ne _ _ q2, hF5, va_up_ne _ _ q1]
        have eN8 : F6 8 = va_up (F9 8) (v9 10).toNat (F9 5 a.toNat) := by rw [hF6, va_up_ne _ _ (by decide), hF5, va_up_self]
        have eN9 : F6 9 = va_up (F9 9) (v9 10).toNat (F9 6 a.toNat) := by rw [hF6, va_up_self, hF5, va_up_ne _ _ (by decide), va_up_ne _ _ (by decide)]
        have hn10' : v7 10 = k + 1 := by rw [v7s, hn10]
        have hnn' : ∀ j, j ≠ 10 → v7 j = v j := fun j hj => (v7n j hj).trans (hnn j hj)
        have eFF' : ∀ j, j ≠ 8 → j ≠ 9 → F6 j = F j := fun j q1 q2 => (hN j q1 q2).trans (eFF j q1 q2)
        have hhd' : hld F6 Hu (k + 1) := by
          intro i q hi hq
          rw [eN8, eN9, hn10, eF5, eF6]
          by_cases e9 : i = k.toNat
          · subst e9; rw [va_up_self, va_up_self]; rw [hak] at hq; cases hq; exact ⟨rfl, rfl⟩
          · rw [va_up_ne _ _ e9, va_up_ne _ _ e9]; exact hhd i q (by omega) hq
        have e7' : v7 7 = v 7 := hnn' 7 (by decide)
        have hgo := go_next hH (a := a.toNat) (k := k.toNat) (by omega) (by omega) hak
        have h00 : ∀ p, Hu[0]? = some p → F6 8 0 = p.1 ∧ F6 9 0 = p.2 := fun p hp => hhd' 0 p (by omega) hp
        have hnb := nxS_b (F 5) (F 6) a.toNat (v 7).toNat
        have hH0 : Hu[0]? = some Hu[0] := List.getElem?_eq_getElem (by omega)
        have h00 := h00 _ hH0
        have eG5 : F6 5 = F 5 := eFF' 5 (by decide) (by decide)
        have eG6 : F6 6 = F 6 := eFF' 6 (by decide) (by decide)
        have h0i : i3 Hu[0].1 ∧ i3 Hu[0].2 := by
          obtain ⟨⟨j0, hj0, hj1⟩, _⟩ := hH.2.2.2.2.1 _ hH0
          have q9 := hwb j0 (by omega)
          rw [← hj1]; unfold i3; dsimp only; omega
        have hn10 := hn10'
        have hnn := hnn'
        have eFF := eFF'
        have hhd := hhd'
        refine lv_aload_n hx hb d_M_goRound_128 rfl (lv_at hl 0 rfl) ?_
        refine lv_iload_n hx hb d_M_goRound_129 rfl (lv_at hl 1 rfl) ?_
        refine g_ci w (g_runV (As := [.int (iN (a))]) (rest := []) X w (c_M_nextOf l g (v := v7) (F := F6) (by omega) (by rw [eG5, eG6, e7']; exact hwb) (a := a) (by omega)) k_M_nextOf v_M_nextOf lk_M_54 g.1.1 (show (mSt cI mo A f v7 F6) mo = .inr (4, _) from mS_m) rfl ⟨(Nat.le_of_ble_eq_true rfl), (Nat.le_of_ble_eq_true rfl)⟩ rfl hl.1 rfl (Nat.le_of_ble_eq_true rfl) d_M_goRound_130 ⟨(Nat.le_of_ble_eq_true rfl), (Nat.le_of_ble_eq_true rfl)⟩) (fun r u H locs hp w => ?_)
        obtain ⟨hr9, rfl⟩ := hp
        rw [eG5, eG6, e7'] at hr9
        subst hr9
        have w : gw D (gA L sz) s.heap H locs L (mSt cI mo A f v7 F6) := w
        refine lv_istore_n (lv' := [(3, .int (iN ((nxS (F 5) (F 6) a.toNat (v 7).toNat)))), (0, .ref mo), (1, .int (iN (a))), (2, .int (iN (fl)))]) hx hb d_M_goRound_133 rfl hl (by decide) rfl (fun ls hl => ?_)
        refine lv_iload_n hx hb d_M_goRound_134 rfl (lv_at hl 0 rfl) ?_
        refine ri_zlt (a := (nxS (F 5) (F 6) a.toNat (v 7).toNat)) (tgt := 172) hx hb d_M_goRound_135 (by decide) rfl (by have := nxS_b (F 5) (F 6) a.toNat (v 7).toNat; unfold i3; omega) (fun c135 => ?_) (fun c135 => ?_)
        · skip
          refine lv_iconst (v := iN (0)) hx hb d_M_goRound_172 (by decide) ?_
          have hkk : k + 1 = Hu.length := by
            by_cases e9 : k + 1 = Hu.length
            · exact e9
            · exfalso
              have hq := hgo.1 (by omega)
              omega
          refine lv_istore_n (lv' := [(2, .int (iN (0))), (3, .int (iN ((nxS (F 5) (F 6) a.toNat (v 7).toNat)))), (0, .ref mo), (1, .int (iN (a)))]) hx hb d_M_goRound_173 rfl hl (by decide) rfl (fun ls hl => ?_)
          refine lv_iload_n hx hb d_M_goRound_174 rfl (lv_at hl 1 rfl) ?_
          refine lv_istore_n (lv' := [(1, .int (iN ((nxS (F 5) (F 6) a.toNat (v 7).toNat)))), (2, .int (iN (0))), (3, .int (iN ((nxS (F 5) (F 6) a.toNat (v 7).toNat)))), (0, .ref mo)]) hx hb d_M_goRound_175 rfl hl (by decide) rfl (fun ls hl => ?_)
          refine lv_goto (tgt := 84) hx hb d_M_goRound_176 (by decide) ?_
          have hI' : 0 ≤ (k + 1) ∧ (k + 1) ≤ Hu.length ∧ (((0 : Int) = 0 ∧ (k + 1) = Hu.length) ∨ ((0 : Int) = 1 ∧ (k + 1) < Hu.length ∧ 0 ≤ (nxS (F 5) (F 6) a.toNat (v 7).toNat) ∧ (nxS (F 5) (F 6) a.toNat (v 7).toNat) < v 7 ∧ Hu[(k + 1).toNat]? = some (F 5 (nxS (F 5) (F 6) a.toNat (v 7).toNat).toNat, F 6 (nxS (F 5) (F 6) a.toNat (v 7).toNat).toNat))) ∧ v7 10 = (k + 1) ∧ (∀ j, j ≠ 10 → v7 j = v j) ∧ (∀ j, j ≠ 8 → j ≠ 9 → F6 j = F j) ∧ hld F6 Hu (k + 1) := ⟨by omega, by omega, Or.inl ⟨rfl, by omega⟩, hn10, hnn, eFF, hhd⟩
          exact ih ((k + 1), (nxS (F 5) (F 6) a.toNat (v 7).toNat), 0, v7, F6) _ _ _ (by omega) hI' w (lv_sub hl [3, 0, 1] rfl)
        · skip
          refine lv_aload_n hx hb d_M_goRound_138 rfl (lv_at hl 1 rfl) ?_
          refine gk_get X w g.1.1 (show (mSt cI mo A f v7 F6) mo = .inr (4, _) from mS_m) rfl in_M 5 (by decide) lk_M_19 rfl d_M_goRound_139 ?_
          refine lv_iload_n hx hb d_M_goRound_142 rfl (lv_at hl 0 rfl) ?_
          refine gk_iald X w 0 g.1.2.2.2.2.1 (mS_5 g) rfl (vin (by omega) (by omega) (by decide)) d_M_goRound_143 ?_
          rw [vclN 576 (by omega) (by omega) (by decide)]
          refine lv_aload_n hx hb d_M_goRound_144 rfl (lv_at hl 1 rfl) ?_
          refine gk_get X w g.1.1 (show (mSt cI mo A f v7 F6) mo = .inr (4, _) from mS_m) rfl in_M 8 (by decide) lk_M_25 rfl d_M_goRound_145 ?_
          refine lv_iconst (v := iN (0)) hx hb d_M_goRound_148 (by decide) ?_
          refine gk_iald X w 0 g.1.2.2.2.2.2.2.1 (mS_8 g) rfl (vin (by omega) (by omega) (by decide)) d_M_goRound_149 ?_
          rw [vclN 576 (by omega) (by omega) (by decide)]
          refine ri_cne (a := (F6 5 (nxS (F 5) (F 6) a.toNat (v 7).toNat).toNat)) (b := (F6 8 (0 : Int).toNat)) (tgt := 168) hx hb d_M_goRound_150 (by decide) rfl rfl (by have := hwb (nxS (F 5) (F 6) a.toNat (v 7).toNat).toNat (by omega); rw [eG5]; unfold i3; omega) (show i3 (F6 8 0) by rw [h00.1]; exact h0i.1) (fun c150 => ?_) (fun c150 => ?_)
          · skip
            refine lv_iconst (v := iN (1)) hx hb d_M_goRound_168 (by decide) ?_
            refine lv_goto (tgt := 173) hx hb d_M_goRound_169 (by decide) ?_
            have hkk : k + 1 < Hu.length := by
              by_cases e9 : k + 1 = Hu.length
              · exfalso
                rcases hgo.2 (by omega) with q | ⟨q1, q2⟩
                · omega
                · rw [hH0] at q2
                  have e1 : Hu[0].1 = F 5 (nxS (F 5) (F 6) a.toNat (v 7).toNat).toNat := congrArg Prod.fst (Option.some.inj q2)
                  have e2 : Hu[0].2 = F 6 (nxS (F 5) (F 6) a.toNat (v 7).toNat).toNat := congrArg Prod.snd (Option.some.inj q2)
                  exact c150 (show F6 5 _ = F6 8 0 by rw [eG5, h00.1, e1])
              · omega
            have hnx0 := (hgo.1 (by omega)).1
            refine lv_istore_n (lv' := [(2, .int (iN (1))), (3, .int (iN ((nxS (F 5) (F 6) a.toNat (v 7).toNat)))), (0, .ref mo), (1, .int (iN (a)))]) hx hb d_M_goRound_173 rfl hl (by decide) rfl (fun ls hl => ?_)
            refine lv_iload_n hx hb d_M_goRound_174 rfl (lv_at hl 1 rfl) ?_
            refine lv_istore_n (lv' := [(1, .int (iN ((nxS (F 5) (F 6) a.toNat (v 7).toNat)))), (2, .int (iN (1))), (3, .int (iN ((nxS (F 5) (F 6) a.toNat (v 7).toNat)))), (0, .ref mo)]) hx hb d_M_goRound_175 rfl hl (by decide) rfl (fun ls hl => ?_)
            refine lv_goto (tgt := 84) hx hb d_M_goRound_176 (by decide) ?_
            have hI' : 0 ≤ (k + 1) ∧ (k + 1) ≤ Hu.length ∧ (((1 : Int) = 0 ∧ (k + 1) = Hu.length) ∨ ((1 : Int) = 1 ∧ (k + 1) < Hu.length ∧ 0 ≤ (nxS (F 5) (F 6) a.toNat (v 7).toNat) ∧ (nxS (F 5) (F 6) a.toNat (v 7).toNat) < v 7 ∧ Hu[(k + 1).toNat]? = some (F 5 (nxS (F 5) (F 6) a.toNat (v 7).toNat).toNat, F 6 (nxS (F 5) (F 6) a.toNat (v 7).toNat).toNat))) ∧ v7 10 = (k + 1) ∧ (∀ j, j ≠ 10 → v7 j = v j) ∧ (∀ j, j ≠ 8 → j ≠ 9 → F6 j = F j) ∧ hld F6 Hu (k + 1) := ⟨by omega, by omega, Or.inr ⟨rfl, by omega, by omega, by have := nxS_b (F 5) (F 6) a.toNat (v 7).toNat; omega, by rw [show (k + 1).toNat = k.toNat + 1 by omega]; exact (hgo.1 (by omega)).2.1⟩, hn10, hnn, eFF, hhd⟩
            exact ih ((k + 1), (nxS (F 5) (F 6) a.toNat (v 7).toNat), 1, v7, F6) _ _ _ (by omega) hI' w (lv_sub hl [3, 0, 1] rfl)
          · skip
            refine lv_aload_n hx hb d_M_goRound_153 rfl (lv_at hl 1 rfl) ?_
            refine gk_get X w g.1.1 (show (mSt cI mo A f v7 F6) mo = .inr (4, _) from mS_m) rfl in_M 6 (by decide) lk_M_22 rfl d_M_goRound_154 ?_
            refine lv_iload_n hx hb d_M_goRound_157 rfl (lv_at hl 0 rfl) ?_
            refine gk_iald X w 0 g.1.2.2.2.2.2.1 (mS_6 g) rfl (vin (by omega) (by omega) (by decide)) d_M_goRound_158 ?_
            rw [vclN 576 (by omega) (by omega) (by decide)]
            refine lv_aload_n hx hb d_M_goRound_159 rfl (lv_at hl 1 rfl) ?_
            refine gk_get X w g.1.1 (show (mSt cI mo A f v7 F6) mo = .inr (4, _) from mS_m) rfl in_M 9 (by decide) lk_M_28 rfl d_M_goRound_160 ?_
            refine lv_iconst (v := iN (0)) hx hb d_M_goRound_163 (by decide) ?_
            refine gk_iald X w 0 g.1.2.2.2.2.2.2.2 (mS_9 g) rfl (vin (by omega) (by omega) (by decide)) d_M_goRound_164 ?_
            rw [vclN 576 (by omega) (by omega) (by decide)]
            refine ri_ceq (a := (F6 6 (nxS (F 5) (F 6) a.toNat (v 7).toNat).toNat)) (b := (F6 9 (0 : Int).toNat)) (tgt := 172) hx hb d_M_goRound_165 (by decide) rfl rfl (by have := hwb (nxS (F 5) (F 6) a.toNat (v 7).toNat).toNat (by omega); rw [eG6]; unfold i3; omega) (show i3 (F6 9 0) by rw [h00.2]; exact h0i.2) (fun c165 => ?_) (fun c165 => ?_)
            · skip
              refine lv_iconst (v := iN (0)) hx hb d_M_goRound_172 (by decide) ?_
              have hkk : k + 1 = Hu.length := by
                by_cases e9 : k + 1 = Hu.length
                · exact e9
                · exfalso
                  have hq := hgo.1 (by omega)
                  have d1 : F6 5 (nxS (F 5) (F 6) a.toNat (v 7).toNat).toNat = F6 8 0 := Classical.not_not.mp c150
                  have d2 : F6 6 (nxS (F 5) (F 6) a.toNat (v 7).toNat).toNat = F6 9 0 := c165
                  rw [eG5, h00.1] at d1; rw [eG6, h00.2] at d2
                  exact hq.2.2 _ hH0 (Prod.ext d1 d2)
              refine lv_istore_n (lv' := [(2, .int (iN (0))), (3, .int (iN ((nxS (F 5) (F 6) a.toNat (v 7).toNat)))), (0, .ref mo), (1, .int (iN (a)))]) hx hb d_M_goRound_173 rfl hl (by decide) rfl (fun ls hl => ?_)
              refine lv_iload_n hx hb d_M_goRound_174 rfl (lv_at hl 1 rfl) ?_
              refine lv_istore_n (lv' := [(1, .int (iN ((nxS (F 5) (F 6) a.toNat (v 7).toNat)))), (2, .int (iN (0))), (3, .int (iN ((nxS (F 5) (F 6) a.toNat (v 7).toNat)))), (0, .ref mo)]) hx hb d_M_goRound_175 rfl hl (by decide) rfl (fun ls hl => ?_)
              refine lv_goto (tgt := 84) hx hb d_M_goRound_176 (by decide) ?_
              have hI' : 0 ≤ (k + 1) ∧ (k + 1) ≤ Hu.length ∧ (((0 : Int) = 0 ∧ (k + 1) = Hu.length) ∨ ((0 : Int) = 1 ∧ (k + 1) < Hu.length ∧ 0 ≤ (nxS (F 5) (F 6) a.toNat (v 7).toNat) ∧ (nxS (F 5) (F 6) a.toNat (v 7).toNat) < v 7 ∧ Hu[(k + 1).toNat]? = some (F 5 (nxS (F 5) (F 6) a.toNat (v 7).toNat).toNat, F 6 (nxS (F 5) (F 6) a.toNat (v 7).toNat).toNat))) ∧ v7 10 = (k + 1) ∧ (∀ j, j ≠ 10 → v7 j = v j) ∧ (∀ j, j ≠ 8 → j ≠ 9 → F6 j = F j) ∧ hld F6 Hu (k + 1) := ⟨by omega, by omega, Or.inl ⟨rfl, by omega⟩, hn10, hnn, eFF, hhd⟩
              exact ih ((k + 1), (nxS (F 5) (F 6) a.toNat (v 7).toNat), 0, v7, F6) _ _ _ (by omega) hI' w (lv_sub hl [3, 0, 1] rfl)
            · skip
              refine lv_iconst (v := iN (1)) hx hb d_M_goRound_168 (by decide) ?_
              refine lv_goto (tgt := 173) hx hb d_M_goRound_169 (by decide) ?_
              have hkk : k + 1 < Hu.length := by
                by_cases e9 : k + 1 = Hu.length
                · exfalso
                  rcases hgo.2 (by omega) with q | ⟨q1, q2⟩
                  · omega
                  · rw [hH0] at q2
                    have e1 : Hu[0].1 = F 5 (nxS (F 5) (F 6) a.toNat (v 7).toNat).toNat := congrArg Prod.fst (Option.some.inj q2)
                    have e2 : Hu[0].2 = F 6 (nxS (F 5) (F 6) a.toNat (v 7).toNat).toNat := congrArg Prod.snd (Option.some.inj q2)
                    exact c165 (show F6 6 _ = F6 9 0 by rw [eG6, h00.2, e2])
                · omega
              have hnx0 := (hgo.1 (by omega)).1
              refine lv_istore_n (lv' := [(2, .int (iN (1))), (3, .int (iN ((nxS (F 5) (F 6) a.toNat (v 7).toNat)))), (0, .ref mo), (1, .int (iN (a)))]) hx hb d_M_goRound_173 rfl hl (by decide) rfl (fun ls hl => ?_)
              refine lv_iload_n hx hb d_M_goRound_174 rfl (lv_at hl 1 rfl) ?_
              refine lv_istore_n (lv' := [(1, .int (iN ((nxS (F 5) (F 6) a.toNat (v 7).toNat)))), (2, .int (iN (1))), (3, .int (iN ((nxS (F 5) (F 6) a.toNat (v 7).toNat)))), (0, .ref mo)]) hx hb d_M_goRound_175 rfl hl (by decide) rfl (fun ls hl => ?_)
              refine lv_goto (tgt := 84) hx hb d_M_goRound_176 (by decide) ?_
              have hI' : 0 ≤ (k + 1) ∧ (k + 1) ≤ Hu.length ∧ (((1 : Int) = 0 ∧ (k + 1) = Hu.length) ∨ ((1 : Int) = 1 ∧ (k + 1) < Hu.length ∧ 0 ≤ (nxS (F 5) (F 6) a.toNat (v 7).toNat) ∧ (nxS (F 5) (F 6) a.toNat (v 7).toNat) < v 7 ∧ Hu[(k + 1).toNat]? = some (F 5 (nxS (F 5) (F 6) a.toNat (v 7).toNat).toNat, F 6 (nxS (F 5) (F 6) a.toNat (v 7).toNat).toNat))) ∧ v7 10 = (k + 1) ∧ (∀ j, j ≠ 10 → v7 j = v j) ∧ (∀ j, j ≠ 8 → j ≠ 9 → F6 j = F j) ∧ hld F6 Hu (k + 1) := ⟨by omega, by omega, Or.inr ⟨rfl, by omega, by omega, by have := nxS_b (F 5) (F 6) a.toNat (v 7).toNat; omega, by rw [show (k + 1).toNat = k.toNat + 1 by omega]; exact (hgo.1 (by omega)).2.1⟩, hn10, hnn, eFF, hhd⟩
              exact ih ((k + 1), (nxS (F 5) (F 6) a.toNat (v 7).toNat), 1, v7, F6) _ _ _ (by omega) hI' w (lv_sub hl [3, 0, 1] rfl)
  · skip
    refine lv_iload_n hx hb d_M_goRound_17 rfl (lv_at hl 1 rfl) ?_
    refine ri_zlt (a := a) (tgt := 66) hx hb d_M_goRound_18 (by decide) rfl (by unfold i3; omega) (fun c18 => ?_) (fun c18 => ?_)
    · skip
      refine lv_iload_n hx hb d_M_goRound_66 rfl (lv_at hl 2 rfl) ?_
      refine lv_istore_n (lv' := [(1, .int (iN (k))), (0, .ref mo), (2, .int (iN (k)))]) hx hb d_M_goRound_67 rfl hl (by decide) rfl (fun ls hl => ?_)
      refine lv_iinc (v := iN ((k + 1))) (lv' := [(2, .int (iN ((k + 1)))), (1, .int (iN (k))), (0, .ref mo)]) hx hb d_M_goRound_68 hl (k := 2) rfl (by rw [show (k + 1) = k + (1 : Int) by omega, ← iN_add]; rfl) (by decide) rfl (fun ls hl => ?_)
      refine lv_goto (tgt := 9) hx hb d_M_goRound_71 (by decide) ?_
      have hI' : 0 ≤ (k + 1) ∧ (k + 1) ≤ v 7 ∧ ((k + 1) = 0 → k = -1) ∧ (0 < (k + 1) → 0 ≤ k ∧ k < (k + 1) ∧ ∀ j : Nat, (j : Int) < (k + 1) → lexle (F 5 k.toNat, F 6 k.toNat) (F 5 j, F 6 j)) := ⟨by omega, by omega, fun _ => by omega, fun _ => ⟨by omega, by omega, fun j hj => by have hj' : j = k.toNat ∨ (j : Int) < k := (by omega); rcases hj' with rfl | hj'; (unfold lexle; dsimp only; omega); have := (h3 (by omega)).2.2 j hj'; unfold lexle at *; dsimp only at *; omega⟩⟩
      exact ih ((k + 1), k) _ _ _ (by omega) hI' w (lv_sub hl [2, 1, 0] rfl)
    · skip
      refine lv_aload_n hx hb d_M_goRound_21 rfl (lv_at hl 0 rfl) ?_
      refine gk_get X w g.1.1 (show (mSt cI mo A f v1 F) mo = .inr (4, _) from mS_m) rfl in_M 5 (by decide) lk_M_19 rfl d_M_goRound_22 ?_
      refine lv_iload_n hx hb d_M_goRound_25 rfl (lv_at hl 2 rfl) ?_
      refine gk_iald X w 0 g.1.2.2.2.2.1 (mS_5 g) rfl (vin (by omega) (by omega) (by decide)) d_M_goRound_26 ?_
      rw [vclN 576 (by omega) (by omega) (by decide)]
      refine lv_aload_n hx hb d_M_goRound_27 rfl (lv_at hl 0 rfl) ?_
      refine gk_get X w g.1.1 (show (mSt cI mo A f v1 F) mo = .inr (4, _) from mS_m) rfl in_M 5 (by decide) lk_M_19 rfl d_M_goRound_28 ?_
      refine lv_iload_n hx hb d_M_goRound_31 rfl (lv_at hl 1 rfl) ?_
      refine gk_iald X w 0 g.1.2.2.2.2.1 (mS_5 g) rfl (vin (by omega) (by omega) (by decide)) d_M_goRound_32 ?_
      rw [vclN 576 (by omega) (by omega) (by decide)]
      refine ri_clt (a := (F 5 k.toNat)) (b := (F 5 a.toNat)) (tgt := 66) hx hb d_M_goRound_33 (by decide) rfl rfl (by have := hwb k.toNat (by omega); unfold i3; omega) (by have := hwb a.toNat (by omega); unfold i3; omega) (fun c33 => ?_) (fun c33 => ?_)
      · skip
        refine lv_iload_n hx hb d_M_goRound_66 rfl (lv_at hl 2 rfl) ?_
        refine lv_istore_n (lv' := [(1, .int (iN (k))), (0, .ref mo), (2, .int (iN (k)))]) hx hb d_M_goRound_67 rfl hl (by decide) rfl (fun ls hl => ?_)
        refine lv_iinc (v := iN ((k + 1))) (lv' := [(2, .int (iN ((k + 1)))), (1, .int (iN (k))), (0, .ref mo)]) hx hb d_M_goRound_68 hl (k := 2) rfl (by rw [show (k + 1) = k + (1 : Int) by omega, ← iN_add]; rfl) (by decide) rfl (fun ls hl => ?_)
        refine lv_goto (tgt := 9) hx hb d_M_goRound_71 (by decide) ?_
        have hI' : 0 ≤ (k + 1) ∧ (k + 1) ≤ v 7 ∧ ((k + 1) = 0 → k = -1) ∧ (0 < (k + 1) → 0 ≤ k ∧ k < (k + 1) ∧ ∀ j : Nat, (j : Int) < (k + 1) → lexle (F 5 k.toNat, F 6 k.toNat) (F 5 j, F 6 j)) := ⟨by omega, by omega, fun _ => by omega, fun _ => ⟨by omega, by omega, fun j hj => by have hj' : j = k.toNat ∨ (j : Int) < k := (by omega); rcases hj' with rfl | hj'; (unfold lexle; dsimp only; omega); have := (h3 (by omega)).2.2 j hj'; unfold lexle at *; dsimp only at *; omega⟩⟩
        exact ih ((k + 1), k) _ _ _ (by omega) hI' w (lv_sub hl [2, 1, 0] rfl)
      · skip
        refine lv_aload_n hx hb d_M_goRound_36 rfl (lv_at hl 0 rfl) ?_
        refine gk_get X w g.1.1 (show (mSt cI mo A f v1 F) mo = .inr (4, _) from mS_m) rfl in_M 5 (by decide) lk_M_19 rfl d_M_goRound_37 ?_
        refine lv_iload_n hx hb d_M_goRound_40 rfl (lv_at hl 2 rfl) ?_
        refine gk_iald X w 0 g.1.2.2.2.2.1 (mS_5 g) rfl (vin (by omega) (by omega) (by decide)) d_M_goRound_41 ?_
        rw [vclN 576 (by omega) (by omega) (by decide)]
        refine lv_aload_n hx hb d_M_goRound_42 rfl (lv_at hl 0 rfl) ?_
        refine gk_get X w g.1.1 (show (mSt cI mo A f v1 F) mo = .inr (4, _) from mS_m) rfl in_M 5 (by decide) lk_M_19 rfl d_M_goRound_43 ?_
        refine lv_iload_n hx hb d_M_goRound_46 rfl (lv_at hl 1 rfl) ?_
        refine gk_iald X w 0 g.1.2.2.2.2.1 (mS_5 g) rfl (vin (by omega) (by omega) (by decide)) d_M_goRound_47 ?_
        rw [vclN 576 (by omega) (by omega) (by decide)]
        refine ri_cne (a := (F 5 k.toNat)) (b := (F 5 a.toNat)) (tgt := 68) hx hb d_M_goRound_48 (by decide) rfl rfl (by have := hwb k.toNat (by omega); unfold i3; omega) (by have := hwb a.toNat (by omega); unfold i3; omega) (fun c48 => ?_) (fun c48 => ?_)
        · skip
          refine lv_iinc (v := iN ((k + 1))) (lv' := [(2, .int (iN ((k + 1)))), (0, .ref mo), (1, .int (iN (a)))]) hx hb d_M_goRound_68 hl (k := 2) rfl (by rw [show (k + 1) = k + (1 : Int) by omega, ← iN_add]; rfl) (by decide) rfl (fun ls hl => ?_)
          refine lv_goto (tgt := 9) hx hb d_M_goRound_71 (by decide) ?_
          have hI' : 0 ≤ (k + 1) ∧ (k + 1) ≤ v 7 ∧ ((k + 1) = 0 → a = -1) ∧ (0 < (k + 1) → 0 ≤ a ∧ a < (k + 1) ∧ ∀ j : Nat, (j : Int) < (k + 1) → lexle (F 5 a.toNat, F 6 a.toNat) (F 5 j, F 6 j)) := ⟨by omega, by omega, fun _ => by omega, fun _ => ⟨by omega, by omega, fun j hj => by have hj' : j = k.toNat ∨ (j : Int) < k := (by omega); rcases hj' with rfl | hj'; (unfold lexle; dsimp only; omega); exact (h3 (by omega)).2.2 j hj'⟩⟩
          exact ih ((k + 1), a) _ _ _ (by omega) hI' w (lv_sub hl [1, 2, 0] rfl)
        · skip
          refine lv_aload_n hx hb d_M_goRound_51 rfl (lv_at hl 0 rfl) ?_
          refine gk_get X w g.1.1 (show (mSt cI mo A f v1 F) mo = .inr (4, _) from mS_m) rfl in_M 6 (by decide) lk_M_22 rfl d_M_goRound_52 ?_
          refine lv_iload_n hx hb d_M_goRound_55 rfl (lv_at hl 2 rfl) ?_
          refine gk_iald X w 0 g.1.2.2.2.2.2.1 (mS_6 g) rfl (vin (by omega) (by omega) (by decide)) d_M_goRound_56 ?_
          rw [vclN 576 (by omega) (by omega) (by decide)]
          refine lv_aload_n hx hb d_M_goRound_57 rfl (lv_at hl 0 rfl) ?_
          refine gk_get X w g.1.1 (show (mSt cI mo A f v1 F) mo = .inr (4, _) from mS_m) rfl in_M 6 (by decide) lk_M_22 rfl d_M_goRound_58 ?_
          refine lv_iload_n hx hb d_M_goRound_61 rfl (lv_at hl 1 rfl) ?_
          refine gk_iald X w 0 g.1.2.2.2.2.2.1 (mS_6 g) rfl (vin (by omega) (by omega) (by decide)) d_M_goRound_62 ?_
          rw [vclN 576 (by omega) (by omega) (by decide)]
          refine ri_cge (a := (F 6 k.toNat)) (b := (F 6 a.toNat)) (tgt := 68) hx hb d_M_goRound_63 (by decide) rfl rfl (by have := hwb k.toNat (by omega); unfold i3; omega) (by have := hwb a.toNat (by omega); unfold i3; omega) (fun c63 => ?_) (fun c63 => ?_)
          · skip
            refine lv_iinc (v := iN ((k + 1))) (lv' := [(2, .int (iN ((k + 1)))), (0, .ref mo), (1, .int (iN (a)))]) hx hb d_M_goRound_68 hl (k := 2) rfl (by rw [show (k + 1) = k + (1 : Int) by omega, ← iN_add]; rfl) (by decide) rfl (fun ls hl => ?_)
            refine lv_goto (tgt := 9) hx hb d_M_goRound_71 (by decide) ?_
            have hI' : 0 ≤ (k + 1) ∧ (k + 1) ≤ v 7 ∧ ((k + 1) = 0 → a = -1) ∧ (0 < (k + 1) → 0 ≤ a ∧ a < (k + 1) ∧ ∀ j : Nat, (j : Int) < (k + 1) → lexle (F 5 a.toNat, F 6 a.toNat) (F 5 j, F 6 j)) := ⟨by omega, by omega, fun _ => by omega, fun _ => ⟨by omega, by omega, fun j hj => by have hj' : j = k.toNat ∨ (j : Int) < k := (by omega); rcases hj' with rfl | hj'; (unfold lexle; dsimp only; omega); exact (h3 (by omega)).2.2 j hj'⟩⟩
            exact ih ((k + 1), a) _ _ _ (by omega) hI' w (lv_sub hl [1, 2, 0] rfl)
          · skip
            refine lv_iload_n hx hb d_M_goRound_66 rfl (lv_at hl 2 rfl) ?_
            refine lv_istore_n (lv' := [(1, .int (iN (k))), (0, .ref mo), (2, .int (iN (k)))]) hx hb d_M_goRound_67 rfl hl (by decide) rfl (fun ls hl => ?_)
            refine lv_iinc (v := iN ((k + 1))) (lv' := [(2, .int (iN ((k + 1)))), (1, .int (iN (k))), (0, .ref mo)]) hx hb d_M_goRound_68 hl (k := 2) rfl (by rw [show (k + 1) = k + (1 : Int) by omega, ← iN_add]; rfl) (by decide) rfl (fun ls hl => ?_)
            refine lv_goto (tgt := 9) hx hb d_M_goRound_71 (by decide) ?_
            have hI' : 0 ≤ (k + 1) ∧ (k + 1) ≤ v 7 ∧ ((k + 1) = 0 → k = -1) ∧ (0 < (k + 1) → 0 ≤ k ∧ k < (k + 1) ∧ ∀ j : Nat, (j : Int) < (k + 1) → lexle (F 5 k.toNat, F 6 k.toNat) (F 5 j, F 6 j)) := ⟨by omega, by omega, fun _ => by omega, fun _ => ⟨by omega, by omega, fun j hj => by have hj' : j = k.toNat ∨ (j : Int) < k := (by omega); rcases hj' with rfl | hj'; (unfold lexle; dsimp only; omega); have := (h3 (by omega)).2.2 j hj'; unfold lexle at *; dsimp only at *; omega⟩⟩
            exact ih ((k + 1), k) _ _ _ (by omega) hI' w (lv_sub hl [2, 1, 0] rfl)
