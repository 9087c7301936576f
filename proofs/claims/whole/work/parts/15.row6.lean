/-! ROWS: sorting in, and corners -/
def insAt (P : List Pt) (x y : Int) : Nat → Nat
  | 0 => 0
  | n + 1 => if x < pX P n ∨ (pX P n = x ∧ y < pY P n) then insAt P x y n else n + 1
def insS (P : List Pt) (q : Pt) : List Pt := P.take (insAt P q.1 q.2 P.length) ++ q :: P.drop (insAt P q.1 q.2 P.length)
theorem insAt_le (P : List Pt) (x y : Int) (n : Nat) : insAt P x y n ≤ n := by
  induction n with
  | zero => exact Nat.le_refl _
  | succ n ih => unfold insAt; split <;> omega
theorem insS_len (P : List Pt) (q : Pt) : (insS P q).length = P.length + 1 := by
  have := insAt_le P q.1 q.2 P.length
  simp [insS]; omega
theorem ins_row {P : List Pt} {X Y : Nat → Int32} {x y : Int} {m : Nat} (hm : m ≤ P.length) (hA : ∀ j q, P[j]? = some q → (j < m → X j = iN q.1 ∧ Y j = iN q.2) ∧ (m ≤ j → X (j + 1) = iN q.1 ∧ Y (j + 1) = iN q.2)) :
    ∀ i q, (P.take m ++ (x, y) :: P.drop m)[i]? = some q → upd X m (iN x) i = iN q.1 ∧ upd Y m (iN y) i = iN q.2 := by
  intro i q h
  have hl : (P.take m).length = m := by simp; omega
  unfold upd
  by_cases e : i = m
  · subst e
    rw [List.getElem?_append_right (by omega), hl, Nat.sub_self] at h
    simp at h
    subst h
    simp
  · rw [if_neg e, if_neg e]
    by_cases e2 : i < m
    · rw [List.getElem?_append_left (by omega), List.getElem?_take, if_pos e2] at h
      exact (hA i q h).1 e2
    · rw [List.getElem?_append_right (by omega), hl, show i - m = (i - m - 1) + 1 by omega, List.getElem?_cons_succ, List.getElem?_drop, show m + (i - m - 1) = i - 1 by omega] at h
      have := (hA (i - 1) q h).2 (by omega)
      rwa [show i - 1 + 1 = i by omega] at this

set_option maxHeartbeats 4000000 in
set_option maxRecDepth 100000 in
theorem c_R_addSorted (l : Launch) {D : va_G} {cI cR : ClassId} {L : List Nat} {f : Nat → va_E} {rx ry : Nat → Nat} {a : Nat} {P : List Pt} (ho : ro L rx ry a) (hr : rowIs cI rx ry f a P) (hlt : P.length < 48) {x y : Int} (hB : pb 600 P) (hx0 : -1000 ≤ x ∧ x ≤ 1000) (hy0 : -1000 ≤ y ∧ y ≤ 1000) : gMv D cI cR l y_R_addSorted (Cond.code y_R_addSorted b_R_addSorted 4 none :: lw_g) { frames := 0, cells := 0, slots := 0, locals := 0 } [.ref a, .int (iN (x)), .int (iN (y))] L f (fun u => ∃ g, u = (L, g) ∧ rowIs cI rx ry g a (insS P (x, y)) ∧ chg rx ry a f g) := by
  intro sz
  refine g_enter (by decide) rfl (Nat.le_of_ble_eq_true rfl) ?_
  intro p e s m below meth cd ls X hrt hlk hnm hl hsz w
  have X : gx p m cd b_R_addSorted 4 s _ "HullSums$Row" D cI cR := X
  have hx := X.1.1
  have hb := X.1.2.1
  have hl : lv_has ls 4 [(0, .ref a), (1, .int (iN (x))), (2, .int (iN (y)))] := hl
  obtain ⟨hn48, h1, F1, F2, h2, h3, h4⟩ := hr
  have w : gw D (gA L sz) s.heap s.heap [] L (rst cI rx ry f a F1 F2 P.length) := by rw [rst_0 h1 h2 h3]; exact w
  refine lv_aload_n hx hb d_R_addSorted_0 rfl (lv_at hl 0 rfl) ?_
  refine gk_get X w ho.1 rst_a rfl in_R 2 (by decide) lk_R_18 rfl d_R_addSorted_1 ?_
  refine ri_zlt (a := (P.length : Int)) (tgt := 31) hx hb d_R_addSorted_4 (by decide) rfl (by unfold i3; omega) (fun c4 => ?_) (fun c4 => ?_)
  · skip
    omega
  · skip
    refine lv_aload_n hx hb d_R_addSorted_7 rfl (lv_at hl 0 rfl) ?_
    refine gk_get X w ho.1 rst_a rfl in_R 2 (by decide) lk_R_18 rfl d_R_addSorted_8 ?_
    refine lv_aload_n hx hb d_R_addSorted_11 rfl (lv_at hl 0 rfl) ?_
    refine gk_get X w ho.1 rst_a rfl in_R 0 (by decide) lk_R_9 rfl d_R_addSorted_12 ?_
    refine gk_alen X w 0 ho.2.1 (rst_x ho) rfl (v := iN (48)) rfl d_R_addSorted_15 ?_
    refine ri_cge (a := (P.length : Int)) (b := 48) (tgt := 31) hx hb d_R_addSorted_16 (by decide) rfl rfl (by unfold i3; omega) (by unfold i3; omega) (fun c16 => ?_) (fun c16 => ?_)
    · skip
      omega
    · skip
      refine lv_aload_n hx hb d_R_addSorted_19 rfl (lv_at hl 0 rfl) ?_
      refine gk_get X w ho.1 rst_a rfl in_R 2 (by decide) lk_R_18 rfl d_R_addSorted_20 ?_
      refine lv_aload_n hx hb d_R_addSorted_23 rfl (lv_at hl 0 rfl) ?_
      refine gk_get X w ho.1 rst_a rfl in_R 1 (by decide) lk_R_15 rfl d_R_addSorted_24 ?_
      refine gk_alen X w 0 ho.2.2.1 (rst_y ho) rfl (v := iN (48)) rfl d_R_addSorted_27 ?_
      refine ri_clt (a := (P.length : Int)) (b := 48) (tgt := 32) hx hb d_R_addSorted_28 (by decide) rfl rfl (by unfold i3; omega) (by unfold i3; omega) (fun c28 => ?_) (fun c28 => ?_)
      · skip
        refine lv_aload_n hx hb d_R_addSorted_32 rfl (lv_at hl 0 rfl) ?_
        refine gk_get X w ho.1 rst_a rfl in_R 2 (by decide) lk_R_18 rfl d_R_addSorted_33 ?_
        refine lv_istore_n (lv' := [(3, .int (iN ((P.length : Int)))), (0, .ref a), (1, .int (iN (x))), (2, .int (iN (y)))]) hx hb d_R_addSorted_36 rfl hl (by decide) rfl (fun ls hl => ?_)
        refine g_loop (σ := Int × (Nat → Int32) × (Nat → Int32)) (fun z9 => z9.1.toNat) (fun z9 => [(0, .ref a), (1, .int (iN (x))), (2, .int (iN (y))), (3, .int (iN (z9.1)))]) L (fun z9 => rst cI rx ry f a z9.2.1 z9.2.2 P.length) (fun z9 => 0 ≤ z9.1 ∧ z9.1 ≤ P.length ∧ insAt P x y P.length = insAt P x y z9.1.toNat ∧ (∀ (j7 : Nat) (q7 : Pt), P[j7]? = some q7 → ((j7 : Int) < z9.1 → z9.2.1 j7 = iN q7.1 ∧ z9.2.2 j7 = iN q7.2) ∧ (z9.1 ≤ j7 → z9.2.1 (j7 + 1) = iN q7.1 ∧ z9.2.2 (j7 + 1) = iN q7.2))) ?_ ((P.length : Int), F1, F2) _ _ _ ⟨by omega, by omega, by rw [Int.toNat_natCast], fun j q h => ⟨fun _ => h4 j q h, fun h7 => by have := (List.getElem?_eq_some_iff.mp h).1; omega⟩⟩ w (lv_sub hl [1, 2, 3, 0] rfl)
        intro z9 H locs ls hI w hl ih
        obtain ⟨k, G1, G2⟩ := z9
        have hl : lv_has ls 4 [(0, .ref a), (1, .int (iN (x))), (2, .int (iN (y))), (3, .int (iN (k)))] := hl
        have w : gw D (gA L sz) s.heap H locs L (rst cI rx ry f a G1 G2 P.length) := w
        have hI : 0 ≤ k ∧ k ≤ P.length ∧ insAt P x y P.length = insAt P x y k.toNat ∧ (∀ (j7 : Nat) (q7 : Pt), P[j7]? = some q7 → ((j7 : Int) < k → G1 j7 = iN q7.1 ∧ G2 j7 = iN q7.2) ∧ (k ≤ j7 → G1 (j7 + 1) = iN q7.1 ∧ G2 (j7 + 1) = iN q7.2)) := hI
        obtain ⟨h0, h5, h6, hA⟩ := hI
        refine lv_iload_n hx hb d_R_addSorted_37 rfl (lv_at hl 3 rfl) ?_
        refine ri_zle (a := k) (tgt := 111) hx hb d_R_addSorted_38 (by decide) rfl (by unfold i3; omega) (fun c38 => ?_) (fun c38 => ?_)
        · skip
          refine lv_aload_n hx hb d_R_addSorted_111 rfl (lv_at hl 0 rfl) ?_
          refine gk_get X w ho.1 rst_a rfl in_R 0 (by decide) lk_R_9 rfl d_R_addSorted_112 ?_
          refine lv_iload_n hx hb d_R_addSorted_115 rfl (lv_at hl 3 rfl) ?_
          refine lv_iload_n hx hb d_R_addSorted_116 rfl (lv_at hl 1 rfl) ?_
          refine gk_iast X w 0 ho.2.1 (rst_x ho) rfl (by rw [show k = ((k.toNat : Nat) : Int) by omega]; exact iN_in (by omega) (by decide)) d_R_addSorted_117 (fun H locs w => ?_)
          rw [show (iN k).toNatClampNeg = k.toNat by (conv => lhs; rw [show k = ((k.toNat : Nat) : Int) by omega]); exact iN_cl (by omega)] at w
          have w : gw D (gA L sz) s.heap H locs L (rst cI rx ry f a (upd G1 k.toNat (iN (x))) G2 (P.length : Int)) := by rw [← rst_ux (X := G1) (Y := G2) ho]; exact w
          refine lv_aload_n hx hb d_R_addSorted_118 rfl (lv_at hl 0 rfl) ?_
          refine gk_get X w ho.1 rst_a rfl in_R 1 (by decide) lk_R_15 rfl d_R_addSorted_119 ?_
          refine lv_iload_n hx hb d_R_addSorted_122 rfl (lv_at hl 3 rfl) ?_
          refine lv_iload_n hx hb d_R_addSorted_123 rfl (lv_at hl 2 rfl) ?_
          refine gk_iast X w 0 ho.2.2.1 (rst_y ho) rfl (by rw [show k = ((k.toNat : Nat) : Int) by omega]; exact iN_in (by omega) (by decide)) d_R_addSorted_124 (fun H locs w => ?_)
          rw [show (iN k).toNatClampNeg = k.toNat by (conv => lhs; rw [show k = ((k.toNat : Nat) : Int) by omega]); exact iN_cl (by omega)] at w
          have w : gw D (gA L sz) s.heap H locs L (rst cI rx ry f a (upd G1 k.toNat (iN (x))) (upd G2 k.toNat (iN (y))) (P.length : Int)) := by rw [← rst_uy (Y := G2) ho]; exact w
          refine lv_aload_n hx hb d_R_addSorted_125 rfl (lv_at hl 0 rfl) ?_
          refine lv_dup hx hb d_R_addSorted_126 rfl ?_
          refine gk_get X w ho.1 rst_a rfl in_R 2 (by decide) lk_R_18 rfl d_R_addSorted_127 ?_
          refine lv_iconst (v := iN (1)) hx hb d_R_addSorted_130 (by decide) ?_
          refine ri_add (a := (P.length : Int)) (b := 1) hx hb d_R_addSorted_131 rfl rfl ?_
          refine gk_put X w ho.1 rst_a rfl in_R ty_R tyok_R nm_R 2 (by decide) lk_R_18 rfl (ty := .int) (by decide +kernel) rfl rfl (Nat.le_of_ble_eq_true rfl) d_R_addSorted_132 (fun H locs w => ?_)
          have w : gw D (gA L sz) s.heap H locs L (rst cI rx ry f a (upd G1 k.toNat (iN (x))) (upd G2 k.toNat (iN (y))) ((P.length : Int) + 1)) := by rw [← rst_un (n := (P.length : Int))]; exact w
          have hm : insAt P x y P.length = k.toNat := by
            rw [h6]
            by_cases hk : k = 0
            · subst hk; rfl
            · obtain ⟨t, ht⟩ : ∃ t : Nat, k.toNat = t + 1 := ⟨k.toNat - 1, by omega⟩
              rw [ht]; exact if_neg (by rw [show ((t : Nat) : Int) = k - 1 by omega]; omega)
          have e8 : ((P.length : Int) + 1) = (((insS P (x, y)).length : Nat) : Int) := by rw [insS_len]; omega
          rw [e8] at w
          exact g_vret X w hrt hlk d_R_addSorted_135 ⟨_, rfl, rowIs_rst ho (by rw [insS_len]; omega) (by unfold insS; rw [hm]; exact ins_row (by omega) (fun j q h => ⟨fun h7 => (hA j q h).1 (by omega), fun h7 => (hA j q h).2 (by omega)⟩)), rst_chg⟩
        · skip
          obtain ⟨j, q, ej, hq, ex, ey⟩ := px_get (P := P) (i := k - 1) (by omega) (by omega)
          have hxj := (hA j q hq).1 (by omega)
          have hin : vp_in (iN (k - 1)) 48 := by rw [ej]; exact iN_in (by omega) (by decide)
          have hcl : (iN (k - 1)).toNatClampNeg = j := by rw [ej]; exact iN_cl (by omega)
          have hin2 : vp_in (iN k) 48 := by rw [show k = ((j + 1 : Nat) : Int) by omega]; exact iN_in (by omega) (by decide)
          have hcl2 : (iN k).toNatClampNeg = j + 1 := by rw [show k = ((j + 1 : Nat) : Int) by omega]; exact iN_cl (by omega)
          refine lv_aload_n hx hb d_R_addSorted_41 rfl (lv_at hl 0 rfl) ?_
          refine gk_get X w ho.1 rst_a rfl in_R 0 (by decide) lk_R_9 rfl d_R_addSorted_42 ?_
          refine lv_iload_n hx hb d_R_addSorted_45 rfl (lv_at hl 3 rfl) ?_
          refine lv_iconst (v := iN (1)) hx hb d_R_addSorted_46 (by decide) ?_
          refine ri_sub (a := k) (b := 1) hx hb d_R_addSorted_47 rfl rfl ?_
          refine gk_iald X w 0 ho.2.1 (rst_x ho) rfl hin d_R_addSorted_48 ?_
          rw [hcl, hxj.1, ← ex]
          refine lv_iload_n hx hb d_R_addSorted_49 rfl (lv_at hl 1 rfl) ?_
          refine ri_cgt (a := (pX P (k - 1))) (b := x) (tgt := 77) hx hb d_R_addSorted_50 (by decide) rfl rfl (pX_3 hB _) (by unfold i3; omega) (fun c50 => ?_) (fun c50 => ?_)
          · skip
            refine lv_aload_n hx hb d_R_addSorted_77 rfl (lv_at hl 0 rfl) ?_
            refine gk_get X w ho.1 rst_a rfl in_R 0 (by decide) lk_R_9 rfl d_R_addSorted_78 ?_
            refine lv_iload_n hx hb d_R_addSorted_81 rfl (lv_at hl 3 rfl) ?_
            refine lv_aload_n hx hb d_R_addSorted_82 rfl (lv_at hl 0 rfl) ?_
            refine gk_get X w ho.1 rst_a rfl in_R 0 (by decide) lk_R_9 rfl d_R_addSorted_83 ?_
            refine lv_iload_n hx hb d_R_addSorted_86 rfl (lv_at hl 3 rfl) ?_
            refine lv_iconst (v := iN (1)) hx hb d_R_addSorted_87 (by decide) ?_
            refine ri_sub (a := k) (b := 1) hx hb d_R_addSorted_88 rfl rfl ?_
            refine gk_iald X w 0 ho.2.1 (rst_x ho) rfl hin d_R_addSorted_89 ?_
            rw [hcl, hxj.1, ← ex]
            refine gk_iast X w 0 ho.2.1 (rst_x ho) rfl hin2 d_R_addSorted_90 (fun H locs w => ?_)
            rw [hcl2] at w
            have w : gw D (gA L sz) s.heap H locs L (rst cI rx ry f a (upd G1 (j + 1) (iN ((pX P (k - 1))))) G2 (P.length : Int)) := by rw [← rst_ux (X := G1) (Y := G2) ho]; exact w
            refine lv_aload_n hx hb d_R_addSorted_91 rfl (lv_at hl 0 rfl) ?_
            refine gk_get X w ho.1 rst_a rfl in_R 1 (by decide) lk_R_15 rfl d_R_addSorted_92 ?_
            refine lv_iload_n hx hb d_R_addSorted_95 rfl (lv_at hl 3 rfl) ?_
            refine lv_aload_n hx hb d_R_addSorted_96 rfl (lv_at hl 0 rfl) ?_
            refine gk_get X w ho.1 rst_a rfl in_R 1 (by decide) lk_R_15 rfl d_R_addSorted_97 ?_
            refine lv_iload_n hx hb d_R_addSorted_100 rfl (lv_at hl 3 rfl) ?_
            refine lv_iconst (v := iN (1)) hx hb d_R_addSorted_101 (by decide) ?_
            refine ri_sub (a := k) (b := 1) hx hb d_R_addSorted_102 rfl rfl ?_
            refine gk_iald X w 0 ho.2.2.1 (rst_y ho) rfl hin d_R_addSorted_103 ?_
            rw [hcl, hxj.2, ← ey]
            refine gk_iast X w 0 ho.2.2.1 (rst_y ho) rfl hin2 d_R_addSorted_104 (fun H locs w => ?_)
            rw [hcl2] at w
            have w : gw D (gA L sz) s.heap H locs L (rst cI rx ry f a (upd G1 (j + 1) (iN ((pX P (k - 1))))) (upd G2 (j + 1) (iN ((pY P (k - 1))))) (P.length : Int)) := by rw [← rst_uy (Y := G2) ho]; exact w
            refine lv_iinc (v := iN ((k - 1))) (lv' := [(3, .int (iN ((k - 1)))), (0, .ref a), (1, .int (iN (x))), (2, .int (iN (y)))]) hx hb d_R_addSorted_105 hl (k := 3) rfl (by rw [show (k - 1) = k + (-1 : Int) by omega, ← iN_add]; rfl) (by decide) rfl (fun ls hl => ?_)
            refine lv_goto (tgt := 37) hx hb d_R_addSorted_108 (by decide) ?_
            have hI' : 0 ≤ (k - 1) ∧ (k - 1) ≤ P.length ∧ insAt P x y P.length = insAt P x y (k - 1).toNat ∧ (∀ (j7 : Nat) (q7 : Pt), P[j7]? = some q7 → ((j7 : Int) < (k - 1) → (upd G1 (j + 1) (iN ((pX P (k - 1))))) j7 = iN q7.1 ∧ (upd G2 (j + 1) (iN ((pY P (k - 1))))) j7 = iN q7.2) ∧ ((k - 1) ≤ j7 → (upd G1 (j + 1) (iN ((pX P (k - 1))))) (j7 + 1) = iN q7.1 ∧ (upd G2 (j + 1) (iN ((pY P (k - 1))))) (j7 + 1) = iN q7.2)) := ⟨by omega, by omega, by rw [h6, show k.toNat = j + 1 by omega, show (k - 1).toNat = j by omega]; exact if_pos (by rw [show ((j : Nat) : Int) = k - 1 by omega]; omega), fun t r hr => ⟨fun h7 => by unfold upd; rw [if_neg (by omega), if_neg (by omega)]; exact (hA t r hr).1 (by omega), fun h7 => by unfold upd; (by_cases e9 : t = j); (subst e9; rw [hq] at hr; cases hr; rw [if_pos rfl, if_pos rfl, ex, ey]; exact ⟨rfl, rfl⟩); rw [if_neg (by omega), if_neg (by omega)]; exact (hA t r hr).2 (by omega)⟩⟩
            exact ih ((k - 1), (upd G1 (j + 1) (iN ((pX P (k - 1))))), (upd G2 (j + 1) (iN ((pY P (k - 1)))))) _ _ _ (by omega) hI' w (lv_sub hl [1, 2, 3, 0] rfl)
          · skip
            refine lv_aload_n hx hb d_R_addSorted_53 rfl (lv_at hl 0 rfl) ?_
            refine gk_get X w ho.1 rst_a rfl in_R 0 (by decide) lk_R_9 rfl d_R_addSorted_54 ?_
            refine lv_iload_n hx hb d_R_addSorted_57 rfl (lv_at hl 3 rfl) ?_
            refine lv_iconst (v := iN (1)) hx hb d_R_addSorted_58 (by decide) ?_
            refine ri_sub (a := k) (b := 1) hx hb d_R_addSorted_59 rfl rfl ?_
            refine gk_iald X w 0 ho.2.1 (rst_x ho) rfl hin d_R_addSorted_60 ?_
            rw [hcl, hxj.1, ← ex]
            refine lv_iload_n hx hb d_R_addSorted_61 rfl (lv_at hl 1 rfl) ?_
            refine ri_cne (a := (pX P (k - 1))) (b := x) (tgt := 111) hx hb d_R_addSorted_62 (by decide) rfl rfl (pX_3 hB _) (by unfold i3; omega) (fun c62 => ?_) (fun c62 => ?_)
            · skip
              refine lv_aload_n hx hb d_R_addSorted_111 rfl (lv_at hl 0 rfl) ?_
              refine gk_get X w ho.1 rst_a rfl in_R 0 (by decide) lk_R_9 rfl d_R_addSorted_112 ?_
              refine lv_iload_n hx hb d_R_addSorted_115 rfl (lv_at hl 3 rfl) ?_
              refine lv_iload_n hx hb d_R_addSorted_116 rfl (lv_at hl 1 rfl) ?_
              refine gk_iast X w 0 ho.2.1 (rst_x ho) rfl (by rw [show k = ((k.toNat : Nat) : Int) by omega]; exact iN_in (by omega) (by decide)) d_R_addSorted_117 (fun H locs w => ?_)
              rw [show (iN k).toNatClampNeg = k.toNat by (conv => lhs; rw [show k = ((k.toNat : Nat) : Int) by omega]); exact iN_cl (by omega)] at w
              have w : gw D (gA L sz) s.heap H locs L (rst cI rx ry f a (upd G1 k.toNat (iN (x))) G2 (P.length : Int)) := by rw [← rst_ux (X := G1) (Y := G2) ho]; exact w
              refine lv_aload_n hx hb d_R_addSorted_118 rfl (lv_at hl 0 rfl) ?_
              refine gk_get X w ho.1 rst_a rfl in_R 1 (by decide) lk_R_15 rfl d_R_addSorted_119 ?_
              refine lv_iload_n hx hb d_R_addSorted_122 rfl (lv_at hl 3 rfl) ?_
              refine lv_iload_n hx hb d_R_addSorted_123 rfl (lv_at hl 2 rfl) ?_
              refine gk_iast X w 0 ho.2.2.1 (rst_y ho) rfl (by rw [show k = ((k.toNat : Nat) : Int) by omega]; exact iN_in (by omega) (by decide)) d_R_addSorted_124 (fun H locs w => ?_)
              rw [show (iN k).toNatClampNeg = k.toNat by (conv => lhs; rw [show k = ((k.toNat : Nat) : Int) by omega]); exact iN_cl (by omega)] at w
              have w : gw D (gA L sz) s.heap H locs L (rst cI rx ry f a (upd G1 k.toNat (iN (x))) (upd G2 k.toNat (iN (y))) (P.length : Int)) := by rw [← rst_uy (Y := G2) ho]; exact w
              refine lv_aload_n hx hb d_R_addSorted_125 rfl (lv_at hl 0 rfl) ?_
              refine lv_dup hx hb d_R_addSorted_126 rfl ?_
              refine gk_get X w ho.1 rst_a rfl in_R 2 (by decide) lk_R_18 rfl d_R_addSorted_127 ?_
              refine lv_iconst (v := iN (1)) hx hb d_R_addSorted_130 (by decide) ?_
              refine ri_add (a := (P.length : Int)) (b := 1) hx hb d_R_addSorted_131 rfl rfl ?_
              refine gk_put X w ho.1 rst_a rfl in_R ty_R tyok_R nm_R 2 (by decide) lk_R_18 rfl (ty := .int) (by decide +kernel) rfl rfl (Nat.le_of_ble_eq_true rfl) d_R_addSorted_132 (fun H locs w => ?_)
              have w : gw D (gA L sz) s.heap H locs L (rst cI rx ry f a (upd G1 k.toNat (iN (x))) (upd G2 k.toNat (iN (y))) ((P.length : Int) + 1)) := by rw [← rst_un (n := (P.length : Int))]; exact w
              have hm : insAt P x y P.length = k.toNat := by
                rw [h6]
                by_cases hk : k = 0
                · subst hk; rfl
                · obtain ⟨t, ht⟩ : ∃ t : Nat, k.toNat = t + 1 := ⟨k.toNat - 1, by omega⟩
                  rw [ht]; exact if_neg (by rw [show ((t : Nat) : Int) = k - 1 by omega]; omega)
              have e8 : ((P.length : Int) + 1) = (((insS P (x, y)).length : Nat) : Int) := by rw [insS_len]; omega
              rw [e8] at w
              exact g_vret X w hrt hlk d_R_addSorted_135 ⟨_, rfl, rowIs_rst ho (by rw [insS_len]; omega) (by unfold insS; rw [hm]; exact ins_row (by omega) (fun j q h => ⟨fun h7 => (hA j q h).1 (by omega), fun h7 => (hA j q h).2 (by omega)⟩)), rst_chg⟩
            · skip
              refine lv_aload_n hx hb d_R_addSorted_65 rfl (lv_at hl 0 rfl) ?_
              refine gk_get X w ho.1 rst_a rfl in_R 1 (by decide) lk_R_15 rfl d_R_addSorted_66 ?_
              refine lv_iload_n hx hb d_R_addSorted_69 rfl (lv_at hl 3 rfl) ?_
              refine lv_iconst (v := iN (1)) hx hb d_R_addSorted_70 (by decide) ?_
              refine ri_sub (a := k) (b := 1) hx hb d_R_addSorted_71 rfl rfl ?_
              refine gk_iald X w 0 ho.2.2.1 (rst_y ho) rfl hin d_R_addSorted_72 ?_
              rw [hcl, hxj.2, ← ey]
              refine lv_iload_n hx hb d_R_addSorted_73 rfl (lv_at hl 2 rfl) ?_
              refine ri_cle (a := (pY P (k - 1))) (b := y) (tgt := 111) hx hb d_R_addSorted_74 (by decide) rfl rfl (pY_3 hB _) (by unfold i3; omega) (fun c74 => ?_) (fun c74 => ?_)
              · skip
                refine lv_aload_n hx hb d_R_addSorted_111 rfl (lv_at hl 0 rfl) ?_
                refine gk_get X w ho.1 rst_a rfl in_R 0 (by decide) lk_R_9 rfl d_R_addSorted_112 ?_
                refine lv_iload_n hx hb d_R_addSorted_115 rfl (lv_at hl 3 rfl) ?_
                refine lv_iload_n hx hb d_R_addSorted_116 rfl (lv_at hl 1 rfl) ?_
                refine gk_iast X w 0 ho.2.1 (rst_x ho) rfl (by rw [show k = ((k.toNat : Nat) : Int) by omega]; exact iN_in (by omega) (by decide)) d_R_addSorted_117 (fun H locs w => ?_)
                rw [show (iN k).toNatClampNeg = k.toNat by (conv => lhs; rw [show k = ((k.toNat : Nat) : Int) by omega]); exact iN_cl (by omega)] at w
                have w : gw D (gA L sz) s.heap H locs L (rst cI rx ry f a (upd G1 k.toNat (iN (x))) G2 (P.length : Int)) := by rw [← rst_ux (X := G1) (Y := G2) ho]; exact w
                refine lv_aload_n hx hb d_R_addSorted_118 rfl (lv_at hl 0 rfl) ?_
                refine gk_get X w ho.1 rst_a rfl in_R 1 (by decide) lk_R_15 rfl d_R_addSorted_119 ?_
                refine lv_iload_n hx hb d_R_addSorted_122 rfl (lv_at hl 3 rfl) ?_
                refine lv_iload_n hx hb d_R_addSorted_123 rfl (lv_at hl 2 rfl) ?_
                refine gk_iast X w 0 ho.2.2.1 (rst_y ho) rfl (by rw [show k = ((k.toNat : Nat) : Int) by omega]; exact iN_in (by omega) (by decide)) d_R_addSorted_124 (fun H locs w => ?_)
                rw [show (iN k).toNatClampNeg = k.toNat by (conv => lhs; rw [show k = ((k.toNat : Nat) : Int) by omega]); exact iN_cl (by omega)] at w
                have w : gw D (gA L sz) s.heap H locs L (rst cI rx ry f a (upd G1 k.toNat (iN (x))) (upd G2 k.toNat (iN (y))) (P.length : Int)) := by rw [← rst_uy (Y := G2) ho]; exact w
                refine lv_aload_n hx hb d_R_addSorted_125 rfl (lv_at hl 0 rfl) ?_
                refine lv_dup hx hb d_R_addSorted_126 rfl ?_
                refine gk_get X w ho.1 rst_a rfl in_R 2 (by decide) lk_R_18 rfl d_R_addSorted_127 ?_
                refine lv_iconst (v := iN (1)) hx hb d_R_addSorted_130 (by decide) ?_
                refine ri_add (a := (P.length : Int)) (b := 1) hx hb d_R_addSorted_131 rfl rfl ?_
                refine gk_put X w ho.1 rst_a rfl in_R ty_R tyok_R nm_R 2 (by decide) lk_R_18 rfl (ty := .int) (by decide +kernel) rfl rfl (Nat.le_of_ble_eq_true rfl) d_R_addSorted_132 (fun H locs w => ?_)
                have w : gw D (gA L sz) s.heap H locs L (rst cI rx ry f a (upd G1 k.toNat (iN (x))) (upd G2 k.toNat (iN (y))) ((P.length : Int) + 1)) := by rw [← rst_un (n := (P.length : Int))]; exact w
                have hm : insAt P x y P.length = k.toNat := by
                  rw [h6]
                  by_cases hk : k = 0
                  · subst hk; rfl
                  · obtain ⟨t, ht⟩ : ∃ t : Nat, k.toNat = t + 1 := ⟨k.toNat - 1, by omega⟩
                    rw [ht]; exact if_neg (by rw [show ((t : Nat) : Int) = k - 1 by omega]; omega)
                have e8 : ((P.length : Int) + 1) = (((insS P (x, y)).length : Nat) : Int) := by rw [insS_len]; omega
                rw [e8] at w
                exact g_vret X w hrt hlk d_R_addSorted_135 ⟨_, rfl, rowIs_rst ho (by rw [insS_len]; omega) (by unfold insS; rw [hm]; exact ins_row (by omega) (fun j q h => ⟨fun h7 => (hA j q h).1 (by omega), fun h7 => (hA j q h).2 (by omega)⟩)), rst_chg⟩
              · skip
                refine lv_aload_n hx hb d_R_addSorted_77 rfl (lv_at hl 0 rfl) ?_
                refine gk_get X w ho.1 rst_a rfl in_R 0 (by decide) lk_R_9 rfl d_R_addSorted_78 ?_
                refine lv_iload_n hx hb d_R_addSorted_81 rfl (lv_at hl 3 rfl) ?_
                refine lv_aload_n hx hb d_R_addSorted_82 rfl (lv_at hl 0 rfl) ?_
                refine gk_get X w ho.1 rst_a rfl in_R 0 (by decide) lk_R_9 rfl d_R_addSorted_83 ?_
                refine lv_iload_n hx hb d_R_addSorted_86 rfl (lv_at hl 3 rfl) ?_
                refine lv_iconst (v := iN (1)) hx hb d_R_addSorted_87 (by decide) ?_
                refine ri_sub (a := k) (b := 1) hx hb d_R_addSorted_88 rfl rfl ?_
                refine gk_iald X w 0 ho.2.1 (rst_x ho) rfl hin d_R_addSorted_89 ?_
                rw [hcl, hxj.1, ← ex]
                refine gk_iast X w 0 ho.2.1 (rst_x ho) rfl hin2 d_R_addSorted_90 (fun H locs w => ?_)
                rw [hcl2] at w
                have w : gw D (gA L sz) s.heap H locs L (rst cI rx ry f a (upd G1 (j + 1) (iN ((pX P (k - 1))))) G2 (P.length : Int)) := by rw [← rst_ux (X := G1) (Y := G2) ho]; exact w
                refine lv_aload_n hx hb d_R_addSorted_91 rfl (lv_at hl 0 rfl) ?_
                refine gk_get X w ho.1 rst_a rfl in_R 1 (by decide) lk_R_15 rfl d_R_addSorted_92 ?_
                refine lv_iload_n hx hb d_R_addSorted_95 rfl (lv_at hl 3 rfl) ?_
                refine lv_aload_n hx hb d_R_addSorted_96 rfl (lv_at hl 0 rfl) ?_
                refine gk_get X w ho.1 rst_a rfl in_R 1 (by decide) lk_R_15 rfl d_R_addSorted_97 ?_
                refine lv_iload_n hx hb d_R_addSorted_100 rfl (lv_at hl 3 rfl) ?_
                refine lv_iconst (v := iN (1)) hx hb d_R_addSorted_101 (by decide) ?_
                refine ri_sub (a := k) (b := 1) hx hb d_R_addSorted_102 rfl rfl ?_
                refine gk_iald X w 0 ho.2.2.1 (rst_y ho) rfl hin d_R_addSorted_103 ?_
                rw [hcl, hxj.2, ← ey]
                refine gk_iast X w 0 ho.2.2.1 (rst_y ho) rfl hin2 d_R_addSorted_104 (fun H locs w => ?_)
                rw [hcl2] at w
                have w : gw D (gA L sz) s.heap H locs L (rst cI rx ry f a (upd G1 (j + 1) (iN ((pX P (k - 1))))) (upd G2 (j + 1) (iN ((pY P (k - 1))))) (P.length : Int)) := by rw [← rst_uy (Y := G2) ho]; exact w
                refine lv_iinc (v := iN ((k - 1))) (lv' := [(3, .int (iN ((k - 1)))), (0, .ref a), (1, .int (iN (x))), (2, .int (iN (y)))]) hx hb d_R_addSorted_105 hl (k := 3) rfl (by rw [show (k - 1) = k + (-1 : Int) by omega, ← iN_add]; rfl) (by decide) rfl (fun ls hl => ?_)
                refine lv_goto (tgt := 37) hx hb d_R_addSorted_108 (by decide) ?_
                have hI' : 0 ≤ (k - 1) ∧ (k - 1) ≤ P.length ∧ insAt P x y P.length = insAt P x y (k - 1).toNat ∧ (∀ (j7 : Nat) (q7 : Pt), P[j7]? = some q7 → ((j7 : Int) < (k - 1) → (upd G1 (j + 1) (iN ((pX P (k - 1))))) j7 = iN q7.1 ∧ (upd G2 (j + 1) (iN ((pY P (k - 1))))) j7 = iN q7.2) ∧ ((k - 1) ≤ j7 → (upd G1 (j + 1) (iN ((pX P (k - 1))))) (j7 + 1) = iN q7.1 ∧ (upd G2 (j + 1) (iN ((pY P (k - 1))))) (j7 + 1) = iN q7.2)) := ⟨by omega, by omega, by rw [h6, show k.toNat = j + 1 by omega, show (k - 1).toNat = j by omega]; exact if_pos (by rw [show ((j : Nat) : Int) = k - 1 by omega]; omega), fun t r hr => ⟨fun h7 => by unfold upd; rw [if_neg (by omega), if_neg (by omega)]; exact (hA t r hr).1 (by omega), fun h7 => by unfold upd; (by_cases e9 : t = j); (subst e9; rw [hq] at hr; cases hr; rw [if_pos rfl, if_pos rfl, ex, ey]; exact ⟨rfl, rfl⟩); rw [if_neg (by omega), if_neg (by omega)]; exact (hA t r hr).2 (by omega)⟩⟩
                exact ih ((k - 1), (upd G1 (j + 1) (iN ((pX P (k - 1))))), (upd G2 (j + 1) (iN ((pY P (k - 1)))))) _ _ _ (by omega) hI' w (lv_sub hl [1, 2, 3, 0] rfl)
      · skip
        omega
def popTo (P : List Pt) (x y kept : Int) : Nat → Nat
  | 0 => 0
  | n + 1 => if kept < (n : Int) + 1 ∧ 1 < (n : Int) + 1 ∧ pT P ((n : Int) - 1) n x y ≤ 0 then popTo P x y kept n else n + 1
def addC (kept : Int) (P : List Pt) (q : Pt) : List Pt := P.take (popTo P q.1 q.2 kept P.length) ++ [q]
theorem popTo_le (P : List Pt) (x y kept : Int) (n : Nat) : popTo P x y kept n ≤ n := by
  induction n with
  | zero => exact Nat.le_refl _
  | succ n ih => unfold popTo; split <;> omega
theorem addC_len (kept : Int) (P : List Pt) (q : Pt) : (addC kept P q).length ≤ P.length + 1 := by
  have := popTo_le P q.1 q.2 kept P.length
  simp [addC]; omega
theorem pX_take {P : List Pt} {n : Nat} {i : Int} (h : i < n) : pX (P.take n) i = pX P i := by
  unfold pX; split
  · rfl
  · rw [List.getElem?_take, if_pos (by omega)]
theorem pY_take {P : List Pt} {n : Nat} {i : Int} (h : i < n) : pY (P.take n) i = pY P i := by
  unfold pY; split
  · rfl
  · rw [List.getElem?_take, if_pos (by omega)]
theorem pT_take {P : List Pt} {n : Nat} {i j x y : Int} (h : i < n) (h2 : j < n) : pT (P.take n) i j x y = pT P i j x y := by
  unfold pT; rw [pX_take h, pX_take h2, pY_take h, pY_take h2]

set_option maxHeartbeats 4000000 in
set_option maxRecDepth 100000 in
theorem c_R_addCorner (l : Launch) {D : va_G} {cI cR : ClassId} {L : List Nat} {f : Nat → va_E} {rx ry : Nat → Nat} {a : Nat} {P : List Pt} (ho : ro L rx ry a) (hr : rowIs cI rx ry f a P) (hlt : P.length < 48) {x y kept : Int} (hk3 : i3 kept) (hB : pb 600 P) (hx0 : -1000 ≤ x ∧ x ≤ 1000) (hy0 : -1000 ≤ y ∧ y ≤ 1000) : gMv D cI cR l y_R_addCorner (Cond.code y_R_addCorner b_R_addCorner 4 none :: lw_g) { frames := 2, cells := 0, slots := 0, locals := 45 } [.ref a, .int (iN (x)), .int (iN (y)), .int (iN (kept))] L f (fun u => ∃ g, u = (L, g) ∧ rowIs cI rx ry g a (addC kept P (x, y)) ∧ chg rx ry a f g) := by
  intro sz
  refine g_enter (by decide) rfl (Nat.le_of_ble_eq_true rfl) ?_
  intro p e s m below meth cd ls X hrt hlk hnm hl hsz w
  have X : gx p m cd b_R_addCorner 4 s _ "HullSums$Row" D cI cR := X
  have hx := X.1.1
  have hb := X.1.2.1
  have hl : lv_has ls 4 [(0, .ref a), (1, .int (iN (x))), (2, .int (iN (y))), (3, .int (iN (kept)))] := hl
  have hr0 := hr
  obtain ⟨hn48, h1, F1, F2, h2, h3, h4⟩ := hr
  have w : gw D (gA L sz) s.heap s.heap [] L (rst cI rx ry f a F1 F2 P.length) := by rw [rst_0 h1 h2 h3]; exact w
  refine g_loop (σ := Int) (fun z9 => z9.toNat) (fun z9 => [(0, .ref a), (1, .int (iN (x))), (2, .int (iN (y))), (3, .int (iN (kept)))]) L (fun z9 => rst cI rx ry f a F1 F2 z9) (fun z9 => 0 ≤ z9 ∧ z9 ≤ P.length ∧ popTo P x y kept P.length = popTo P x y kept z9.toNat) ?_ (P.length : Int) _ _ _ ⟨by omega, by omega, by rw [Int.toNat_natCast]⟩ w (lv_sub hl [0, 1, 2, 3] rfl)
  intro n H locs ls hI w hl ih
  have hl : lv_has ls 4 [(0, .ref a), (1, .int (iN (x))), (2, .int (iN (y))), (3, .int (iN (kept)))] := hl
  have w : gw D (gA L sz) s.heap H locs L (rst cI rx ry f a F1 F2 n) := w
  have hI : 0 ≤ n ∧ n ≤ P.length ∧ popTo P x y kept P.length = popTo P x y kept n.toNat := hI
  obtain ⟨h0, h5, h6⟩ := hI
  have hln : (P.take n.toNat).length = n.toNat := by simp; omega
  have hrn : rowIs cI rx ry (rst cI rx ry f a F1 F2 n) a (P.take n.toNat) := by
    have := rowIs_rst (cI := cI) (f := f) (X := F1) (Y := F2) (P := P.take n.toNat) ho (by omega) (fun i q h => h4 i q (by rw [List.getElem?_take] at h; split at h; exact h; exact absurd h (by simp)))
    rwa [hln, show ((n.toNat : Nat) : Int) = n by omega] at this
  have hpt : n > 1 → pT (P.take n.toNat) (n - 2) (n - 1) x y = pT P (n - 2) (n - 1) x y := fun h => pT_take (by omega) (by omega)
  refine lv_aload_n hx hb d_R_addCorner_0 rfl (lv_at hl 0 rfl) ?_
  refine gk_get X w ho.1 rst_a rfl in_R 2 (by decide) lk_R_18 rfl d_R_addCorner_1 ?_
  refine lv_iload_n hx hb d_R_addCorner_4 rfl (lv_at hl 3 rfl) ?_
  refine ri_cle (a := n) (b := kept) (tgt := 50) hx hb d_R_addCorner_5 (by decide) rfl rfl (by unfold i3; omega) hk3 (fun c5 => ?_) (fun c5 => ?_)
  · skip
    refine lv_aload_n hx hb d_R_addCorner_50 rfl (lv_at hl 0 rfl) ?_
    refine lv_iload_n hx hb d_R_addCorner_51 rfl (lv_at hl 1 rfl) ?_
    refine lv_iload_n hx hb d_R_addCorner_52 rfl (lv_at hl 2 rfl) ?_
    refine g_cv w (g_runV (As := [.int (iN (x)), .int (iN (y))]) (rest := []) X w (c_R_add l ho hrn (by omega) (x := x) (y := y)) k_R_add v_R_add lk_R_54 ho.1 rst_a rfl ⟨(Nat.le_of_ble_eq_true rfl), (Nat.le_of_ble_eq_true rfl)⟩ rfl hl.1 rfl (Nat.le_of_ble_eq_true rfl) d_R_addCorner_53 ⟨(Nat.le_of_ble_eq_true rfl), (Nat.le_of_ble_eq_true rfl)⟩) (fun u H locs hp w => ?_)
    obtain ⟨g, rfl, hr2, hc2⟩ := hp
    have w : gw D (gA L sz) s.heap H locs L g := w
    have hm : popTo P x y kept P.length = n.toNat := by
      rw [h6]
      by_cases hk : n = 0
      · subst hk; rfl
      · obtain ⟨t, ht⟩ : ∃ t : Nat, n = (t : Int) + 1 := ⟨(n - 1).toNat, by omega⟩
        subst ht; rw [show ((t : Int) + 1).toNat = t + 1 by omega]
        refine if_neg (fun h => ?_)
        first | omega | (rw [hpt, show (t : Int) + 1 - 2 = (t : Int) - 1 by omega, show (t : Int) + 1 - 1 = t by omega] at c34; omega)
    exact g_vret X w hrt hlk d_R_addCorner_56 ⟨g, rfl, by unfold addC; rw [hm]; exact hr2, chg_trans rst_chg hc2⟩
  · skip
    refine lv_aload_n hx hb d_R_addCorner_8 rfl (lv_at hl 0 rfl) ?_
    refine gk_get X w ho.1 rst_a rfl in_R 2 (by decide) lk_R_18 rfl d_R_addCorner_9 ?_
    refine lv_iconst (v := iN (1)) hx hb d_R_addCorner_12 (by decide) ?_
    refine ri_cle (a := n) (b := 1) (tgt := 50) hx hb d_R_addCorner_13 (by decide) rfl rfl (by unfold i3; omega) (by unfold i3; omega) (fun c13 => ?_) (fun c13 => ?_)
    · skip
      refine lv_aload_n hx hb d_R_addCorner_50 rfl (lv_at hl 0 rfl) ?_
      refine lv_iload_n hx hb d_R_addCorner_51 rfl (lv_at hl 1 rfl) ?_
      refine lv_iload_n hx hb d_R_addCorner_52 rfl (lv_at hl 2 rfl) ?_
      refine g_cv w (g_runV (As := [.int (iN (x)), .int (iN (y))]) (rest := []) X w (c_R_add l ho hrn (by omega) (x := x) (y := y)) k_R_add v_R_add lk_R_54 ho.1 rst_a rfl ⟨(Nat.le_of_ble_eq_true rfl), (Nat.le_of_ble_eq_true rfl)⟩ rfl hl.1 rfl (Nat.le_of_ble_eq_true rfl) d_R_addCorner_53 ⟨(Nat.le_of_ble_eq_true rfl), (Nat.le_of_ble_eq_true rfl)⟩) (fun u H locs hp w => ?_)
      obtain ⟨g, rfl, hr2, hc2⟩ := hp
      have w : gw D (gA L sz) s.heap H locs L g := w
      have hm : popTo P x y kept P.length = n.toNat := by
        rw [h6]
        by_cases hk : n = 0
        · subst hk; rfl
        · obtain ⟨t, ht⟩ : ∃ t : Nat, n = (t : Int) + 1 := ⟨(n - 1).toNat, by omega⟩
          subst ht; rw [show ((t : Int) + 1).toNat = t + 1 by omega]
          refine if_neg (fun h => ?_)
          first | omega | (rw [hpt, show (t : Int) + 1 - 2 = (t : Int) - 1 by omega, show (t : Int) + 1 - 1 = t by omega] at c34; omega)
      exact g_vret X w hrt hlk d_R_addCorner_56 ⟨g, rfl, by unfold addC; rw [hm]; exact hr2, chg_trans rst_chg hc2⟩
    · skip
      have hpt := hpt (by omega)
      refine lv_aload_n hx hb d_R_addCorner_16 rfl (lv_at hl 0 rfl) ?_
      refine lv_aload_n hx hb d_R_addCorner_17 rfl (lv_at hl 0 rfl) ?_
      refine gk_get X w ho.1 rst_a rfl in_R 2 (by decide) lk_R_18 rfl d_R_addCorner_18 ?_
      refine lv_iconst (v := iN (2)) hx hb d_R_addCorner_21 (by decide) ?_
      refine ri_sub (a := n) (b := 2) hx hb d_R_addCorner_22 rfl rfl ?_
      refine lv_aload_n hx hb d_R_addCorner_23 rfl (lv_at hl 0 rfl) ?_
      refine gk_get X w ho.1 rst_a rfl in_R 2 (by decide) lk_R_18 rfl d_R_addCorner_24 ?_
      refine lv_iconst (v := iN (1)) hx hb d_R_addCorner_27 (by decide) ?_
      refine ri_sub (a := n) (b := 1) hx hb d_R_addCorner_28 rfl rfl ?_
      refine lv_iload_n hx hb d_R_addCorner_29 rfl (lv_at hl 1 rfl) ?_
      refine lv_iload_n hx hb d_R_addCorner_30 rfl (lv_at hl 2 rfl) ?_
      refine g_ci w (g_runV (As := [.int (iN ((n - 2))), .int (iN ((n - 1))), .int (iN (x)), .int (iN (y))]) (rest := []) X w (c_R_turn l ho hrn (x := x) (y := y) (by omega) (by omega)) k_R_turn v_R_turn lk_R_50 ho.1 rst_a rfl ⟨(Nat.le_of_ble_eq_true rfl), (Nat.le_of_ble_eq_true rfl)⟩ rfl hl.1 rfl (Nat.le_of_ble_eq_true rfl) d_R_addCorner_31 ⟨Nat.zero_le _, Nat.zero_le _⟩) (fun r u H locs hp w => ?_)
      obtain ⟨rfl, rfl⟩ := hp
      have w : gw D (gA L sz) s.heap H locs L (rst cI rx ry f a F1 F2 n) := w
      refine ri_zgt (a := (pT (P.take n.toNat) (n - 2) (n - 1) x y)) (tgt := 50) hx hb d_R_addCorner_34 (by decide) rfl (by rw [hpt]; exact pT_3 hB _ _ hx0 hy0) (fun c34 => ?_) (fun c34 => ?_)
      · skip
        refine lv_aload_n hx hb d_R_addCorner_50 rfl (lv_at hl 0 rfl) ?_
        refine lv_iload_n hx hb d_R_addCorner_51 rfl (lv_at hl 1 rfl) ?_
        refine lv_iload_n hx hb d_R_addCorner_52 rfl (lv_at hl 2 rfl) ?_
        refine g_cv w (g_runV (As := [.int (iN (x)), .int (iN (y))]) (rest := []) X w (c_R_add l ho hrn (by omega) (x := x) (y := y)) k_R_add v_R_add lk_R_54 ho.1 rst_a rfl ⟨(Nat.le_of_ble_eq_true rfl), (Nat.le_of_ble_eq_true rfl)⟩ rfl hl.1 rfl (Nat.le_of_ble_eq_true rfl) d_R_addCorner_53 ⟨(Nat.le_of_ble_eq_true rfl), (Nat.le_of_ble_eq_true rfl)⟩) (fun u H locs hp w => ?_)
        obtain ⟨g, rfl, hr2, hc2⟩ := hp
        have w : gw D (gA L sz) s.heap H locs L g := w
        have hm : popTo P x y kept P.length = n.toNat := by
          rw [h6]
          by_cases hk : n = 0
          · subst hk; rfl
          · obtain ⟨t, ht⟩ : ∃ t : Nat, n = (t : Int) + 1 := ⟨(n - 1).toNat, by omega⟩
            subst ht; rw [show ((t : Int) + 1).toNat = t + 1 by omega]
            refine if_neg (fun h => ?_)
            first | omega | (rw [hpt, show (t : Int) + 1 - 2 = (t : Int) - 1 by omega, show (t : Int) + 1 - 1 = t by omega] at c34; omega)
        exact g_vret X w hrt hlk d_R_addCorner_56 ⟨g, rfl, by unfold addC; rw [hm]; exact hr2, chg_trans rst_chg hc2⟩
      · skip
        refine lv_aload_n hx hb d_R_addCorner_37 rfl (lv_at hl 0 rfl) ?_
        refine lv_dup hx hb d_R_addCorner_38 rfl ?_
        refine gk_get X w ho.1 rst_a rfl in_R 2 (by decide) lk_R_18 rfl d_R_addCorner_39 ?_
        refine lv_iconst (v := iN (1)) hx hb d_R_addCorner_42 (by decide) ?_
        refine ri_sub (a := n) (b := 1) hx hb d_R_addCorner_43 rfl rfl ?_
        refine gk_put X w ho.1 rst_a rfl in_R ty_R tyok_R nm_R 2 (by decide) lk_R_18 rfl (ty := .int) (by decide +kernel) rfl rfl (Nat.le_of_ble_eq_true rfl) d_R_addCorner_44 (fun H locs w => ?_)
        have w : gw D (gA L sz) s.heap H locs L (rst cI rx ry f a F1 F2 (n - 1)) := by rw [← rst_un (n := n)]; exact w
        refine lv_goto (tgt := 0) hx hb d_R_addCorner_47 (by decide) ?_
        exact ih (n - 1) _ _ _ (by omega) ⟨by omega, by omega, by rw [h6]; obtain ⟨t, ht⟩ : ∃ t : Nat, n = (t : Int) + 1 := ⟨(n - 1).toNat, by omega⟩; subst ht; rw [show ((t : Int) + 1).toNat = t + 1 by omega, show ((t : Int) + 1 - 1).toNat = t by omega]; exact if_pos ⟨by omega, by omega, by rw [hpt, show (t : Int) + 1 - 2 = (t : Int) - 1 by omega, show (t : Int) + 1 - 1 = t by omega] at c34; omega⟩⟩ w (lv_sub hl [0, 1, 2, 3] rfl)
