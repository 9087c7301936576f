/-! HULLSUMS: loops over a set's points -/
noncomputable def cntB (P H : List Pt) : Nat → Int
  | 0 => 0
  | n + 1 => cntB P H n + bI (plc H (pX P n) (pY P n) = 1)
def wiA (P H : List Pt) (n : Int) : Prop := ∃ i : Int, 0 ≤ i ∧ i < n ∧ plc H (pX P i) (pY P i) = 0
theorem plc_b (P : List Pt) (x y : Int) : 0 ≤ plc P x y ∧ plc P x y ≤ 2 := by
  unfold plc
  split
  · have := bI_01 (thin P x y); omega
  · rcases bI_01 (out_ P P.length x y) with h | h <;> rcases bI_01 (bor_ P P.length x y) with q | q <;> rw [h, q] <;> omega
def wdJ (P : List Pt) (i : Int) : Nat → Int → Int
  | 0, m => m
  | j + 1, m => max (wdJ P i j m) (sq P i j)
def wdL (P : List Pt) : Nat → Int
  | 0 => 0
  | n + 1 => wdJ P n n (wdL P n)
theorem wdJ_b {P : List Pt} (h : pb 600 P) (i : Int) (n : Nat) {m : Int} (hm : 0 ≤ m ∧ m ≤ 2880000) : 0 ≤ wdJ P i n m ∧ wdJ P i n m ≤ 2880000 := by
  induction n with
  | zero => exact hm
  | succ n ih => have := sq_b h i n; unfold wdJ; omega
theorem wdL_b {P : List Pt} (h : pb 600 P) (n : Nat) : 0 ≤ wdL P n ∧ wdL P n ≤ 2880000 := by
  induction n with
  | zero => unfold wdL; omega
  | succ n ih => exact wdJ_b h n n ih
def neJ (P : List Pt) (i : Int) : Nat → Int → Int
  | 0, m => m
  | j + 1, m => min (neJ P i j m) (sq P i j)
def neL (P : List Pt) : Nat → Int
  | 0 => sq P 0 1
  | n + 1 => neJ P ((n : Int) + 2) (n + 2) (neL P n)
theorem neJ_b {P : List Pt} (h : pb 600 P) (i : Int) (n : Nat) {m : Int} (hm : 0 ≤ m ∧ m ≤ 2880000) : 0 ≤ neJ P i n m ∧ neJ P i n m ≤ 2880000 := by
  induction n with
  | zero => exact hm
  | succ n ih => have := sq_b h i n; unfold neJ; omega
theorem neL_b {P : List Pt} (h : pb 600 P) (n : Nat) : 0 ≤ neL P n ∧ neL P n ≤ 2880000 := by
  induction n with
  | zero => exact sq_b h 0 1
  | succ n ih => exact neJ_b h _ _ ih
def tlS (S : Nat → List Pt) : Nat → Int
  | 0 => 0
  | n + 1 => tlS S n + (S n).length
def supL (H : List Pt) (dx dy : Int) : Nat → Int × Int
  | 0 => (0, 0)
  | n + 1 => if (supL H dx dy n).2 = 0 ∨ (supL H dx dy n).1 < dx * pX H n + dy * pY H n then (dx * pX H n + dy * pY H n, 1) else if dx * pX H n + dy * pY H n = (supL H dx dy n).1 then ((supL H dx dy n).1, (supL H dx dy n).2 + 1) else supL H dx dy n
theorem dot_b {H : List Pt} (h : pb 300 H) {dx dy : Int} (hx : -100 ≤ dx ∧ dx ≤ 100) (hy : -100 ≤ dy ∧ dy ≤ 100) (i : Int) : -60000 ≤ dx * pX H i + dy * pY H i ∧ dx * pX H i + dy * pY H i ≤ 60000 := by
  have a := h i
  have q1 := mbc (a := dx) (b := pX H i) 100 300 30000 (by omega) (by omega) (by omega) (by omega) (by decide)
  have q2 := mbc (a := dy) (b := pY H i) 100 300 30000 (by omega) (by omega) (by omega) (by omega) (by decide)
  omega
theorem supL_b {H : List Pt} (h : pb 300 H) {dx dy : Int} (hx : -100 ≤ dx ∧ dx ≤ 100) (hy : -100 ≤ dy ∧ dy ≤ 100) (n : Nat) : -60000 ≤ (supL H dx dy n).1 ∧ (supL H dx dy n).1 ≤ 60000 ∧ 0 ≤ (supL H dx dy n).2 ∧ (supL H dx dy n).2 ≤ n := by
  induction n with
  | zero => unfold supL; dsimp only; omega
  | succ n ih =>
    have := dot_b h hx hy n
    unfold supL
    split
    · dsimp only; omega
    · split
      · dsimp only; omega
      · omega

set_option maxHeartbeats 4000000 in
set_option maxRecDepth 100000 in
theorem c_H_beside (l : Launch) {D : va_G} {cI cR : ClassId} {L : List Nat} {f : Nat → va_E} {rx ry ra : Nat → Nat} {h ar ci lo : Nat} {K t1 t2 : Int} {S : Nat → List Pt} (G : geo L rx ry ra h ar ci lo) (hc : clsIs cI cR rx ry ra h ar ci lo f K t1 t2 S) (hok : okS K S) {z : Int} (hz : i3 z) : gMi D cI cR l y_H_beside (Cond.code y_H_beside b_H_beside 6 (some .int) :: lw_g) { frames := 5, cells := 0, slots := 0, locals := 114 } [.ref h, .int (iN (z))] L f (fun r u => r = iN (if 0 ≤ z ∧ z < K then cntB (S z.toNat) (hullF (S z.toNat)) (S z.toNat).length - (hullF (S z.toNat)).length else -1) ∧ hpost L cI cR rx ry ra h ar ci lo f K t1 t2 S u) := by
  intro sz
  refine g_enter (by decide) rfl (Nat.le_of_ble_eq_true rfl) ?_
  intro p e s m below meth cd ls X hrt hlk hnm hl hsz w
  have X : gx p m cd b_H_beside 6 s _ "HullSums" D cI cR := X
  have hx := X.1.1
  have hb := X.1.2.1
  have hl : lv_has ls 6 [(0, .ref h), (1, .int (iN (z)))] := hl
  have hK := hc.2.2.2.2.2
  refine lv_aload_n hx hb d_H_beside_0 rfl (lv_at hl 0 rfl) ?_
  refine lv_iload_n hx hb d_H_beside_1 rfl (lv_at hl 1 rfl) ?_
  refine g_cq w (g_runV (As := [.int (iN (z))]) (rest := []) X w (c_H_rowOf l G hc (z := z) hz) k_H_rowOf v_H_rowOf lk_H_58 G.1.1 hc.1 rfl ⟨(Nat.le_of_ble_eq_true rfl), (Nat.le_of_ble_eq_true rfl)⟩ rfl hl.1 rfl (Nat.le_of_ble_eq_true rfl) d_H_beside_2 ⟨(Nat.le_of_ble_eq_true rfl), (Nat.le_of_ble_eq_true rfl)⟩) (fun r u H locs hp w => ?_)
  obtain ⟨hr9, rfl⟩ := hp
  have w : gw D (gA L sz) s.heap H locs L f := w
  by_cases hz1 : 0 ≤ z ∧ z < K
  · skip
    rw [if_pos hz1] at hr9
    subst hr9
    have hz18 : z.toNat < 8 := by have := hc.2.2.2.2.2; omega
    have hBhz1 : pb 600 (S z.toNat) := pb_of (by decide) (pbl_le (by decide) (hok _ (by omega)).2)
    have hlhz1 := (hok z.toNat (by omega)).1
    refine lv_astore_n (lv' := [(2, .ref (ra z.toNat)), (0, .ref h), (1, .int (iN (z)))]) hx hb d_H_beside_5 rfl hl (by decide) rfl (fun ls hl => ?_)
    refine lv_aload_n hx hb d_H_beside_6 rfl (lv_at hl 0 rfl) ?_
    refine lv_ifnonnull (tgt := 12) hx hb d_H_beside_7 (by decide) ?_
    refine lv_aload_n hx hb d_H_beside_12 rfl (lv_at hl 1 rfl) ?_
    refine lv_aload_n hx hb d_H_beside_13 rfl (lv_at hl 0 rfl) ?_
    refine g_cq w (g_runV (As := [.ref (ra z.toNat)]) (rest := []) X w (c_H_hullOf l G hc (i := z.toNat) (by omega) (pbl_le (by decide) (hok _ (by omega)).2) (hok _ (by omega)).1) k_H_hullOf v_H_hullOf lk_H_80 G.1.1 hc.1 rfl ⟨(Nat.le_of_ble_eq_true rfl), (Nat.le_of_ble_eq_true rfl)⟩ rfl hl.1 rfl (Nat.le_of_ble_eq_true rfl) d_H_beside_14 ⟨(Nat.le_of_ble_eq_true rfl), (Nat.le_of_ble_eq_true rfl)⟩) (fun r u H locs hp w => ?_)
    obtain ⟨rfl, g, rfl, hcg, hug⟩ := hp
    have w : gw D (gA L sz) s.heap H locs L g := w
    have hrL : rowIs cI rx ry g (ra 9) (hullF (S z.toNat)) := by have h9 := hcg.2.2.1 9 (by decide); rw [su_s] at h9; exact h9
    have hSk : ∀ j, j < 8 → supd (supd S 8 (sortF (S z.toNat))) 9 (hullF (S z.toNat)) j = S j := fun j hj => by rw [su_n (by omega), su_n (by omega)]
    have hBL3 : pb 300 (hullF (S z.toNat)) := pb_of (by decide) (pbl_hull (hok _ (by omega)).2)
    have hBL : pb 600 (hullF (S z.toNat)) := pb_of (by decide) (pbl_le (by decide) (pbl_hull (hok _ (by omega)).2))
    have hn48 := hrL.1
    have hqhz1 : rowIs cI rx ry g (ra z.toNat) (S z.toNat) := by have h9 := hcg.2.2.1 z.toNat (by omega); rw [hSk _ (by omega)] at h9; exact h9
    refine lv_astore_n (lv' := [(3, .ref (ra 9)), (2, .ref (ra z.toNat)), (0, .ref h), (1, .int (iN (z)))]) hx hb d_H_beside_17 rfl hl (by decide) rfl (fun ls hl => ?_)
    refine lv_iconst (v := iN (0)) hx hb d_H_beside_18 (by decide) ?_
    refine lv_istore (lv' := [(4, .int (iN (0))), (3, .ref (ra 9)), (2, .ref (ra z.toNat)), (0, .ref h), (1, .int (iN (z)))]) hx hb d_H_beside_19 hl (by decide) rfl (fun ls hl => ?_)
    refine lv_iconst (v := iN (0)) hx hb d_H_beside_21 (by decide) ?_
    refine lv_istore (lv' := [(5, .int (iN (0))), (4, .int (iN (0))), (3, .ref (ra 9)), (2, .ref (ra z.toNat)), (0, .ref h), (1, .int (iN (z)))]) hx hb d_H_beside_22 hl (by decide) rfl (fun ls hl => ?_)
    refine g_loop (σ := Int × Int) (fun z9 => ((S z.toNat).length - z9.1).toNat) (fun z9 => [(0, .ref h), (1, .int (iN (z))), (2, .ref (ra z.toNat)), (3, .ref (ra 9)), (4, .int (iN (z9.2))), (5, .int (iN (z9.1)))]) L (fun z9 => g) (fun z9 => 0 ≤ z9.1 ∧ z9.1 ≤ (S z.toNat).length ∧ z9.2 = cntB (S z.toNat) (hullF (S z.toNat)) z9.1.toNat) ?_ (0, 0) _ _ _ ⟨by omega, by omega, rfl⟩ w (lv_sub hl [4, 5, 3, 2, 1, 0] rfl)
    intro z9 H locs ls hI w hl ih
    obtain ⟨i, k⟩ := z9
    have hl : lv_has ls 6 [(0, .ref h), (1, .int (iN (z))), (2, .ref (ra z.toNat)), (3, .ref (ra 9)), (4, .int (iN (k))), (5, .int (iN (i)))] := hl
    have w : gw D (gA L sz) s.heap H locs L (g) := w
    have hI : 0 ≤ i ∧ i ≤ (S z.toNat).length ∧ k = cntB (S z.toNat) (hullF (S z.toNat)) i.toNat := hI
    obtain ⟨h0, h1, h2⟩ := hI
    refine lv_iload hx hb d_H_beside_24 (lv_at hl 5 rfl) ?_
    refine lv_aload_n hx hb d_H_beside_26 rfl (lv_at hl 2 rfl) ?_
    refine g_ci w (g_runV (As := []) (rest := [.int (iN (i))]) X w (c_R_size l (G.2.2.1 z.toNat (by omega)) hqhz1) k_R_size v_R_size lk_H_72 (G.2.2.1 z.toNat (by omega)).1 hqhz1.2.1 rfl ⟨(Nat.le_of_ble_eq_true rfl), (Nat.le_of_ble_eq_true rfl)⟩ rfl hl.1 rfl (Nat.le_of_ble_eq_true rfl) d_H_beside_27 ⟨Nat.zero_le _, Nat.zero_le _⟩) (fun r u H locs hp w => ?_)
    obtain ⟨rfl, rfl⟩ := hp
    have w : gw D (gA L sz) s.heap H locs L g := w
    refine ri_cge (a := i) (b := ((S z.toNat).length : Int)) (tgt := 62) hx hb d_H_beside_30 (by decide) rfl rfl (by unfold i3; omega) (by unfold i3; omega) (fun c30 => ?_) (fun c30 => ?_)
    · skip
      refine lv_iload hx hb d_H_beside_62 (lv_at hl 4 rfl) ?_
      refine lv_aload_n hx hb d_H_beside_64 rfl (lv_at hl 3 rfl) ?_
      refine g_ci w (g_runV (As := []) (rest := [.int (iN (k))]) X w (c_R_size l (G.2.2.1 9 (by decide)) hrL) k_R_size v_R_size lk_H_72 (G.2.2.1 9 (by decide)).1 hrL.2.1 rfl ⟨(Nat.le_of_ble_eq_true rfl), (Nat.le_of_ble_eq_true rfl)⟩ rfl hl.1 rfl (Nat.le_of_ble_eq_true rfl) d_H_beside_65 ⟨Nat.zero_le _, Nat.zero_le _⟩) (fun r u H locs hp w => ?_)
      obtain ⟨rfl, rfl⟩ := hp
      have w : gw D (gA L sz) s.heap H locs L g := w
      refine ri_sub (a := k) (b := ((hullF (S z.toNat)).length : Int)) hx hb d_H_beside_68 rfl rfl ?_
      exact g_iret X w hrt hlk d_H_beside_69 ⟨by rw [if_pos hz1, h2, show i.toNat = (S z.toNat).length by omega], ⟨g, _, rfl, hcg, hSk, hug⟩⟩
    · skip
      refine lv_aload_n hx hb d_H_beside_33 rfl (lv_at hl 3 rfl) ?_
      refine lv_aload_n hx hb d_H_beside_34 rfl (lv_at hl 2 rfl) ?_
      refine lv_iload hx hb d_H_beside_35 (lv_at hl 5 rfl) ?_
      refine g_ci w (g_runV (As := [.int (iN (i))]) (rest := [.ref (ra 9)]) X w (c_R_x l (G.2.2.1 z.toNat (by omega)) hqhz1 (by unfold i3; omega)) k_R_x v_R_x lk_H_90 (G.2.2.1 z.toNat (by omega)).1 hqhz1.2.1 rfl ⟨(Nat.le_of_ble_eq_true rfl), (Nat.le_of_ble_eq_true rfl)⟩ rfl hl.1 rfl (Nat.le_of_ble_eq_true rfl) d_H_beside_37 ⟨Nat.zero_le _, Nat.zero_le _⟩) (fun r u H locs hp w => ?_)
      obtain ⟨rfl, rfl⟩ := hp
      have w : gw D (gA L sz) s.heap H locs L g := w
      refine lv_aload_n hx hb d_H_beside_40 rfl (lv_at hl 2 rfl) ?_
      refine lv_iload hx hb d_H_beside_41 (lv_at hl 5 rfl) ?_
      refine g_ci w (g_runV (As := [.int (iN (i))]) (rest := [.int (iN ((pX (S z.toNat) i))), .ref (ra 9)]) X w (c_R_y l (G.2.2.1 z.toNat (by omega)) hqhz1 (by unfold i3; omega)) k_R_y v_R_y lk_H_94 (G.2.2.1 z.toNat (by omega)).1 hqhz1.2.1 rfl ⟨(Nat.le_of_ble_eq_true rfl), (Nat.le_of_ble_eq_true rfl)⟩ rfl hl.1 rfl (Nat.le_of_ble_eq_true rfl) d_H_beside_43 ⟨Nat.zero_le _, Nat.zero_le _⟩) (fun r u H locs hp w => ?_)
      obtain ⟨rfl, rfl⟩ := hp
      have w : gw D (gA L sz) s.heap H locs L g := w
      refine g_ci w (g_runV (As := [.int (iN ((pX (S z.toNat) i))), .int (iN ((pY (S z.toNat) i)))]) (rest := []) X w (c_R_place l (G.2.2.1 9 (by decide)) hrL hBL (by have := hBhz1 i; omega) (by have := hBhz1 i; omega)) k_R_place v_R_place lk_H_97 (G.2.2.1 9 (by decide)).1 hrL.2.1 rfl ⟨(Nat.le_of_ble_eq_true rfl), (Nat.le_of_ble_eq_true rfl)⟩ rfl hl.1 rfl (Nat.le_of_ble_eq_true rfl) d_H_beside_46 ⟨Nat.zero_le _, Nat.zero_le _⟩) (fun r u H locs hp w => ?_)
      obtain ⟨rfl, rfl⟩ := hp
      have w : gw D (gA L sz) s.heap H locs L g := w
      refine lv_iconst (v := iN (1)) hx hb d_H_beside_49 (by decide) ?_
      refine ri_cne (a := (plc (hullF (S z.toNat)) (pX (S z.toNat) i) (pY (S z.toNat) i))) (b := 1) (tgt := 56) hx hb d_H_beside_50 (by decide) rfl rfl (by have := plc_b (hullF (S z.toNat)) (pX (S z.toNat) i) (pY (S z.toNat) i); unfold i3; omega) (by unfold i3; omega) (fun c50 => ?_) (fun c50 => ?_)
      · skip
        refine lv_iinc (v := iN ((i + 1))) (lv' := [(5, .int (iN ((i + 1)))), (0, .ref h), (1, .int (iN (z))), (2, .ref (ra z.toNat)), (3, .ref (ra 9)), (4, .int (iN (k)))]) hx hb d_H_beside_56 hl (k := 5) rfl (by rw [show (i + 1) = i + (1 : Int) by omega, ← iN_add]; rfl) (by decide) rfl (fun ls hl => ?_)
        refine lv_goto (tgt := 24) hx hb d_H_beside_59 (by decide) ?_
        exact ih ((i + 1), k) _ _ _ (by omega) ⟨by omega, by omega, by rw [tn_s h0]; unfold cntB; rw [← h2, tn_c h0, bI_f (by omega), Int.add_zero]⟩ w (lv_sub hl [1, 2, 3, 4, 5, 0] rfl)
      · skip
        refine lv_iinc (v := iN ((k + 1))) (lv' := [(4, .int (iN ((k + 1)))), (0, .ref h), (1, .int (iN (z))), (2, .ref (ra z.toNat)), (3, .ref (ra 9)), (5, .int (iN (i)))]) hx hb d_H_beside_53 hl (k := 4) rfl (by rw [show (k + 1) = k + (1 : Int) by omega, ← iN_add]; rfl) (by decide) rfl (fun ls hl => ?_)
        refine lv_iinc (v := iN ((i + 1))) (lv' := [(5, .int (iN ((i + 1)))), (4, .int (iN ((k + 1)))), (0, .ref h), (1, .int (iN (z))), (2, .ref (ra z.toNat)), (3, .ref (ra 9))]) hx hb d_H_beside_56 hl (k := 5) rfl (by rw [show (i + 1) = i + (1 : Int) by omega, ← iN_add]; rfl) (by decide) rfl (fun ls hl => ?_)
        refine lv_goto (tgt := 24) hx hb d_H_beside_59 (by decide) ?_
        exact ih ((i + 1), (k + 1)) _ _ _ (by omega) ⟨by omega, by omega, by rw [tn_s h0]; unfold cntB; rw [← h2, tn_c h0, bI_t (by omega)]⟩ w (lv_sub hl [2, 3, 4, 5, 1, 0] rfl)
  · skip
    rw [if_neg hz1] at hr9
    subst hr9
    refine lv_astore_nN (lv' := [(2, .null), (0, .ref h), (1, .int (iN (z)))]) hx hb d_H_beside_5 rfl hl (by decide) rfl (fun ls hl => ?_)
    refine lv_aload_nN hx hb d_H_beside_6 rfl (lv_at hl 0 rfl) ?_
    refine lv_ifnonnullN hx hb d_H_beside_7 ?_
    refine lv_iconst (v := iN (-1)) hx hb d_H_beside_10 (by decide) ?_
    exact g_iret X w hrt hlk d_H_beside_11 ⟨by rw [if_neg hz1], ⟨f, S, rfl, hc, fun _ _ => rfl, unch_rf⟩⟩
set_option maxHeartbeats 4000000 in
set_option maxRecDepth 100000 in
theorem c_H_wide (l : Launch) {D : va_G} {cI cR : ClassId} {L : List Nat} {f : Nat → va_E} {rx ry ra : Nat → Nat} {h ar ci lo : Nat} {K t1 t2 : Int} {S : Nat → List Pt} (G : geo L rx ry ra h ar ci lo) (hc : clsIs cI cR rx ry ra h ar ci lo f K t1 t2 S) (hok : okS K S) {z : Int} (hz : i3 z) : gMi D cI cR l y_H_wide (Cond.code y_H_wide b_H_wide 6 (some .int) :: lw_g) { frames := 2, cells := 0, slots := 0, locals := 45 } [.ref h, .int (iN (z))] L f (fun r u => r = iN (if 0 ≤ z ∧ z < K then (if (S z.toNat).length = 0 then -3 else wdL (S z.toNat) (S z.toNat).length) else -1) ∧ hpost L cI cR rx ry ra h ar ci lo f K t1 t2 S u) := by
  intro sz
  refine g_enter (by decide) rfl (Nat.le_of_ble_eq_true rfl) ?_
  intro p e s m below meth cd ls X hrt hlk hnm hl hsz w
  have X : gx p m cd b_H_wide 6 s _ "HullSums" D cI cR := X
  have hx := X.1.1
  have hb := X.1.2.1
  have hl : lv_has ls 6 [(0, .ref h), (1, .int (iN (z)))] := hl
  have hK := hc.2.2.2.2.2
  refine lv_aload_n hx hb d_H_wide_0 rfl (lv_at hl 0 rfl) ?_
  refine lv_iload_n hx hb d_H_wide_1 rfl (lv_at hl 1 rfl) ?_
  refine g_cq w (g_runV (As := [.int (iN (z))]) (rest := []) X w (c_H_rowOf l G hc (z := z) hz) k_H_rowOf v_H_rowOf lk_H_58 G.1.1 hc.1 rfl ⟨(Nat.le_of_ble_eq_true rfl), (Nat.le_of_ble_eq_true rfl)⟩ rfl hl.1 rfl (Nat.le_of_ble_eq_true rfl) d_H_wide_2 ⟨(Nat.le_of_ble_eq_true rfl), (Nat.le_of_ble_eq_true rfl)⟩) (fun r u H locs hp w => ?_)
  obtain ⟨hr9, rfl⟩ := hp
  have w : gw D (gA L sz) s.heap H locs L f := w
  by_cases hz1 : 0 ≤ z ∧ z < K
  · skip
    rw [if_pos hz1] at hr9
    subst hr9
    have hz18 : z.toNat < 8 := by have := hc.2.2.2.2.2; omega
    have hBhz1 : pb 600 (S z.toNat) := pb_of (by decide) (pbl_le (by decide) (hok _ (by omega)).2)
    have hlhz1 := (hok z.toNat (by omega)).1
    refine lv_astore_n (lv' := [(2, .ref (ra z.toNat)), (0, .ref h), (1, .int (iN (z)))]) hx hb d_H_wide_5 rfl hl (by decide) rfl (fun ls hl => ?_)
    refine lv_aload_n hx hb d_H_wide_6 rfl (lv_at hl 0 rfl) ?_
    refine lv_ifnonnull (tgt := 12) hx hb d_H_wide_7 (by decide) ?_
    refine lv_aload_n hx hb d_H_wide_12 rfl (lv_at hl 0 rfl) ?_
    refine g_ci w (g_runV (As := []) (rest := []) X w (c_R_size l (G.2.2.1 z.toNat (by omega)) (hc.2.2.1 z.toNat (by omega))) k_R_size v_R_size lk_H_72 (G.2.2.1 z.toNat (by omega)).1 (hc.2.2.1 z.toNat (by omega)).2.1 rfl ⟨(Nat.le_of_ble_eq_true rfl), (Nat.le_of_ble_eq_true rfl)⟩ rfl hl.1 rfl (Nat.le_of_ble_eq_true rfl) d_H_wide_13 ⟨Nat.zero_le _, Nat.zero_le _⟩) (fun r u H locs hp w => ?_)
    obtain ⟨rfl, rfl⟩ := hp
    have w : gw D (gA L sz) s.heap H locs L f := w
    refine ri_zne (a := ((S z.toNat).length : Int)) (tgt := 22) hx hb d_H_wide_16 (by decide) rfl (by unfold i3; omega) (fun c16 => ?_) (fun c16 => ?_)
    · skip
      refine lv_iconst (v := iN (0)) hx hb d_H_wide_22 (by decide) ?_
      refine lv_istore_n (lv' := [(3, .int (iN (0))), (2, .ref (ra z.toNat)), (0, .ref h), (1, .int (iN (z)))]) hx hb d_H_wide_23 rfl hl (by decide) rfl (fun ls hl => ?_)
      refine lv_iconst (v := iN (1)) hx hb d_H_wide_24 (by decide) ?_
      refine lv_istore (lv' := [(4, .int (iN (1))), (3, .int (iN (0))), (2, .ref (ra z.toNat)), (0, .ref h), (1, .int (iN (z)))]) hx hb d_H_wide_25 hl (by decide) rfl (fun ls hl => ?_)
      refine g_loop (σ := Int × Int) (fun z9 => ((S z.toNat).length - z9.1).toNat) (fun z9 => [(0, .ref h), (1, .int (iN (z))), (2, .ref (ra z.toNat)), (3, .int (iN (z9.2))), (4, .int (iN (z9.1)))]) L (fun z9 => f) (fun z9 => 1 ≤ z9.1 ∧ z9.1 ≤ (S z.toNat).length ∧ z9.2 = wdL (S z.toNat) z9.1.toNat) ?_ (1, 0) _ _ _ ⟨by omega, by omega, rfl⟩ w (lv_sub hl [3, 4, 2, 1, 0] rfl)
      intro z9 H locs ls hI w hl ih
      obtain ⟨i, m0⟩ := z9
      have hl : lv_has ls 6 [(0, .ref h), (1, .int (iN (z))), (2, .ref (ra z.toNat)), (3, .int (iN (m0))), (4, .int (iN (i)))] := hl
      have w : gw D (gA L sz) s.heap H locs L (f) := w
      have hI : 1 ≤ i ∧ i ≤ (S z.toNat).length ∧ m0 = wdL (S z.toNat) i.toNat := hI
      obtain ⟨h0, h1, h2⟩ := hI
      refine lv_iload hx hb d_H_wide_27 (lv_at hl 4 rfl) ?_
      refine lv_aload_n hx hb d_H_wide_29 rfl (lv_at hl 2 rfl) ?_
      refine g_ci w (g_runV (As := []) (rest := [.int (iN (i))]) X w (c_R_size l (G.2.2.1 z.toNat (by omega)) (hc.2.2.1 z.toNat (by omega))) k_R_size v_R_size lk_H_72 (G.2.2.1 z.toNat (by omega)).1 (hc.2.2.1 z.toNat (by omega)).2.1 rfl ⟨(Nat.le_of_ble_eq_true rfl), (Nat.le_of_ble_eq_true rfl)⟩ rfl hl.1 rfl (Nat.le_of_ble_eq_true rfl) d_H_wide_30 ⟨Nat.zero_le _, Nat.zero_le _⟩) (fun r u H locs hp w => ?_)
      obtain ⟨rfl, rfl⟩ := hp
      have w : gw D (gA L sz) s.heap H locs L f := w
      refine ri_cge (a := i) (b := ((S z.toNat).length : Int)) (tgt := 71) hx hb d_H_wide_33 (by decide) rfl rfl (by unfold i3; omega) (by unfold i3; omega) (fun c33 => ?_) (fun c33 => ?_)
      · skip
        refine lv_iload_n hx hb d_H_wide_71 rfl (lv_at hl 3 rfl) ?_
        exact g_iret X w hrt hlk d_H_wide_72 ⟨by rw [if_pos hz1, if_neg (by omega), h2, show i.toNat = (S z.toNat).length by omega], ⟨f, S, rfl, hc, fun _ _ => rfl, unch_rf⟩⟩
      · skip
        refine lv_iconst (v := iN (0)) hx hb d_H_wide_36 (by decide) ?_
        refine lv_istore (lv' := [(5, .int (iN (0))), (0, .ref h), (1, .int (iN (z))), (2, .ref (ra z.toNat)), (3, .int (iN (m0))), (4, .int (iN (i)))]) hx hb d_H_wide_37 hl (by decide) rfl (fun ls hl => ?_)
        refine g_loop (σ := Int × Int) (fun z9 => (i - z9.1).toNat) (fun z9 => [(0, .ref h), (1, .int (iN (z))), (2, .ref (ra z.toNat)), (3, .int (iN (z9.2))), (4, .int (iN (i))), (5, .int (iN (z9.1)))]) L (fun z9 => f) (fun z9 => 0 ≤ z9.1 ∧ z9.1 ≤ i ∧ z9.2 = wdJ (S z.toNat) i z9.1.toNat m0) ?_ (0, m0) _ _ _ ⟨by omega, by omega, rfl⟩ w (lv_sub hl [1, 2, 3, 4, 5, 0] rfl)
        intro z9 H locs ls hI w hl ih2
        obtain ⟨j, m1⟩ := z9
        have hl : lv_has ls 6 [(0, .ref h), (1, .int (iN (z))), (2, .ref (ra z.toNat)), (3, .int (iN (m1))), (4, .int (iN (i))), (5, .int (iN (j)))] := hl
        have w : gw D (gA L sz) s.heap H locs L (f) := w
        have hI : 0 ≤ j ∧ j ≤ i ∧ m1 = wdJ (S z.toNat) i j.toNat m0 := hI
        obtain ⟨k0, k1, k2⟩ := hI
        refine lv_iload hx hb d_H_wide_39 (lv_at hl 5 rfl) ?_
        refine lv_iload hx hb d_H_wide_41 (lv_at hl 4 rfl) ?_
        refine ri_cge (a := j) (b := i) (tgt := 65) hx hb d_H_wide_43 (by decide) rfl rfl (by unfold i3; omega) (by unfold i3; omega) (fun c43 => ?_) (fun c43 => ?_)
        · skip
          refine lv_iinc (v := iN ((i + 1))) (lv' := [(4, .int (iN ((i + 1)))), (0, .ref h), (1, .int (iN (z))), (2, .ref (ra z.toNat)), (3, .int (iN (m1))), (5, .int (iN (j)))]) hx hb d_H_wide_65 hl (k := 4) rfl (by rw [show (i + 1) = i + (1 : Int) by omega, ← iN_add]; rfl) (by decide) rfl (fun ls hl => ?_)
          refine lv_goto (tgt := 27) hx hb d_H_wide_68 (by decide) ?_
          exact ih ((i + 1), m1) _ _ _ (by omega) ⟨by omega, by omega, by rw [show (i + 1).toNat = i.toNat + 1 by omega]; unfold wdL; rw [← h2, tn_c (by omega), k2, show j = i by omega]⟩ w (lv_sub hl [1, 2, 3, 4, 0] rfl)
        · skip
          refine lv_iload_n hx hb d_H_wide_46 rfl (lv_at hl 3 rfl) ?_
          refine lv_aload_n hx hb d_H_wide_47 rfl (lv_at hl 2 rfl) ?_
          refine lv_iload hx hb d_H_wide_48 (lv_at hl 4 rfl) ?_
          refine lv_iload hx hb d_H_wide_50 (lv_at hl 5 rfl) ?_
          refine g_ci w (g_runV (As := [.int (iN (i)), .int (iN (j))]) (rest := [.int (iN (m1))]) X w (c_R_squareBetween l (G.2.2.1 z.toNat (by omega)) (hc.2.2.1 z.toNat (by omega)) (by omega) (by omega)) k_R_squareBetween v_R_squareBetween lk_H_109 (G.2.2.1 z.toNat (by omega)).1 (hc.2.2.1 z.toNat (by omega)).2.1 rfl ⟨(Nat.le_of_ble_eq_true rfl), (Nat.le_of_ble_eq_true rfl)⟩ rfl hl.1 rfl (Nat.le_of_ble_eq_true rfl) d_H_wide_52 ⟨Nat.zero_le _, Nat.zero_le _⟩) (fun r u H locs hp w => ?_)
          obtain ⟨rfl, rfl⟩ := hp
          have w : gw D (gA L sz) s.heap H locs L f := w
          refine ri_mmax (a := m1) (b := (sq (S z.toNat) i j)) X hl.1 lk_H_112 (Nat.le_of_ble_eq_true rfl) (Nat.le_of_ble_eq_true rfl) (Nat.zero_le _) (Nat.zero_le _) rfl rfl (by have := wdJ_b hBhz1 i j.toNat (wdL_b hBhz1 i.toNat); rw [← h2, ← k2] at this; unfold i3; omega) (by have := sq_b hBhz1 i j; unfold i3; omega) d_H_wide_55 ?_
          refine lv_istore_n (lv' := [(3, .int (iN ((max m1 (sq (S z.toNat) i j))))), (0, .ref h), (1, .int (iN (z))), (2, .ref (ra z.toNat)), (4, .int (iN (i))), (5, .int (iN (j)))]) hx hb d_H_wide_58 rfl hl (by decide) rfl (fun ls hl => ?_)
          refine lv_iinc (v := iN ((j + 1))) (lv' := [(5, .int (iN ((j + 1)))), (3, .int (iN ((max m1 (sq (S z.toNat) i j))))), (0, .ref h), (1, .int (iN (z))), (2, .ref (ra z.toNat)), (4, .int (iN (i)))]) hx hb d_H_wide_59 hl (k := 5) rfl (by rw [show (j + 1) = j + (1 : Int) by omega, ← iN_add]; rfl) (by decide) rfl (fun ls hl => ?_)
          refine lv_goto (tgt := 39) hx hb d_H_wide_62 (by decide) ?_
          exact ih2 ((j + 1), (max m1 (sq (S z.toNat) i j))) _ _ _ (by omega) ⟨by omega, by omega, by rw [tn_s k0]; unfold wdJ; rw [← k2, tn_c k0]⟩ w (lv_sub hl [2, 3, 4, 1, 5, 0] rfl)
    · skip
      refine lv_bipush (v := iN (-3)) hx hb d_H_wide_19 (by decide) ?_
      exact g_iret X w hrt hlk d_H_wide_21 ⟨by rw [if_pos hz1, if_pos (by omega)], ⟨f, S, rfl, hc, fun _ _ => rfl, unch_rf⟩⟩
  · skip
    rw [if_neg hz1] at hr9
    subst hr9
    refine lv_astore_nN (lv' := [(2, .null), (0, .ref h), (1, .int (iN (z)))]) hx hb d_H_wide_5 rfl hl (by decide) rfl (fun ls hl => ?_)
    refine lv_aload_nN hx hb d_H_wide_6 rfl (lv_at hl 0 rfl) ?_
    refine lv_ifnonnullN hx hb d_H_wide_7 ?_
    refine lv_iconst (v := iN (-1)) hx hb d_H_wide_10 (by decide) ?_
    exact g_iret X w hrt hlk d_H_wide_11 ⟨by rw [if_neg hz1], ⟨f, S, rfl, hc, fun _ _ => rfl, unch_rf⟩⟩
set_option maxHeartbeats 4000000 in
set_option maxRecDepth 100000 in
theorem c_H_nearest (l : Launch) {D : va_G} {cI cR : ClassId} {L : List Nat} {f : Nat → va_E} {rx ry ra : Nat → Nat} {h ar ci lo : Nat} {K t1 t2 : Int} {S : Nat → List Pt} (G : geo L rx ry ra h ar ci lo) (hc : clsIs cI cR rx ry ra h ar ci lo f K t1 t2 S) (hok : okS K S) {z : Int} (hz : i3 z) : gMi D cI cR l y_H_nearest (Cond.code y_H_nearest b_H_nearest 6 (some .int) :: lw_g) { frames := 2, cells := 0, slots := 0, locals := 45 } [.ref h, .int (iN (z))] L f (fun r u => r = iN (if 0 ≤ z ∧ z < K then (if (S z.toNat).length < 2 then -3 else neL (S z.toNat) ((S z.toNat).length - 2)) else -1) ∧ hpost L cI cR rx ry ra h ar ci lo f K t1 t2 S u) := by
  intro sz
  refine g_enter (by decide) rfl (Nat.le_of_ble_eq_true rfl) ?_
  intro p e s m below meth cd ls X hrt hlk hnm hl hsz w
  have X : gx p m cd b_H_nearest 6 s _ "HullSums" D cI cR := X
  have hx := X.1.1
  have hb := X.1.2.1
  have hl : lv_has ls 6 [(0, .ref h), (1, .int (iN (z)))] := hl
  have hK := hc.2.2.2.2.2
  refine lv_aload_n hx hb d_H_nearest_0 rfl (lv_at hl 0 rfl) ?_
  refine lv_iload_n hx hb d_H_nearest_1 rfl (lv_at hl 1 rfl) ?_
  refine g_cq w (g_runV (As := [.int (iN (z))]) (rest := []) X w (c_H_rowOf l G hc (z := z) hz) k_H_rowOf v_H_rowOf lk_H_58 G.1.1 hc.1 rfl ⟨(Nat.le_of_ble_eq_true rfl), (Nat.le_of_ble_eq_true rfl)⟩ rfl hl.1 rfl (Nat.le_of_ble_eq_true rfl) d_H_nearest_2 ⟨(Nat.le_of_ble_eq_true rfl), (Nat.le_of_ble_eq_true rfl)⟩) (fun r u H locs hp w => ?_)
  obtain ⟨hr9, rfl⟩ := hp
  have w : gw D (gA L sz) s.heap H locs L f := w
  by_cases hz1 : 0 ≤ z ∧ z < K
  · skip
    rw [if_pos hz1] at hr9
    subst hr9
    have hz18 : z.toNat < 8 := by have := hc.2.2.2.2.2; omega
    have hBhz1 : pb 600 (S z.toNat) := pb_of (by decide) (pbl_le (by decide) (hok _ (by omega)).2)
    have hlhz1 := (hok z.toNat (by omega)).1
    refine lv_astore_n (lv' := [(2, .ref (ra z.toNat)), (0, .ref h), (1, .int (iN (z)))]) hx hb d_H_nearest_5 rfl hl (by decide) rfl (fun ls hl => ?_)
    refine lv_aload_n hx hb d_H_nearest_6 rfl (lv_at hl 0 rfl) ?_
    refine lv_ifnonnull (tgt := 12) hx hb d_H_nearest_7 (by decide) ?_
    refine lv_aload_n hx hb d_H_nearest_12 rfl (lv_at hl 0 rfl) ?_
    refine g_ci w (g_runV (As := []) (rest := []) X w (c_R_size l (G.2.2.1 z.toNat (by omega)) (hc.2.2.1 z.toNat (by omega))) k_R_size v_R_size lk_H_72 (G.2.2.1 z.toNat (by omega)).1 (hc.2.2.1 z.toNat (by omega)).2.1 rfl ⟨(Nat.le_of_ble_eq_true rfl), (Nat.le_of_ble_eq_true rfl)⟩ rfl hl.1 rfl (Nat.le_of_ble_eq_true rfl) d_H_nearest_13 ⟨Nat.zero_le _, Nat.zero_le _⟩) (fun r u H locs hp w => ?_)
    obtain ⟨rfl, rfl⟩ := hp
    have w : gw D (gA L sz) s.heap H locs L f := w
    refine lv_iconst (v := iN (2)) hx hb d_H_nearest_16 (by decide) ?_
    refine ri_cge (a := ((S z.toNat).length : Int)) (b := 2) (tgt := 23) hx hb d_H_nearest_17 (by decide) rfl rfl (by unfold i3; omega) (by unfold i3; omega) (fun c17 => ?_) (fun c17 => ?_)
    · skip
      refine lv_aload_n hx hb d_H_nearest_23 rfl (lv_at hl 0 rfl) ?_
      refine lv_iconst (v := iN (0)) hx hb d_H_nearest_24 (by decide) ?_
      refine lv_iconst (v := iN (1)) hx hb d_H_nearest_25 (by decide) ?_
      refine g_ci w (g_runV (As := [.int (iN (0)), .int (iN (1))]) (rest := []) X w (c_R_squareBetween l (G.2.2.1 z.toNat (by omega)) (hc.2.2.1 z.toNat (by omega)) (by omega) (by omega)) k_R_squareBetween v_R_squareBetween lk_H_109 (G.2.2.1 z.toNat (by omega)).1 (hc.2.2.1 z.toNat (by omega)).2.1 rfl ⟨(Nat.le_of_ble_eq_true rfl), (Nat.le_of_ble_eq_true rfl)⟩ rfl hl.1 rfl (Nat.le_of_ble_eq_true rfl) d_H_nearest_26 ⟨Nat.zero_le _, Nat.zero_le _⟩) (fun r u H locs hp w => ?_)
      obtain ⟨rfl, rfl⟩ := hp
      have w : gw D (gA L sz) s.heap H locs L f := w
      refine lv_istore_n (lv' := [(3, .int (iN ((sq (S z.toNat) 0 1)))), (2, .ref (ra z.toNat)), (0, .ref h), (1, .int (iN (z)))]) hx hb d_H_nearest_29 rfl hl (by decide) rfl (fun ls hl => ?_)
      refine lv_iconst (v := iN (2)) hx hb d_H_nearest_30 (by decide) ?_
      refine lv_istore (lv' := [(4, .int (iN (2))), (3, .int (iN ((sq (S z.toNat) 0 1)))), (2, .ref (ra z.toNat)), (0, .ref h), (1, .int (iN (z)))]) hx hb d_H_nearest_31 hl (by decide) rfl (fun ls hl => ?_)
      refine g_loop (σ := Int × Int) (fun z9 => ((S z.toNat).length - z9.1).toNat) (fun z9 => [(0, .ref h), (1, .int (iN (z))), (2, .ref (ra z.toNat)), (3, .int (iN (z9.2))), (4, .int (iN (z9.1)))]) L (fun z9 => f) (fun z9 => 2 ≤ z9.1 ∧ z9.1 ≤ (S z.toNat).length ∧ z9.2 = neL (S z.toNat) (z9.1 - 2).toNat) ?_ (2, (sq (S z.toNat) 0 1)) _ _ _ ⟨by omega, by omega, rfl⟩ w (lv_sub hl [3, 4, 2, 1, 0] rfl)
      intro z9 H locs ls hI w hl ih
      obtain ⟨i, m0⟩ := z9
      have hl : lv_has ls 6 [(0, .ref h), (1, .int (iN (z))), (2, .ref (ra z.toNat)), (3, .int (iN (m0))), (4, .int (iN (i)))] := hl
      have w : gw D (gA L sz) s.heap H locs L (f) := w
      have hI : 2 ≤ i ∧ i ≤ (S z.toNat).length ∧ m0 = neL (S z.toNat) (i - 2).toNat := hI
      obtain ⟨h0, h1, h2⟩ := hI
      refine lv_iload hx hb d_H_nearest_33 (lv_at hl 4 rfl) ?_
      refine lv_aload_n hx hb d_H_nearest_35 rfl (lv_at hl 2 rfl) ?_
      refine g_ci w (g_runV (As := []) (rest := [.int (iN (i))]) X w (c_R_size l (G.2.2.1 z.toNat (by omega)) (hc.2.2.1 z.toNat (by omega))) k_R_size v_R_size lk_H_72 (G.2.2.1 z.toNat (by omega)).1 (hc.2.2.1 z.toNat (by omega)).2.1 rfl ⟨(Nat.le_of_ble_eq_true rfl), (Nat.le_of_ble_eq_true rfl)⟩ rfl hl.1 rfl (Nat.le_of_ble_eq_true rfl) d_H_nearest_36 ⟨Nat.zero_le _, Nat.zero_le _⟩) (fun r u H locs hp w => ?_)
      obtain ⟨rfl, rfl⟩ := hp
      have w : gw D (gA L sz) s.heap H locs L f := w
      refine ri_cge (a := i) (b := ((S z.toNat).length : Int)) (tgt := 77) hx hb d_H_nearest_39 (by decide) rfl rfl (by unfold i3; omega) (by unfold i3; omega) (fun c39 => ?_) (fun c39 => ?_)
      · skip
        refine lv_iload_n hx hb d_H_nearest_77 rfl (lv_at hl 3 rfl) ?_
        exact g_iret X w hrt hlk d_H_nearest_78 ⟨by rw [if_pos hz1, if_neg (by omega), h2, show (i - 2).toNat = (S z.toNat).length - 2 by omega], ⟨f, S, rfl, hc, fun _ _ => rfl, unch_rf⟩⟩
      · skip
        refine lv_iconst (v := iN (0)) hx hb d_H_nearest_42 (by decide) ?_
        refine lv_istore (lv' := [(5, .int (iN (0))), (0, .ref h), (1, .int (iN (z))), (2, .ref (ra z.toNat)), (3, .int (iN (m0))), (4, .int (iN (i)))]) hx hb d_H_nearest_43 hl (by decide) rfl (fun ls hl => ?_)
        refine g_loop (σ := Int × Int) (fun z9 => (i - z9.1).toNat) (fun z9 => [(0, .ref h), (1, .int (iN (z))), (2, .ref (ra z.toNat)), (3, .int (iN (z9.2))), (4, .int (iN (i))), (5, .int (iN (z9.1)))]) L (fun z9 => f) (fun z9 => 0 ≤ z9.1 ∧ z9.1 ≤ i ∧ z9.2 = neJ (S z.toNat) i z9.1.toNat m0) ?_ (0, m0) _ _ _ ⟨by omega, by omega, rfl⟩ w (lv_sub hl [1, 2, 3, 4, 5, 0] rfl)
        intro z9 H locs ls hI w hl ih2
        obtain ⟨j, m1⟩ := z9
        have hl : lv_has ls 6 [(0, .ref h), (1, .int (iN (z))), (2, .ref (ra z.toNat)), (3, .int (iN (m1))), (4, .int (iN (i))), (5, .int (iN (j)))] := hl
        have w : gw D (gA L sz) s.heap H locs L (f) := w
        have hI : 0 ≤ j ∧ j ≤ i ∧ m1 = neJ (S z.toNat) i j.toNat m0 := hI
        obtain ⟨k0, k1, k2⟩ := hI
        refine lv_iload hx hb d_H_nearest_45 (lv_at hl 5 rfl) ?_
        refine lv_iload hx hb d_H_nearest_47 (lv_at hl 4 rfl) ?_
        refine ri_cge (a := j) (b := i) (tgt := 71) hx hb d_H_nearest_49 (by decide) rfl rfl (by unfold i3; omega) (by unfold i3; omega) (fun c49 => ?_) (fun c49 => ?_)
        · skip
          refine lv_iinc (v := iN ((i + 1))) (lv' := [(4, .int (iN ((i + 1)))), (0, .ref h), (1, .int (iN (z))), (2, .ref (ra z.toNat)), (3, .int (iN (m1))), (5, .int (iN (j)))]) hx hb d_H_nearest_71 hl (k := 4) rfl (by rw [show (i + 1) = i + (1 : Int) by omega, ← iN_add]; rfl) (by decide) rfl (fun ls hl => ?_)
          refine lv_goto (tgt := 33) hx hb d_H_nearest_74 (by decide) ?_
          exact ih ((i + 1), m1) _ _ _ (by omega) ⟨by omega, by omega, by rw [show (i + 1 - 2).toNat = (i - 2).toNat + 1 by omega]; unfold neL; rw [← h2, tn_c (show 0 ≤ i - 2 by omega), show i - 2 + 2 = i by omega, show (i - 2).toNat + 2 = i.toNat by omega, k2, show j = i by omega]⟩ w (lv_sub hl [1, 2, 3, 4, 0] rfl)
        · skip
          refine lv_iload_n hx hb d_H_nearest_52 rfl (lv_at hl 3 rfl) ?_
          refine lv_aload_n hx hb d_H_nearest_53 rfl (lv_at hl 2 rfl) ?_
          refine lv_iload hx hb d_H_nearest_54 (lv_at hl 4 rfl) ?_
          refine lv_iload hx hb d_H_nearest_56 (lv_at hl 5 rfl) ?_
          refine g_ci w (g_runV (As := [.int (iN (i)), .int (iN (j))]) (rest := [.int (iN (m1))]) X w (c_R_squareBetween l (G.2.2.1 z.toNat (by omega)) (hc.2.2.1 z.toNat (by omega)) (by omega) (by omega)) k_R_squareBetween v_R_squareBetween lk_H_109 (G.2.2.1 z.toNat (by omega)).1 (hc.2.2.1 z.toNat (by omega)).2.1 rfl ⟨(Nat.le_of_ble_eq_true rfl), (Nat.le_of_ble_eq_true rfl)⟩ rfl hl.1 rfl (Nat.le_of_ble_eq_true rfl) d_H_nearest_58 ⟨Nat.zero_le _, Nat.zero_le _⟩) (fun r u H locs hp w => ?_)
          obtain ⟨rfl, rfl⟩ := hp
          have w : gw D (gA L sz) s.heap H locs L f := w
          refine ri_mmin (a := m1) (b := (sq (S z.toNat) i j)) X hl.1 lk_H_84 (Nat.le_of_ble_eq_true rfl) (Nat.le_of_ble_eq_true rfl) (Nat.zero_le _) (Nat.zero_le _) rfl rfl (by have := neJ_b hBhz1 i j.toNat (neL_b hBhz1 (i - 2).toNat); rw [← h2, ← k2] at this; unfold i3; omega) (by have := sq_b hBhz1 i j; unfold i3; omega) d_H_nearest_61 ?_
          refine lv_istore_n (lv' := [(3, .int (iN ((min m1 (sq (S z.toNat) i j))))), (0, .ref h), (1, .int (iN (z))), (2, .ref (ra z.toNat)), (4, .int (iN (i))), (5, .int (iN (j)))]) hx hb d_H_nearest_64 rfl hl (by decide) rfl (fun ls hl => ?_)
          refine lv_iinc (v := iN ((j + 1))) (lv' := [(5, .int (iN ((j + 1)))), (3, .int (iN ((min m1 (sq (S z.toNat) i j))))), (0, .ref h), (1, .int (iN (z))), (2, .ref (ra z.toNat)), (4, .int (iN (i)))]) hx hb d_H_nearest_65 hl (k := 5) rfl (by rw [show (j + 1) = j + (1 : Int) by omega, ← iN_add]; rfl) (by decide) rfl (fun ls hl => ?_)
          refine lv_goto (tgt := 45) hx hb d_H_nearest_68 (by decide) ?_
          exact ih2 ((j + 1), (min m1 (sq (S z.toNat) i j))) _ _ _ (by omega) ⟨by omega, by omega, by rw [tn_s k0]; unfold neJ; rw [← k2, tn_c k0]⟩ w (lv_sub hl [2, 3, 4, 1, 5, 0] rfl)
    · skip
      refine lv_bipush (v := iN (-3)) hx hb d_H_nearest_20 (by decide) ?_
      exact g_iret X w hrt hlk d_H_nearest_22 ⟨by rw [if_pos hz1, if_pos (by omega)], ⟨f, S, rfl, hc, fun _ _ => rfl, unch_rf⟩⟩
  · skip
    rw [if_neg hz1] at hr9
    subst hr9
    refine lv_astore_nN (lv' := [(2, .null), (0, .ref h), (1, .int (iN (z)))]) hx hb d_H_nearest_5 rfl hl (by decide) rfl (fun ls hl => ?_)
    refine lv_aload_nN hx hb d_H_nearest_6 rfl (lv_at hl 0 rfl) ?_
    refine lv_ifnonnullN hx hb d_H_nearest_7 ?_
    refine lv_iconst (v := iN (-1)) hx hb d_H_nearest_10 (by decide) ?_
    exact g_iret X w hrt hlk d_H_nearest_11 ⟨by rw [if_neg hz1], ⟨f, S, rfl, hc, fun _ _ => rfl, unch_rf⟩⟩
set_option maxHeartbeats 4000000 in
set_option maxRecDepth 100000 in
theorem c_H_within (l : Launch) {D : va_G} {cI cR : ClassId} {L : List Nat} {f : Nat → va_E} {rx ry ra : Nat → Nat} {h ar ci lo : Nat} {K t1 t2 : Int} {S : Nat → List Pt} (G : geo L rx ry ra h ar ci lo) (hc : clsIs cI cR rx ry ra h ar ci lo f K t1 t2 S) (hok : okS K S) {z : Int} (hz : i3 z) {z2 : Int} (hz2 : i3 z2) : gMi D cI cR l y_H_within (Cond.code y_H_within b_H_within 7 (some .int) :: lw_g) { frames := 5, cells := 0, slots := 0, locals := 114 } [.ref h, .int (iN (z)), .int (iN (z2))] L f (fun r u => r = iN (if (0 ≤ z ∧ z < K) ∧ (0 ≤ z2 ∧ z2 < K) then 1 - bI (wiA (S z.toNat) (hullF (S z2.toNat)) (S z.toNat).length) else -1) ∧ hpost L cI cR rx ry ra h ar ci lo f K t1 t2 S u) := by
  intro sz
  refine g_enter (by decide) rfl (Nat.le_of_ble_eq_true rfl) ?_
  intro p e s m below meth cd ls X hrt hlk hnm hl hsz w
  have X : gx p m cd b_H_within 7 s _ "HullSums" D cI cR := X
  have hx := X.1.1
  have hb := X.1.2.1
  have hl : lv_has ls 7 [(0, .ref h), (1, .int (iN (z))), (2, .int (iN (z2)))] := hl
  have hK := hc.2.2.2.2.2
  refine lv_aload_n hx hb d_H_within_0 rfl (lv_at hl 0 rfl) ?_
  refine lv_iload_n hx hb d_H_within_1 rfl (lv_at hl 1 rfl) ?_
  refine g_cq w (g_runV (As := [.int (iN (z))]) (rest := []) X w (c_H_rowOf l G hc (z := z) hz) k_H_rowOf v_H_rowOf lk_H_58 G.1.1 hc.1 rfl ⟨(Nat.le_of_ble_eq_true rfl), (Nat.le_of_ble_eq_true rfl)⟩ rfl hl.1 rfl (Nat.le_of_ble_eq_true rfl) d_H_within_2 ⟨(Nat.le_of_ble_eq_true rfl), (Nat.le_of_ble_eq_true rfl)⟩) (fun r u H locs hp w => ?_)
  obtain ⟨hr9, rfl⟩ := hp
  have w : gw D (gA L sz) s.heap H locs L f := w
  by_cases hz1 : 0 ≤ z ∧ z < K
  · skip
    rw [if_pos hz1] at hr9
    subst hr9
    have hz18 : z.toNat < 8 := by have := hc.2.2.2.2.2; omega
    have hBhz1 : pb 600 (S z.toNat) := pb_of (by decide) (pbl_le (by decide) (hok _ (by omega)).2)
    have hlhz1 := (hok z.toNat (by omega)).1
    refine lv_astore_n (lv' := [(3, .ref (ra z.toNat)), (0, .ref h), (1, .int (iN (z))), (2, .int (iN (z2)))]) hx hb d_H_within_5 rfl hl (by decide) rfl (fun ls hl => ?_)
    refine lv_aload_n hx hb d_H_within_6 rfl (lv_at hl 1 rfl) ?_
    refine lv_iload_n hx hb d_H_within_7 rfl (lv_at hl 3 rfl) ?_
    refine g_cq w (g_runV (As := [.int (iN (z2))]) (rest := []) X w (c_H_rowOf l G hc (z := z2) hz2) k_H_rowOf v_H_rowOf lk_H_58 G.1.1 hc.1 rfl ⟨(Nat.le_of_ble_eq_true rfl), (Nat.le_of_ble_eq_true rfl)⟩ rfl hl.1 rfl (Nat.le_of_ble_eq_true rfl) d_H_within_8 ⟨(Nat.le_of_ble_eq_true rfl), (Nat.le_of_ble_eq_true rfl)⟩) (fun r u H locs hp w => ?_)
    obtain ⟨hr9, rfl⟩ := hp
    have w : gw D (gA L sz) s.heap H locs L f := w
    by_cases hz2 : 0 ≤ z2 ∧ z2 < K
    · skip
      rw [if_pos hz2] at hr9
      subst hr9
      have hz28 : z2.toNat < 8 := by have := hc.2.2.2.2.2; omega
      have hBhz2 : pb 600 (S z2.toNat) := pb_of (by decide) (pbl_le (by decide) (hok _ (by omega)).2)
      have hlhz2 := (hok z2.toNat (by omega)).1
      refine lv_astore (lv' := [(4, .ref (ra z2.toNat)), (3, .ref (ra z.toNat)), (0, .ref h), (1, .int (iN (z))), (2, .int (iN (z2)))]) hx hb d_H_within_11 hl (by decide) rfl (fun ls hl => ?_)
      refine lv_aload_n hx hb d_H_within_13 rfl (lv_at hl 1 rfl) ?_
      refine lv_ifnull hx hb d_H_within_14 ?_
      refine lv_aload hx hb d_H_within_17 (lv_at hl 0 rfl) ?_
      refine lv_ifnonnull (tgt := 24) hx hb d_H_within_19 (by decide) ?_
      refine lv_aload_n hx hb d_H_within_24 rfl (lv_at hl 2 rfl) ?_
      refine lv_aload hx hb d_H_within_25 (lv_at hl 0 rfl) ?_
      refine g_cq w (g_runV (As := [.ref (ra z2.toNat)]) (rest := []) X w (c_H_hullOf l G hc (i := z2.toNat) (by omega) (pbl_le (by decide) (hok _ (by omega)).2) (hok _ (by omega)).1) k_H_hullOf v_H_hullOf lk_H_80 G.1.1 hc.1 rfl ⟨(Nat.le_of_ble_eq_true rfl), (Nat.le_of_ble_eq_true rfl)⟩ rfl hl.1 rfl (Nat.le_of_ble_eq_true rfl) d_H_within_27 ⟨(Nat.le_of_ble_eq_true rfl), (Nat.le_of_ble_eq_true rfl)⟩) (fun r u H locs hp w => ?_)
      obtain ⟨rfl, g, rfl, hcg, hug⟩ := hp
      have w : gw D (gA L sz) s.heap H locs L g := w
      have hrL : rowIs cI rx ry g (ra 9) (hullF (S z2.toNat)) := by have h9 := hcg.2.2.1 9 (by decide); rw [su_s] at h9; exact h9
      have hSk : ∀ j, j < 8 → supd (supd S 8 (sortF (S z2.toNat))) 9 (hullF (S z2.toNat)) j = S j := fun j hj => by rw [su_n (by omega), su_n (by omega)]
      have hBL3 : pb 300 (hullF (S z2.toNat)) := pb_of (by decide) (pbl_hull (hok _ (by omega)).2)
      have hBL : pb 600 (hullF (S z2.toNat)) := pb_of (by decide) (pbl_le (by decide) (pbl_hull (hok _ (by omega)).2))
      have hn48 := hrL.1
      have hqhz1 : rowIs cI rx ry g (ra z.toNat) (S z.toNat) := by have h9 := hcg.2.2.1 z.toNat (by omega); rw [hSk _ (by omega)] at h9; exact h9
      have hqhz2 : rowIs cI rx ry g (ra z2.toNat) (S z2.toNat) := by have h9 := hcg.2.2.1 z2.toNat (by omega); rw [hSk _ (by omega)] at h9; exact h9
      refine lv_astore (lv' := [(5, .ref (ra 9)), (4, .ref (ra z2.toNat)), (3, .ref (ra z.toNat)), (0, .ref h), (1, .int (iN (z))), (2, .int (iN (z2)))]) hx hb d_H_within_30 hl (by decide) rfl (fun ls hl => ?_)
      refine lv_iconst (v := iN (0)) hx hb d_H_within_32 (by decide) ?_
      refine lv_istore (lv' := [(6, .int (iN (0))), (5, .ref (ra 9)), (4, .ref (ra z2.toNat)), (3, .ref (ra z.toNat)), (0, .ref h), (1, .int (iN (z))), (2, .int (iN (z2)))]) hx hb d_H_within_33 hl (by decide) rfl (fun ls hl => ?_)
      refine g_loop (σ := Int) (fun z9 => ((S z.toNat).length - z9).toNat) (fun z9 => [(0, .ref h), (1, .int (iN (z))), (2, .int (iN (z2))), (3, .ref (ra z.toNat)), (4, .ref (ra z2.toNat)), (5, .ref (ra 9)), (6, .int (iN (z9)))]) L (fun z9 => g) (fun z9 => 0 ≤ z9 ∧ z9 ≤ (S z.toNat).length ∧ ¬ wiA (S z.toNat) (hullF (S z2.toNat)) z9) ?_ 0 _ _ _ ⟨by omega, by omega, fun ⟨_, q0, q1, _⟩ => by omega⟩ w (lv_sub hl [4, 5, 6, 3, 2, 1, 0] rfl)
      intro i H locs ls hI w hl ih
      have hl : lv_has ls 7 [(0, .ref h), (1, .int (iN (z))), (2, .int (iN (z2))), (3, .ref (ra z.toNat)), (4, .ref (ra z2.toNat)), (5, .ref (ra 9)), (6, .int (iN (i)))] := hl
      have w : gw D (gA L sz) s.heap H locs L (g) := w
      have hI : 0 ≤ i ∧ i ≤ (S z.toNat).length ∧ ¬ wiA (S z.toNat) (hullF (S z2.toNat)) i := hI
      obtain ⟨h0, h1, h2⟩ := hI
      refine lv_iload hx hb d_H_within_35 (lv_at hl 6 rfl) ?_
      refine lv_aload_n hx hb d_H_within_37 rfl (lv_at hl 3 rfl) ?_
      refine g_ci w (g_runV (As := []) (rest := [.int (iN (i))]) X w (c_R_size l (G.2.2.1 z.toNat (by omega)) hqhz1) k_R_size v_R_size lk_H_72 (G.2.2.1 z.toNat (by omega)).1 hqhz1.2.1 rfl ⟨(Nat.le_of_ble_eq_true rfl), (Nat.le_of_ble_eq_true rfl)⟩ rfl hl.1 rfl (Nat.le_of_ble_eq_true rfl) d_H_within_38 ⟨Nat.zero_le _, Nat.zero_le _⟩) (fun r u H locs hp w => ?_)
      obtain ⟨rfl, rfl⟩ := hp
      have w : gw D (gA L sz) s.heap H locs L g := w
      refine ri_cge (a := i) (b := ((S z.toNat).length : Int)) (tgt := 72) hx hb d_H_within_41 (by decide) rfl rfl (by unfold i3; omega) (by unfold i3; omega) (fun c41 => ?_) (fun c41 => ?_)
      · skip
        refine lv_iconst (v := iN (1)) hx hb d_H_within_72 (by decide) ?_
        exact g_iret X w hrt hlk d_H_within_73 ⟨by rw [if_pos ⟨hz1, hz2⟩, bI_f (by rw [show ((S z.toNat).length : Int) = i by omega]; exact h2)]; rfl, ⟨g, _, rfl, hcg, hSk, hug⟩⟩
      · skip
        refine lv_aload hx hb d_H_within_44 (lv_at hl 5 rfl) ?_
        refine lv_aload_n hx hb d_H_within_46 rfl (lv_at hl 3 rfl) ?_
        refine lv_iload hx hb d_H_within_47 (lv_at hl 6 rfl) ?_
        refine g_ci w (g_runV (As := [.int (iN (i))]) (rest := [.ref (ra 9)]) X w (c_R_x l (G.2.2.1 z.toNat (by omega)) hqhz1 (by unfold i3; omega)) k_R_x v_R_x lk_H_90 (G.2.2.1 z.toNat (by omega)).1 hqhz1.2.1 rfl ⟨(Nat.le_of_ble_eq_true rfl), (Nat.le_of_ble_eq_true rfl)⟩ rfl hl.1 rfl (Nat.le_of_ble_eq_true rfl) d_H_within_49 ⟨Nat.zero_le _, Nat.zero_le _⟩) (fun r u H locs hp w => ?_)
        obtain ⟨rfl, rfl⟩ := hp
        have w : gw D (gA L sz) s.heap H locs L g := w
        refine lv_aload_n hx hb d_H_within_52 rfl (lv_at hl 3 rfl) ?_
        refine lv_iload hx hb d_H_within_53 (lv_at hl 6 rfl) ?_
        refine g_ci w (g_runV (As := [.int (iN (i))]) (rest := [.int (iN ((pX (S z.toNat) i))), .ref (ra 9)]) X w (c_R_y l (G.2.2.1 z.toNat (by omega)) hqhz1 (by unfold i3; omega)) k_R_y v_R_y lk_H_94 (G.2.2.1 z.toNat (by omega)).1 hqhz1.2.1 rfl ⟨(Nat.le_of_ble_eq_true rfl), (Nat.le_of_ble_eq_true rfl)⟩ rfl hl.1 rfl (Nat.le_of_ble_eq_true rfl) d_H_within_55 ⟨Nat.zero_le _, Nat.zero_le _⟩) (fun r u H locs hp w => ?_)
        obtain ⟨rfl, rfl⟩ := hp
        have w : gw D (gA L sz) s.heap H locs L g := w
        refine g_ci w (g_runV (As := [.int (iN ((pX (S z.toNat) i))), .int (iN ((pY (S z.toNat) i)))]) (rest := []) X w (c_R_place l (G.2.2.1 9 (by decide)) hrL hBL (by have := hBhz1 i; omega) (by have := hBhz1 i; omega)) k_R_place v_R_place lk_H_97 (G.2.2.1 9 (by decide)).1 hrL.2.1 rfl ⟨(Nat.le_of_ble_eq_true rfl), (Nat.le_of_ble_eq_true rfl)⟩ rfl hl.1 rfl (Nat.le_of_ble_eq_true rfl) d_H_within_58 ⟨Nat.zero_le _, Nat.zero_le _⟩) (fun r u H locs hp w => ?_)
        obtain ⟨rfl, rfl⟩ := hp
        have w : gw D (gA L sz) s.heap H locs L g := w
        refine ri_zne (a := (plc (hullF (S z2.toNat)) (pX (S z.toNat) i) (pY (S z.toNat) i))) (tgt := 66) hx hb d_H_within_61 (by decide) rfl (by have := plc_b (hullF (S z2.toNat)) (pX (S z.toNat) i) (pY (S z.toNat) i); unfold i3; omega) (fun c61 => ?_) (fun c61 => ?_)
        · skip
          refine lv_iinc (v := iN ((i + 1))) (lv' := [(6, .int (iN ((i + 1)))), (0, .ref h), (1, .int (iN (z))), (2, .int (iN (z2))), (3, .ref (ra z.toNat)), (4, .ref (ra z2.toNat)), (5, .ref (ra 9))]) hx hb d_H_within_66 hl (k := 6) rfl (by rw [show (i + 1) = i + (1 : Int) by omega, ← iN_add]; rfl) (by decide) rfl (fun ls hl => ?_)
          refine lv_goto (tgt := 35) hx hb d_H_within_69 (by decide) ?_
          exact ih (i + 1) _ _ _ (by omega) ⟨by omega, by omega, fun ⟨j, q0, q1, q2⟩ => by by_cases e9 : j = i; (subst e9; exact c61 q2); exact h2 ⟨j, q0, by omega, q2⟩⟩ w (lv_sub hl [1, 2, 3, 4, 5, 6, 0] rfl)
        · skip
          refine lv_iconst (v := iN (0)) hx hb d_H_within_64 (by decide) ?_
          exact g_iret X w hrt hlk d_H_within_65 ⟨by rw [if_pos ⟨hz1, hz2⟩, bI_t ⟨i, h0, by omega, by omega⟩]; rfl, ⟨g, _, rfl, hcg, hSk, hug⟩⟩
    · skip
      rw [if_neg hz2] at hr9
      subst hr9
      refine lv_astoreN (lv' := [(4, .null), (3, .ref (ra z.toNat)), (0, .ref h), (1, .int (iN (z))), (2, .int (iN (z2)))]) hx hb d_H_within_11 hl (by decide) rfl (fun ls hl => ?_)
      refine lv_aload_n hx hb d_H_within_13 rfl (lv_at hl 1 rfl) ?_
      refine lv_ifnull hx hb d_H_within_14 ?_
      refine lv_aloadN hx hb d_H_within_17 (lv_at hl 0 rfl) ?_
      refine lv_ifnonnullN hx hb d_H_within_19 ?_
      refine lv_iconst (v := iN (-1)) hx hb d_H_within_22 (by decide) ?_
      exact g_iret X w hrt hlk d_H_within_23 ⟨by rw [if_neg (fun q => hz2 q.2)], ⟨f, S, rfl, hc, fun _ _ => rfl, unch_rf⟩⟩
  · skip
    rw [if_neg hz1] at hr9
    subst hr9
    refine lv_astore_nN (lv' := [(3, .null), (0, .ref h), (1, .int (iN (z))), (2, .int (iN (z2)))]) hx hb d_H_within_5 rfl hl (by decide) rfl (fun ls hl => ?_)
    refine lv_aload_n hx hb d_H_within_6 rfl (lv_at hl 1 rfl) ?_
    refine lv_iload_n hx hb d_H_within_7 rfl (lv_at hl 3 rfl) ?_
    refine g_cq w (g_runV (As := [.int (iN (z2))]) (rest := []) X w (c_H_rowOf l G hc (z := z2) hz2) k_H_rowOf v_H_rowOf lk_H_58 G.1.1 hc.1 rfl ⟨(Nat.le_of_ble_eq_true rfl), (Nat.le_of_ble_eq_true rfl)⟩ rfl hl.1 rfl (Nat.le_of_ble_eq_true rfl) d_H_within_8 ⟨(Nat.le_of_ble_eq_true rfl), (Nat.le_of_ble_eq_true rfl)⟩) (fun r u H locs hp w => ?_)
    obtain ⟨hr9, rfl⟩ := hp
    have w : gw D (gA L sz) s.heap H locs L f := w
    by_cases hz3 : 0 ≤ z2 ∧ z2 < K
    · skip
      rw [if_pos hz3] at hr9
      subst hr9
      have hz38 : z2.toNat < 8 := by have := hc.2.2.2.2.2; omega
      have hBhz3 : pb 600 (S z2.toNat) := pb_of (by decide) (pbl_le (by decide) (hok _ (by omega)).2)
      have hlhz3 := (hok z2.toNat (by omega)).1
      refine lv_astore (lv' := [(4, .ref (ra z2.toNat)), (3, .null), (0, .ref h), (1, .int (iN (z))), (2, .int (iN (z2)))]) hx hb d_H_within_11 hl (by decide) rfl (fun ls hl => ?_)
      refine lv_aload_nN hx hb d_H_within_13 rfl (lv_at hl 1 rfl) ?_
      refine lv_ifnullN (tgt := 22) hx hb d_H_within_14 (by decide) ?_
      refine lv_iconst (v := iN (-1)) hx hb d_H_within_22 (by decide) ?_
      exact g_iret X w hrt hlk d_H_within_23 ⟨by rw [if_neg (fun q => hz1 q.1)], ⟨f, S, rfl, hc, fun _ _ => rfl, unch_rf⟩⟩
    · skip
      rw [if_neg hz3] at hr9
      subst hr9
      refine lv_astoreN (lv' := [(4, .null), (3, .null), (0, .ref h), (1, .int (iN (z))), (2, .int (iN (z2)))]) hx hb d_H_within_11 hl (by decide) rfl (fun ls hl => ?_)
      refine lv_aload_nN hx hb d_H_within_13 rfl (lv_at hl 1 rfl) ?_
      refine lv_ifnullN (tgt := 22) hx hb d_H_within_14 (by decide) ?_
      refine lv_iconst (v := iN (-1)) hx hb d_H_within_22 (by decide) ?_
      exact g_iret X w hrt hlk d_H_within_23 ⟨by rw [if_neg (fun q => hz1 q.1)], ⟨f, S, rfl, hc, fun _ _ => rfl, unch_rf⟩⟩
set_option maxHeartbeats 4000000 in
set_option maxRecDepth 100000 in
theorem c_H_told (l : Launch) {D : va_G} {cI cR : ClassId} {L : List Nat} {f : Nat → va_E} {rx ry ra : Nat → Nat} {h ar ci lo : Nat} {K t1 t2 : Int} {S : Nat → List Pt} (G : geo L rx ry ra h ar ci lo) (hc : clsIs cI cR rx ry ra h ar ci lo f K t1 t2 S) (hok : okS K S) {wh : Int} (hw3 : i3 wh) : gMi D cI cR l y_H_told (Cond.code y_H_told b_H_told 5 (some .int) :: lw_g) { frames := 1, cells := 0, slots := 0, locals := 21 } [.ref h, .int (iN (wh))] L f (fun r u => r = iN (if wh = 0 then K else if wh = 1 then tlS S K.toNat else -2) ∧ u = (L, f)) := by
  intro sz
  refine g_enter (by decide) rfl (Nat.le_of_ble_eq_true rfl) ?_
  intro p e s m below meth cd ls X hrt hlk hnm hl hsz w
  have X : gx p m cd b_H_told 5 s _ "HullSums" D cI cR := X
  have hx := X.1.1
  have hb := X.1.2.1
  have hl : lv_has ls 5 [(0, .ref h), (1, .int (iN (wh)))] := hl
  have hK := hc.2.2.2.2.2
  refine lv_iload_n hx hb d_H_told_0 rfl (lv_at hl 1 rfl) ?_
  refine ri_zne (a := wh) (tgt := 9) hx hb d_H_told_1 (by decide) rfl hw3 (fun c1 => ?_) (fun c1 => ?_)
  · skip
    refine lv_iload_n hx hb d_H_told_9 rfl (lv_at hl 1 rfl) ?_
    refine lv_iconst (v := iN (1)) hx hb d_H_told_10 (by decide) ?_
    refine ri_ceq (a := wh) (b := 1) (tgt := 17) hx hb d_H_told_11 (by decide) rfl rfl hw3 (by unfold i3; omega) (fun c11 => ?_) (fun c11 => ?_)
    · skip
      refine lv_iconst (v := iN (0)) hx hb d_H_told_17 (by decide) ?_
      refine lv_istore_n (lv' := [(2, .int (iN (0))), (0, .ref h), (1, .int (iN (wh)))]) hx hb d_H_told_18 rfl hl (by decide) rfl (fun ls hl => ?_)
      refine lv_iconst (v := iN (0)) hx hb d_H_told_19 (by decide) ?_
      refine lv_istore_n (lv' := [(3, .int (iN (0))), (2, .int (iN (0))), (0, .ref h), (1, .int (iN (wh)))]) hx hb d_H_told_20 rfl hl (by decide) rfl (fun ls hl => ?_)
      refine g_loop (σ := Int × Int) (fun z9 => (K - z9.1).toNat) (fun z9 => [(0, .ref h), (1, .int (iN (wh))), (2, .int (iN (z9.2))), (3, .int (iN (z9.1)))]) L (fun z9 => f) (fun z9 => 0 ≤ z9.1 ∧ z9.1 ≤ K ∧ z9.2 = tlS S z9.1.toNat) ?_ (0, 0) _ _ _ ⟨by omega, by omega, rfl⟩ w (lv_sub hl [2, 3, 1, 0] rfl)
      intro z9 H locs ls hI w hl ih
      obtain ⟨j, k⟩ := z9
      have hl : lv_has ls 5 [(0, .ref h), (1, .int (iN (wh))), (2, .int (iN (k))), (3, .int (iN (j)))] := hl
      have w : gw D (gA L sz) s.heap H locs L (f) := w
      have hI : 0 ≤ j ∧ j ≤ K ∧ k = tlS S j.toNat := hI
      obtain ⟨h0, h1, h2⟩ := hI
      refine lv_iload_n hx hb d_H_told_21 rfl (lv_at hl 3 rfl) ?_
      refine lv_aload_n hx hb d_H_told_22 rfl (lv_at hl 0 rfl) ?_
      refine gk_get X w G.1.1 hc.1 rfl in_H 1 (by decide) lk_H_43 rfl d_H_told_23 ?_
      refine ri_cge (a := j) (b := K) (tgt := 55) hx hb d_H_told_26 (by decide) rfl rfl (by unfold i3; omega) (by unfold i3; omega) (fun c26 => ?_) (fun c26 => ?_)
      · skip
        refine lv_iload_n hx hb d_H_told_55 rfl (lv_at hl 2 rfl) ?_
        exact g_iret X w hrt hlk d_H_told_56 ⟨by rw [if_neg (by omega), if_pos (by omega), h2, show j = K by omega], rfl⟩
      · skip
        refine lv_aload_n hx hb d_H_told_29 rfl (lv_at hl 0 rfl) ?_
        refine lv_iload_n hx hb d_H_told_30 rfl (lv_at hl 3 rfl) ?_
        refine g_cq w (g_runV (As := [.int (iN (j))]) (rest := []) X w (c_H_rowOf l G hc (z := j) (by unfold i3; omega)) k_H_rowOf v_H_rowOf lk_H_58 G.1.1 hc.1 rfl ⟨(Nat.le_of_ble_eq_true rfl), (Nat.le_of_ble_eq_true rfl)⟩ rfl hl.1 rfl (Nat.le_of_ble_eq_true rfl) d_H_told_31 ⟨(Nat.le_of_ble_eq_true rfl), (Nat.le_of_ble_eq_true rfl)⟩) (fun r u H locs hp w => ?_)
        obtain ⟨hr9, rfl⟩ := hp
        rw [if_pos (by omega)] at hr9
        subst hr9
        have w : gw D (gA L sz) s.heap H locs L f := w
        have hj8 : j.toNat < 8 := by omega
        refine lv_astore (lv' := [(4, .ref (ra j.toNat)), (0, .ref h), (1, .int (iN (wh))), (2, .int (iN (k))), (3, .int (iN (j)))]) hx hb d_H_told_34 hl (by decide) rfl (fun ls hl => ?_)
        refine lv_aload hx hb d_H_told_36 (lv_at hl 0 rfl) ?_
        refine lv_ifnull hx hb d_H_told_38 ?_
        refine lv_iload_n hx hb d_H_told_41 rfl (lv_at hl 3 rfl) ?_
        refine lv_aload hx hb d_H_told_42 (lv_at hl 0 rfl) ?_
        refine g_ci w (g_runV (As := []) (rest := [.int (iN (k))]) X w (c_R_size l (G.2.2.1 j.toNat (by omega)) (hc.2.2.1 j.toNat (by omega))) k_R_size v_R_size lk_H_72 (G.2.2.1 j.toNat (by omega)).1 (hc.2.2.1 j.toNat (by omega)).2.1 rfl ⟨(Nat.le_of_ble_eq_true rfl), (Nat.le_of_ble_eq_true rfl)⟩ rfl hl.1 rfl (Nat.le_of_ble_eq_true rfl) d_H_told_44 ⟨Nat.zero_le _, Nat.zero_le _⟩) (fun r u H locs hp w => ?_)
        obtain ⟨rfl, rfl⟩ := hp
        have w : gw D (gA L sz) s.heap H locs L f := w
        refine ri_add (a := k) (b := ((S j.toNat).length : Int)) hx hb d_H_told_47 rfl rfl ?_
        refine lv_istore_n (lv' := [(2, .int (iN ((k + ((S j.toNat).length : Int))))), (4, .ref (ra j.toNat)), (0, .ref h), (1, .int (iN (wh))), (3, .int (iN (j)))]) hx hb d_H_told_48 rfl hl (by decide) rfl (fun ls hl => ?_)
        refine lv_iinc (v := iN ((j + 1))) (lv' := [(3, .int (iN ((j + 1)))), (2, .int (iN ((k + ((S j.toNat).length : Int))))), (4, .ref (ra j.toNat)), (0, .ref h), (1, .int (iN (wh)))]) hx hb d_H_told_49 hl (k := 4) rfl (by rw [show (j + 1) = j + (1 : Int) by omega, ← iN_add]; rfl) (by decide) rfl (fun ls hl => ?_)
        refine lv_goto (tgt := 21) hx hb d_H_told_52 (by decide) ?_
        exact ih ((j + 1), (k + ((S j.toNat).length : Int))) _ _ _ (by omega) ⟨by omega, by omega, by rw [tn_s h0]; unfold tlS; rw [← h2]⟩ w (lv_sub hl [3, 4, 1, 0] rfl)
    · skip
      refine lv_bipush (v := iN (-2)) hx hb d_H_told_14 (by decide) ?_
      exact g_iret X w hrt hlk d_H_told_16 ⟨by rw [if_neg (by omega), if_neg (by omega)], rfl⟩
  · skip
    refine lv_aload_n hx hb d_H_told_4 rfl (lv_at hl 0 rfl) ?_
    refine gk_get X w G.1.1 hc.1 rfl in_H 1 (by decide) lk_H_43 rfl d_H_told_5 ?_
    exact g_iret X w hrt hlk d_H_told_8 ⟨by rw [if_pos (by omega)], rfl⟩
set_option maxHeartbeats 4000000 in
set_option maxRecDepth 100000 in
theorem c_H_supports (l : Launch) {D : va_G} {cI cR : ClassId} {L : List Nat} {f : Nat → va_E} {rx ry ra : Nat → Nat} {h ar ci lo : Nat} {K t1 t2 : Int} {S : Nat → List Pt} (G : geo L rx ry ra h ar ci lo) (hc : clsIs cI cR rx ry ra h ar ci lo f K t1 t2 S) (hok : okS K S) {z : Int} (hz : i3 z) {x y : Int} (hx3 : i3 x) (hy3 : i3 y) : gMi D cI cR l y_H_supports (Cond.code y_H_supports b_H_supports 10 (some .int) :: lw_g) { frames := 5, cells := 0, slots := 0, locals := 114 } [.ref h, .int (iN (z)), .int (iN (x)), .int (iN (y))] L f (fun r u => r = iN (if 0 ≤ z ∧ z < K then (if (-100 ≤ x ∧ x ≤ 100) ∧ (-100 ≤ y ∧ y ≤ 100) then (if (S z.toNat).length = 0 then -3 else 1) else -2) else -1) ∧ crT ((0 ≤ z ∧ z < K) ∧ ((-100 ≤ x ∧ x ≤ 100) ∧ (-100 ≤ y ∧ y ≤ 100)) ∧ (S z.toNat).length ≠ 0) (supL (hullF (S z.toNat)) x y (hullF (S z.toNat)).length).1 (supL (hullF (S z.toNat)) x y (hullF (S z.toNat)).length).2 t1 t2 (fun p q => hpost L cI cR rx ry ra h ar ci lo f K p q S u)) := by
  intro sz
  refine g_enter (by decide) rfl (Nat.le_of_ble_eq_true rfl) ?_
  intro p e s m below meth cd ls X hrt hlk hnm hl hsz w
  have X : gx p m cd b_H_supports 10 s _ "HullSums" D cI cR := X
  have hx := X.1.1
  have hb := X.1.2.1
  have hl : lv_has ls 10 [(0, .ref h), (1, .int (iN (z))), (2, .int (iN (x))), (3, .int (iN (y)))] := hl
  have hK := hc.2.2.2.2.2
  refine lv_aload_n hx hb d_H_supports_0 rfl (lv_at hl 0 rfl) ?_
  refine lv_iload_n hx hb d_H_supports_1 rfl (lv_at hl 1 rfl) ?_
  refine g_cq w (g_runV (As := [.int (iN (z))]) (rest := []) X w (c_H_rowOf l G hc (z := z) hz) k_H_rowOf v_H_rowOf lk_H_58 G.1.1 hc.1 rfl ⟨(Nat.le_of_ble_eq_true rfl), (Nat.le_of_ble_eq_true rfl)⟩ rfl hl.1 rfl (Nat.le_of_ble_eq_true rfl) d_H_supports_2 ⟨(Nat.le_of_ble_eq_true rfl), (Nat.le_of_ble_eq_true rfl)⟩) (fun r u H locs hp w => ?_)
  obtain ⟨hr9, rfl⟩ := hp
  have w : gw D (gA L sz) s.heap H locs L f := w
  by_cases hz1 : 0 ≤ z ∧ z < K
  · skip
    rw [if_pos hz1] at hr9
    subst hr9
    have hz18 : z.toNat < 8 := by have := hc.2.2.2.2.2; omega
    have hBhz1 : pb 600 (S z.toNat) := pb_of (by decide) (pbl_le (by decide) (hok _ (by omega)).2)
    have hlhz1 := (hok z.toNat (by omega)).1
    refine lv_astore (lv' := [(4, .ref (ra z.toNat)), (0, .ref h), (1, .int (iN (z))), (2, .int (iN (x))), (3, .int (iN (y)))]) hx hb d_H_supports_5 hl (by decide) rfl (fun ls hl => ?_)
    refine lv_aload hx hb d_H_supports_7 (lv_at hl 0 rfl) ?_
    refine lv_ifnonnull (tgt := 14) hx hb d_H_supports_9 (by decide) ?_
    refine lv_iload_n hx hb d_H_supports_14 rfl (lv_at hl 3 rfl) ?_
    refine lv_bipush (v := iN (100)) hx hb d_H_supports_15 (by decide) ?_
    refine g_ci w (g_runS (As := [.int (iN (x)), .int (iN (100))]) (rest := []) X w (c_H_isNear l hx3 (by omega)) k_H_isNear lk_H_65 st_H_isNear ⟨(Nat.le_of_ble_eq_true rfl), (Nat.le_of_ble_eq_true rfl)⟩ rfl hl.1 rfl (Nat.le_of_ble_eq_true rfl) d_H_supports_17 ⟨Nat.zero_le _, Nat.zero_le _⟩) (fun r u H locs hp w => ?_)
    obtain ⟨rfl, rfl⟩ := hp
    have w : gw D (gA L sz) s.heap H locs L f := w
    refine ri_zeq (a := (bI (-100 ≤ x ∧ x ≤ 100))) (tgt := 32) hx hb d_H_supports_20 (by decide) rfl (bI_3 _) (fun c20 => ?_) (fun c20 => ?_)
    · skip
      refine lv_bipush (v := iN (-2)) hx hb d_H_supports_32 (by decide) ?_
      exact g_iret X w hrt hlk d_H_supports_34 ⟨by rw [if_pos hz1, if_neg (fun q => by first | exact bI_0 c20 q.1 | exact bI_0 (by omega) q.2)], by unfold crT; rw [if_neg (fun q => by first | exact bI_0 c20 q.2.1.1 | exact bI_0 (by omega) q.2.1.2)]; exact ⟨f, S, rfl, hc, fun _ _ => rfl, unch_rf⟩⟩
    · skip
      refine lv_iload_n hx hb d_H_supports_23 rfl (lv_at hl 4 rfl) ?_
      refine lv_bipush (v := iN (100)) hx hb d_H_supports_24 (by decide) ?_
      refine g_ci w (g_runS (As := [.int (iN (y)), .int (iN (100))]) (rest := []) X w (c_H_isNear l hy3 (by omega)) k_H_isNear lk_H_65 st_H_isNear ⟨(Nat.le_of_ble_eq_true rfl), (Nat.le_of_ble_eq_true rfl)⟩ rfl hl.1 rfl (Nat.le_of_ble_eq_true rfl) d_H_supports_26 ⟨Nat.zero_le _, Nat.zero_le _⟩) (fun r u H locs hp w => ?_)
      obtain ⟨rfl, rfl⟩ := hp
      have w : gw D (gA L sz) s.heap H locs L f := w
      refine ri_zne (a := (bI (-100 ≤ y ∧ y ≤ 100))) (tgt := 35) hx hb d_H_supports_29 (by decide) rfl (bI_3 _) (fun c29 => ?_) (fun c29 => ?_)
      · skip
        refine lv_aload hx hb d_H_supports_35 (lv_at hl 0 rfl) ?_
        refine g_ci w (g_runV (As := []) (rest := []) X w (c_R_size l (G.2.2.1 z.toNat (by omega)) (hc.2.2.1 z.toNat (by omega))) k_R_size v_R_size lk_H_72 (G.2.2.1 z.toNat (by omega)).1 (hc.2.2.1 z.toNat (by omega)).2.1 rfl ⟨(Nat.le_of_ble_eq_true rfl), (Nat.le_of_ble_eq_true rfl)⟩ rfl hl.1 rfl (Nat.le_of_ble_eq_true rfl) d_H_supports_37 ⟨Nat.zero_le _, Nat.zero_le _⟩) (fun r u H locs hp w => ?_)
        obtain ⟨rfl, rfl⟩ := hp
        have w : gw D (gA L sz) s.heap H locs L f := w
        refine ri_zne (a := ((S z.toNat).length : Int)) (tgt := 46) hx hb d_H_supports_40 (by decide) rfl (by unfold i3; omega) (fun c40 => ?_) (fun c40 => ?_)
        · skip
          refine lv_aload_n hx hb d_H_supports_46 rfl (lv_at hl 1 rfl) ?_
          refine lv_aload hx hb d_H_supports_47 (lv_at hl 0 rfl) ?_
          refine g_cq w (g_runV (As := [.ref (ra z.toNat)]) (rest := []) X w (c_H_hullOf l G hc (i := z.toNat) (by omega) (pbl_le (by decide) (hok _ (by omega)).2) (hok _ (by omega)).1) k_H_hullOf v_H_hullOf lk_H_80 G.1.1 hc.1 rfl ⟨(Nat.le_of_ble_eq_true rfl), (Nat.le_of_ble_eq_true rfl)⟩ rfl hl.1 rfl (Nat.le_of_ble_eq_true rfl) d_H_supports_49 ⟨(Nat.le_of_ble_eq_true rfl), (Nat.le_of_ble_eq_true rfl)⟩) (fun r u H locs hp w => ?_)
          obtain ⟨rfl, g, rfl, hcg, hug⟩ := hp
          have w : gw D (gA L sz) s.heap H locs L g := w
          have hrL : rowIs cI rx ry g (ra 9) (hullF (S z.toNat)) := by have h9 := hcg.2.2.1 9 (by decide); rw [su_s] at h9; exact h9
          have hSk : ∀ j, j < 8 → supd (supd S 8 (sortF (S z.toNat))) 9 (hullF (S z.toNat)) j = S j := fun j hj => by rw [su_n (by omega), su_n (by omega)]
          have hBL3 : pb 300 (hullF (S z.toNat)) := pb_of (by decide) (pbl_hull (hok _ (by omega)).2)
          have hBL : pb 600 (hullF (S z.toNat)) := pb_of (by decide) (pbl_le (by decide) (pbl_hull (hok _ (by omega)).2))
          have hn48 := hrL.1
          have hqhz1 : rowIs cI rx ry g (ra z.toNat) (S z.toNat) := by have h9 := hcg.2.2.1 z.toNat (by omega); rw [hSk _ (by omega)] at h9; exact h9
          refine lv_astore (lv' := [(5, .ref (ra 9)), (4, .ref (ra z.toNat)), (0, .ref h), (1, .int (iN (z))), (2, .int (iN (x))), (3, .int (iN (y)))]) hx hb d_H_supports_52 hl (by decide) rfl (fun ls hl => ?_)
          refine lv_iconst (v := iN (0)) hx hb d_H_supports_54 (by decide) ?_
          refine lv_istore (lv' := [(6, .int (iN (0))), (5, .ref (ra 9)), (4, .ref (ra z.toNat)), (0, .ref h), (1, .int (iN (z))), (2, .int (iN (x))), (3, .int (iN (y)))]) hx hb d_H_supports_55 hl (by decide) rfl (fun ls hl => ?_)
          refine lv_iconst (v := iN (0)) hx hb d_H_supports_57 (by decide) ?_
          refine lv_istore (lv' := [(7, .int (iN (0))), (6, .int (iN (0))), (5, .ref (ra 9)), (4, .ref (ra z.toNat)), (0, .ref h), (1, .int (iN (z))), (2, .int (iN (x))), (3, .int (iN (y)))]) hx hb d_H_supports_58 hl (by decide) rfl (fun ls hl => ?_)
          refine lv_iconst (v := iN (0)) hx hb d_H_supports_60 (by decide) ?_
          refine lv_istore (lv' := [(8, .int (iN (0))), (7, .int (iN (0))), (6, .int (iN (0))), (5, .ref (ra 9)), (4, .ref (ra z.toNat)), (0, .ref h), (1, .int (iN (z))), (2, .int (iN (x))), (3, .int (iN (y)))]) hx hb d_H_supports_61 hl (by decide) rfl (fun ls hl => ?_)
          refine g_loop (σ := Int × Int × Int) (fun z9 => ((hullF (S z.toNat)).length - z9.1).toNat) (fun z9 => [(0, .ref h), (1, .int (iN (z))), (2, .int (iN (x))), (3, .int (iN (y))), (4, .ref (ra z.toNat)), (5, .ref (ra 9)), (6, .int (iN (z9.2.1))), (7, .int (iN (z9.2.2))), (8, .int (iN (z9.1)))]) L (fun z9 => g) (fun z9 => 0 ≤ z9.1 ∧ z9.1 ≤ (hullF (S z.toNat)).length ∧ (z9.2.1, z9.2.2) = supL (hullF (S z.toNat)) x y z9.1.toNat) ?_ (0, 0, 0) _ _ _ ⟨by omega, by omega, rfl⟩ w (lv_sub hl [5, 6, 7, 8, 4, 3, 2, 1, 0] rfl)
          intro z9 H locs ls hI w hl ih
          obtain ⟨i, m0, k⟩ := z9
          have hl : lv_has ls 10 [(0, .ref h), (1, .int (iN (z))), (2, .int (iN (x))), (3, .int (iN (y))), (4, .ref (ra z.toNat)), (5, .ref (ra 9)), (6, .int (iN (m0))), (7, .int (iN (k))), (8, .int (iN (i)))] := hl
          have w : gw D (gA L sz) s.heap H locs L (g) := w
          have hI : 0 ≤ i ∧ i ≤ (hullF (S z.toNat)).length ∧ (m0, k) = supL (hullF (S z.toNat)) x y i.toNat := hI
          obtain ⟨h0, h1, h2⟩ := hI
          have hsb := supL_b hBL3 (bI_n c20) (bI_n c29) i.toNat (H := (hullF (S z.toNat)))
          rw [← h2] at hsb
          dsimp only at hsb
          have hdb := dot_b hBL3 (bI_n c20) (bI_n c29) i
          refine lv_iload hx hb d_H_supports_63 (lv_at hl 8 rfl) ?_
          refine lv_aload hx hb d_H_supports_65 (lv_at hl 5 rfl) ?_
          refine g_ci w (g_runV (As := []) (rest := [.int (iN (i))]) X w (c_R_size l (G.2.2.1 9 (by decide)) hrL) k_R_size v_R_size lk_H_72 (G.2.2.1 9 (by decide)).1 hrL.2.1 rfl ⟨(Nat.le_of_ble_eq_true rfl), (Nat.le_of_ble_eq_true rfl)⟩ rfl hl.1 rfl (Nat.le_of_ble_eq_true rfl) d_H_supports_67 ⟨Nat.zero_le _, Nat.zero_le _⟩) (fun r u H locs hp w => ?_)
          obtain ⟨rfl, rfl⟩ := hp
          have w : gw D (gA L sz) s.heap H locs L g := w
          refine ri_cge (a := i) (b := ((hullF (S z.toNat)).length : Int)) (tgt := 132) hx hb d_H_supports_70 (by decide) rfl rfl (by unfold i3; omega) (by unfold i3; omega) (fun c70 => ?_) (fun c70 => ?_)
          · skip
            refine lv_aload_n hx hb d_H_supports_132 rfl (lv_at hl 0 rfl) ?_
            refine lv_iload hx hb d_H_supports_133 (lv_at hl 6 rfl) ?_
            refine ri_i2l (a := m0) hx hb d_H_supports_135 rfl (by unfold i3; omega) ?_
            refine lv_iload hx hb d_H_supports_136 (lv_at hl 7 rfl) ?_
            refine ri_i2l (a := k) hx hb d_H_supports_138 rfl (by unfold i3; omega) ?_
            refine g_cv w (g_runV (As := [.long (jN (m0)), .long (jN (k))]) (rest := []) X w (c_H_tell l G hcg (x := m0) (y := k)) k_H_tell v_H_tell lk_H_54 G.1.1 hcg.1 rfl ⟨(Nat.le_of_ble_eq_true rfl), (Nat.le_of_ble_eq_true rfl)⟩ rfl hl.1 rfl (Nat.le_of_ble_eq_true rfl) d_H_supports_139 ⟨(Nat.le_of_ble_eq_true rfl), (Nat.le_of_ble_eq_true rfl)⟩) (fun u H locs hp w => ?_)
            obtain rfl := hp
            obtain ⟨hct, hut⟩ := cls_obj G hcg (K' := K) (t1' := m0) (t2' := k) (by omega)
            refine lv_iconst (v := iN (1)) hx hb d_H_supports_142 (by decide) ?_
            exact g_iret X w hrt hlk d_H_supports_143 ⟨by rw [if_pos hz1, if_pos ⟨bI_n c20, bI_n c29⟩, if_neg (by omega)], by unfold crT; rw [if_pos ⟨hz1, ⟨bI_n c20, bI_n c29⟩, by omega⟩, show (hullF (S z.toNat)).length = i.toNat by omega, ← h2]; exact ⟨_, _, rfl, hct, hSk, unch_tr hug hut⟩⟩
          · skip
            refine lv_iload_n hx hb d_H_supports_73 rfl (lv_at hl 2 rfl) ?_
            refine lv_aload hx hb d_H_supports_74 (lv_at hl 5 rfl) ?_
            refine lv_iload hx hb d_H_supports_76 (lv_at hl 8 rfl) ?_
            refine g_ci w (g_runV (As := [.int (iN (i))]) (rest := [.int (iN (x))]) X w (c_R_x l (G.2.2.1 9 (by decide)) hrL (by unfold i3; omega)) k_R_x v_R_x lk_H_90 (G.2.2.1 9 (by decide)).1 hrL.2.1 rfl ⟨(Nat.le_of_ble_eq_true rfl), (Nat.le_of_ble_eq_true rfl)⟩ rfl hl.1 rfl (Nat.le_of_ble_eq_true rfl) d_H_supports_78 ⟨Nat.zero_le _, Nat.zero_le _⟩) (fun r u H locs hp w => ?_)
            obtain ⟨rfl, rfl⟩ := hp
            have w : gw D (gA L sz) s.heap H locs L g := w
            refine ri_mul (a := x) (b := (pX (hullF (S z.toNat)) i)) hx hb d_H_supports_81 rfl rfl ?_
            refine lv_iload_n hx hb d_H_supports_82 rfl (lv_at hl 3 rfl) ?_
            refine lv_aload hx hb d_H_supports_83 (lv_at hl 5 rfl) ?_
            refine lv_iload hx hb d_H_supports_85 (lv_at hl 8 rfl) ?_
            refine g_ci w (g_runV (As := [.int (iN (i))]) (rest := [.int (iN (y)), .int (iN ((x * (pX (hullF (S z.toNat)) i))))]) X w (c_R_y l (G.2.2.1 9 (by decide)) hrL (by unfold i3; omega)) k_R_y v_R_y lk_H_94 (G.2.2.1 9 (by decide)).1 hrL.2.1 rfl ⟨(Nat.le_of_ble_eq_true rfl), (Nat.le_of_ble_eq_true rfl)⟩ rfl hl.1 rfl (Nat.le_of_ble_eq_true rfl) d_H_supports_87 ⟨Nat.zero_le _, Nat.zero_le _⟩) (fun r u H locs hp w => ?_)
            obtain ⟨rfl, rfl⟩ := hp
            have w : gw D (gA L sz) s.heap H locs L g := w
            refine ri_mul (a := y) (b := (pY (hullF (S z.toNat)) i)) hx hb d_H_supports_90 rfl rfl ?_
            refine ri_add (a := (x * (pX (hullF (S z.toNat)) i))) (b := (y * (pY (hullF (S z.toNat)) i))) hx hb d_H_supports_91 rfl rfl ?_
            refine lv_istore (lv' := [(9, .int (iN (((x * (pX (hullF (S z.toNat)) i)) + (y * (pY (hullF (S z.toNat)) i)))))), (0, .ref h), (1, .int (iN (z))), (2, .int (iN (x))), (3, .int (iN (y))), (4, .ref (ra z.toNat)), (5, .ref (ra 9)), (6, .int (iN (m0))), (7, .int (iN (k))), (8, .int (iN (i)))]) hx hb d_H_supports_92 hl (by decide) rfl (fun ls hl => ?_)
            refine lv_iload hx hb d_H_supports_94 (lv_at hl 8 rfl) ?_
            refine ri_zeq (a := k) (tgt := 106) hx hb d_H_supports_96 (by decide) rfl (by unfold i3; omega) (fun c96 => ?_) (fun c96 => ?_)
            · skip
              refine lv_iload hx hb d_H_supports_106 (lv_at hl 0 rfl) ?_
              refine lv_istore (lv' := [(6, .int (iN (((x * (pX (hullF (S z.toNat)) i)) + (y * (pY (hullF (S z.toNat)) i)))))), (9, .int (iN (((x * (pX (hullF (S z.toNat)) i)) + (y * (pY (hullF (S z.toNat)) i)))))), (0, .ref h), (1, .int (iN (z))), (2, .int (iN (x))), (3, .int (iN (y))), (4, .ref (ra z.toNat)), (5, .ref (ra 9)), (7, .int (iN (k))), (8, .int (iN (i)))]) hx hb d_H_supports_108 hl (by decide) rfl (fun ls hl => ?_)
              refine lv_iconst (v := iN (1)) hx hb d_H_supports_110 (by decide) ?_
              refine lv_istore (lv' := [(7, .int (iN (1))), (6, .int (iN (((x * (pX (hullF (S z.toNat)) i)) + (y * (pY (hullF (S z.toNat)) i)))))), (9, .int (iN (((x * (pX (hullF (S z.toNat)) i)) + (y * (pY (hullF (S z.toNat)) i)))))), (0, .ref h), (1, .int (iN (z))), (2, .int (iN (x))), (3, .int (iN (y))), (4, .ref (ra z.toNat)), (5, .ref (ra 9)), (8, .int (iN (i)))]) hx hb d_H_supports_111 hl (by decide) rfl (fun ls hl => ?_)
              refine lv_goto (tgt := 126) hx hb d_H_supports_113 (by decide) ?_
              refine lv_iinc (v := iN ((i + 1))) (lv' := [(8, .int (iN ((i + 1)))), (7, .int (iN (1))), (6, .int (iN (((x * (pX (hullF (S z.toNat)) i)) + (y * (pY (hullF (S z.toNat)) i)))))), (9, .int (iN (((x * (pX (hullF (S z.toNat)) i)) + (y * (pY (hullF (S z.toNat)) i)))))), (0, .ref h), (1, .int (iN (z))), (2, .int (iN (x))), (3, .int (iN (y))), (4, .ref (ra z.toNat)), (5, .ref (ra 9))]) hx hb d_H_supports_126 hl (k := 9) rfl (by rw [show (i + 1) = i + (1 : Int) by omega, ← iN_add]; rfl) (by decide) rfl (fun ls hl => ?_)
              refine lv_goto (tgt := 63) hx hb d_H_supports_129 (by decide) ?_
              exact ih ((i + 1), ((x * (pX (hullF (S z.toNat)) i)) + (y * (pY (hullF (S z.toNat)) i))), 1) _ _ _ (by omega) ⟨by omega, by omega, by rw [tn_s h0]; unfold supL; rw [← h2, tn_c h0]; dsimp only; rw [if_pos (by omega)]⟩ w (lv_sub hl [4, 5, 6, 7, 8, 9, 2, 1, 0] rfl)
            · skip
              refine lv_iload hx hb d_H_supports_99 (lv_at hl 0 rfl) ?_
              refine lv_iload hx hb d_H_supports_101 (lv_at hl 7 rfl) ?_
              refine ri_cle (a := ((x * (pX (hullF (S z.toNat)) i)) + (y * (pY (hullF (S z.toNat)) i)))) (b := m0) (tgt := 116) hx hb d_H_supports_103 (by decide) rfl rfl (by unfold i3; omega) (by unfold i3; omega) (fun c103 => ?_) (fun c103 => ?_)
              · skip
                refine lv_iload hx hb d_H_supports_116 (lv_at hl 0 rfl) ?_
                refine lv_iload hx hb d_H_supports_118 (lv_at hl 7 rfl) ?_
                refine ri_cne (a := ((x * (pX (hullF (S z.toNat)) i)) + (y * (pY (hullF (S z.toNat)) i)))) (b := m0) (tgt := 126) hx hb d_H_supports_120 (by decide) rfl rfl (by unfold i3; omega) (by unfold i3; omega) (fun c120 => ?_) (fun c120 => ?_)
                · skip
                  refine lv_iinc (v := iN ((i + 1))) (lv' := [(8, .int (iN ((i + 1)))), (9, .int (iN (((x * (pX (hullF (S z.toNat)) i)) + (y * (pY (hullF (S z.toNat)) i)))))), (0, .ref h), (1, .int (iN (z))), (2, .int (iN (x))), (3, .int (iN (y))), (4, .ref (ra z.toNat)), (5, .ref (ra 9)), (6, .int (iN (m0))), (7, .int (iN (k)))]) hx hb d_H_supports_126 hl (k := 9) rfl (by rw [show (i + 1) = i + (1 : Int) by omega, ← iN_add]; rfl) (by decide) rfl (fun ls hl => ?_)
                  refine lv_goto (tgt := 63) hx hb d_H_supports_129 (by decide) ?_
                  exact ih ((i + 1), m0, k) _ _ _ (by omega) ⟨by omega, by omega, by rw [tn_s h0]; unfold supL; rw [← h2, tn_c h0]; dsimp only; rw [if_neg (by omega), if_neg (by omega)]⟩ w (lv_sub hl [2, 3, 4, 5, 6, 7, 8, 9, 0] rfl)
                · skip
                  refine lv_iinc (v := iN ((k + 1))) (lv' := [(7, .int (iN ((k + 1)))), (9, .int (iN (((x * (pX (hullF (S z.toNat)) i)) + (y * (pY (hullF (S z.toNat)) i)))))), (0, .ref h), (1, .int (iN (z))), (2, .int (iN (x))), (3, .int (iN (y))), (4, .ref (ra z.toNat)), (5, .ref (ra 9)), (6, .int (iN (m0))), (8, .int (iN (i)))]) hx hb d_H_supports_123 hl (k := 8) rfl (by rw [show (k + 1) = k + (1 : Int) by omega, ← iN_add]; rfl) (by decide) rfl (fun ls hl => ?_)
                  refine lv_iinc (v := iN ((i + 1))) (lv' := [(8, .int (iN ((i + 1)))), (7, .int (iN ((k + 1)))), (9, .int (iN (((x * (pX (hullF (S z.toNat)) i)) + (y * (pY (hullF (S z.toNat)) i)))))), (0, .ref h), (1, .int (iN (z))), (2, .int (iN (x))), (3, .int (iN (y))), (4, .ref (ra z.toNat)), (5, .ref (ra 9)), (6, .int (iN (m0)))]) hx hb d_H_supports_126 hl (k := 9) rfl (by rw [show (i + 1) = i + (1 : Int) by omega, ← iN_add]; rfl) (by decide) rfl (fun ls hl => ?_)
                  refine lv_goto (tgt := 63) hx hb d_H_supports_129 (by decide) ?_
                  exact ih ((i + 1), m0, (k + 1)) _ _ _ (by omega) ⟨by omega, by omega, by rw [tn_s h0]; unfold supL; rw [← h2, tn_c h0]; dsimp only; rw [if_neg (by omega), if_pos (by omega)]⟩ w (lv_sub hl [3, 4, 5, 6, 7, 8, 9, 1, 0] rfl)
              · skip
                refine lv_iload hx hb d_H_supports_106 (lv_at hl 0 rfl) ?_
                refine lv_istore (lv' := [(6, .int (iN (((x * (pX (hullF (S z.toNat)) i)) + (y * (pY (hullF (S z.toNat)) i)))))), (9, .int (iN (((x * (pX (hullF (S z.toNat)) i)) + (y * (pY (hullF (S z.toNat)) i)))))), (0, .ref h), (1, .int (iN (z))), (2, .int (iN (x))), (3, .int (iN (y))), (4, .ref (ra z.toNat)), (5, .ref (ra 9)), (7, .int (iN (k))), (8, .int (iN (i)))]) hx hb d_H_supports_108 hl (by decide) rfl (fun ls hl => ?_)
                refine lv_iconst (v := iN (1)) hx hb d_H_supports_110 (by decide) ?_
                refine lv_istore (lv' := [(7, .int (iN (1))), (6, .int (iN (((x * (pX (hullF (S z.toNat)) i)) + (y * (pY (hullF (S z.toNat)) i)))))), (9, .int (iN (((x * (pX (hullF (S z.toNat)) i)) + (y * (pY (hullF (S z.toNat)) i)))))), (0, .ref h), (1, .int (iN (z))), (2, .int (iN (x))), (3, .int (iN (y))), (4, .ref (ra z.toNat)), (5, .ref (ra 9)), (8, .int (iN (i)))]) hx hb d_H_supports_111 hl (by decide) rfl (fun ls hl => ?_)
                refine lv_goto (tgt := 126) hx hb d_H_supports_113 (by decide) ?_
                refine lv_iinc (v := iN ((i + 1))) (lv' := [(8, .int (iN ((i + 1)))), (7, .int (iN (1))), (6, .int (iN (((x * (pX (hullF (S z.toNat)) i)) + (y * (pY (hullF (S z.toNat)) i)))))), (9, .int (iN (((x * (pX (hullF (S z.toNat)) i)) + (y * (pY (hullF (S z.toNat)) i)))))), (0, .ref h), (1, .int (iN (z))), (2, .int (iN (x))), (3, .int (iN (y))), (4, .ref (ra z.toNat)), (5, .ref (ra 9))]) hx hb d_H_supports_126 hl (k := 9) rfl (by rw [show (i + 1) = i + (1 : Int) by omega, ← iN_add]; rfl) (by decide) rfl (fun ls hl => ?_)
                refine lv_goto (tgt := 63) hx hb d_H_supports_129 (by decide) ?_
                exact ih ((i + 1), ((x * (pX (hullF (S z.toNat)) i)) + (y * (pY (hullF (S z.toNat)) i))), 1) _ _ _ (by omega) ⟨by omega, by omega, by rw [tn_s h0]; unfold supL; rw [← h2, tn_c h0]; dsimp only; rw [if_pos (by omega)]⟩ w (lv_sub hl [4, 5, 6, 7, 8, 9, 2, 1, 0] rfl)
        · skip
          refine lv_bipush (v := iN (-3)) hx hb d_H_supports_43 (by decide) ?_
          exact g_iret X w hrt hlk d_H_supports_45 ⟨by rw [if_pos hz1, if_pos ⟨bI_n c20, bI_n c29⟩, if_pos (by omega)], by unfold crT; rw [if_neg (fun q => q.2.2 (by omega))]; exact ⟨f, S, rfl, hc, fun _ _ => rfl, unch_rf⟩⟩
      · skip
        refine lv_bipush (v := iN (-2)) hx hb d_H_supports_32 (by decide) ?_
        exact g_iret X w hrt hlk d_H_supports_34 ⟨by rw [if_pos hz1, if_neg (fun q => by first | exact bI_0 c20 q.1 | exact bI_0 (by omega) q.2)], by unfold crT; rw [if_neg (fun q => by first | exact bI_0 c20 q.2.1.1 | exact bI_0 (by omega) q.2.1.2)]; exact ⟨f, S, rfl, hc, fun _ _ => rfl, unch_rf⟩⟩
  · skip
    rw [if_neg hz1] at hr9
    subst hr9
    refine lv_astoreN (lv' := [(4, .null), (0, .ref h), (1, .int (iN (z))), (2, .int (iN (x))), (3, .int (iN (y)))]) hx hb d_H_supports_5 hl (by decide) rfl (fun ls hl => ?_)
    refine lv_aloadN hx hb d_H_supports_7 (lv_at hl 0 rfl) ?_
    refine lv_ifnonnullN hx hb d_H_supports_9 ?_
    refine lv_iconst (v := iN (-1)) hx hb d_H_supports_12 (by decide) ?_
    exact g_iret X w hrt hlk d_H_supports_13 ⟨by rw [if_neg hz1], by unfold crT; rw [if_neg (fun q => hz1 q.1)]; exact ⟨f, S, rfl, hc, fun _ _ => rfl, unch_rf⟩⟩
