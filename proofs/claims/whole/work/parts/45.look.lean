/-! the picture along an axis -/
def axU (a : Nat) : Nat := if a = 0 then 1 else 0
def axV (a : Nat) : Nat := if a = 2 then 1 else 2
def uOf (S : Sst) (a : Nat) : Nat → Int32 := fun i => S.2.1 (3 * i + axU a)
def vOf (S : Sst) (a : Nat) : Nat → Int32 := fun i => S.2.1 (3 * i + axV a)
theorem axU_le {a : Nat} : axU a ≤ 2 := by unfold axU; split <;> omega
theorem axV_le {a : Nat} : axV a ≤ 2 := by unfold axV; split <;> omega
theorem ax_3 {a : Nat} (h : a < 3) : a = 0 ∨ a = 1 ∨ a = 2 := by omega
theorem s_axU {a : Nat} {w : Wd} (h : a < 3) : fX8_axisOfU [.int (nI a)] w = some (some (.int (nI (axU a))), w) := by
  rw [s_axisOfU]
  rcases ax_3 h with rfl | rfl | rfl <;> rfl
theorem s_axV {a : Nat} {w : Wd} (h : a < 3) : fX8_axisOfV [.int (nI a)] w = some (some (.int (nI (axV a))), w) := by
  rw [s_axisOfV]
  rcases ax_3 h with rfl | rfl | rfl <;> rfl
abbrev isV (w : Wd) (v : Nat) : Prop := shp w v = (6, 0) ∧ rdR w v 0 = some (v + 1) ∧ rdR w v 1 = some (v + 2) ∧ rdR w v 2 = some (v + 3) ∧ shp w (v + 1) = (10, 10) ∧ shp w (v + 2) = (10, 10) ∧ shp w (v + 3) = (10, 10)
theorem isV.fr {w u : Wd} {lo hi v : Nat} (h : isV w v) (f : Fr lo hi w u) (hd : v < lo ∨ hi ≤ v) : isV u v := by
  have e2 : ∀ j, rdR u v j = rdR w v j := fun j => f.R hd
  unfold isV
  simp only [f.shp, e2]
  exact h
def vIs (w : Wd) (v n : Nat) (U V : Nat → Int32) : Prop := isV w v ∧ rdI w v 3 = nI n ∧ n ≤ 10 ∧ ∀ i, i < n → rdI w (v + 1) i = U i ∧ rdI w (v + 2) i = V i
theorem vIs.fr {w u : Wd} {lo hi v n : Nat} {U V : Nat → Int32} (h : vIs w v n U V) (f : Fr lo hi w u) (hd : v + 3 ≤ lo ∨ hi ≤ v) : vIs u v n U V := by
  obtain ⟨h1, h2, h3, h4⟩ := h
  exact ⟨h1.fr f (by omega), by rw [f.I (by omega)]; exact h2, h3, fun i hi => by rw [f.I (by omega), f.I (by omega)]; exact h4 i hi⟩
def apV (w : Wd) (v n : Nat) (x y : Int32) : Wd := wrI (wrI (wrI w (v + 1) n x) (v + 2) n y) v 3 (nI (n + 1))
theorem s_v_append {w : Wd} {v n : Nat} {x y : Int32} (h : isV w v) (hn : rdI w v 3 = nI n) (h10 : n < 10) : fX6_append [.ref v, .int x, .int y] w = some (none, apV w v n x y) := by
  have h1 : nI n < 10 := nI_lt (b := 10) (by omega) (by decide)
  have n1 : ¬ v = v + 1 := by omega
  have n2 : ¬ v = v + 2 := by omega
  refine sem_eq (Nat.le_of_ble_eq_true rfl) ?_
  show wp mX6_append 0 [some (.ref v), some (.int x), some (.int y)] [] _ _
  simp only [eX6_append_0, eX6_append_1, eX6_append_4, eX6_append_6, eX6_append_9, eX6_append_10, eX6_append_13, eX6_append_14, eX6_append_17, eX6_append_18, eX6_append_19, eX6_append_20, eX6_append_23, eX6_append_24, eX6_append_27, eX6_append_28, eX6_append_29, eX6_append_30, eX6_append_30i, eX6_append_31, eX6_append_34, eX6_append_35, eX6_append_36, eX6_append_39, cont_some, tl_some, tl_none, csum_nil, csum_i, csum_r, csum_j, isc2_i, isc2_r, isc2_n, va_rf_s, vfn_ite, true_and, and_true, true_or, or_true, eq_self, Bool.false_eq_true, not_false_eq_true, not_true_eq_false, if_true, if_false, Nat.reduceAdd, Nat.reduceLeDiff, reduceIte, h.1, h.2.1, h.2.2.1, h.2.2.2.1, h.2.2.2.2.1, h.2.2.2.2.2.1, hn, h1, shp_wrI, rdR_wrI, rdI_wrI, n1, n2, false_and, inA_nI h10 (show 10 < 2147483648 by omega), nI_clamp (show n < 2 ^ 31 by omega), nI_1, apV]
theorem apV_is {w : Wd} {v n : Nat} {U V : Nat → Int32} (h : vIs w v n U V) (h10 : n < 10) : vIs (apV w v n (U n) (V n)) v (n + 1) U V := by
  obtain ⟨h1, h2, h3, h4⟩ := h
  refine ⟨h1, by simp [apV, rdI_wrI], by omega, fun i hi => ?_⟩
  unfold apV
  by_cases e : i = n
  · subst e
    constructor
    · rw [rdI_wrI, if_neg (by omega), rdI_wrI, if_neg (by omega), rdI_wrI, if_pos ⟨rfl, rfl⟩]
    · rw [rdI_wrI, if_neg (by omega), rdI_wrI, if_pos ⟨rfl, rfl⟩]
  · constructor
    · rw [rdI_wrI, if_neg (by omega), rdI_wrI, if_neg (by omega), rdI_wrI, if_neg (by omega)]; exact (h4 i (by omega)).1
    · rw [rdI_wrI, if_neg (by omega), rdI_wrI, if_neg (by omega), rdI_wrI, if_neg (by omega)]; exact (h4 i (by omega)).2
theorem apV_fr {w : Wd} {v n : Nat} {x y : Int32} : Fr v (v + 3) w (apV w v n x y) := ((Fr.rf.wrI ⟨by omega, by omega⟩).wrI ⟨by omega, by omega⟩).wrI ⟨by omega, by omega⟩
theorem lo_look {w0 : Wd} {v sc a : Nat} {S : Sst} (ha : a < 3) (hd : sc + 2 ≤ v ∨ v + 3 ≤ sc) : ∀ (d i : Nat) (w : Wd), i + d = S.1 → scIs w sc S → vIs w v i (uOf S a) (vOf S a) → Fr v (v + 3) w0 w →
    wp mX6_look 6 [some (.ref v), some (.ref sc), some (.int (nI a)), some (.int (nI i))] [] w (fun r u => r = none ∧ vIs u v S.1 (uOf S a) (vOf S a) ∧ Fr v (v + 3) w0 u) := by
  intro d
  induction d with
  | zero =>
    intro i w hi hs hv hF
    have e : i = S.1 := by omega
    subst e
    have h1 : ¬ nI S.1 < nI S.1 := Int32.lt_irrefl
    simp only [eX6_look_6, eX6_look_7, eX6_look_8, eX6_look_11, eX6_look_42, cont_some, tl_some, tl_none, csum_nil, csum_i, csum_r, csum_j, isc2_i, isc2_r, isc2_n, va_rf_s, vfn_ite, true_and, and_true, true_or, or_true, eq_self, Bool.false_eq_true, not_false_eq_true, not_true_eq_false, if_true, if_false, Nat.reduceAdd, Nat.reduceLeDiff, reduceIte, hs.1.1, hs.2.1, h1]
    exact ⟨hv, hF⟩
  | succ d ih =>
    intro i w hi hs hv hF
    have h10 := hs.2.2.1
    have h1 : nI i < nI S.1 := nI_lt (by omega) (by omega)
    have u2 := axU_le (a := a)
    have v2 := axV_le (a := a)
    simp only [eX6_look_6, eX6_look_7, eX6_look_8, eX6_look_11, cont_some, tl_some, tl_none, csum_nil, csum_i, csum_r, csum_j, isc2_i, isc2_r, isc2_n, va_rf_s, vfn_ite, true_and, and_true, true_or, or_true, eq_self, Bool.false_eq_true, not_false_eq_true, not_true_eq_false, if_true, if_false, Nat.reduceAdd, Nat.reduceLeDiff, reduceIte, hs.1.1, hs.2.1, h1]
    simp only [eX6_look_14, eX6_look_15, eX6_look_16, eX6_look_17, eX6_look_18, eX6_look_21, eX6_look_24, eX6_look_25, eX6_look_26, eX6_look_27, eX6_look_30, eX6_look_33, eX6_look_36, cont_some, tl_some, tl_none, csum_nil, csum_i, csum_r, csum_j, isc2_i, isc2_r, isc2_n, va_rf_s, vfn_ite, true_and, and_true, true_or, or_true, eq_self, Bool.false_eq_true, not_false_eq_true, not_true_eq_false, if_true, if_false, Nat.reduceAdd, Nat.reduceLeDiff, reduceIte, hs.1.1, hv.1.1, s_axU ha, s_axV ha, s_coordinate hs.1 (show 3 * i + axU a < 30 by omega), s_coordinate hs.1 (show 3 * i + axV a < 30 by omega), hs.2.2.2.1 (3 * i + axU a) (by omega), hs.2.2.2.1 (3 * i + axV a) (by omega), s_v_append hv.1 hv.2.1 (show i < 10 by omega), nI_1]
    rw [eX6_look_39]
    have f : Fr v (v + 3) w (apV w v i (uOf S a i) (vOf S a i)) := apV_fr
    exact ih (i + 1) _ (by omega) (hs.fr f (by omega)) (apV_is hv (by omega)) (hF.tr f)
theorem s_look {w : Wd} {v sc a : Nat} {S : Sst} (ha : a < 3) (hd : sc + 2 ≤ v ∨ v + 3 ≤ sc) (hs : scIs w sc S) (hv : isV w v) : ∃ u, fX6_look [.ref v, .ref sc, .int (nI a)] w = some (none, u) ∧ vIs u v S.1 (uOf S a) (vOf S a) ∧ Fr v (v + 3) w u := by
  have f : Fr v (v + 3) w (wrI w v 3 0) := Fr.rf.wrI ⟨by omega, by omega⟩
  have hc : fX6_clear [.ref v] w = some (none, wrI w v 3 0) := by
    refine sem_eq (Nat.le_of_ble_eq_true rfl) ?_
    show wp mX6_clear 0 [some (.ref v)] [] _ _
    simp only [eX6_clear_0, eX6_clear_1, eX6_clear_2, eX6_clear_5, cont_some, tl_some, tl_none, csum_nil, csum_i, csum_r, csum_j, isc2_i, isc2_r, isc2_n, va_rf_s, vfn_ite, true_and, and_true, true_or, or_true, eq_self, Bool.false_eq_true, not_false_eq_true, not_true_eq_false, if_true, if_false, Nat.reduceAdd, Nat.reduceLeDiff, reduceIte, hv.1]
  have hh : wp mX6_look 0 [some (.ref v), some (.ref sc), some (.int (nI a)), none] [] w (fun r u => r = none ∧ vIs u v S.1 (uOf S a) (vOf S a) ∧ Fr v (v + 3) w u) := by
    simp only [eX6_look_0, eX6_look_1, eX6_look_4, eX6_look_5, cont_some, tl_some, tl_none, csum_nil, csum_i, csum_r, csum_j, isc2_i, isc2_r, isc2_n, va_rf_s, vfn_ite, true_and, and_true, true_or, or_true, eq_self, Bool.false_eq_true, not_false_eq_true, not_true_eq_false, if_true, if_false, Nat.reduceAdd, Nat.reduceLeDiff, reduceIte, hv.1, hc]
    exact lo_look ha hd S.1 0 _ (by omega) (hs.fr f (by omega)) ⟨hv, by simp [rdI_wrI]; rfl, by omega, fun i hi => absurd hi (by omega)⟩ f
  obtain ⟨r, u, h1, rfl, h2, h3⟩ := sem_wp (nL := 4) (as := [.ref v, .ref sc, .int (nI a)]) (Nat.le_of_ble_eq_true rfl) hh
  exact ⟨u, h1, h2, h3⟩
/-! the same by the reference -/
def mvIs (w : Wd) (o n : Nat) (U V : Nat → Int32) : Prop := rdI w o 21 = nI n ∧ n ≤ 10 ∧ ∀ i, i < n → rdI w (o + 9) i = U i ∧ rdI w (o + 10) i = V i
def Xv (o : Nat) : Nat → Nat → Prop := fun c j => (c = o ∧ (j = 21 ∨ j = 23)) ∨ (o + 9 ≤ c ∧ c < o + 12)
theorem m_axU {a : Nat} (h : a < 3) : (if nI a = 0 then (1 : Int32) else 0) = nI (axU a) := by
  rcases ax_3 h with rfl | rfl | rfl <;> rfl
theorem lo_sees {w0 : Wd} {o a : Nat} {S : Sst} (ha : a < 3) : ∀ (d i : Nat) (w : Wd), i + d = S.1 → S.1 ≤ 10 → isMd w o → (∀ j, j < 30 → j < 3 * S.1 → rdI w (o + 1) (3 + j) = S.2.1 j) → rdI w o 21 = nI S.1 → (∀ j, j < i → rdI w (o + 9) j = uOf S a j ∧ rdI w (o + 10) j = vOf S a j) → FrX (Xv o) w0 w →
    wp mX9_sees 12 [some (.ref o), some (.int (nI a)), some (.int (nI i))] [] w (fun r u => r = none ∧ mvIs u o S.1 (uOf S a) (vOf S a) ∧ FrX (Xv o) w0 u) := by
  intro d
  induction d with
  | zero =>
    intro i w hi h10 hm hb hn hv hF
    have e : i = S.1 := by omega
    subst e
    have h1 : ¬ nI S.1 < nI S.1 := Int32.lt_irrefl
    simp only [eX9_sees_12, eX9_sees_13, eX9_sees_14, eX9_sees_17, eX9_sees_67, cont_some, tl_some, tl_none, csum_nil, csum_i, csum_r, csum_j, isc2_i, isc2_r, isc2_n, va_rf_s, vfn_ite, true_and, and_true, true_or, or_true, eq_self, Bool.false_eq_true, not_false_eq_true, not_true_eq_false, if_true, if_false, Nat.reduceAdd, Nat.reduceLeDiff, reduceIte, hm.1, hm.2.1, hm.2.2.1, hm.2.2.2.1, hm.2.2.2.2.1, hm.2.2.2.2.2.1, hm.2.2.2.2.2.2.1, hm.2.2.2.2.2.2.2.1, hm.2.2.2.2.2.2.2.2.1, hm.2.2.2.2.2.2.2.2.2.1, hm.2.2.2.2.2.2.2.2.2.2.1, hm.2.2.2.2.2.2.2.2.2.2.2.1, hm.2.2.2.2.2.2.2.2.2.2.2.2.1, hm.2.2.2.2.2.2.2.2.2.2.2.2.2.1, hm.2.2.2.2.2.2.2.2.2.2.2.2.2.2.1, hm.2.2.2.2.2.2.2.2.2.2.2.2.2.2.2.1, hm.2.2.2.2.2.2.2.2.2.2.2.2.2.2.2.2.1, hm.2.2.2.2.2.2.2.2.2.2.2.2.2.2.2.2.2.1, hm.2.2.2.2.2.2.2.2.2.2.2.2.2.2.2.2.2.2.1, hm.2.2.2.2.2.2.2.2.2.2.2.2.2.2.2.2.2.2.2.1, hm.2.2.2.2.2.2.2.2.2.2.2.2.2.2.2.2.2.2.2.2.1, hm.2.2.2.2.2.2.2.2.2.2.2.2.2.2.2.2.2.2.2.2.2.1, hm.2.2.2.2.2.2.2.2.2.2.2.2.2.2.2.2.2.2.2.2.2.2.1, hm.2.2.2.2.2.2.2.2.2.2.2.2.2.2.2.2.2.2.2.2.2.2.2.1, hm.2.2.2.2.2.2.2.2.2.2.2.2.2.2.2.2.2.2.2.2.2.2.2.2, hn, h1]
    exact ⟨⟨hn, h10, hv⟩, hF⟩
  | succ d ih =>
    intro i w hi h10 hm hb hn hv hF
    have h1 : nI i < nI S.1 := nI_lt (by omega) (by omega)
    have u2 := axU_le (a := a)
    have v2 := axV_le (a := a)
    have n1 : ¬ o + 1 = o + 9 := by omega
    have i10 := inA_nI (show i < 10 by omega) (show 10 < 2147483648 by omega)
    have ci := nI_clamp (show i < 2 ^ 31 by omega)
    obtain ⟨x, hx⟩ : ∃ x, x = wrI w (o + 9) i (uOf S a i) := ⟨_, rfl⟩
    have hmx : isMd x o := by rw [hx]; exact hm
    have go : wp mX9_sees 40 [some (.ref o), some (.int (nI a)), some (.int (nI i))] [] x (fun r u => r = none ∧ mvIs u o S.1 (uOf S a) (vOf S a) ∧ FrX (Xv o) w0 u) := by
      have pv := s_part (w := x) (k := i) (j := axV a) hmx (by omega)
      have ev : rdI x (o + 1) (3 + (3 * i + axV a)) = vOf S a i := by rw [hx, rdI_wrI, if_neg (by omega)]; exact hb _ (by omega) (by omega)
      rw [ev] at pv
      have fin_ : wp mX9_sees 60 [some (.ref o), some (.int (nI a)), some (.int (nI i))] [.int (vOf S a i), .int (nI i), .ref (o + 10)] x (fun r u => r = none ∧ mvIs u o S.1 (uOf S a) (vOf S a) ∧ FrX (Xv o) w0 u) := by
        simp only [eX9_sees_60, eX9_sees_61, cont_some, tl_some, tl_none, csum_nil, csum_i, csum_r, csum_j, isc2_i, isc2_r, isc2_n, va_rf_s, vfn_ite, true_and, and_true, true_or, or_true, eq_self, Bool.false_eq_true, not_false_eq_true, not_true_eq_false, if_true, if_false, Nat.reduceAdd, Nat.reduceLeDiff, reduceIte, hmx.1, hmx.2.1, hmx.2.2.1, hmx.2.2.2.1, hmx.2.2.2.2.1, hmx.2.2.2.2.2.1, hmx.2.2.2.2.2.2.1, hmx.2.2.2.2.2.2.2.1, hmx.2.2.2.2.2.2.2.2.1, hmx.2.2.2.2.2.2.2.2.2.1, hmx.2.2.2.2.2.2.2.2.2.2.1, hmx.2.2.2.2.2.2.2.2.2.2.2.1, hmx.2.2.2.2.2.2.2.2.2.2.2.2.1, hmx.2.2.2.2.2.2.2.2.2.2.2.2.2.1, hmx.2.2.2.2.2.2.2.2.2.2.2.2.2.2.1, hmx.2.2.2.2.2.2.2.2.2.2.2.2.2.2.2.1, hmx.2.2.2.2.2.2.2.2.2.2.2.2.2.2.2.2.1, hmx.2.2.2.2.2.2.2.2.2.2.2.2.2.2.2.2.2.1, hmx.2.2.2.2.2.2.2.2.2.2.2.2.2.2.2.2.2.2.1, hmx.2.2.2.2.2.2.2.2.2.2.2.2.2.2.2.2.2.2.2.1, hmx.2.2.2.2.2.2.2.2.2.2.2.2.2.2.2.2.2.2.2.2.1, hmx.2.2.2.2.2.2.2.2.2.2.2.2.2.2.2.2.2.2.2.2.2.1, hmx.2.2.2.2.2.2.2.2.2.2.2.2.2.2.2.2.2.2.2.2.2.2.1, hmx.2.2.2.2.2.2.2.2.2.2.2.2.2.2.2.2.2.2.2.2.2.2.2.1, hmx.2.2.2.2.2.2.2.2.2.2.2.2.2.2.2.2.2.2.2.2.2.2.2.2, i10, ci, nI_1]
        rw [eX9_sees_64]
        subst hx
        refine ih (i + 1) _ (by omega) h10 hm (fun j h30 hj => ?_) ?_ (fun j hj => ?_) ((hF.wrI (Or.inr ⟨by omega, by omega⟩)).wrI (Or.inr ⟨by omega, by omega⟩))
        · rw [rdI_wrI, if_neg (by omega), rdI_wrI, if_neg (by omega)]; exact hb j h30 hj
        · rw [rdI_wrI, if_neg (by omega), rdI_wrI, if_neg (by omega)]; exact hn
        · rw [rdI_wrI, if_neg (by omega), rdI_wrI, rdI_wrI]
          by_cases e : j = i
          · subst e
            rw [if_pos ⟨rfl, rfl⟩, if_pos ⟨rfl, rfl⟩]
            exact ⟨rfl, rfl⟩
          · rw [if_neg (fun z => e z.2), if_neg (fun z => e z.2), rdI_wrI, if_neg (by omega)]
            exact hv j (by omega)
      by_cases q : a = 2
      · subst q
        have e2 : nI 2 = 2 := rfl
        have e1 : nI (axV 2) = 1 := rfl
        rw [e1] at pv
        simp only [eX9_sees_40, eX9_sees_41, eX9_sees_44, eX9_sees_45, eX9_sees_46, eX9_sees_47, eX9_sees_48, eX9_sees_49, eX9_sees_52, eX9_sees_53, eX9_sees_56, eX9_sees_57, cont_some, tl_some, tl_none, csum_nil, csum_i, csum_r, csum_j, isc2_i, isc2_r, isc2_n, va_rf_s, vfn_ite, true_and, and_true, true_or, or_true, eq_self, Bool.false_eq_true, not_false_eq_true, not_true_eq_false, if_true, if_false, Nat.reduceAdd, Nat.reduceLeDiff, reduceIte, hmx.1, hmx.2.1, hmx.2.2.1, hmx.2.2.2.1, hmx.2.2.2.2.1, hmx.2.2.2.2.2.1, hmx.2.2.2.2.2.2.1, hmx.2.2.2.2.2.2.2.1, hmx.2.2.2.2.2.2.2.2.1, hmx.2.2.2.2.2.2.2.2.2.1, hmx.2.2.2.2.2.2.2.2.2.2.1, hmx.2.2.2.2.2.2.2.2.2.2.2.1, hmx.2.2.2.2.2.2.2.2.2.2.2.2.1, hmx.2.2.2.2.2.2.2.2.2.2.2.2.2.1, hmx.2.2.2.2.2.2.2.2.2.2.2.2.2.2.1, hmx.2.2.2.2.2.2.2.2.2.2.2.2.2.2.2.1, hmx.2.2.2.2.2.2.2.2.2.2.2.2.2.2.2.2.1, hmx.2.2.2.2.2.2.2.2.2.2.2.2.2.2.2.2.2.1, hmx.2.2.2.2.2.2.2.2.2.2.2.2.2.2.2.2.2.2.1, hmx.2.2.2.2.2.2.2.2.2.2.2.2.2.2.2.2.2.2.2.1, hmx.2.2.2.2.2.2.2.2.2.2.2.2.2.2.2.2.2.2.2.2.1, hmx.2.2.2.2.2.2.2.2.2.2.2.2.2.2.2.2.2.2.2.2.2.1, hmx.2.2.2.2.2.2.2.2.2.2.2.2.2.2.2.2.2.2.2.2.2.2.1, hmx.2.2.2.2.2.2.2.2.2.2.2.2.2.2.2.2.2.2.2.2.2.2.2.1, hmx.2.2.2.2.2.2.2.2.2.2.2.2.2.2.2.2.2.2.2.2.2.2.2.2, e2, pv]
        exact fin_
      · have q' : ¬ nI a = 2 := by rcases ax_3 ha with rfl | rfl | rfl <;> first | exact absurd rfl q | decide
        have e1 : nI (axV a) = 2 := by unfold axV; rw [if_neg q]; rfl
        rw [e1] at pv
        simp only [eX9_sees_40, eX9_sees_41, eX9_sees_44, eX9_sees_45, eX9_sees_46, eX9_sees_47, eX9_sees_48, eX9_sees_49, eX9_sees_52, eX9_sees_53, eX9_sees_56, eX9_sees_57, cont_some, tl_some, tl_none, csum_nil, csum_i, csum_r, csum_j, isc2_i, isc2_r, isc2_n, va_rf_s, vfn_ite, true_and, and_true, true_or, or_true, eq_self, Bool.false_eq_true, not_false_eq_true, not_true_eq_false, if_true, if_false, Nat.reduceAdd, Nat.reduceLeDiff, reduceIte, hmx.1, hmx.2.1, hmx.2.2.1, hmx.2.2.2.1, hmx.2.2.2.2.1, hmx.2.2.2.2.2.1, hmx.2.2.2.2.2.2.1, hmx.2.2.2.2.2.2.2.1, hmx.2.2.2.2.2.2.2.2.1, hmx.2.2.2.2.2.2.2.2.2.1, hmx.2.2.2.2.2.2.2.2.2.2.1, hmx.2.2.2.2.2.2.2.2.2.2.2.1, hmx.2.2.2.2.2.2.2.2.2.2.2.2.1, hmx.2.2.2.2.2.2.2.2.2.2.2.2.2.1, hmx.2.2.2.2.2.2.2.2.2.2.2.2.2.2.1, hmx.2.2.2.2.2.2.2.2.2.2.2.2.2.2.2.1, hmx.2.2.2.2.2.2.2.2.2.2.2.2.2.2.2.2.1, hmx.2.2.2.2.2.2.2.2.2.2.2.2.2.2.2.2.2.1, hmx.2.2.2.2.2.2.2.2.2.2.2.2.2.2.2.2.2.2.1, hmx.2.2.2.2.2.2.2.2.2.2.2.2.2.2.2.2.2.2.2.1, hmx.2.2.2.2.2.2.2.2.2.2.2.2.2.2.2.2.2.2.2.2.1, hmx.2.2.2.2.2.2.2.2.2.2.2.2.2.2.2.2.2.2.2.2.2.1, hmx.2.2.2.2.2.2.2.2.2.2.2.2.2.2.2.2.2.2.2.2.2.2.1, hmx.2.2.2.2.2.2.2.2.2.2.2.2.2.2.2.2.2.2.2.2.2.2.2.1, hmx.2.2.2.2.2.2.2.2.2.2.2.2.2.2.2.2.2.2.2.2.2.2.2.2, q', pv]
        exact fin_
    have pu := s_part (w := w) (k := i) (j := axU a) hm (by omega)
    rw [hb _ (by omega) (by omega)] at pu
    simp only [eX9_sees_12, eX9_sees_13, eX9_sees_14, eX9_sees_17, cont_some, tl_some, tl_none, csum_nil, csum_i, csum_r, csum_j, isc2_i, isc2_r, isc2_n, va_rf_s, vfn_ite, true_and, and_true, true_or, or_true, eq_self, Bool.false_eq_true, not_false_eq_true, not_true_eq_false, if_true, if_false, Nat.reduceAdd, Nat.reduceLeDiff, reduceIte, hm.1, hm.2.1, hm.2.2.1, hm.2.2.2.1, hm.2.2.2.2.1, hm.2.2.2.2.2.1, hm.2.2.2.2.2.2.1, hm.2.2.2.2.2.2.2.1, hm.2.2.2.2.2.2.2.2.1, hm.2.2.2.2.2.2.2.2.2.1, hm.2.2.2.2.2.2.2.2.2.2.1, hm.2.2.2.2.2.2.2.2.2.2.2.1, hm.2.2.2.2.2.2.2.2.2.2.2.2.1, hm.2.2.2.2.2.2.2.2.2.2.2.2.2.1, hm.2.2.2.2.2.2.2.2.2.2.2.2.2.2.1, hm.2.2.2.2.2.2.2.2.2.2.2.2.2.2.2.1, hm.2.2.2.2.2.2.2.2.2.2.2.2.2.2.2.2.1, hm.2.2.2.2.2.2.2.2.2.2.2.2.2.2.2.2.2.1, hm.2.2.2.2.2.2.2.2.2.2.2.2.2.2.2.2.2.2.1, hm.2.2.2.2.2.2.2.2.2.2.2.2.2.2.2.2.2.2.2.1, hm.2.2.2.2.2.2.2.2.2.2.2.2.2.2.2.2.2.2.2.2.1, hm.2.2.2.2.2.2.2.2.2.2.2.2.2.2.2.2.2.2.2.2.2.1, hm.2.2.2.2.2.2.2.2.2.2.2.2.2.2.2.2.2.2.2.2.2.2.1, hm.2.2.2.2.2.2.2.2.2.2.2.2.2.2.2.2.2.2.2.2.2.2.2.1, hm.2.2.2.2.2.2.2.2.2.2.2.2.2.2.2.2.2.2.2.2.2.2.2.2, hn, h1]
    by_cases q : a = 0
    · subst q
      have e2 : nI 0 = 0 := rfl
      have e1 : nI (axU 0) = 1 := rfl
      rw [e1] at pu
      rw [hx] at go
      simp only [eX9_sees_20, eX9_sees_21, eX9_sees_24, eX9_sees_25, eX9_sees_26, eX9_sees_27, eX9_sees_28, eX9_sees_31, eX9_sees_32, eX9_sees_35, eX9_sees_36, eX9_sees_39, cont_some, tl_some, tl_none, csum_nil, csum_i, csum_r, csum_j, isc2_i, isc2_r, isc2_n, va_rf_s, vfn_ite, true_and, and_true, true_or, or_true, eq_self, Bool.false_eq_true, not_false_eq_true, not_true_eq_false, if_true, if_false, Nat.reduceAdd, Nat.reduceLeDiff, reduceIte, hm.1, hm.2.1, hm.2.2.1, hm.2.2.2.1, hm.2.2.2.2.1, hm.2.2.2.2.2.1, hm.2.2.2.2.2.2.1, hm.2.2.2.2.2.2.2.1, hm.2.2.2.2.2.2.2.2.1, hm.2.2.2.2.2.2.2.2.2.1, hm.2.2.2.2.2.2.2.2.2.2.1, hm.2.2.2.2.2.2.2.2.2.2.2.1, hm.2.2.2.2.2.2.2.2.2.2.2.2.1, hm.2.2.2.2.2.2.2.2.2.2.2.2.2.1, hm.2.2.2.2.2.2.2.2.2.2.2.2.2.2.1, hm.2.2.2.2.2.2.2.2.2.2.2.2.2.2.2.1, hm.2.2.2.2.2.2.2.2.2.2.2.2.2.2.2.2.1, hm.2.2.2.2.2.2.2.2.2.2.2.2.2.2.2.2.2.1, hm.2.2.2.2.2.2.2.2.2.2.2.2.2.2.2.2.2.2.1, hm.2.2.2.2.2.2.2.2.2.2.2.2.2.2.2.2.2.2.2.1, hm.2.2.2.2.2.2.2.2.2.2.2.2.2.2.2.2.2.2.2.2.1, hm.2.2.2.2.2.2.2.2.2.2.2.2.2.2.2.2.2.2.2.2.2.1, hm.2.2.2.2.2.2.2.2.2.2.2.2.2.2.2.2.2.2.2.2.2.2.1, hm.2.2.2.2.2.2.2.2.2.2.2.2.2.2.2.2.2.2.2.2.2.2.2.1, hm.2.2.2.2.2.2.2.2.2.2.2.2.2.2.2.2.2.2.2.2.2.2.2.2, e2, pu, i10, ci]
      exact go
    · have q' : ¬ nI a = 0 := by rcases ax_3 ha with rfl | rfl | rfl <;> first | exact absurd rfl q | decide
      have e1 : nI (axU a) = 0 := by unfold axU; rw [if_neg q]; rfl
      rw [e1] at pu
      rw [hx] at go
      simp only [eX9_sees_20, eX9_sees_21, eX9_sees_24, eX9_sees_25, eX9_sees_26, eX9_sees_27, eX9_sees_28, eX9_sees_31, eX9_sees_32, eX9_sees_35, eX9_sees_36, eX9_sees_39, cont_some, tl_some, tl_none, csum_nil, csum_i, csum_r, csum_j, isc2_i, isc2_r, isc2_n, va_rf_s, vfn_ite, true_and, and_true, true_or, or_true, eq_self, Bool.false_eq_true, not_false_eq_true, not_true_eq_false, if_true, if_false, Nat.reduceAdd, Nat.reduceLeDiff, reduceIte, hm.1, hm.2.1, hm.2.2.1, hm.2.2.2.1, hm.2.2.2.2.1, hm.2.2.2.2.2.1, hm.2.2.2.2.2.2.1, hm.2.2.2.2.2.2.2.1, hm.2.2.2.2.2.2.2.2.1, hm.2.2.2.2.2.2.2.2.2.1, hm.2.2.2.2.2.2.2.2.2.2.1, hm.2.2.2.2.2.2.2.2.2.2.2.1, hm.2.2.2.2.2.2.2.2.2.2.2.2.1, hm.2.2.2.2.2.2.2.2.2.2.2.2.2.1, hm.2.2.2.2.2.2.2.2.2.2.2.2.2.2.1, hm.2.2.2.2.2.2.2.2.2.2.2.2.2.2.2.1, hm.2.2.2.2.2.2.2.2.2.2.2.2.2.2.2.2.1, hm.2.2.2.2.2.2.2.2.2.2.2.2.2.2.2.2.2.1, hm.2.2.2.2.2.2.2.2.2.2.2.2.2.2.2.2.2.2.1, hm.2.2.2.2.2.2.2.2.2.2.2.2.2.2.2.2.2.2.2.1, hm.2.2.2.2.2.2.2.2.2.2.2.2.2.2.2.2.2.2.2.2.1, hm.2.2.2.2.2.2.2.2.2.2.2.2.2.2.2.2.2.2.2.2.2.1, hm.2.2.2.2.2.2.2.2.2.2.2.2.2.2.2.2.2.2.2.2.2.2.1, hm.2.2.2.2.2.2.2.2.2.2.2.2.2.2.2.2.2.2.2.2.2.2.2.1, hm.2.2.2.2.2.2.2.2.2.2.2.2.2.2.2.2.2.2.2.2.2.2.2.2, q', pu, i10, ci]
      exact go
theorem m_sees {w : Wd} {o a : Nat} {S : Sst} (ha : a < 3) (hm : isMd w o) (hb : blkIs (rdI w (o + 1)) S) : ∃ u, fX9_sees [.ref o, .int (nI a)] w = some (none, u) ∧ mvIs u o S.1 (uOf S a) (vOf S a) ∧ FrX (Xv o) w u := by
  obtain ⟨b1, b2, -, -, b5⟩ := hb
  have i0 : inA 0 33 = true := by decide
  have c0 : (0 : Int32).toNatClampNeg = 0 := by decide
  have hh : wp mX9_sees 0 [some (.ref o), some (.int (nI a)), none] [] w (fun r u => r = none ∧ mvIs u o S.1 (uOf S a) (vOf S a) ∧ FrX (Xv o) w u) := by
    simp only [eX9_sees_0, eX9_sees_1, eX9_sees_2, eX9_sees_5, eX9_sees_6, eX9_sees_7, eX9_sees_10, eX9_sees_11, cont_some, tl_some, tl_none, csum_nil, csum_i, csum_r, csum_j, isc2_i, isc2_r, isc2_n, va_rf_s, vfn_ite, true_and, and_true, true_or, or_true, eq_self, Bool.false_eq_true, not_false_eq_true, not_true_eq_false, if_true, if_false, Nat.reduceAdd, Nat.reduceLeDiff, reduceIte, hm.1, hm.2.1, hm.2.2.1, hm.2.2.2.1, hm.2.2.2.2.1, hm.2.2.2.2.2.1, hm.2.2.2.2.2.2.1, hm.2.2.2.2.2.2.2.1, hm.2.2.2.2.2.2.2.2.1, hm.2.2.2.2.2.2.2.2.2.1, hm.2.2.2.2.2.2.2.2.2.2.1, hm.2.2.2.2.2.2.2.2.2.2.2.1, hm.2.2.2.2.2.2.2.2.2.2.2.2.1, hm.2.2.2.2.2.2.2.2.2.2.2.2.2.1, hm.2.2.2.2.2.2.2.2.2.2.2.2.2.2.1, hm.2.2.2.2.2.2.2.2.2.2.2.2.2.2.2.1, hm.2.2.2.2.2.2.2.2.2.2.2.2.2.2.2.2.1, hm.2.2.2.2.2.2.2.2.2.2.2.2.2.2.2.2.2.1, hm.2.2.2.2.2.2.2.2.2.2.2.2.2.2.2.2.2.2.1, hm.2.2.2.2.2.2.2.2.2.2.2.2.2.2.2.2.2.2.2.1, hm.2.2.2.2.2.2.2.2.2.2.2.2.2.2.2.2.2.2.2.2.1, hm.2.2.2.2.2.2.2.2.2.2.2.2.2.2.2.2.2.2.2.2.2.1, hm.2.2.2.2.2.2.2.2.2.2.2.2.2.2.2.2.2.2.2.2.2.2.1, hm.2.2.2.2.2.2.2.2.2.2.2.2.2.2.2.2.2.2.2.2.2.2.2.1, hm.2.2.2.2.2.2.2.2.2.2.2.2.2.2.2.2.2.2.2.2.2.2.2.2, i0, c0, b1]
    exact lo_sees ha S.1 0 _ (by omega) b2 hm (fun j _ hj => by rw [rdI_wrI, if_neg (by omega)]; exact b5 j hj) (by simp [rdI_wrI]) (fun j hj => absurd hj (by omega)) (FrX.rf.wrI (Or.inl ⟨rfl, Or.inl rfl⟩))
  obtain ⟨r, u, h1, rfl, h2, h3⟩ := sem_wp (nL := 3) (as := [.ref o, .int (nI a)]) (Nat.le_of_ble_eq_true rfl) hh
  exact ⟨u, h1, h2, h3⟩
