/-! turns and distances in a picture -/
def crs (U V : Nat → Int32) (a b c : Nat) : Int32 := (U b - U a) * (V c - V a) - (V b - V a) * (U c - U a)
def dst (U V : Nat → Int32) (a b : Nat) : Int32 := (U b - U a) * (U b - U a) + (V b - V a) * (V b - V a)
theorem m_turn {w : Wd} {o n a b c : Nat} {U V : Nat → Int32} (h : isMd w o) (hv : mvIs w o n U V) (ha : a < n) (hb : b < n) (hc : c < n) : fX9_turn [.ref o, .int (nI a), .int (nI b), .int (nI c)] w = some (some (.int (crs U V a b c)), w) := by
  have h10 := hv.2.1
  obtain ⟨a1, a2⟩ := hv.2.2 a ha
  obtain ⟨b1, b2⟩ := hv.2.2 b hb
  obtain ⟨c1, c2⟩ := hv.2.2 c hc
  refine sem_eq (Nat.le_of_ble_eq_true rfl) ?_
  show wp mX9_turn 0 [some (.ref o), some (.int (nI a)), some (.int (nI b)), some (.int (nI c))] [] _ _
  simp only [eX9_turn_0, eX9_turn_1, eX9_turn_4, eX9_turn_5, eX9_turn_6, eX9_turn_7, eX9_turn_10, eX9_turn_11, eX9_turn_12, eX9_turn_13, eX9_turn_14, eX9_turn_17, eX9_turn_18, eX9_turn_19, eX9_turn_20, eX9_turn_23, eX9_turn_24, eX9_turn_25, eX9_turn_26, eX9_turn_27, eX9_turn_28, eX9_turn_31, eX9_turn_32, eX9_turn_33, eX9_turn_34, eX9_turn_37, eX9_turn_38, eX9_turn_39, eX9_turn_40, eX9_turn_41, eX9_turn_44, eX9_turn_45, eX9_turn_46, eX9_turn_47, eX9_turn_50, eX9_turn_51, eX9_turn_52, eX9_turn_53, eX9_turn_54, eX9_turn_55, cont_some, tl_some, tl_none, csum_nil, csum_i, csum_r, csum_j, isc2_i, isc2_r, isc2_n, va_rf_s, vfn_ite, true_and, and_true, true_or, or_true, eq_self, Bool.false_eq_true, not_false_eq_true, not_true_eq_false, if_true, if_false, Nat.reduceAdd, Nat.reduceLeDiff, reduceIte, h.1, h.2.1, h.2.2.1, h.2.2.2.1, h.2.2.2.2.1, h.2.2.2.2.2.1, h.2.2.2.2.2.2.1, h.2.2.2.2.2.2.2.1, h.2.2.2.2.2.2.2.2.1, h.2.2.2.2.2.2.2.2.2.1, h.2.2.2.2.2.2.2.2.2.2.1, h.2.2.2.2.2.2.2.2.2.2.2.1, h.2.2.2.2.2.2.2.2.2.2.2.2.1, h.2.2.2.2.2.2.2.2.2.2.2.2.2.1, h.2.2.2.2.2.2.2.2.2.2.2.2.2.2.1, h.2.2.2.2.2.2.2.2.2.2.2.2.2.2.2.1, h.2.2.2.2.2.2.2.2.2.2.2.2.2.2.2.2.1, h.2.2.2.2.2.2.2.2.2.2.2.2.2.2.2.2.2.1, h.2.2.2.2.2.2.2.2.2.2.2.2.2.2.2.2.2.2.1, h.2.2.2.2.2.2.2.2.2.2.2.2.2.2.2.2.2.2.2.1, h.2.2.2.2.2.2.2.2.2.2.2.2.2.2.2.2.2.2.2.2.1, h.2.2.2.2.2.2.2.2.2.2.2.2.2.2.2.2.2.2.2.2.2.1, h.2.2.2.2.2.2.2.2.2.2.2.2.2.2.2.2.2.2.2.2.2.2.1, h.2.2.2.2.2.2.2.2.2.2.2.2.2.2.2.2.2.2.2.2.2.2.2.1, h.2.2.2.2.2.2.2.2.2.2.2.2.2.2.2.2.2.2.2.2.2.2.2.2, inA_nI (show a < 10 by omega) (show 10 < 2147483648 by omega), inA_nI (show b < 10 by omega) (show 10 < 2147483648 by omega), inA_nI (show c < 10 by omega) (show 10 < 2147483648 by omega), nI_clamp (show a < 2 ^ 31 by omega), nI_clamp (show b < 2 ^ 31 by omega), nI_clamp (show c < 2 ^ 31 by omega), a1, a2, b1, b2, c1, c2, crs]
theorem m_far {w : Wd} {o n a b : Nat} {U V : Nat → Int32} (h : isMd w o) (hv : mvIs w o n U V) (ha : a < n) (hb : b < n) : fX9_far [.ref o, .int (nI a), .int (nI b)] w = some (some (.int (dst U V a b)), w) := by
  have h10 := hv.2.1
  obtain ⟨a1, a2⟩ := hv.2.2 a ha
  obtain ⟨b1, b2⟩ := hv.2.2 b hb
  refine sem_eq (Nat.le_of_ble_eq_true rfl) ?_
  show wp mX9_far 0 [some (.ref o), some (.int (nI a)), some (.int (nI b))] [] _ _
  simp only [eX9_far_0, eX9_far_1, eX9_far_4, eX9_far_5, eX9_far_6, eX9_far_7, eX9_far_10, eX9_far_11, eX9_far_12, eX9_far_13, eX9_far_14, eX9_far_17, eX9_far_18, eX9_far_19, eX9_far_20, eX9_far_23, eX9_far_24, eX9_far_25, eX9_far_26, eX9_far_27, eX9_far_28, eX9_far_31, eX9_far_32, eX9_far_33, eX9_far_34, eX9_far_37, eX9_far_38, eX9_far_39, eX9_far_40, eX9_far_41, eX9_far_44, eX9_far_45, eX9_far_46, eX9_far_47, eX9_far_50, eX9_far_51, eX9_far_52, eX9_far_53, eX9_far_54, eX9_far_55, cont_some, tl_some, tl_none, csum_nil, csum_i, csum_r, csum_j, isc2_i, isc2_r, isc2_n, va_rf_s, vfn_ite, true_and, and_true, true_or, or_true, eq_self, Bool.false_eq_true, not_false_eq_true, not_true_eq_false, if_true, if_false, Nat.reduceAdd, Nat.reduceLeDiff, reduceIte, h.1, h.2.1, h.2.2.1, h.2.2.2.1, h.2.2.2.2.1, h.2.2.2.2.2.1, h.2.2.2.2.2.2.1, h.2.2.2.2.2.2.2.1, h.2.2.2.2.2.2.2.2.1, h.2.2.2.2.2.2.2.2.2.1, h.2.2.2.2.2.2.2.2.2.2.1, h.2.2.2.2.2.2.2.2.2.2.2.1, h.2.2.2.2.2.2.2.2.2.2.2.2.1, h.2.2.2.2.2.2.2.2.2.2.2.2.2.1, h.2.2.2.2.2.2.2.2.2.2.2.2.2.2.1, h.2.2.2.2.2.2.2.2.2.2.2.2.2.2.2.1, h.2.2.2.2.2.2.2.2.2.2.2.2.2.2.2.2.1, h.2.2.2.2.2.2.2.2.2.2.2.2.2.2.2.2.2.1, h.2.2.2.2.2.2.2.2.2.2.2.2.2.2.2.2.2.2.1, h.2.2.2.2.2.2.2.2.2.2.2.2.2.2.2.2.2.2.2.1, h.2.2.2.2.2.2.2.2.2.2.2.2.2.2.2.2.2.2.2.2.1, h.2.2.2.2.2.2.2.2.2.2.2.2.2.2.2.2.2.2.2.2.2.1, h.2.2.2.2.2.2.2.2.2.2.2.2.2.2.2.2.2.2.2.2.2.2.1, h.2.2.2.2.2.2.2.2.2.2.2.2.2.2.2.2.2.2.2.2.2.2.2.1, h.2.2.2.2.2.2.2.2.2.2.2.2.2.2.2.2.2.2.2.2.2.2.2.2, inA_nI (show a < 10 by omega) (show 10 < 2147483648 by omega), inA_nI (show b < 10 by omega) (show 10 < 2147483648 by omega), nI_clamp (show a < 2 ^ 31 by omega), nI_clamp (show b < 2 ^ 31 by omega), a1, a2, b1, b2, dst]
theorem s_cross {w : Wd} {v n a b c : Nat} {U V : Nat → Int32} (hv : vIs w v n U V) (ha : a < n) (hb : b < n) (hc : c < n) : fX6_cross [.ref v, .int (nI a), .int (nI b), .int (nI c)] w = some (some (.int (crs U V a b c)), w) := by
  have h10 := hv.2.2.1
  have h := hv.1
  obtain ⟨a1, a2⟩ := hv.2.2.2 a ha
  obtain ⟨b1, b2⟩ := hv.2.2.2 b hb
  obtain ⟨c1, c2⟩ := hv.2.2.2 c hc
  refine sem_eq (Nat.le_of_ble_eq_true rfl) ?_
  show wp mX6_cross 0 [some (.ref v), some (.int (nI a)), some (.int (nI b)), some (.int (nI c))] [] _ _
  simp only [eX6_cross_0, eX6_cross_1, eX6_cross_4, eX6_cross_5, eX6_cross_6, eX6_cross_7, eX6_cross_10, eX6_cross_11, eX6_cross_12, eX6_cross_13, eX6_cross_14, eX6_cross_17, eX6_cross_18, eX6_cross_19, eX6_cross_20, eX6_cross_23, eX6_cross_24, eX6_cross_25, eX6_cross_26, eX6_cross_27, eX6_cross_28, eX6_cross_31, eX6_cross_32, eX6_cross_33, eX6_cross_34, eX6_cross_37, eX6_cross_38, eX6_cross_39, eX6_cross_40, eX6_cross_41, eX6_cross_44, eX6_cross_45, eX6_cross_46, eX6_cross_47, eX6_cross_50, eX6_cross_51, eX6_cross_52, eX6_cross_53, eX6_cross_54, eX6_cross_55, cont_some, tl_some, tl_none, csum_nil, csum_i, csum_r, csum_j, isc2_i, isc2_r, isc2_n, va_rf_s, vfn_ite, true_and, and_true, true_or, or_true, eq_self, Bool.false_eq_true, not_false_eq_true, not_true_eq_false, if_true, if_false, Nat.reduceAdd, Nat.reduceLeDiff, reduceIte, h.1, h.2.1, h.2.2.1, h.2.2.2.2.1, h.2.2.2.2.2.1, inA_nI (show a < 10 by omega) (show 10 < 2147483648 by omega), inA_nI (show b < 10 by omega) (show 10 < 2147483648 by omega), inA_nI (show c < 10 by omega) (show 10 < 2147483648 by omega), nI_clamp (show a < 2 ^ 31 by omega), nI_clamp (show b < 2 ^ 31 by omega), nI_clamp (show c < 2 ^ 31 by omega), a1, a2, b1, b2, c1, c2, crs]
theorem s_v_apart {w : Wd} {v n a b : Nat} {U V : Nat → Int32} (hv : vIs w v n U V) (ha : a < n) (hb : b < n) : fX6_apart [.ref v, .int (nI a), .int (nI b)] w = some (some (.int (dst U V a b)), w) := by
  have h10 := hv.2.2.1
  have h := hv.1
  obtain ⟨a1, a2⟩ := hv.2.2.2 a ha
  obtain ⟨b1, b2⟩ := hv.2.2.2 b hb
  refine sem_eq (Nat.le_of_ble_eq_true rfl) ?_
  show wp mX6_apart 0 [some (.ref v), some (.int (nI a)), some (.int (nI b)), none, none] [] _ _
  simp only [eX6_apart_0, eX6_apart_1, eX6_apart_4, eX6_apart_5, eX6_apart_6, eX6_apart_7, eX6_apart_10, eX6_apart_11, eX6_apart_12, eX6_apart_13, eX6_apart_14, eX6_apart_15, eX6_apart_18, eX6_apart_19, eX6_apart_20, eX6_apart_21, eX6_apart_24, eX6_apart_25, eX6_apart_26, eX6_apart_27, eX6_apart_29, eX6_apart_30, eX6_apart_31, eX6_apart_32, eX6_apart_34, eX6_apart_36, eX6_apart_37, eX6_apart_38, cont_some, tl_some, tl_none, csum_nil, csum_i, csum_r, csum_j, isc2_i, isc2_r, isc2_n, va_rf_s, vfn_ite, true_and, and_true, true_or, or_true, eq_self, Bool.false_eq_true, not_false_eq_true, not_true_eq_false, if_true, if_false, Nat.reduceAdd, Nat.reduceLeDiff, reduceIte, h.1, h.2.1, h.2.2.1, h.2.2.2.2.1, h.2.2.2.2.2.1, inA_nI (show a < 10 by omega) (show 10 < 2147483648 by omega), inA_nI (show b < 10 by omega) (show 10 < 2147483648 by omega), nI_clamp (show a < 2 ^ 31 by omega), nI_clamp (show b < 2 ^ 31 by omega), a1, a2, b1, b2, dst]
abbrev outB (U V : Nat → Int32) (a b c : Nat) : Prop := crs U V a b c < 0 ∨ (crs U V a b c = 0 ∧ dst U V a b < dst U V a c)
theorem s_isOutside {w : Wd} {v n a b c : Nat} {U V : Nat → Int32} (hv : vIs w v n U V) (ha : a < n) (hb : b < n) (hc : c < n) : ∃ x : Int32, fX6_isOutside [.ref v, .int (nI a), .int (nI b), .int (nI c)] w = some (some (.int x), w) ∧ (¬ x = 0 ↔ outB U V a b c) := by
  have h := hv.1
  have e1 := s_cross hv ha hb hc
  have e2 := s_v_apart hv ha hc
  have e3 := s_v_apart hv ha hb
  unfold outB
  by_cases q1 : crs U V a b c < 0
  · refine ⟨1, ?_, by simp [q1]⟩
    refine sem_eq (Nat.le_of_ble_eq_true rfl) ?_
    show wp mX6_isOutside 0 [some (.ref v), some (.int (nI a)), some (.int (nI b)), some (.int (nI c)), none] [] _ _
    simp only [eX6_isOutside_0, eX6_isOutside_1, eX6_isOutside_2, eX6_isOutside_3, eX6_isOutside_4, eX6_isOutside_7, eX6_isOutside_9, eX6_isOutside_11, eX6_isOutside_14, eX6_isOutside_16, eX6_isOutside_19, eX6_isOutside_20, eX6_isOutside_21, eX6_isOutside_22, eX6_isOutside_25, eX6_isOutside_26, eX6_isOutside_27, eX6_isOutside_28, eX6_isOutside_31, eX6_isOutside_34, eX6_isOutside_35, eX6_isOutside_38, eX6_isOutside_39, cont_some, tl_some, tl_none, csum_nil, csum_i, csum_r, csum_j, isc2_i, isc2_r, isc2_n, va_rf_s, vfn_ite, true_and, and_true, true_or, or_true, eq_self, Bool.false_eq_true, not_false_eq_true, not_true_eq_false, if_true, if_false, Nat.reduceAdd, Nat.reduceLeDiff, reduceIte, h.1, e1, q1]
  · by_cases q2 : crs U V a b c = 0
    · have z0 : ¬ (0 : Int32) < 0 := by decide
      by_cases q3 : dst U V a b < dst U V a c
      · refine ⟨1, ?_, by simp [q2, q3]⟩
        refine sem_eq (Nat.le_of_ble_eq_true rfl) ?_
        show wp mX6_isOutside 0 [some (.ref v), some (.int (nI a)), some (.int (nI b)), some (.int (nI c)), none] [] _ _
        simp only [eX6_isOutside_0, eX6_isOutside_1, eX6_isOutside_2, eX6_isOutside_3, eX6_isOutside_4, eX6_isOutside_7, eX6_isOutside_9, eX6_isOutside_11, eX6_isOutside_14, eX6_isOutside_16, eX6_isOutside_19, eX6_isOutside_20, eX6_isOutside_21, eX6_isOutside_22, eX6_isOutside_25, eX6_isOutside_26, eX6_isOutside_27, eX6_isOutside_28, eX6_isOutside_31, eX6_isOutside_34, eX6_isOutside_35, eX6_isOutside_38, eX6_isOutside_39, cont_some, tl_some, tl_none, csum_nil, csum_i, csum_r, csum_j, isc2_i, isc2_r, isc2_n, va_rf_s, vfn_ite, true_and, and_true, true_or, or_true, eq_self, Bool.false_eq_true, not_false_eq_true, not_true_eq_false, if_true, if_false, Nat.reduceAdd, Nat.reduceLeDiff, reduceIte, h.1, e1, q2, z0, e2, e3, q3]
      · refine ⟨0, ?_, by simp [q2, q3]⟩
        refine sem_eq (Nat.le_of_ble_eq_true rfl) ?_
        show wp mX6_isOutside 0 [some (.ref v), some (.int (nI a)), some (.int (nI b)), some (.int (nI c)), none] [] _ _
        simp only [eX6_isOutside_0, eX6_isOutside_1, eX6_isOutside_2, eX6_isOutside_3, eX6_isOutside_4, eX6_isOutside_7, eX6_isOutside_9, eX6_isOutside_11, eX6_isOutside_14, eX6_isOutside_16, eX6_isOutside_19, eX6_isOutside_20, eX6_isOutside_21, eX6_isOutside_22, eX6_isOutside_25, eX6_isOutside_26, eX6_isOutside_27, eX6_isOutside_28, eX6_isOutside_31, eX6_isOutside_34, eX6_isOutside_35, eX6_isOutside_38, eX6_isOutside_39, cont_some, tl_some, tl_none, csum_nil, csum_i, csum_r, csum_j, isc2_i, isc2_r, isc2_n, va_rf_s, vfn_ite, true_and, and_true, true_or, or_true, eq_self, Bool.false_eq_true, not_false_eq_true, not_true_eq_false, if_true, if_false, Nat.reduceAdd, Nat.reduceLeDiff, reduceIte, h.1, e1, q2, z0, e2, e3, q3]
    · refine ⟨0, ?_, by simp [q1, q2]⟩
      refine sem_eq (Nat.le_of_ble_eq_true rfl) ?_
      show wp mX6_isOutside 0 [some (.ref v), some (.int (nI a)), some (.int (nI b)), some (.int (nI c)), none] [] _ _
      simp only [eX6_isOutside_0, eX6_isOutside_1, eX6_isOutside_2, eX6_isOutside_3, eX6_isOutside_4, eX6_isOutside_7, eX6_isOutside_9, eX6_isOutside_11, eX6_isOutside_14, eX6_isOutside_16, eX6_isOutside_19, eX6_isOutside_20, eX6_isOutside_21, eX6_isOutside_22, eX6_isOutside_25, eX6_isOutside_26, eX6_isOutside_27, eX6_isOutside_28, eX6_isOutside_31, eX6_isOutside_34, eX6_isOutside_35, eX6_isOutside_38, eX6_isOutside_39, cont_some, tl_some, tl_none, csum_nil, csum_i, csum_r, csum_j, isc2_i, isc2_r, isc2_n, va_rf_s, vfn_ite, true_and, and_true, true_or, or_true, eq_self, Bool.false_eq_true, not_false_eq_true, not_true_eq_false, if_true, if_false, Nat.reduceAdd, Nat.reduceLeDiff, reduceIte, h.1, e1, q1, q2]
