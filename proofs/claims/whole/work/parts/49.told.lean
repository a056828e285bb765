/-! a point told before -/
def tldF (D : Nat → Int32) (m : Nat) : Nat → Bool
  | 0 => false
  | j + 1 => tldF D m j || decide (D (3 * j) = D (3 * m) ∧ D (3 * j + 1) = D (3 * m + 1) ∧ D (3 * j + 2) = D (3 * m + 2))
theorem tldF_up {D : Nat → Int32} {m j : Nat} (h : tldF D m j = true) : ∀ d, tldF D m (j + d) = true := by
  intro d
  induction d with
  | zero => exact h
  | succ d ih =>
    show (tldF D m (j + d) || _) = true
    rw [ih]
    rfl
theorem s_number {w : Wd} {t k j : Nat} (h : isTp w t) (hk : 3 * k + j < 30) : fX5_number [.ref t, .int (nI k), .int (nI j)] w = some (some (.int (rdI w (t + 2) (3 * k + j))), w) := by
  refine sem_eq (Nat.le_of_ble_eq_true rfl) ?_
  show wp mX5_number 0 [some (.ref t), some (.int (nI k)), some (.int (nI j))] [] _ _
  simp only [eX5_number_0, eX5_number_1, eX5_number_4, eX5_number_5, eX5_number_6, eX5_number_7, eX5_number_8, eX5_number_9, eX5_number_10, cont_some, tl_some, tl_none, csum_nil, csum_i, csum_r, csum_j, isc2_i, isc2_r, isc2_n, va_rf_s, vfn_ite, true_and, and_true, true_or, or_true, eq_self, Bool.false_eq_true, not_false_eq_true, not_true_eq_false, if_true, if_false, Nat.reduceAdd, Nat.reduceLeDiff, reduceIte, h.1, h.2.2.1, h.2.2.2.2, nI_m3, nI_a, inA_nI hk (by omega), nI_clamp (show 3 * k + j < 2 ^ 31 by omega)]
theorem s_number0 {w : Wd} {t k : Nat} (h : isTp w t) (hk : k < 10) : fX5_number [.ref t, .int (nI k), .int 0] w = some (some (.int (rdI w (t + 2) (3 * k))), w) := s_number (j := 0) h (by omega)
theorem s_number1 {w : Wd} {t k : Nat} (h : isTp w t) (hk : k < 10) : fX5_number [.ref t, .int (nI k), .int 1] w = some (some (.int (rdI w (t + 2) (3 * k + 1))), w) := s_number (j := 1) h (by omega)
theorem s_number2 {w : Wd} {t k : Nat} (h : isTp w t) (hk : k < 10) : fX5_number [.ref t, .int (nI k), .int 2] w = some (some (.int (rdI w (t + 2) (3 * k + 2))), w) := s_number (j := 2) h (by omega)
theorem lo_told {w : Wd} {t i : Nat} (h : isTp w t) (hi : i < 10) : ∀ (d j : Nat), j + d = i → tldF (rdI w (t + 2)) i j = false → wp mX5_isToldAhead 2 [some (.ref t), some (.int (nI i)), some (.int (nI j))] [] w (fun r u => r = some (.int (b2i (tldF (rdI w (t + 2)) i i = true))) ∧ u = w) := by
  intro d
  induction d with
  | zero =>
    intro j hj hf
    have e : j = i := by omega
    subst e
    have l : ¬ nI j < nI j := Int32.lt_irrefl
    rw [b2i_f (show ¬ tldF (rdI w (t + 2)) j j = true by rw [hf]; decide)]
    simp only [eX5_isToldAhead_2, eX5_isToldAhead_3, eX5_isToldAhead_4, eX5_isToldAhead_60, eX5_isToldAhead_61, cont_some, tl_some, tl_none, csum_nil, csum_i, csum_r, csum_j, isc2_i, isc2_r, isc2_n, va_rf_s, vfn_ite, true_and, and_true, true_or, or_true, eq_self, Bool.false_eq_true, not_false_eq_true, not_true_eq_false, if_true, if_false, Nat.reduceAdd, Nat.reduceLeDiff, reduceIte, l]
  | succ d ih =>
    intro j hj hf
    have l : nI j < nI i := nI_lt (by omega) (by omega)
    have hj10 : j < 10 := by omega
    have no : ¬ (rdI w (t + 2) (3 * j) = rdI w (t + 2) (3 * i) ∧ rdI w (t + 2) (3 * j + 1) = rdI w (t + 2) (3 * i + 1) ∧ rdI w (t + 2) (3 * j + 2) = rdI w (t + 2) (3 * i + 2)) → wp mX5_isToldAhead 54 [some (.ref t), some (.int (nI i)), some (.int (nI j))] [] w (fun r u => r = some (.int (b2i (tldF (rdI w (t + 2)) i i = true))) ∧ u = w) := by
      intro q
      simp only [eX5_isToldAhead_54, cont_some, tl_some, tl_none, csum_nil, csum_i, csum_r, csum_j, isc2_i, isc2_r, isc2_n, va_rf_s, vfn_ite, true_and, and_true, true_or, or_true, eq_self, Bool.false_eq_true, not_false_eq_true, not_true_eq_false, if_true, if_false, Nat.reduceAdd, Nat.reduceLeDiff, reduceIte, nI_1]
      rw [eX5_isToldAhead_57]
      exact ih (j + 1) (by omega) (by show (tldF _ _ j || decide _) = false; rw [hf, decide_eq_false q]; rfl)
    simp only [eX5_isToldAhead_2, eX5_isToldAhead_3, eX5_isToldAhead_4, eX5_isToldAhead_7, eX5_isToldAhead_8, eX5_isToldAhead_9, eX5_isToldAhead_10, eX5_isToldAhead_13, eX5_isToldAhead_14, eX5_isToldAhead_15, eX5_isToldAhead_16, eX5_isToldAhead_19, cont_some, tl_some, tl_none, csum_nil, csum_i, csum_r, csum_j, isc2_i, isc2_r, isc2_n, va_rf_s, vfn_ite, true_and, and_true, true_or, or_true, eq_self, Bool.false_eq_true, not_false_eq_true, not_true_eq_false, if_true, if_false, Nat.reduceAdd, Nat.reduceLeDiff, reduceIte, l, h.1, s_number0 h hi, s_number0 h hj10]
    by_cases q1 : rdI w (t + 2) (3 * j) = rdI w (t + 2) (3 * i)
    · simp only [eX5_isToldAhead_22, eX5_isToldAhead_23, eX5_isToldAhead_24, eX5_isToldAhead_25, eX5_isToldAhead_28, eX5_isToldAhead_29, eX5_isToldAhead_30, eX5_isToldAhead_31, eX5_isToldAhead_34, cont_some, tl_some, tl_none, csum_nil, csum_i, csum_r, csum_j, isc2_i, isc2_r, isc2_n, va_rf_s, vfn_ite, true_and, and_true, true_or, or_true, eq_self, Bool.false_eq_true, not_false_eq_true, not_true_eq_false, if_true, if_false, Nat.reduceAdd, Nat.reduceLeDiff, reduceIte, h.1, q1, s_number1 h hi, s_number1 h hj10]
      by_cases q2 : rdI w (t + 2) (3 * j + 1) = rdI w (t + 2) (3 * i + 1)
      · simp only [eX5_isToldAhead_37, eX5_isToldAhead_38, eX5_isToldAhead_39, eX5_isToldAhead_40, eX5_isToldAhead_43, eX5_isToldAhead_44, eX5_isToldAhead_45, eX5_isToldAhead_46, eX5_isToldAhead_49, cont_some, tl_some, tl_none, csum_nil, csum_i, csum_r, csum_j, isc2_i, isc2_r, isc2_n, va_rf_s, vfn_ite, true_and, and_true, true_or, or_true, eq_self, Bool.false_eq_true, not_false_eq_true, not_true_eq_false, if_true, if_false, Nat.reduceAdd, Nat.reduceLeDiff, reduceIte, h.1, q2, s_number2 h hi, s_number2 h hj10]
        by_cases q3 : rdI w (t + 2) (3 * j + 2) = rdI w (t + 2) (3 * i + 2)
        · have y : tldF (rdI w (t + 2)) i (j + 1) = true := by
            show (tldF _ _ j || decide _) = true
            rw [decide_eq_true ⟨q1, q2, q3⟩, Bool.or_true]
          have y' := tldF_up y d
          rw [show j + 1 + d = i by omega] at y'
          rw [b2i_t y']
          simp only [eX5_isToldAhead_52, eX5_isToldAhead_53, cont_some, tl_some, tl_none, csum_nil, csum_i, csum_r, csum_j, isc2_i, isc2_r, isc2_n, va_rf_s, vfn_ite, true_and, and_true, true_or, or_true, eq_self, Bool.false_eq_true, not_false_eq_true, not_true_eq_false, if_true, if_false, Nat.reduceAdd, Nat.reduceLeDiff, reduceIte, q3]
        · rw [if_neg q3]
          exact no (fun z => q3 z.2.2)
      · rw [if_neg q2]
        exact no (fun z => q2 z.2.1)
    · rw [if_neg q1]
      exact no (fun z => q1 z.1)
theorem s_toldAhead {w : Wd} {t i : Nat} (h : isTp w t) (hi : i < 10) : fX5_isToldAhead [.ref t, .int (nI i)] w = some (some (.int (b2i (tldF (rdI w (t + 2)) i i = true))), w) := by
  refine sem_eq (Nat.le_of_ble_eq_true rfl) ?_
  show wp mX5_isToldAhead 0 [some (.ref t), some (.int (nI i)), none] [] _ _
  simp only [eX5_isToldAhead_0, eX5_isToldAhead_1, cont_some, tl_some, tl_none, csum_nil, csum_i, csum_r, csum_j, isc2_i, isc2_r, isc2_n, va_rf_s, vfn_ite, true_and, and_true, true_or, or_true, eq_self, Bool.false_eq_true, not_false_eq_true, not_true_eq_false, if_true, if_false, Nat.reduceAdd, Nat.reduceLeDiff, reduceIte]
  exact lo_told h hi i 0 (by omega) rfl
