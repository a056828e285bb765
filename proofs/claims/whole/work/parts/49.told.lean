/-! a point told before -/
def tldF (D : Nat → Int32) (m : Nat) : Nat → Bool
  | 0 => false
  | j + 1 => tldF D m j || decide (D (3 * j) = D (3 * m) ∧ D (3 * j + 1) = D (3 * m + 1) ∧ D (3 * j + 2) = D (3 * m + 2))
theorem tldF_up {D : Nat → Int32} {m j : Nat} (h : tldF D m j = true) : ∀ d, tldF D m (j + d) = true := by
  intro d
  induction d with
  | zero => exact h
  | succ d ih =>
    show (tldF D m (j + d) || _) = true
    rw [ih]
    rfl
theorem s_number {w : Wd} {t k j : Nat} (h : isTp w t) (hk : 3 * k + j < 30) : fX5_number [.ref t, .int (nI k), .int (nI j)] w = some (some (.int (rdI w (t + 2) (3 * k + j))), w) := by
  refine sem_eq (Nat.le_of_ble_eq_true rfl) ?_
  show wp mX5_number 0 [some (.ref t), some (.int (nI k)), some (.int (nI j))] [] _ _
  simp only [eX5_number_0, eX5_number_1, eX5_number_4, eX5_number_5, eX5_number_6, eX5_number_7, eX5_number_8, eX5_number_9, eX5_number_10, cont_some, tl_some, tl_none, csum_nil, csum_i, csum_r, csum_j, isc2_i, isc2_r, isc2_n, va_rf_s, vfn_ite, true_and, and_true, true_or, or_true, eq_self, Bool.false_eq_true, not_false_eq_true, not_true_eq_false, if_true, if_false, Nat.reduceAdd, Nat.reduceLeDiff, reduceIte, h.1, h.2.2.1, h.2.2.2.2, nI_m3, nI_a, inA_nI hk (by omega), nI_clamp (show 3 * k + j < 2 ^ 31 by omega)]
theorem s_number0 {w : Wd} {t k : Nat} (h : isTp w t) (hk : k < 10) : fX5_number [.ref t, .int (nI k), .int 0] w = some (some (.int (rdI w (t + 2) (3 * k))), w) := s_number (j := 0) h (by omega)
theorem s_number1 {w : Wd} {t k : Nat} (h : isTp w t) (hk : k < 10) : fX5_number [.ref t, .int (nI k), .int 1] w = some (some (.int (rdI w (t + 2) (3 * k + 1))), w) := s_number (j := 1) h (by omega)
theorem s_number2 {w : Wd} {t k : Nat} (h : isTp w t) (hk : k < 10) : fX5_number [.ref t, .int (nI k), .int 2] w = some (some (.int (rdI w (t + 2) (3 * k + 2))), w) := s_number (j := 2) h (by omega)
theorem lo_told {w : Wd} {t i : Nat} (h : isTp w t) (hi : i < 10) : ∀ (d j : Nat), j + d = i → tldF (rdI w (t + 2)) i j = false → wp mX5_isToldAhead 2 [some (.ref t), some (.int (nI i)), some (.int (nI j))] [] w (fun r u => r = some (.int (b2i (tldF (rdI w (t + 2)) i i = true))) ∧ u = w) := by
  intro d
  induction d with
  | zero =>
    intro j hj hf
    have e : j = i := by omega
    subst e
    have l : ¬ nI j < nI j := Int32.lt_irrefl
    rw [b2i_f (show ¬ tldF (rdI w (t + 2)) j j = true by rw [hf]; decide)]
    simp only [eX5_isToldAhead_2, eX5_isToldAhead_3, eX5_isToldAhead_4, eX5_isToldAhead_60, eX5_isToldAhead_61, cont_some, tl_some, tl_none, csum_nil, csum_i, csum_r, csum_j, isc2_i, isc2_r, isc2_n, va_rf_s, vfn_ite, true_and, and_true, true_or, or_true, eq_self, Bool.false_eq_true, not_false_eq_true, not_true_eq_false, if_true, if_false, Nat.reduceAdd, Nat.reduceLeDiff, reduceIte, l]
  | succ d ih =>
    intro j hj hf
    have l : nI j < nI i := nI_lt (by omega) (by omega)
    have hj10 : j < 10 := by omega
    have no : ¬ (rdI w (t + 2) (3 * j) = rdI w (t + 2) (3 * i) ∧ rdI w (t + 2) (3 * j + 1) = rdI w (t + 2) (3 * i + 1) ∧ rdI w (t + 2) (3 * j + 2) = rdI w (t + 2) (3 * i + 2)) → wp mX5_isToldAhead 54 [some (.ref t), some (.int (nI i)), some (.int (nI j))] [] w (fun r u => r = some (.int (b2i (tldF (rdI w (t + 2)) i i = true))) ∧ u = w) := by
      intro q
      simp only [eX5_isToldAhead_54, cont_some, tl_some, tl_none, csum_nil, csum_i, csum_r, csum_j, isc2_i, isc2_r, isc2_n, va_rf_s, vfn_ite, true_and, and_true, true_or, or_true, eq_self, Bool.false_eq_true, not_false_eq_true, not_true_eq_false, if_true, if_false, Nat.reduceAdd, Nat.reduceLeDiff, reduceIte, nI_1]
      rw [eX5_isToldAhead_57]
      exact ih (j + 1) (by omega) (by show (tldF _ _ j || decide _) = false; rw [hf, decide_eq_false q]; rfl)
    simp only [eX5_isToldAhead_2, eX5_isToldAhead_3, eX5_isToldAhead_4, eX5_isToldAhead_7, eX5_isToldAhead_8, eX5_isToldAhead_9, eX5_isToldAhead_10, eX5_isToldAhead_13, eX5_isToldAhead_14, eX5_isToldAhead_15, eX5_isToldAhead_16, eX5_isToldAhead_19, cont_some, tl_some, tl_none, csum_nil, csum_i, csum_r, csum_j, isc2_i, isc2_r, isc2_n, va_rf_s, vfn_ite, true_and, and_true, true_or, or_true, eq_self, Bool.false_eq_true, not_false_eq_true, not_true_eq_false, if_true, if_false, Nat.reduceAdd, Nat.reduceLeDiff, reduceIte, l, h.1, s_number0 h hi, s_number0 h hj10]
    by_cases q1 : rdI w (t + 2) (3 * j) = rdI w (t + 2) (3 * i)
    · simp only [eX5_isToldAhead_22, eX5_isToldAhead_23, eX5_isToldAhead_24, eX5_isToldAhead_25, eX5_isToldAhead_28, eX5_isToldAhead_29, eX5_isToldAhead_30, eX5_isToldAhead_31, eX5_isToldAhead_34, cont_some, tl_some, tl_none, csum_nil, csum_i, csum_r, csum_j, isc2_i, isc2_r, isc2_n, va_rf_s, vfn_ite, true_and, and_true, true_or, or_true, eq_self, Bool.false_eq_true, not_false_eq_true, not_true_eq_false, if_true, if_false, Nat.reduceAdd, Nat.reduceLeDiff, reduceIte, h.1, q1, s_number1 h hi, s_number1 h hj10]
      by_cases q2 : rdI w (t + 2) (3 * j + 1) = rdI w (t + 2) (3 * i + 1)
      · simp only [eX5_isToldAhead_37, eX5_isToldAhead_38, eX5_isToldAhead_39, eX5_isToldAhead_40, eX5_isToldAhead_43, eX5_isToldAhead_44, eX5_isToldAhead_45, eX5_isToldAhead_46, eX5_isToldAhead_49, cont_some, tl_some, tl_none, csum_nil, csum_i, csum_r, csum_j, isc2_i, isc2_r, isc2_n, va_rf_s, vfn_ite, true_and, and_true, true_or, or_true, eq_self, Bool.false_eq_true, not_false_eq_true, not_true_eq_false, if_true, if_false, Nat.reduceAdd, Nat.reduceLeDiff, reduceIte, h.1, q2, s_number2 h hi, s_number2 h hj10]
        by_cases q3 : rdI w (t + 2) (3 * j + 2) = rdI w (t + 2) (3 * i + 2)
        · have y : tldF (rdI w (t + 2)) i (j + 1) = true := by
            show (tldF _ _ j || decide _) = true
            rw [decide_eq_true ⟨q1, q2, q3⟩, Bool.or_true]
          have y' := tldF_up y d
          rw [show j + 1 + d = i by omega] at y'
          rw [b2i_t y']
          simp only [eX5_isToldAhead_52, eX5_isToldAhead_53, cont_some, tl_some, tl_none, csum_nil, csum_i, csum_r, csum_j, isc2_i, isc2_r, isc2_n, va_rf_s, vfn_ite, true_and, and_true, true_or, or_true, eq_self, Bool.false_eq_true, not_false_eq_true, not_true_eq_false, if_true, if_false, Nat.reduceAdd, Nat.reduceLeDiff, reduceIte, q3]
        · rw [if_neg q3]
          exact no (fun z => q3 z.2.2)
      · rw [if_neg q2]
        exact no (fun z => q2 z.2.1)
    · rw [if_neg q1]
      exact no (fun z => q1 z.1)
theorem s_toldAhead {w : Wd} {t i : Nat} (h : isTp w t) (hi : i < 10) : fX5_isToldAhead [.ref t, .int (nI i)] w = some (some (.int (b2i (tldF (rdI w (t + 2)) i i = true))), w) := by
  refine sem_eq (Nat.le_of_ble_eq_true rfl) ?_
  show wp mX5_isToldAhead 0 [some (.ref t), some (.int (nI i)), none] [] _ _
  simp only [eX5_isToldAhead_0, eX5_isToldAhead_1, cont_some, tl_some, tl_none, csum_nil, csum_i, csum_r, csum_j, isc2_i, isc2_r, isc2_n, va_rf_s, vfn_ite, true_and, and_true, true_or, or_true, eq_self, Bool.false_eq_true, not_false_eq_true, not_true_eq_false, if_true, if_false, Nat.reduceAdd, Nat.reduceLeDiff, reduceIte]
  exact lo_told h hi i 0 (by omega) rfl
theorem nI_s {a b : Nat} (h : b ≤ a) : nI a - nI b = nI (a - b) := by
  rw [nI_iI, nI_iI, nI_iI, iI_sub]
  congr 1
  omega
theorem nI_p3' : (3 : Int32) = nI 3 := rfl
theorem lo_isTold {w : Wd} {o m : Nat} (h : isMd w o) (hm : m < 10) (ht : rdI w o 25 = nI (3 * m + 3)) : ∀ (d j : Nat), j + d = m → wp mX9_isTold 4 [some (.ref o), some (.int (b2i (tldF (rdI w (o + 12)) m j = true))), some (.int (nI (3 * j)))] [] w (fun r u => r = some (.int (b2i (tldF (rdI w (o + 12)) m m = true))) ∧ u = w) := by
  have s3 : nI (3 * m + 3) - 3 = nI (3 * m) := by rw [nI_p3', nI_s (by omega)]; congr 1
  have s2 : nI (3 * m + 3) - 2 = nI (3 * m + 1) := by rw [nI_p2, nI_s (by omega)]; congr 1
  have s1 : nI (3 * m + 3) - 1 = nI (3 * m + 2) := by rw [nI_p1, nI_s (by omega)]; congr 1
  intro d
  induction d with
  | zero =>
    intro j hj
    have e : j = m := by omega
    subst e
    have l : ¬ nI (3 * j) + 3 < nI (3 * j + 3) := by rw [nI_p3', nI_a]; exact Int32.lt_irrefl
    simp only [eX9_isTold_4, eX9_isTold_5, eX9_isTold_6, eX9_isTold_7, eX9_isTold_8, eX9_isTold_11, eX9_isTold_94, eX9_isTold_95, cont_some, tl_some, tl_none, csum_nil, csum_i, csum_r, csum_j, isc2_i, isc2_r, isc2_n, va_rf_s, vfn_ite, true_and, and_true, true_or, or_true, eq_self, Bool.false_eq_true, not_false_eq_true, not_true_eq_false, if_true, if_false, Nat.reduceAdd, Nat.reduceLeDiff, reduceIte, h.1, h.2.1, h.2.2.1, h.2.2.2.1, h.2.2.2.2.1, h.2.2.2.2.2.1, h.2.2.2.2.2.2.1, h.2.2.2.2.2.2.2.1, h.2.2.2.2.2.2.2.2.1, h.2.2.2.2.2.2.2.2.2.1, h.2.2.2.2.2.2.2.2.2.2.1, h.2.2.2.2.2.2.2.2.2.2.2.1, h.2.2.2.2.2.2.2.2.2.2.2.2.1, h.2.2.2.2.2.2.2.2.2.2.2.2.2.1, h.2.2.2.2.2.2.2.2.2.2.2.2.2.2.1, h.2.2.2.2.2.2.2.2.2.2.2.2.2.2.2.1, h.2.2.2.2.2.2.2.2.2.2.2.2.2.2.2.2.1, h.2.2.2.2.2.2.2.2.2.2.2.2.2.2.2.2.2.1, h.2.2.2.2.2.2.2.2.2.2.2.2.2.2.2.2.2.2.1, h.2.2.2.2.2.2.2.2.2.2.2.2.2.2.2.2.2.2.2.1, h.2.2.2.2.2.2.2.2.2.2.2.2.2.2.2.2.2.2.2.2.1, h.2.2.2.2.2.2.2.2.2.2.2.2.2.2.2.2.2.2.2.2.2.1, h.2.2.2.2.2.2.2.2.2.2.2.2.2.2.2.2.2.2.2.2.2.2.1, h.2.2.2.2.2.2.2.2.2.2.2.2.2.2.2.2.2.2.2.2.2.2.2.1, h.2.2.2.2.2.2.2.2.2.2.2.2.2.2.2.2.2.2.2.2.2.2.2.2, ht, l, b2i_01]
  | succ d ih =>
    intro j hj
    have l : nI (3 * j) + 3 < nI (3 * m + 3) := by rw [nI_p3', nI_a]; exact nI_lt (by omega) (by omega)
    have nxt_ : ∀ x : Int32, x = b2i (tldF (rdI w (o + 12)) m (j + 1) = true) → wp mX9_isTold 87 [some (.ref o), some (.int (b2i (tldF (rdI w (o + 12)) m j = true))), some (.int (nI (3 * j)))] [.int x] w (fun r u => r = some (.int (b2i (tldF (rdI w (o + 12)) m m = true))) ∧ u = w) := by
      intro x hx
      have e3 : nI (3 * j) + 3 = nI (3 * (j + 1)) := by rw [nI_p3', nI_a]; rfl
      simp only [eX9_isTold_87, eX9_isTold_88, cont_some, tl_some, tl_none, csum_nil, csum_i, csum_r, csum_j, isc2_i, isc2_r, isc2_n, va_rf_s, vfn_ite, true_and, and_true, true_or, or_true, eq_self, Bool.false_eq_true, not_false_eq_true, not_true_eq_false, if_true, if_false, Nat.reduceAdd, Nat.reduceLeDiff, reduceIte, e3]
      rw [eX9_isTold_91, hx]
      exact ih (j + 1) (by omega)
    have a0 := inA_nI (show 3 * j < 30 by omega) (show 30 < 2147483648 by omega)
    have a1 := inA_nI (show 3 * j + 1 < 30 by omega) (show 30 < 2147483648 by omega)
    have a2 := inA_nI (show 3 * j + 2 < 30 by omega) (show 30 < 2147483648 by omega)
    have c0 := nI_clamp (show 3 * j < 2 ^ 31 by omega)
    have c1 := nI_clamp (show 3 * j + 1 < 2 ^ 31 by omega)
    have c2 := nI_clamp (show 3 * j + 2 < 2 ^ 31 by omega)
    have A0 := inA_nI (show 3 * m < 30 by omega) (show 30 < 2147483648 by omega)
    have A1 := inA_nI (show 3 * m + 1 < 30 by omega) (show 30 < 2147483648 by omega)
    have A2 := inA_nI (show 3 * m + 2 < 30 by omega) (show 30 < 2147483648 by omega)
    have C0 := nI_clamp (show 3 * m < 2 ^ 31 by omega)
    have C1 := nI_clamp (show 3 * m + 1 < 2 ^ 31 by omega)
    have C2 := nI_clamp (show 3 * m + 2 < 2 ^ 31 by omega)
    have p1 : nI (3 * j) + 1 = nI (3 * j + 1) := by rw [nI_p1, nI_a]
    have p2 : nI (3 * j) + 2 = nI (3 * j + 2) := by rw [nI_p2, nI_a]
    simp only [eX9_isTold_4, eX9_isTold_5, eX9_isTold_6, eX9_isTold_7, eX9_isTold_8, eX9_isTold_11, eX9_isTold_14, cont_some, tl_some, tl_none, csum_nil, csum_i, csum_r, csum_j, isc2_i, isc2_r, isc2_n, va_rf_s, vfn_ite, true_and, and_true, true_or, or_true, eq_self, Bool.false_eq_true, not_false_eq_true, not_true_eq_false, if_true, if_false, Nat.reduceAdd, Nat.reduceLeDiff, reduceIte, h.1, h.2.1, h.2.2.1, h.2.2.2.1, h.2.2.2.2.1, h.2.2.2.2.2.1, h.2.2.2.2.2.2.1, h.2.2.2.2.2.2.2.1, h.2.2.2.2.2.2.2.2.1, h.2.2.2.2.2.2.2.2.2.1, h.2.2.2.2.2.2.2.2.2.2.1, h.2.2.2.2.2.2.2.2.2.2.2.1, h.2.2.2.2.2.2.2.2.2.2.2.2.1, h.2.2.2.2.2.2.2.2.2.2.2.2.2.1, h.2.2.2.2.2.2.2.2.2.2.2.2.2.2.1, h.2.2.2.2.2.2.2.2.2.2.2.2.2.2.2.1, h.2.2.2.2.2.2.2.2.2.2.2.2.2.2.2.2.1, h.2.2.2.2.2.2.2.2.2.2.2.2.2.2.2.2.2.1, h.2.2.2.2.2.2.2.2.2.2.2.2.2.2.2.2.2.2.1, h.2.2.2.2.2.2.2.2.2.2.2.2.2.2.2.2.2.2.2.1, h.2.2.2.2.2.2.2.2.2.2.2.2.2.2.2.2.2.2.2.2.1, h.2.2.2.2.2.2.2.2.2.2.2.2.2.2.2.2.2.2.2.2.2.1, h.2.2.2.2.2.2.2.2.2.2.2.2.2.2.2.2.2.2.2.2.2.2.1, h.2.2.2.2.2.2.2.2.2.2.2.2.2.2.2.2.2.2.2.2.2.2.2.1, h.2.2.2.2.2.2.2.2.2.2.2.2.2.2.2.2.2.2.2.2.2.2.2.2, ht, l]
    by_cases f : tldF (rdI w (o + 12)) m j = true
    · have y : tldF (rdI w (o + 12)) m (j + 1) = true := tldF_up f 1
      have f0 : ¬ b2i (tldF (rdI w (o + 12)) m j = true) = 0 := by rw [b2i_0]; exact fun z => z f
      simp only [eX9_isTold_15, eX9_isTold_82, eX9_isTold_83, cont_some, tl_some, tl_none, csum_nil, csum_i, csum_r, csum_j, isc2_i, isc2_r, isc2_n, va_rf_s, vfn_ite, true_and, and_true, true_or, or_true, eq_self, Bool.false_eq_true, not_false_eq_true, not_true_eq_false, if_true, if_false, Nat.reduceAdd, Nat.reduceLeDiff, reduceIte, f0]
      exact nxt_ 1 (b2i_t y).symm
    · have f0 : b2i (tldF (rdI w (o + 12)) m j = true) = 0 := b2i_f f
      have ff : tldF (rdI w (o + 12)) m j = false := by revert f; cases tldF (rdI w (o + 12)) m j <;> simp
      have no : ¬ (rdI w (o + 12) (3 * j) = rdI w (o + 12) (3 * m) ∧ rdI w (o + 12) (3 * j + 1) = rdI w (o + 12) (3 * m + 1) ∧ rdI w (o + 12) (3 * j + 2) = rdI w (o + 12) (3 * m + 2)) → wp mX9_isTold 86 [some (.ref o), some (.int (b2i (tldF (rdI w (o + 12)) m j = true))), some (.int (nI (3 * j)))] [] w (fun r u => r = some (.int (b2i (tldF (rdI w (o + 12)) m m = true))) ∧ u = w) := by
        intro q
        have y : ¬ tldF (rdI w (o + 12)) m (j + 1) = true := by
          show ¬ (tldF _ _ j || decide _) = true
          rw [ff, decide_eq_false q]
          decide
        simp only [eX9_isTold_86, cont_some, tl_some, tl_none, csum_nil, csum_i, csum_r, csum_j, isc2_i, isc2_r, isc2_n, va_rf_s, vfn_ite, true_and, and_true, true_or, or_true, eq_self, Bool.false_eq_true, not_false_eq_true, not_true_eq_false, if_true, if_false, Nat.reduceAdd, Nat.reduceLeDiff, reduceIte]
        exact nxt_ 0 (b2i_f y).symm
      rw [eX9_isTold_15, if_pos f0]
      simp only [eX9_isTold_18, eX9_isTold_19, eX9_isTold_22, eX9_isTold_23, eX9_isTold_24, eX9_isTold_25, eX9_isTold_28, eX9_isTold_29, eX9_isTold_32, eX9_isTold_33, eX9_isTold_34, eX9_isTold_35, cont_some, tl_some, tl_none, csum_nil, csum_i, csum_r, csum_j, isc2_i, isc2_r, isc2_n, va_rf_s, vfn_ite, true_and, and_true, true_or, or_true, eq_self, Bool.false_eq_true, not_false_eq_true, not_true_eq_false, if_true, if_false, Nat.reduceAdd, Nat.reduceLeDiff, reduceIte, h.1, h.2.1, h.2.2.1, h.2.2.2.1, h.2.2.2.2.1, h.2.2.2.2.2.1, h.2.2.2.2.2.2.1, h.2.2.2.2.2.2.2.1, h.2.2.2.2.2.2.2.2.1, h.2.2.2.2.2.2.2.2.2.1, h.2.2.2.2.2.2.2.2.2.2.1, h.2.2.2.2.2.2.2.2.2.2.2.1, h.2.2.2.2.2.2.2.2.2.2.2.2.1, h.2.2.2.2.2.2.2.2.2.2.2.2.2.1, h.2.2.2.2.2.2.2.2.2.2.2.2.2.2.1, h.2.2.2.2.2.2.2.2.2.2.2.2.2.2.2.1, h.2.2.2.2.2.2.2.2.2.2.2.2.2.2.2.2.1, h.2.2.2.2.2.2.2.2.2.2.2.2.2.2.2.2.2.1, h.2.2.2.2.2.2.2.2.2.2.2.2.2.2.2.2.2.2.1, h.2.2.2.2.2.2.2.2.2.2.2.2.2.2.2.2.2.2.2.1, h.2.2.2.2.2.2.2.2.2.2.2.2.2.2.2.2.2.2.2.2.1, h.2.2.2.2.2.2.2.2.2.2.2.2.2.2.2.2.2.2.2.2.2.1, h.2.2.2.2.2.2.2.2.2.2.2.2.2.2.2.2.2.2.2.2.2.2.1, h.2.2.2.2.2.2.2.2.2.2.2.2.2.2.2.2.2.2.2.2.2.2.2.1, h.2.2.2.2.2.2.2.2.2.2.2.2.2.2.2.2.2.2.2.2.2.2.2.2, ht, s3, a0, c0, A0, C0]
      by_cases q1 : rdI w (o + 12) (3 * j) = rdI w (o + 12) (3 * m)
      · rw [if_pos q1]
        simp only [eX9_isTold_38, eX9_isTold_39, eX9_isTold_42, eX9_isTold_43, eX9_isTold_44, eX9_isTold_45, eX9_isTold_46, eX9_isTold_47, eX9_isTold_50, eX9_isTold_51, eX9_isTold_54, eX9_isTold_55, eX9_isTold_56, eX9_isTold_57, cont_some, tl_some, tl_none, csum_nil, csum_i, csum_r, csum_j, isc2_i, isc2_r, isc2_n, va_rf_s, vfn_ite, true_and, and_true, true_or, or_true, eq_self, Bool.false_eq_true, not_false_eq_true, not_true_eq_false, if_true, if_false, Nat.reduceAdd, Nat.reduceLeDiff, reduceIte, h.1, h.2.1, h.2.2.1, h.2.2.2.1, h.2.2.2.2.1, h.2.2.2.2.2.1, h.2.2.2.2.2.2.1, h.2.2.2.2.2.2.2.1, h.2.2.2.2.2.2.2.2.1, h.2.2.2.2.2.2.2.2.2.1, h.2.2.2.2.2.2.2.2.2.2.1, h.2.2.2.2.2.2.2.2.2.2.2.1, h.2.2.2.2.2.2.2.2.2.2.2.2.1, h.2.2.2.2.2.2.2.2.2.2.2.2.2.1, h.2.2.2.2.2.2.2.2.2.2.2.2.2.2.1, h.2.2.2.2.2.2.2.2.2.2.2.2.2.2.2.1, h.2.2.2.2.2.2.2.2.2.2.2.2.2.2.2.2.1, h.2.2.2.2.2.2.2.2.2.2.2.2.2.2.2.2.2.1, h.2.2.2.2.2.2.2.2.2.2.2.2.2.2.2.2.2.2.1, h.2.2.2.2.2.2.2.2.2.2.2.2.2.2.2.2.2.2.2.1, h.2.2.2.2.2.2.2.2.2.2.2.2.2.2.2.2.2.2.2.2.1, h.2.2.2.2.2.2.2.2.2.2.2.2.2.2.2.2.2.2.2.2.2.1, h.2.2.2.2.2.2.2.2.2.2.2.2.2.2.2.2.2.2.2.2.2.2.1, h.2.2.2.2.2.2.2.2.2.2.2.2.2.2.2.2.2.2.2.2.2.2.2.1, h.2.2.2.2.2.2.2.2.2.2.2.2.2.2.2.2.2.2.2.2.2.2.2.2, ht, s2, p1, a1, c1, A1, C1]
        by_cases q2 : rdI w (o + 12) (3 * j + 1) = rdI w (o + 12) (3 * m + 1)
        · rw [if_pos q2]
          simp only [eX9_isTold_60, eX9_isTold_61, eX9_isTold_64, eX9_isTold_65, eX9_isTold_66, eX9_isTold_67, eX9_isTold_68, eX9_isTold_69, eX9_isTold_72, eX9_isTold_73, eX9_isTold_76, eX9_isTold_77, eX9_isTold_78, eX9_isTold_79, cont_some, tl_some, tl_none, csum_nil, csum_i, csum_r, csum_j, isc2_i, isc2_r, isc2_n, va_rf_s, vfn_ite, true_and, and_true, true_or, or_true, eq_self, Bool.false_eq_true, not_false_eq_true, not_true_eq_false, if_true, if_false, Nat.reduceAdd, Nat.reduceLeDiff, reduceIte, h.1, h.2.1, h.2.2.1, h.2.2.2.1, h.2.2.2.2.1, h.2.2.2.2.2.1, h.2.2.2.2.2.2.1, h.2.2.2.2.2.2.2.1, h.2.2.2.2.2.2.2.2.1, h.2.2.2.2.2.2.2.2.2.1, h.2.2.2.2.2.2.2.2.2.2.1, h.2.2.2.2.2.2.2.2.2.2.2.1, h.2.2.2.2.2.2.2.2.2.2.2.2.1, h.2.2.2.2.2.2.2.2.2.2.2.2.2.1, h.2.2.2.2.2.2.2.2.2.2.2.2.2.2.1, h.2.2.2.2.2.2.2.2.2.2.2.2.2.2.2.1, h.2.2.2.2.2.2.2.2.2.2.2.2.2.2.2.2.1, h.2.2.2.2.2.2.2.2.2.2.2.2.2.2.2.2.2.1, h.2.2.2.2.2.2.2.2.2.2.2.2.2.2.2.2.2.2.1, h.2.2.2.2.2.2.2.2.2.2.2.2.2.2.2.2.2.2.2.1, h.2.2.2.2.2.2.2.2.2.2.2.2.2.2.2.2.2.2.2.2.1, h.2.2.2.2.2.2.2.2.2.2.2.2.2.2.2.2.2.2.2.2.2.1, h.2.2.2.2.2.2.2.2.2.2.2.2.2.2.2.2.2.2.2.2.2.2.1, h.2.2.2.2.2.2.2.2.2.2.2.2.2.2.2.2.2.2.2.2.2.2.2.1, h.2.2.2.2.2.2.2.2.2.2.2.2.2.2.2.2.2.2.2.2.2.2.2.2, ht, s1, p2, a2, c2, A2, C2]
          by_cases q3 : rdI w (o + 12) (3 * j + 2) = rdI w (o + 12) (3 * m + 2)
          · rw [if_pos q3]
            have y : tldF (rdI w (o + 12)) m (j + 1) = true := by
              show (tldF _ _ j || decide _) = true
              rw [decide_eq_true ⟨q1, q2, q3⟩, Bool.or_true]
            simp only [eX9_isTold_82, eX9_isTold_83, cont_some, tl_some, tl_none, csum_nil, csum_i, csum_r, csum_j, isc2_i, isc2_r, isc2_n, va_rf_s, vfn_ite, true_and, and_true, true_or, or_true, eq_self, Bool.false_eq_true, not_false_eq_true, not_true_eq_false, if_true, if_false, Nat.reduceAdd, Nat.reduceLeDiff, reduceIte]
            exact nxt_ 1 (b2i_t y).symm
          · rw [if_neg q3]
            exact no (fun z => q3 z.2.2)
        · rw [if_neg q2]
          exact no (fun z => q2 z.2.1)
      · rw [if_neg q1]
        exact no (fun z => q1 z.1)
theorem m_isTold {w : Wd} {o m : Nat} (h : isMd w o) (hm : m < 10) (ht : rdI w o 25 = nI (3 * m + 3)) : fX9_isTold [.ref o] w = some (some (.int (b2i (tldF (rdI w (o + 12)) m m = true))), w) := by
  refine sem_eq (Nat.le_of_ble_eq_true rfl) ?_
  show wp mX9_isTold 0 [some (.ref o), none, none] [] _ _
  simp only [eX9_isTold_0, eX9_isTold_1, eX9_isTold_2, eX9_isTold_3, cont_some, tl_some, tl_none, csum_nil, csum_i, csum_r, csum_j, isc2_i, isc2_r, isc2_n, va_rf_s, vfn_ite, true_and, and_true, true_or, or_true, eq_self, Bool.false_eq_true, not_false_eq_true, not_true_eq_false, if_true, if_false, Nat.reduceAdd, Nat.reduceLeDiff, reduceIte]
  exact lo_isTold h hm ht m 0 (by omega)
