/-! figures, and the reference's reading head -/
theorem nI_lti {a b : Nat} (ha : a ≤ 9999) (hb : b ≤ 9999) : nI a < nI b ↔ a < b := by
  rw [Int32.lt_iff_toInt_lt, nI_toInt (by omega), nI_toInt (by omega)]
  omega
theorem nI_m48 {a : Nat} (h : 48 ≤ a) : nI a - 48 = nI (a - 48) := by
  have : (48 : Int32) = iI 48 := rfl
  rw [this, nI_iI, nI_iI, iI_sub]
  congr 1
  omega
theorem s_isFig {w : Wd} {t p : Nat} {T : Tst} (h : CT w t T) (h4 : rdI w t 4 = nI p) (hp : p ≤ T.1) : fX5_isFigure [.ref t] w = some (some (.int (b2i (fig T p))), w) := by
  have hl := s_letter h h4 hp
  obtain ⟨h1, h2, h3, h5⟩ := h
  by_cases q : p < T.1
  · obtain ⟨g1, g2, g3⟩ := h5 p q
    have e1 : nI (T.2 p) < 48 ↔ T.2 p < 48 := nI_lti (b := 48) (by omega) (by omega)
    have e2 : 57 < nI (T.2 p) ↔ 57 < T.2 p := nI_lti (a := 57) (by omega) (by omega)
    unfold ltr at hl
    rw [if_pos q] at hl
    by_cases q1 : T.2 p < 48
    · rw [b2i_f (show ¬ fig T p from fun z => by have := z.2.1; omega)]
      have z1 := e1.mpr q1
      refine sem_eq (Nat.le_of_ble_eq_true rfl) ?_
      show wp mX5_isFigure 0 [some (.ref t)] [] _ _
      simp only [eX5_isFigure_0, eX5_isFigure_1, eX5_isFigure_4, eX5_isFigure_6, eX5_isFigure_9, eX5_isFigure_10, eX5_isFigure_13, eX5_isFigure_15, eX5_isFigure_18, eX5_isFigure_19, eX5_isFigure_22, eX5_isFigure_23, cont_some, tl_some, tl_none, csum_nil, csum_i, csum_r, csum_j, isc2_i, isc2_r, isc2_n, va_rf_s, vfn_ite, true_and, and_true, true_or, or_true, eq_self, Bool.false_eq_true, not_false_eq_true, not_true_eq_false, if_true, if_false, Nat.reduceAdd, Nat.reduceLeDiff, reduceIte, h1.1, hl, z1]
    · have z1 : ¬ nI (T.2 p) < 48 := fun z => q1 (e1.mp z)
      by_cases q2 : 57 < T.2 p
      · rw [b2i_f (show ¬ fig T p from fun z => by have := z.2.2; omega)]
        have z2 := e2.mpr q2
        refine sem_eq (Nat.le_of_ble_eq_true rfl) ?_
        show wp mX5_isFigure 0 [some (.ref t)] [] _ _
        simp only [eX5_isFigure_0, eX5_isFigure_1, eX5_isFigure_4, eX5_isFigure_6, eX5_isFigure_9, eX5_isFigure_10, eX5_isFigure_13, eX5_isFigure_15, eX5_isFigure_18, eX5_isFigure_19, eX5_isFigure_22, eX5_isFigure_23, cont_some, tl_some, tl_none, csum_nil, csum_i, csum_r, csum_j, isc2_i, isc2_r, isc2_n, va_rf_s, vfn_ite, true_and, and_true, true_or, or_true, eq_self, Bool.false_eq_true, not_false_eq_true, not_true_eq_false, if_true, if_false, Nat.reduceAdd, Nat.reduceLeDiff, reduceIte, h1.1, hl, z1, z2]
      · have z2 : ¬ 57 < nI (T.2 p) := fun z => q2 (e2.mp z)
        rw [b2i_t (show fig T p from ⟨q, by omega, by omega⟩)]
        refine sem_eq (Nat.le_of_ble_eq_true rfl) ?_
        show wp mX5_isFigure 0 [some (.ref t)] [] _ _
        simp only [eX5_isFigure_0, eX5_isFigure_1, eX5_isFigure_4, eX5_isFigure_6, eX5_isFigure_9, eX5_isFigure_10, eX5_isFigure_13, eX5_isFigure_15, eX5_isFigure_18, eX5_isFigure_19, eX5_isFigure_22, eX5_isFigure_23, cont_some, tl_some, tl_none, csum_nil, csum_i, csum_r, csum_j, isc2_i, isc2_r, isc2_n, va_rf_s, vfn_ite, true_and, and_true, true_or, or_true, eq_self, Bool.false_eq_true, not_false_eq_true, not_true_eq_false, if_true, if_false, Nat.reduceAdd, Nat.reduceLeDiff, reduceIte, h1.1, hl, z1, z2]
  · unfold ltr at hl
    rw [if_neg q] at hl
    rw [b2i_f (show ¬ fig T p from fun z => q z.1)]
    have z1 : (0 : Int32) < 48 := by decide
    refine sem_eq (Nat.le_of_ble_eq_true rfl) ?_
    show wp mX5_isFigure 0 [some (.ref t)] [] _ _
    simp only [eX5_isFigure_0, eX5_isFigure_1, eX5_isFigure_4, eX5_isFigure_6, eX5_isFigure_9, eX5_isFigure_10, eX5_isFigure_13, eX5_isFigure_15, eX5_isFigure_18, eX5_isFigure_19, eX5_isFigure_22, eX5_isFigure_23, cont_some, tl_some, tl_none, csum_nil, csum_i, csum_r, csum_j, isc2_i, isc2_r, isc2_n, va_rf_s, vfn_ite, true_and, and_true, true_or, or_true, eq_self, Bool.false_eq_true, not_false_eq_true, not_true_eq_false, if_true, if_false, Nat.reduceAdd, Nat.reduceLeDiff, reduceIte, h1.1, hl, z1]
theorem s_takeFig {w : Wd} {t p : Nat} {T : Tst} (h : CT w t T) (h4 : rdI w t 4 = nI p) (hf : fig T p) : fX5_takeFigure [.ref t] w = some (some (.int (nI (T.2 p - 48))), wrI w t 4 (nI (p + 1))) := by
  have hl := s_letter h h4 (Nat.le_of_lt hf.1)
  unfold ltr at hl
  rw [if_pos hf.1] at hl
  refine sem_eq (Nat.le_of_ble_eq_true rfl) ?_
  show wp mX5_takeFigure 0 [some (.ref t), none] [] _ _
  simp only [eX5_takeFigure_0, eX5_takeFigure_1, eX5_takeFigure_4, eX5_takeFigure_6, eX5_takeFigure_7, eX5_takeFigure_8, eX5_takeFigure_9, eX5_takeFigure_9i, eX5_takeFigure_10, eX5_takeFigure_13, eX5_takeFigure_14, eX5_takeFigure_15, eX5_takeFigure_18, eX5_takeFigure_19, cont_some, tl_some, tl_none, csum_nil, csum_i, csum_r, csum_j, isc2_i, isc2_r, isc2_n, va_rf_s, vfn_ite, true_and, and_true, true_or, or_true, eq_self, Bool.false_eq_true, not_false_eq_true, not_true_eq_false, if_true, if_false, Nat.reduceAdd, Nat.reduceLeDiff, reduceIte, h.1.1, hl, nI_m48 hf.2.1, h4, nI_1]
theorem lo_here {o : Nat} {T : Tst} : ∀ (d p : Nat) (w : Wd), p + d = T.1 → MT w o T → rdI w o 26 = nI p → wp mX9_here 0 [some (.ref o)] [] w (fun r u => r = some (.int (ltr T (skF T d p) (-4))) ∧ u = wrI w o 26 (nI (skF T d p))) := by
  intro d
  induction d with
  | zero =>
    intro p w hp h h4
    have e : p = T.1 := by omega
    subst e
    obtain ⟨h1, h2, h3, h5⟩ := h
    have l : ¬ nI T.1 < nI T.1 := Int32.lt_irrefl
    have l' : ¬ T.1 < T.1 := Nat.lt_irrefl _
    simp only [eX9_here_0, eX9_here_1, eX9_here_4, eX9_here_5, eX9_here_8, eX9_here_38, eX9_here_39, eX9_here_42, eX9_here_43, eX9_here_46, eX9_here_61, eX9_here_63, cont_some, tl_some, tl_none, csum_nil, csum_i, csum_r, csum_j, isc2_i, isc2_r, isc2_n, va_rf_s, vfn_ite, true_and, and_true, true_or, or_true, eq_self, Bool.false_eq_true, not_false_eq_true, not_true_eq_false, if_true, if_false, Nat.reduceAdd, Nat.reduceLeDiff, reduceIte, h1.1, h1.2.1, h1.2.2.1, h1.2.2.2.1, h1.2.2.2.2.1, h1.2.2.2.2.2.1, h1.2.2.2.2.2.2.1, h1.2.2.2.2.2.2.2.1, h1.2.2.2.2.2.2.2.2.1, h1.2.2.2.2.2.2.2.2.2.1, h1.2.2.2.2.2.2.2.2.2.2.1, h1.2.2.2.2.2.2.2.2.2.2.2.1, h1.2.2.2.2.2.2.2.2.2.2.2.2.1, h1.2.2.2.2.2.2.2.2.2.2.2.2.2.1, h1.2.2.2.2.2.2.2.2.2.2.2.2.2.2.1, h1.2.2.2.2.2.2.2.2.2.2.2.2.2.2.2.1, h1.2.2.2.2.2.2.2.2.2.2.2.2.2.2.2.2.1, h1.2.2.2.2.2.2.2.2.2.2.2.2.2.2.2.2.2.1, h1.2.2.2.2.2.2.2.2.2.2.2.2.2.2.2.2.2.2.1, h1.2.2.2.2.2.2.2.2.2.2.2.2.2.2.2.2.2.2.2.1, h1.2.2.2.2.2.2.2.2.2.2.2.2.2.2.2.2.2.2.2.2.1, h1.2.2.2.2.2.2.2.2.2.2.2.2.2.2.2.2.2.2.2.2.2.1, h1.2.2.2.2.2.2.2.2.2.2.2.2.2.2.2.2.2.2.2.2.2.2.1, h1.2.2.2.2.2.2.2.2.2.2.2.2.2.2.2.2.2.2.2.2.2.2.2.1, h1.2.2.2.2.2.2.2.2.2.2.2.2.2.2.2.2.2.2.2.2.2.2.2.2, h4, h2, l, skF, ltr, l']
    exact (wrI_self h4).symm
  | succ d ih =>
    intro p w hp h h4
    obtain ⟨h1, h2, h3, h5⟩ := h
    have l : nI p < nI T.1 := nI_lt (by omega) (by omega)
    have l' : p < T.1 := by omega
    obtain ⟨g1, g2, g3⟩ := h5 p (by omega)
    have i9 := inA_nI (show p < 90 by omega) (show 90 < 2147483648 by omega)
    have cp := nI_clamp (show p < 2 ^ 31 by omega)
    by_cases q : T.2 p = 32
    · have e : nI (T.2 p) = 32 := by rw [q]; rfl
      simp only [eX9_here_0, eX9_here_1, eX9_here_4, eX9_here_5, eX9_here_8, cont_some, tl_some, tl_none, csum_nil, csum_i, csum_r, csum_j, isc2_i, isc2_r, isc2_n, va_rf_s, vfn_ite, true_and, and_true, true_or, or_true, eq_self, Bool.false_eq_true, not_false_eq_true, not_true_eq_false, if_true, if_false, Nat.reduceAdd, Nat.reduceLeDiff, reduceIte, h1.1, h1.2.1, h1.2.2.1, h1.2.2.2.1, h1.2.2.2.2.1, h1.2.2.2.2.2.1, h1.2.2.2.2.2.2.1, h1.2.2.2.2.2.2.2.1, h1.2.2.2.2.2.2.2.2.1, h1.2.2.2.2.2.2.2.2.2.1, h1.2.2.2.2.2.2.2.2.2.2.1, h1.2.2.2.2.2.2.2.2.2.2.2.1, h1.2.2.2.2.2.2.2.2.2.2.2.2.1, h1.2.2.2.2.2.2.2.2.2.2.2.2.2.1, h1.2.2.2.2.2.2.2.2.2.2.2.2.2.2.1, h1.2.2.2.2.2.2.2.2.2.2.2.2.2.2.2.1, h1.2.2.2.2.2.2.2.2.2.2.2.2.2.2.2.2.1, h1.2.2.2.2.2.2.2.2.2.2.2.2.2.2.2.2.2.1, h1.2.2.2.2.2.2.2.2.2.2.2.2.2.2.2.2.2.2.1, h1.2.2.2.2.2.2.2.2.2.2.2.2.2.2.2.2.2.2.2.1, h1.2.2.2.2.2.2.2.2.2.2.2.2.2.2.2.2.2.2.2.2.1, h1.2.2.2.2.2.2.2.2.2.2.2.2.2.2.2.2.2.2.2.2.2.1, h1.2.2.2.2.2.2.2.2.2.2.2.2.2.2.2.2.2.2.2.2.2.2.1, h1.2.2.2.2.2.2.2.2.2.2.2.2.2.2.2.2.2.2.2.2.2.2.2.1, h1.2.2.2.2.2.2.2.2.2.2.2.2.2.2.2.2.2.2.2.2.2.2.2.2, h4, h2, l]
      simp only [eX9_here_11, eX9_here_12, eX9_here_15, eX9_here_16, eX9_here_19, eX9_here_20, eX9_here_22, eX9_here_25, eX9_here_26, eX9_here_26i, eX9_here_27, eX9_here_30, eX9_here_31, eX9_here_32, cont_some, tl_some, tl_none, csum_nil, csum_i, csum_r, csum_j, isc2_i, isc2_r, isc2_n, va_rf_s, vfn_ite, true_and, and_true, true_or, or_true, eq_self, Bool.false_eq_true, not_false_eq_true, not_true_eq_false, if_true, if_false, Nat.reduceAdd, Nat.reduceLeDiff, reduceIte, h1.1, h1.2.1, h1.2.2.1, h1.2.2.2.1, h1.2.2.2.2.1, h1.2.2.2.2.2.1, h1.2.2.2.2.2.2.1, h1.2.2.2.2.2.2.2.1, h1.2.2.2.2.2.2.2.2.1, h1.2.2.2.2.2.2.2.2.2.1, h1.2.2.2.2.2.2.2.2.2.2.1, h1.2.2.2.2.2.2.2.2.2.2.2.1, h1.2.2.2.2.2.2.2.2.2.2.2.2.1, h1.2.2.2.2.2.2.2.2.2.2.2.2.2.1, h1.2.2.2.2.2.2.2.2.2.2.2.2.2.2.1, h1.2.2.2.2.2.2.2.2.2.2.2.2.2.2.2.1, h1.2.2.2.2.2.2.2.2.2.2.2.2.2.2.2.2.1, h1.2.2.2.2.2.2.2.2.2.2.2.2.2.2.2.2.2.1, h1.2.2.2.2.2.2.2.2.2.2.2.2.2.2.2.2.2.2.1, h1.2.2.2.2.2.2.2.2.2.2.2.2.2.2.2.2.2.2.2.1, h1.2.2.2.2.2.2.2.2.2.2.2.2.2.2.2.2.2.2.2.2.1, h1.2.2.2.2.2.2.2.2.2.2.2.2.2.2.2.2.2.2.2.2.2.1, h1.2.2.2.2.2.2.2.2.2.2.2.2.2.2.2.2.2.2.2.2.2.2.1, h1.2.2.2.2.2.2.2.2.2.2.2.2.2.2.2.2.2.2.2.2.2.2.2.1, h1.2.2.2.2.2.2.2.2.2.2.2.2.2.2.2.2.2.2.2.2.2.2.2.2, h4, i9, cp, g1, e, nI_1]
      rw [eX9_here_35]
      have := ih (p + 1) (wrI w o 26 (nI (p + 1))) (by omega) (MT.at ⟨h1, h2, h3, h5⟩ (by omega)) (by simp [rdI_wrI])
      simp only [wrI_wrI] at this
      simp only [skF, q, if_true]
      exact this
    · have e : ¬ nI (T.2 p) = 32 := fun z => q ((nI_is (k := 32) g3 (by omega)).mp z)
      simp only [eX9_here_0, eX9_here_1, eX9_here_4, eX9_here_5, eX9_here_8, eX9_here_11, eX9_here_12, eX9_here_15, eX9_here_16, eX9_here_19, eX9_here_20, eX9_here_22, cont_some, tl_some, tl_none, csum_nil, csum_i, csum_r, csum_j, isc2_i, isc2_r, isc2_n, va_rf_s, vfn_ite, true_and, and_true, true_or, or_true, eq_self, Bool.false_eq_true, not_false_eq_true, not_true_eq_false, if_true, if_false, Nat.reduceAdd, Nat.reduceLeDiff, reduceIte, h1.1, h1.2.1, h1.2.2.1, h1.2.2.2.1, h1.2.2.2.2.1, h1.2.2.2.2.2.1, h1.2.2.2.2.2.2.1, h1.2.2.2.2.2.2.2.1, h1.2.2.2.2.2.2.2.2.1, h1.2.2.2.2.2.2.2.2.2.1, h1.2.2.2.2.2.2.2.2.2.2.1, h1.2.2.2.2.2.2.2.2.2.2.2.1, h1.2.2.2.2.2.2.2.2.2.2.2.2.1, h1.2.2.2.2.2.2.2.2.2.2.2.2.2.1, h1.2.2.2.2.2.2.2.2.2.2.2.2.2.2.1, h1.2.2.2.2.2.2.2.2.2.2.2.2.2.2.2.1, h1.2.2.2.2.2.2.2.2.2.2.2.2.2.2.2.2.1, h1.2.2.2.2.2.2.2.2.2.2.2.2.2.2.2.2.2.1, h1.2.2.2.2.2.2.2.2.2.2.2.2.2.2.2.2.2.2.1, h1.2.2.2.2.2.2.2.2.2.2.2.2.2.2.2.2.2.2.2.1, h1.2.2.2.2.2.2.2.2.2.2.2.2.2.2.2.2.2.2.2.2.1, h1.2.2.2.2.2.2.2.2.2.2.2.2.2.2.2.2.2.2.2.2.2.1, h1.2.2.2.2.2.2.2.2.2.2.2.2.2.2.2.2.2.2.2.2.2.2.1, h1.2.2.2.2.2.2.2.2.2.2.2.2.2.2.2.2.2.2.2.2.2.2.2.1, h1.2.2.2.2.2.2.2.2.2.2.2.2.2.2.2.2.2.2.2.2.2.2.2.2, h4, h2, l, i9, cp, g1, e]
      simp only [eX9_here_38, eX9_here_39, eX9_here_42, eX9_here_43, eX9_here_46, eX9_here_49, eX9_here_50, eX9_here_53, eX9_here_54, eX9_here_57, eX9_here_58, eX9_here_61, eX9_here_63, cont_some, tl_some, tl_none, csum_nil, csum_i, csum_r, csum_j, isc2_i, isc2_r, isc2_n, va_rf_s, vfn_ite, true_and, and_true, true_or, or_true, eq_self, Bool.false_eq_true, not_false_eq_true, not_true_eq_false, if_true, if_false, Nat.reduceAdd, Nat.reduceLeDiff, reduceIte, h1.1, h1.2.1, h1.2.2.1, h1.2.2.2.1, h1.2.2.2.2.1, h1.2.2.2.2.2.1, h1.2.2.2.2.2.2.1, h1.2.2.2.2.2.2.2.1, h1.2.2.2.2.2.2.2.2.1, h1.2.2.2.2.2.2.2.2.2.1, h1.2.2.2.2.2.2.2.2.2.2.1, h1.2.2.2.2.2.2.2.2.2.2.2.1, h1.2.2.2.2.2.2.2.2.2.2.2.2.1, h1.2.2.2.2.2.2.2.2.2.2.2.2.2.1, h1.2.2.2.2.2.2.2.2.2.2.2.2.2.2.1, h1.2.2.2.2.2.2.2.2.2.2.2.2.2.2.2.1, h1.2.2.2.2.2.2.2.2.2.2.2.2.2.2.2.2.1, h1.2.2.2.2.2.2.2.2.2.2.2.2.2.2.2.2.2.1, h1.2.2.2.2.2.2.2.2.2.2.2.2.2.2.2.2.2.2.1, h1.2.2.2.2.2.2.2.2.2.2.2.2.2.2.2.2.2.2.2.1, h1.2.2.2.2.2.2.2.2.2.2.2.2.2.2.2.2.2.2.2.2.1, h1.2.2.2.2.2.2.2.2.2.2.2.2.2.2.2.2.2.2.2.2.2.1, h1.2.2.2.2.2.2.2.2.2.2.2.2.2.2.2.2.2.2.2.2.2.2.1, h1.2.2.2.2.2.2.2.2.2.2.2.2.2.2.2.2.2.2.2.2.2.2.2.1, h1.2.2.2.2.2.2.2.2.2.2.2.2.2.2.2.2.2.2.2.2.2.2.2.2, h4, h2, l, i9, cp, g1, skF, q, ltr, l']
      exact (wrI_self h4).symm
theorem m_here {w : Wd} {o p : Nat} {T : Tst} (h : MT w o T) (h4 : rdI w o 26 = nI p) (hp : p ≤ T.1) : fX9_here [.ref o] w = some (some (.int (ltr T (sk T p) (-4))), wrI w o 26 (nI (sk T p))) := by
  refine sem_eq (Nat.le_of_ble_eq_true rfl) ?_
  show wp mX9_here 0 [some (.ref o)] [] _ _
  have := lo_here (T.1 - p) p w (by omega) h h4
  rw [skF_sk (by omega)] at this
  exact this
theorem m_isFig {w : Wd} {o p : Nat} {T : Tst} (h : MT w o T) (hp : p ≤ T.1) : fX9_isFigureAt [.ref o, .int (nI p)] w = some (some (.int (b2i (fig T p))), w) := by
  obtain ⟨h1, h2, h3, h5⟩ := h
  by_cases q : p < T.1
  · have l : nI p < nI T.1 := nI_lt (by omega) (by omega)
    obtain ⟨g1, g2, g3⟩ := h5 p q
    have e1 : nI (T.2 p) < 48 ↔ T.2 p < 48 := nI_lti (b := 48) (by omega) (by omega)
    have e2 : 57 < nI (T.2 p) ↔ 57 < T.2 p := nI_lti (a := 57) (by omega) (by omega)
    have i9 := inA_nI (show p < 90 by omega) (show 90 < 2147483648 by omega)
    have cp := nI_clamp (show p < 2 ^ 31 by omega)
    by_cases f : fig T p
    · have z : 48 ≤ nI (T.2 p) ∧ nI (T.2 p) ≤ 57 := ⟨Int32.not_lt.mp (fun z => by have := e1.mp z; have := f.2.1; omega), Int32.not_lt.mp (fun z => by have := e2.mp z; have := f.2.2; omega)⟩
      rw [b2i_t f]
      refine sem_eq (Nat.le_of_ble_eq_true rfl) ?_
      show wp mX9_isFigureAt 0 [some (.ref o), some (.int (nI p))] [] _ _
      simp only [eX9_isFigureAt_0, eX9_isFigureAt_1, eX9_isFigureAt_2, eX9_isFigureAt_5, eX9_isFigureAt_8, eX9_isFigureAt_9, eX9_isFigureAt_12, eX9_isFigureAt_13, eX9_isFigureAt_14, eX9_isFigureAt_15, eX9_isFigureAt_18, eX9_isFigureAt_21, eX9_isFigureAt_24, eX9_isFigureAt_27, eX9_isFigureAt_28, eX9_isFigureAt_31, eX9_isFigureAt_32, cont_some, tl_some, tl_none, csum_nil, csum_i, csum_r, csum_j, isc2_i, isc2_r, isc2_n, va_rf_s, vfn_ite, true_and, and_true, true_or, or_true, eq_self, Bool.false_eq_true, not_false_eq_true, not_true_eq_false, if_true, if_false, Nat.reduceAdd, Nat.reduceLeDiff, reduceIte, h1.1, h1.2.1, h1.2.2.1, h1.2.2.2.1, h1.2.2.2.2.1, h1.2.2.2.2.2.1, h1.2.2.2.2.2.2.1, h1.2.2.2.2.2.2.2.1, h1.2.2.2.2.2.2.2.2.1, h1.2.2.2.2.2.2.2.2.2.1, h1.2.2.2.2.2.2.2.2.2.2.1, h1.2.2.2.2.2.2.2.2.2.2.2.1, h1.2.2.2.2.2.2.2.2.2.2.2.2.1, h1.2.2.2.2.2.2.2.2.2.2.2.2.2.1, h1.2.2.2.2.2.2.2.2.2.2.2.2.2.2.1, h1.2.2.2.2.2.2.2.2.2.2.2.2.2.2.2.1, h1.2.2.2.2.2.2.2.2.2.2.2.2.2.2.2.2.1, h1.2.2.2.2.2.2.2.2.2.2.2.2.2.2.2.2.2.1, h1.2.2.2.2.2.2.2.2.2.2.2.2.2.2.2.2.2.2.1, h1.2.2.2.2.2.2.2.2.2.2.2.2.2.2.2.2.2.2.2.1, h1.2.2.2.2.2.2.2.2.2.2.2.2.2.2.2.2.2.2.2.2.1, h1.2.2.2.2.2.2.2.2.2.2.2.2.2.2.2.2.2.2.2.2.2.1, h1.2.2.2.2.2.2.2.2.2.2.2.2.2.2.2.2.2.2.2.2.2.2.1, h1.2.2.2.2.2.2.2.2.2.2.2.2.2.2.2.2.2.2.2.2.2.2.2.1, h1.2.2.2.2.2.2.2.2.2.2.2.2.2.2.2.2.2.2.2.2.2.2.2.2, h2, l, i9, cp, g1, in48, b2i_0, z, and_self]
    · have z : ¬ (48 ≤ nI (T.2 p) ∧ nI (T.2 p) ≤ 57) := fun z => f ⟨q, Nat.not_lt.mp (fun y => Int32.not_lt.mpr z.1 (e1.mpr y)), Nat.not_lt.mp (fun y => Int32.not_lt.mpr z.2 (e2.mpr y))⟩
      rw [b2i_f f]
      refine sem_eq (Nat.le_of_ble_eq_true rfl) ?_
      show wp mX9_isFigureAt 0 [some (.ref o), some (.int (nI p))] [] _ _
      simp only [eX9_isFigureAt_0, eX9_isFigureAt_1, eX9_isFigureAt_2, eX9_isFigureAt_5, eX9_isFigureAt_8, eX9_isFigureAt_9, eX9_isFigureAt_12, eX9_isFigureAt_13, eX9_isFigureAt_14, eX9_isFigureAt_15, eX9_isFigureAt_18, eX9_isFigureAt_21, eX9_isFigureAt_24, eX9_isFigureAt_27, eX9_isFigureAt_28, eX9_isFigureAt_31, eX9_isFigureAt_32, cont_some, tl_some, tl_none, csum_nil, csum_i, csum_r, csum_j, isc2_i, isc2_r, isc2_n, va_rf_s, vfn_ite, true_and, and_true, true_or, or_true, eq_self, Bool.false_eq_true, not_false_eq_true, not_true_eq_false, if_true, if_false, Nat.reduceAdd, Nat.reduceLeDiff, reduceIte, h1.1, h1.2.1, h1.2.2.1, h1.2.2.2.1, h1.2.2.2.2.1, h1.2.2.2.2.2.1, h1.2.2.2.2.2.2.1, h1.2.2.2.2.2.2.2.1, h1.2.2.2.2.2.2.2.2.1, h1.2.2.2.2.2.2.2.2.2.1, h1.2.2.2.2.2.2.2.2.2.2.1, h1.2.2.2.2.2.2.2.2.2.2.2.1, h1.2.2.2.2.2.2.2.2.2.2.2.2.1, h1.2.2.2.2.2.2.2.2.2.2.2.2.2.1, h1.2.2.2.2.2.2.2.2.2.2.2.2.2.2.1, h1.2.2.2.2.2.2.2.2.2.2.2.2.2.2.2.1, h1.2.2.2.2.2.2.2.2.2.2.2.2.2.2.2.2.1, h1.2.2.2.2.2.2.2.2.2.2.2.2.2.2.2.2.2.1, h1.2.2.2.2.2.2.2.2.2.2.2.2.2.2.2.2.2.2.1, h1.2.2.2.2.2.2.2.2.2.2.2.2.2.2.2.2.2.2.2.1, h1.2.2.2.2.2.2.2.2.2.2.2.2.2.2.2.2.2.2.2.2.1, h1.2.2.2.2.2.2.2.2.2.2.2.2.2.2.2.2.2.2.2.2.2.1, h1.2.2.2.2.2.2.2.2.2.2.2.2.2.2.2.2.2.2.2.2.2.2.1, h1.2.2.2.2.2.2.2.2.2.2.2.2.2.2.2.2.2.2.2.2.2.2.2.1, h1.2.2.2.2.2.2.2.2.2.2.2.2.2.2.2.2.2.2.2.2.2.2.2.2, h2, l, i9, cp, g1, in48, b2i_0, z]
  · have l : ¬ nI p < nI T.1 := by rw [show p = T.1 by omega]; exact Int32.lt_irrefl
    rw [b2i_f (show ¬ fig T p from fun z => q z.1)]
    refine sem_eq (Nat.le_of_ble_eq_true rfl) ?_
    show wp mX9_isFigureAt 0 [some (.ref o), some (.int (nI p))] [] _ _
    simp only [eX9_isFigureAt_0, eX9_isFigureAt_1, eX9_isFigureAt_2, eX9_isFigureAt_5, eX9_isFigureAt_8, eX9_isFigureAt_9, eX9_isFigureAt_12, eX9_isFigureAt_13, eX9_isFigureAt_14, eX9_isFigureAt_15, eX9_isFigureAt_18, eX9_isFigureAt_21, eX9_isFigureAt_24, eX9_isFigureAt_27, eX9_isFigureAt_28, eX9_isFigureAt_31, eX9_isFigureAt_32, cont_some, tl_some, tl_none, csum_nil, csum_i, csum_r, csum_j, isc2_i, isc2_r, isc2_n, va_rf_s, vfn_ite, true_and, and_true, true_or, or_true, eq_self, Bool.false_eq_true, not_false_eq_true, not_true_eq_false, if_true, if_false, Nat.reduceAdd, Nat.reduceLeDiff, reduceIte, h1.1, h1.2.1, h1.2.2.1, h1.2.2.2.1, h1.2.2.2.2.1, h1.2.2.2.2.2.1, h1.2.2.2.2.2.2.1, h1.2.2.2.2.2.2.2.1, h1.2.2.2.2.2.2.2.2.1, h1.2.2.2.2.2.2.2.2.2.1, h1.2.2.2.2.2.2.2.2.2.2.1, h1.2.2.2.2.2.2.2.2.2.2.2.1, h1.2.2.2.2.2.2.2.2.2.2.2.2.1, h1.2.2.2.2.2.2.2.2.2.2.2.2.2.1, h1.2.2.2.2.2.2.2.2.2.2.2.2.2.2.1, h1.2.2.2.2.2.2.2.2.2.2.2.2.2.2.2.1, h1.2.2.2.2.2.2.2.2.2.2.2.2.2.2.2.2.1, h1.2.2.2.2.2.2.2.2.2.2.2.2.2.2.2.2.2.1, h1.2.2.2.2.2.2.2.2.2.2.2.2.2.2.2.2.2.2.1, h1.2.2.2.2.2.2.2.2.2.2.2.2.2.2.2.2.2.2.2.1, h1.2.2.2.2.2.2.2.2.2.2.2.2.2.2.2.2.2.2.2.2.1, h1.2.2.2.2.2.2.2.2.2.2.2.2.2.2.2.2.2.2.2.2.2.1, h1.2.2.2.2.2.2.2.2.2.2.2.2.2.2.2.2.2.2.2.2.2.2.1, h1.2.2.2.2.2.2.2.2.2.2.2.2.2.2.2.2.2.2.2.2.2.2.2.1, h1.2.2.2.2.2.2.2.2.2.2.2.2.2.2.2.2.2.2.2.2.2.2.2.2, h2, l]
theorem m_faults {w : Wd} {o : Nat} {x : Int32} (h : isMd w o) : fX9_faults [.ref o, .int x] w = some (some (.int 0), wrI w o 27 x) := by
  refine sem_eq (Nat.le_of_ble_eq_true rfl) ?_
  show wp mX9_faults 0 [some (.ref o), some (.int x)] [] _ _
  simp only [eX9_faults_0, eX9_faults_1, eX9_faults_2, eX9_faults_5, eX9_faults_6, cont_some, tl_some, tl_none, csum_nil, csum_i, csum_r, csum_j, isc2_i, isc2_r, isc2_n, va_rf_s, vfn_ite, true_and, and_true, true_or, or_true, eq_self, Bool.false_eq_true, not_false_eq_true, not_true_eq_false, if_true, if_false, Nat.reduceAdd, Nat.reduceLeDiff, reduceIte, h.1, h.2.1, h.2.2.1, h.2.2.2.1, h.2.2.2.2.1, h.2.2.2.2.2.1, h.2.2.2.2.2.2.1, h.2.2.2.2.2.2.2.1, h.2.2.2.2.2.2.2.2.1, h.2.2.2.2.2.2.2.2.2.1, h.2.2.2.2.2.2.2.2.2.2.1, h.2.2.2.2.2.2.2.2.2.2.2.1, h.2.2.2.2.2.2.2.2.2.2.2.2.1, h.2.2.2.2.2.2.2.2.2.2.2.2.2.1, h.2.2.2.2.2.2.2.2.2.2.2.2.2.2.1, h.2.2.2.2.2.2.2.2.2.2.2.2.2.2.2.1, h.2.2.2.2.2.2.2.2.2.2.2.2.2.2.2.2.1, h.2.2.2.2.2.2.2.2.2.2.2.2.2.2.2.2.2.1, h.2.2.2.2.2.2.2.2.2.2.2.2.2.2.2.2.2.2.1, h.2.2.2.2.2.2.2.2.2.2.2.2.2.2.2.2.2.2.2.1, h.2.2.2.2.2.2.2.2.2.2.2.2.2.2.2.2.2.2.2.2.1, h.2.2.2.2.2.2.2.2.2.2.2.2.2.2.2.2.2.2.2.2.2.1, h.2.2.2.2.2.2.2.2.2.2.2.2.2.2.2.2.2.2.2.2.2.2.1, h.2.2.2.2.2.2.2.2.2.2.2.2.2.2.2.2.2.2.2.2.2.2.2.1, h.2.2.2.2.2.2.2.2.2.2.2.2.2.2.2.2.2.2.2.2.2.2.2.2]
