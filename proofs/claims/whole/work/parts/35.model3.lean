/-! the reference's undo, image, restore: rows copied -/
theorem lo_undo {w : Wd} {o m : Nat} {Q : Option Value → Wd → Prop} (h : isMd w o) (hm : rdI w o 2 = nI m) (hm6 : m < 6) : ∀ (d k : Nat), k + d = 33 → (∀ a1, wp mX9_undo 54 [some (.ref o), a1] [] (cpI w (o + 2) (33 * m) (o + 1) 0 33) Q) →
    wp mX9_undo 22 [some (.ref o), some (.int (nI k))] [] (cpI w (o + 2) (33 * m) (o + 1) 0 k) Q := by
  have n1 : ¬ o = o + 1 := by omega
  intro d
  induction d with
  | zero =>
    intro k hk hQ
    have : k = 33 := by omega
    subst this
    have h1 : ¬ nI 33 < 33 := by decide
    simp only [eX9_undo_22, eX9_undo_23, eX9_undo_25, cont_some, tl_some, tl_none, csum_nil, csum_i, csum_r, csum_j, isc2_i, isc2_r, isc2_n, va_rf_s, vfn_ite, true_and, and_true, true_or, or_true, eq_self, Bool.false_eq_true, not_false_eq_true, not_true_eq_false, if_true, if_false, Nat.reduceAdd, Nat.reduceLeDiff, reduceIte, h1]
    exact hQ _
  | succ d ih =>
    intro k hk hQ
    have h1 : nI k < 33 := nI_lt (b := 33) (by omega) (by decide)
    have hk2 : rdI (cpI w (o + 2) (33 * m) (o + 1) 0 k) o 2 = nI m := by rw [rdI_cpI, if_neg (fun q => n1 q.1)]; exact hm
    simp only [eX9_undo_22, eX9_undo_23, eX9_undo_25, cont_some, tl_some, tl_none, csum_nil, csum_i, csum_r, csum_j, isc2_i, isc2_r, isc2_n, va_rf_s, vfn_ite, true_and, and_true, true_or, or_true, eq_self, Bool.false_eq_true, not_false_eq_true, not_true_eq_false, if_true, if_false, Nat.reduceAdd, Nat.reduceLeDiff, reduceIte, h1]
    simp only [eX9_undo_28, eX9_undo_29, eX9_undo_32, eX9_undo_33, eX9_undo_34, eX9_undo_37, eX9_undo_39, eX9_undo_40, eX9_undo_43, eX9_undo_44, eX9_undo_45, eX9_undo_46, eX9_undo_47, eX9_undo_48, cont_some, tl_some, tl_none, csum_nil, csum_i, csum_r, csum_j, isc2_i, isc2_r, isc2_n, va_rf_s, vfn_ite, true_and, and_true, true_or, or_true, eq_self, Bool.false_eq_true, not_false_eq_true, not_true_eq_false, if_true, if_false, Nat.reduceAdd, Nat.reduceLeDiff, reduceIte, shp_cpI, rdR_cpI, hk2, h.1, h.2.1, h.2.2.1, h.2.2.2.1, h.2.2.2.2.1, h.2.2.2.2.2.1, h.2.2.2.2.2.2.1, h.2.2.2.2.2.2.2.1, h.2.2.2.2.2.2.2.2.1, h.2.2.2.2.2.2.2.2.2.1, h.2.2.2.2.2.2.2.2.2.2.1, h.2.2.2.2.2.2.2.2.2.2.2.1, h.2.2.2.2.2.2.2.2.2.2.2.2.1, h.2.2.2.2.2.2.2.2.2.2.2.2.2.1, h.2.2.2.2.2.2.2.2.2.2.2.2.2.2.1, h.2.2.2.2.2.2.2.2.2.2.2.2.2.2.2.1, h.2.2.2.2.2.2.2.2.2.2.2.2.2.2.2.2.1, h.2.2.2.2.2.2.2.2.2.2.2.2.2.2.2.2.2.1, h.2.2.2.2.2.2.2.2.2.2.2.2.2.2.2.2.2.2.1, h.2.2.2.2.2.2.2.2.2.2.2.2.2.2.2.2.2.2.2.1, h.2.2.2.2.2.2.2.2.2.2.2.2.2.2.2.2.2.2.2.2.1, h.2.2.2.2.2.2.2.2.2.2.2.2.2.2.2.2.2.2.2.2.2.1, h.2.2.2.2.2.2.2.2.2.2.2.2.2.2.2.2.2.2.2.2.2.2.1, h.2.2.2.2.2.2.2.2.2.2.2.2.2.2.2.2.2.2.2.2.2.2.2.1, h.2.2.2.2.2.2.2.2.2.2.2.2.2.2.2.2.2.2.2.2.2.2.2.2, nI_p33, pk_mul, nI_a, inA_nI (show k < 33 by omega) (by omega), inA_nI (show 33 * m + k < 198 by omega) (by omega), nI_clamp (show k < 2 ^ 31 by omega), nI_clamp (show 33 * m + k < 2 ^ 31 by omega), nI_1]
    rw [cpI_t (Or.inl (by omega)) (by omega) (by omega), eX9_undo_51]
    exact ih (k + 1) (by omega) hQ
theorem lo_image1 {w : Wd} {o : Nat} {Q : Option Value → Wd → Prop} (h : isMd w o) : ∀ (d k : Nat), k + d = 33 → (∀ a1, wp mX9_image 26 [some (.ref o), a1] [] (cpI w (o + 1) 0 (o + 3) 0 33) Q) →
    wp mX9_image 2 [some (.ref o), some (.int (nI k))] [] (cpI w (o + 1) 0 (o + 3) 0 k) Q := by
  intro d
  induction d with
  | zero =>
    intro k hk hQ
    have : k = 33 := by omega
    subst this
    have h1 : ¬ nI 33 < 33 := by decide
    simp only [eX9_image_2, eX9_image_3, eX9_image_5, cont_some, tl_some, tl_none, csum_nil, csum_i, csum_r, csum_j, isc2_i, isc2_r, isc2_n, va_rf_s, vfn_ite, true_and, and_true, true_or, or_true, eq_self, Bool.false_eq_true, not_false_eq_true, not_true_eq_false, if_true, if_false, Nat.reduceAdd, Nat.reduceLeDiff, reduceIte, h1]
    exact hQ _
  | succ d ih =>
    intro k hk hQ
    have h1 : nI k < 33 := nI_lt (b := 33) (by omega) (by decide)
    simp only [eX9_image_2, eX9_image_3, eX9_image_5, eX9_image_8, eX9_image_9, eX9_image_12, eX9_image_13, eX9_image_14, eX9_image_17, eX9_image_18, eX9_image_19, eX9_image_20, cont_some, tl_some, tl_none, csum_nil, csum_i, csum_r, csum_j, isc2_i, isc2_r, isc2_n, va_rf_s, vfn_ite, true_and, and_true, true_or, or_true, eq_self, Bool.false_eq_true, not_false_eq_true, not_true_eq_false, if_true, if_false, Nat.reduceAdd, Nat.reduceLeDiff, reduceIte, h1, shp_cpI, rdR_cpI, h.1, h.2.1, h.2.2.1, h.2.2.2.1, h.2.2.2.2.1, h.2.2.2.2.2.1, h.2.2.2.2.2.2.1, h.2.2.2.2.2.2.2.1, h.2.2.2.2.2.2.2.2.1, h.2.2.2.2.2.2.2.2.2.1, h.2.2.2.2.2.2.2.2.2.2.1, h.2.2.2.2.2.2.2.2.2.2.2.1, h.2.2.2.2.2.2.2.2.2.2.2.2.1, h.2.2.2.2.2.2.2.2.2.2.2.2.2.1, h.2.2.2.2.2.2.2.2.2.2.2.2.2.2.1, h.2.2.2.2.2.2.2.2.2.2.2.2.2.2.2.1, h.2.2.2.2.2.2.2.2.2.2.2.2.2.2.2.2.1, h.2.2.2.2.2.2.2.2.2.2.2.2.2.2.2.2.2.1, h.2.2.2.2.2.2.2.2.2.2.2.2.2.2.2.2.2.2.1, h.2.2.2.2.2.2.2.2.2.2.2.2.2.2.2.2.2.2.2.1, h.2.2.2.2.2.2.2.2.2.2.2.2.2.2.2.2.2.2.2.2.1, h.2.2.2.2.2.2.2.2.2.2.2.2.2.2.2.2.2.2.2.2.2.1, h.2.2.2.2.2.2.2.2.2.2.2.2.2.2.2.2.2.2.2.2.2.2.1, h.2.2.2.2.2.2.2.2.2.2.2.2.2.2.2.2.2.2.2.2.2.2.2.1, h.2.2.2.2.2.2.2.2.2.2.2.2.2.2.2.2.2.2.2.2.2.2.2.2, inA_nI (show k < 33 by omega) (by omega), inA_nI (show k < 232 by omega) (by omega), nI_clamp (show k < 2 ^ 31 by omega), nI_1]
    rw [cpI_t (Or.inl (by omega)) (by omega) (by omega), eX9_image_23]
    exact ih (k + 1) (by omega) hQ
theorem lo_image2 {w : Wd} {o : Nat} {Q : Option Value → Wd → Prop} (h : isMd w o) : ∀ (d k : Nat), k + d = 198 → (∀ a1, wp mX9_image 56 [some (.ref o), a1] [] (cpI w (o + 2) 0 (o + 3) 33 198) Q) →
    wp mX9_image 28 [some (.ref o), some (.int (nI k))] [] (cpI w (o + 2) 0 (o + 3) 33 k) Q := by
  intro d
  induction d with
  | zero =>
    intro k hk hQ
    have : k = 198 := by omega
    subst this
    have h1 : ¬ nI 198 < 198 := by decide
    simp only [eX9_image_28, eX9_image_29, eX9_image_32, cont_some, tl_some, tl_none, csum_nil, csum_i, csum_r, csum_j, isc2_i, isc2_r, isc2_n, va_rf_s, vfn_ite, true_and, and_true, true_or, or_true, eq_self, Bool.false_eq_true, not_false_eq_true, not_true_eq_false, if_true, if_false, Nat.reduceAdd, Nat.reduceLeDiff, reduceIte, h1]
    exact hQ _
  | succ d ih =>
    intro k hk hQ
    have h1 : nI k < 198 := nI_lt (b := 198) (by omega) (by decide)
    simp only [eX9_image_28, eX9_image_29, eX9_image_32, cont_some, tl_some, tl_none, csum_nil, csum_i, csum_r, csum_j, isc2_i, isc2_r, isc2_n, va_rf_s, vfn_ite, true_and, and_true, true_or, or_true, eq_self, Bool.false_eq_true, not_false_eq_true, not_true_eq_false, if_true, if_false, Nat.reduceAdd, Nat.reduceLeDiff, reduceIte, h1]
    simp only [eX9_image_35, eX9_image_36, eX9_image_39, eX9_image_41, eX9_image_42, eX9_image_43, eX9_image_44, eX9_image_47, eX9_image_48, eX9_image_49, eX9_image_50, cont_some, tl_some, tl_none, csum_nil, csum_i, csum_r, csum_j, isc2_i, isc2_r, isc2_n, va_rf_s, vfn_ite, true_and, and_true, true_or, or_true, eq_self, Bool.false_eq_true, not_false_eq_true, not_true_eq_false, if_true, if_false, Nat.reduceAdd, Nat.reduceLeDiff, reduceIte, shp_cpI, rdR_cpI, h.1, h.2.1, h.2.2.1, h.2.2.2.1, h.2.2.2.2.1, h.2.2.2.2.2.1, h.2.2.2.2.2.2.1, h.2.2.2.2.2.2.2.1, h.2.2.2.2.2.2.2.2.1, h.2.2.2.2.2.2.2.2.2.1, h.2.2.2.2.2.2.2.2.2.2.1, h.2.2.2.2.2.2.2.2.2.2.2.1, h.2.2.2.2.2.2.2.2.2.2.2.2.1, h.2.2.2.2.2.2.2.2.2.2.2.2.2.1, h.2.2.2.2.2.2.2.2.2.2.2.2.2.2.1, h.2.2.2.2.2.2.2.2.2.2.2.2.2.2.2.1, h.2.2.2.2.2.2.2.2.2.2.2.2.2.2.2.2.1, h.2.2.2.2.2.2.2.2.2.2.2.2.2.2.2.2.2.1, h.2.2.2.2.2.2.2.2.2.2.2.2.2.2.2.2.2.2.1, h.2.2.2.2.2.2.2.2.2.2.2.2.2.2.2.2.2.2.2.1, h.2.2.2.2.2.2.2.2.2.2.2.2.2.2.2.2.2.2.2.2.1, h.2.2.2.2.2.2.2.2.2.2.2.2.2.2.2.2.2.2.2.2.2.1, h.2.2.2.2.2.2.2.2.2.2.2.2.2.2.2.2.2.2.2.2.2.2.1, h.2.2.2.2.2.2.2.2.2.2.2.2.2.2.2.2.2.2.2.2.2.2.2.1, h.2.2.2.2.2.2.2.2.2.2.2.2.2.2.2.2.2.2.2.2.2.2.2.2, nI_p33, nI_a, inA_nI (show k < 198 by omega) (by omega), inA_nI (show 33 + k < 232 by omega) (by omega), nI_clamp (show k < 2 ^ 31 by omega), nI_clamp (show 33 + k < 2 ^ 31 by omega), nI_1]
    rw [cpI_t (Or.inl (by omega)) (by omega) (by omega), eX9_image_53]
    exact ih (k + 1) (by omega) hQ
theorem lo_rest1 {w : Wd} {o : Nat} {Q : Option Value → Wd → Prop} (h : isMd w o) : ∀ (d k : Nat), k + d = 33 → (∀ a1, wp mX9_restore 36 [some (.ref o), a1] [] (cpI w (o + 3) 0 (o + 1) 0 33) Q) →
    wp mX9_restore 12 [some (.ref o), some (.int (nI k))] [] (cpI w (o + 3) 0 (o + 1) 0 k) Q := by
  intro d
  induction d with
  | zero =>
    intro k hk hQ
    have : k = 33 := by omega
    subst this
    have h1 : ¬ nI 33 < 33 := by decide
    simp only [eX9_restore_12, eX9_restore_13, eX9_restore_15, cont_some, tl_some, tl_none, csum_nil, csum_i, csum_r, csum_j, isc2_i, isc2_r, isc2_n, va_rf_s, vfn_ite, true_and, and_true, true_or, or_true, eq_self, Bool.false_eq_true, not_false_eq_true, not_true_eq_false, if_true, if_false, Nat.reduceAdd, Nat.reduceLeDiff, reduceIte, h1]
    exact hQ _
  | succ d ih =>
    intro k hk hQ
    have h1 : nI k < 33 := nI_lt (b := 33) (by omega) (by decide)
    simp only [eX9_restore_12, eX9_restore_13, eX9_restore_15, eX9_restore_18, eX9_restore_19, eX9_restore_22, eX9_restore_23, eX9_restore_24, eX9_restore_27, eX9_restore_28, eX9_restore_29, eX9_restore_30, cont_some, tl_some, tl_none, csum_nil, csum_i, csum_r, csum_j, isc2_i, isc2_r, isc2_n, va_rf_s, vfn_ite, true_and, and_true, true_or, or_true, eq_self, Bool.false_eq_true, not_false_eq_true, not_true_eq_false, if_true, if_false, Nat.reduceAdd, Nat.reduceLeDiff, reduceIte, h1, shp_cpI, rdR_cpI, h.1, h.2.1, h.2.2.1, h.2.2.2.1, h.2.2.2.2.1, h.2.2.2.2.2.1, h.2.2.2.2.2.2.1, h.2.2.2.2.2.2.2.1, h.2.2.2.2.2.2.2.2.1, h.2.2.2.2.2.2.2.2.2.1, h.2.2.2.2.2.2.2.2.2.2.1, h.2.2.2.2.2.2.2.2.2.2.2.1, h.2.2.2.2.2.2.2.2.2.2.2.2.1, h.2.2.2.2.2.2.2.2.2.2.2.2.2.1, h.2.2.2.2.2.2.2.2.2.2.2.2.2.2.1, h.2.2.2.2.2.2.2.2.2.2.2.2.2.2.2.1, h.2.2.2.2.2.2.2.2.2.2.2.2.2.2.2.2.1, h.2.2.2.2.2.2.2.2.2.2.2.2.2.2.2.2.2.1, h.2.2.2.2.2.2.2.2.2.2.2.2.2.2.2.2.2.2.1, h.2.2.2.2.2.2.2.2.2.2.2.2.2.2.2.2.2.2.2.1, h.2.2.2.2.2.2.2.2.2.2.2.2.2.2.2.2.2.2.2.2.1, h.2.2.2.2.2.2.2.2.2.2.2.2.2.2.2.2.2.2.2.2.2.1, h.2.2.2.2.2.2.2.2.2.2.2.2.2.2.2.2.2.2.2.2.2.2.1, h.2.2.2.2.2.2.2.2.2.2.2.2.2.2.2.2.2.2.2.2.2.2.2.1, h.2.2.2.2.2.2.2.2.2.2.2.2.2.2.2.2.2.2.2.2.2.2.2.2, inA_nI (show k < 33 by omega) (by omega), inA_nI (show k < 232 by omega) (by omega), nI_clamp (show k < 2 ^ 31 by omega), nI_1]
    rw [cpI_t (Or.inl (by omega)) (by omega) (by omega), eX9_restore_33]
    exact ih (k + 1) (by omega) hQ
theorem lo_rest2 {w : Wd} {o : Nat} {Q : Option Value → Wd → Prop} (h : isMd w o) : ∀ (d k : Nat), k + d = 198 → (∀ a1, wp mX9_restore 66 [some (.ref o), a1] [] (cpI w (o + 3) 33 (o + 2) 0 198) Q) →
    wp mX9_restore 38 [some (.ref o), some (.int (nI k))] [] (cpI w (o + 3) 33 (o + 2) 0 k) Q := by
  intro d
  induction d with
  | zero =>
    intro k hk hQ
    have : k = 198 := by omega
    subst this
    have h1 : ¬ nI 198 < 198 := by decide
    simp only [eX9_restore_38, eX9_restore_39, eX9_restore_42, cont_some, tl_some, tl_none, csum_nil, csum_i, csum_r, csum_j, isc2_i, isc2_r, isc2_n, va_rf_s, vfn_ite, true_and, and_true, true_or, or_true, eq_self, Bool.false_eq_true, not_false_eq_true, not_true_eq_false, if_true, if_false, Nat.reduceAdd, Nat.reduceLeDiff, reduceIte, h1]
    exact hQ _
  | succ d ih =>
    intro k hk hQ
    have h1 : nI k < 198 := nI_lt (b := 198) (by omega) (by decide)
    simp only [eX9_restore_38, eX9_restore_39, eX9_restore_42, cont_some, tl_some, tl_none, csum_nil, csum_i, csum_r, csum_j, isc2_i, isc2_r, isc2_n, va_rf_s, vfn_ite, true_and, and_true, true_or, or_true, eq_self, Bool.false_eq_true, not_false_eq_true, not_true_eq_false, if_true, if_false, Nat.reduceAdd, Nat.reduceLeDiff, reduceIte, h1]
    simp only [eX9_restore_45, eX9_restore_46, eX9_restore_49, eX9_restore_50, eX9_restore_51, eX9_restore_54, eX9_restore_56, eX9_restore_57, eX9_restore_58, eX9_restore_59, eX9_restore_60, cont_some, tl_some, tl_none, csum_nil, csum_i, csum_r, csum_j, isc2_i, isc2_r, isc2_n, va_rf_s, vfn_ite, true_and, and_true, true_or, or_true, eq_self, Bool.false_eq_true, not_false_eq_true, not_true_eq_false, if_true, if_false, Nat.reduceAdd, Nat.reduceLeDiff, reduceIte, shp_cpI, rdR_cpI, h.1, h.2.1, h.2.2.1, h.2.2.2.1, h.2.2.2.2.1, h.2.2.2.2.2.1, h.2.2.2.2.2.2.1, h.2.2.2.2.2.2.2.1, h.2.2.2.2.2.2.2.2.1, h.2.2.2.2.2.2.2.2.2.1, h.2.2.2.2.2.2.2.2.2.2.1, h.2.2.2.2.2.2.2.2.2.2.2.1, h.2.2.2.2.2.2.2.2.2.2.2.2.1, h.2.2.2.2.2.2.2.2.2.2.2.2.2.1, h.2.2.2.2.2.2.2.2.2.2.2.2.2.2.1, h.2.2.2.2.2.2.2.2.2.2.2.2.2.2.2.1, h.2.2.2.2.2.2.2.2.2.2.2.2.2.2.2.2.1, h.2.2.2.2.2.2.2.2.2.2.2.2.2.2.2.2.2.1, h.2.2.2.2.2.2.2.2.2.2.2.2.2.2.2.2.2.2.1, h.2.2.2.2.2.2.2.2.2.2.2.2.2.2.2.2.2.2.2.1, h.2.2.2.2.2.2.2.2.2.2.2.2.2.2.2.2.2.2.2.2.1, h.2.2.2.2.2.2.2.2.2.2.2.2.2.2.2.2.2.2.2.2.2.1, h.2.2.2.2.2.2.2.2.2.2.2.2.2.2.2.2.2.2.2.2.2.2.1, h.2.2.2.2.2.2.2.2.2.2.2.2.2.2.2.2.2.2.2.2.2.2.2.1, h.2.2.2.2.2.2.2.2.2.2.2.2.2.2.2.2.2.2.2.2.2.2.2.2, nI_p33, nI_a, inA_nI (show k < 198 by omega) (by omega), inA_nI (show 33 + k < 232 by omega) (by omega), nI_clamp (show k < 2 ^ 31 by omega), nI_clamp (show 33 + k < 2 ^ 31 by omega), nI_1]
    rw [cpI_t (Or.inl (by omega)) (by omega) (by omega), eX9_restore_63]
    exact ih (k + 1) (by omega) hQ
/-! the state that both tell: scene, past, image -/
abbrev Img : Type := Option (Sst × Nat × (Nat → Sst))
abbrev Cst : Type := Sst × Nat × (Nat → Sst) × Img
def mdI (w : Wd) (o : Nat) (i : Img) : Prop := match i with
  | none => rdI w o 4 = 0
  | some (S, m, P) => rdI w o 4 = 1 ∧ blkIs (rdI w (o + 3)) S ∧ rdI w (o + 3) 231 = nI m ∧ m ≤ 6 ∧ ∀ k, k < m → blkIs (fun j => rdI w (o + 3) (33 + (33 * k + j))) (P k)
def MC (w : Wd) (o : Nat) (c : Cst) : Prop := isMd w o ∧ blkIs (rdI w (o + 1)) c.1 ∧ mdP w o c.2.1 c.2.2.1 ∧ mdI w o c.2.2.2
def opUndo (c : Cst) : Int32 × Cst := match c with
  | (S, m, P, i) => if m = 0 then (-4, (S, m, P, i)) else (nI (m - 1), (P (m - 1), m - 1, P, i))
def opImage (c : Cst) : Int32 × Cst := match c with
  | (S, m, P, _) => (1, (S, m, P, some (S, m, P)))
def opRestore (c : Cst) : Int32 × Cst := match c with
  | (S, m, P, none) => (-4, (S, m, P, none))
  | (_, _, _, some (S, m, P)) => (1, (S, m, P, some (S, m, P)))
/-- the reference's own cells that calls may change: all but the tape and the sheets -/
def Xc (o : Nat) : Nat → Nat → Prop := fun c j => (c = o ∧ (j = 2 ∨ j = 4)) ∨ (o + 1 ≤ c ∧ c < o + 4)
theorem m_undo {w : Wd} {o : Nat} {c : Cst} (h : MC w o c) : ∃ u, fX9_undo [.ref o] w = some (some (.int (opUndo c).1), u) ∧ MC u o (opUndo c).2 ∧ FrX (Xc o) w u := by
  obtain ⟨S, m, P, i⟩ := c
  obtain ⟨h1, h2, ⟨h3, h4, h5⟩, h6⟩ := h
  simp only at h2 h3 h4 h5 h6
  by_cases q : m = 0
  · subst q
    have e : nI 0 = 0 := rfl
    refine ⟨w, ?_, ⟨h1, h2, ⟨h3, h4, h5⟩, h6⟩, FrX.rf⟩
    simp only [opUndo, if_true]
    refine sem_eq (Nat.le_of_ble_eq_true rfl) ?_
    show wp mX9_undo 0 [some (.ref o), none] [] _ _
    simp only [eX9_undo_0, eX9_undo_1, eX9_undo_4, eX9_undo_7, eX9_undo_9, cont_some, tl_some, tl_none, csum_nil, csum_i, csum_r, csum_j, isc2_i, isc2_r, isc2_n, va_rf_s, vfn_ite, true_and, and_true, true_or, or_true, eq_self, Bool.false_eq_true, not_false_eq_true, not_true_eq_false, if_true, if_false, Nat.reduceAdd, Nat.reduceLeDiff, reduceIte, h1.1, h1.2.1, h1.2.2.1, h1.2.2.2.1, h1.2.2.2.2.1, h1.2.2.2.2.2.1, h1.2.2.2.2.2.2.1, h1.2.2.2.2.2.2.2.1, h1.2.2.2.2.2.2.2.2.1, h1.2.2.2.2.2.2.2.2.2.1, h1.2.2.2.2.2.2.2.2.2.2.1, h1.2.2.2.2.2.2.2.2.2.2.2.1, h1.2.2.2.2.2.2.2.2.2.2.2.2.1, h1.2.2.2.2.2.2.2.2.2.2.2.2.2.1, h1.2.2.2.2.2.2.2.2.2.2.2.2.2.2.1, h1.2.2.2.2.2.2.2.2.2.2.2.2.2.2.2.1, h1.2.2.2.2.2.2.2.2.2.2.2.2.2.2.2.2.1, h1.2.2.2.2.2.2.2.2.2.2.2.2.2.2.2.2.2.1, h1.2.2.2.2.2.2.2.2.2.2.2.2.2.2.2.2.2.2.1, h1.2.2.2.2.2.2.2.2.2.2.2.2.2.2.2.2.2.2.2.1, h1.2.2.2.2.2.2.2.2.2.2.2.2.2.2.2.2.2.2.2.2.1, h1.2.2.2.2.2.2.2.2.2.2.2.2.2.2.2.2.2.2.2.2.2.1, h1.2.2.2.2.2.2.2.2.2.2.2.2.2.2.2.2.2.2.2.2.2.2.1, h1.2.2.2.2.2.2.2.2.2.2.2.2.2.2.2.2.2.2.2.2.2.2.2.1, h1.2.2.2.2.2.2.2.2.2.2.2.2.2.2.2.2.2.2.2.2.2.2.2.2, h3, e]
  · obtain ⟨m', rfl⟩ : ∃ k, m = k + 1 := ⟨m - 1, by omega⟩
    have hne : ¬ nI (m' + 1) = 0 := nI_ne0 (by omega) (by omega)
    have fr : FrX (Xc o) w (cpI (wrI w o 2 (nI m')) (o + 2) (33 * m') (o + 1) 0 33) := (FrX.rf.wrI (Or.inl ⟨rfl, Or.inl rfl⟩)).cpI (fun _ _ _ => Or.inr ⟨by omega, by omega⟩)
    have n1 : ¬ o = o + 1 := by omega
    have n2 : ¬ o + 2 = o := by omega
    have n3 : ¬ o + 2 = o + 1 := by omega
    refine ⟨cpI (wrI w o 2 (nI m')) (o + 2) (33 * m') (o + 1) 0 33, ?_, ⟨fr.md h1, ?_, ⟨?_, by simp [opUndo]; omega, fun k hk => ?_⟩, ?_⟩, fr⟩
    · simp only [opUndo, Nat.add_one_ne_zero, if_false, Nat.add_sub_cancel]
      refine sem_eq (Nat.le_of_ble_eq_true rfl) ?_
      show wp mX9_undo 0 [some (.ref o), none] [] _ _
      simp only [eX9_undo_0, eX9_undo_1, eX9_undo_4, eX9_undo_7, eX9_undo_9, eX9_undo_10, eX9_undo_11, eX9_undo_11i, eX9_undo_12, eX9_undo_15, eX9_undo_16, eX9_undo_17, eX9_undo_20, eX9_undo_21, cont_some, tl_some, tl_none, csum_nil, csum_i, csum_r, csum_j, isc2_i, isc2_r, isc2_n, va_rf_s, vfn_ite, true_and, and_true, true_or, or_true, eq_self, Bool.false_eq_true, not_false_eq_true, not_true_eq_false, if_true, if_false, Nat.reduceAdd, Nat.reduceLeDiff, reduceIte, h1.1, h1.2.1, h1.2.2.1, h1.2.2.2.1, h1.2.2.2.2.1, h1.2.2.2.2.2.1, h1.2.2.2.2.2.2.1, h1.2.2.2.2.2.2.2.1, h1.2.2.2.2.2.2.2.2.1, h1.2.2.2.2.2.2.2.2.2.1, h1.2.2.2.2.2.2.2.2.2.2.1, h1.2.2.2.2.2.2.2.2.2.2.2.1, h1.2.2.2.2.2.2.2.2.2.2.2.2.1, h1.2.2.2.2.2.2.2.2.2.2.2.2.2.1, h1.2.2.2.2.2.2.2.2.2.2.2.2.2.2.1, h1.2.2.2.2.2.2.2.2.2.2.2.2.2.2.2.1, h1.2.2.2.2.2.2.2.2.2.2.2.2.2.2.2.2.1, h1.2.2.2.2.2.2.2.2.2.2.2.2.2.2.2.2.2.1, h1.2.2.2.2.2.2.2.2.2.2.2.2.2.2.2.2.2.2.1, h1.2.2.2.2.2.2.2.2.2.2.2.2.2.2.2.2.2.2.2.1, h1.2.2.2.2.2.2.2.2.2.2.2.2.2.2.2.2.2.2.2.2.1, h1.2.2.2.2.2.2.2.2.2.2.2.2.2.2.2.2.2.2.2.2.2.1, h1.2.2.2.2.2.2.2.2.2.2.2.2.2.2.2.2.2.2.2.2.2.2.1, h1.2.2.2.2.2.2.2.2.2.2.2.2.2.2.2.2.2.2.2.2.2.2.2.1, h1.2.2.2.2.2.2.2.2.2.2.2.2.2.2.2.2.2.2.2.2.2.2.2.2, h3, hne, nI_pred]
      have := lo_undo (w := wrI w o 2 (nI m')) (m := m') (Q := fun r1 w1 => r1 = some (.int (nI m')) ∧ w1 = cpI (wrI w o 2 (nI m')) (o + 2) (33 * m') (o + 1) 0 33) h1 (by simp [rdI_wrI]) (by omega) 33 0 (by omega) (fun a1 => by
        have e : rdI (cpI (wrI w o 2 (nI m')) (o + 2) (33 * m') (o + 1) 0 33) o 2 = nI m' := by rw [rdI_cpI, if_neg (fun q => n1 q.1)]; simp [rdI_wrI]
        simp only [eX9_undo_54, eX9_undo_55, eX9_undo_58, cont_some, tl_some, tl_none, csum_nil, csum_i, csum_r, csum_j, isc2_i, isc2_r, isc2_n, va_rf_s, vfn_ite, true_and, and_true, true_or, or_true, eq_self, Bool.false_eq_true, not_false_eq_true, not_true_eq_false, if_true, if_false, Nat.reduceAdd, Nat.reduceLeDiff, reduceIte, shp_cpI, shp_wrI, h1.1, h1.2.1, h1.2.2.1, h1.2.2.2.1, h1.2.2.2.2.1, h1.2.2.2.2.2.1, h1.2.2.2.2.2.2.1, h1.2.2.2.2.2.2.2.1, h1.2.2.2.2.2.2.2.2.1, h1.2.2.2.2.2.2.2.2.2.1, h1.2.2.2.2.2.2.2.2.2.2.1, h1.2.2.2.2.2.2.2.2.2.2.2.1, h1.2.2.2.2.2.2.2.2.2.2.2.2.1, h1.2.2.2.2.2.2.2.2.2.2.2.2.2.1, h1.2.2.2.2.2.2.2.2.2.2.2.2.2.2.1, h1.2.2.2.2.2.2.2.2.2.2.2.2.2.2.2.1, h1.2.2.2.2.2.2.2.2.2.2.2.2.2.2.2.2.1, h1.2.2.2.2.2.2.2.2.2.2.2.2.2.2.2.2.2.1, h1.2.2.2.2.2.2.2.2.2.2.2.2.2.2.2.2.2.2.1, h1.2.2.2.2.2.2.2.2.2.2.2.2.2.2.2.2.2.2.2.1, h1.2.2.2.2.2.2.2.2.2.2.2.2.2.2.2.2.2.2.2.2.1, h1.2.2.2.2.2.2.2.2.2.2.2.2.2.2.2.2.2.2.2.2.2.1, h1.2.2.2.2.2.2.2.2.2.2.2.2.2.2.2.2.2.2.2.2.2.2.1, h1.2.2.2.2.2.2.2.2.2.2.2.2.2.2.2.2.2.2.2.2.2.2.2.1, h1.2.2.2.2.2.2.2.2.2.2.2.2.2.2.2.2.2.2.2.2.2.2.2.2, e])
      rw [cpI_0] at this
      exact this
    · simp only [opUndo, Nat.add_one_ne_zero, if_false, Nat.add_sub_cancel]
      refine (h5 m' (by omega)).congr (fun i hi => ?_)
      rw [rdI_cpI, if_pos ⟨rfl, by omega, by omega⟩, rdI_wrI, if_neg (fun q => n2 q.1)]
      congr 1
    · simp only [opUndo, Nat.add_one_ne_zero, if_false, Nat.add_sub_cancel]
      rw [rdI_cpI, if_neg (fun q => n1 q.1)]; simp [rdI_wrI]
    · simp only [opUndo, Nat.add_one_ne_zero, if_false, Nat.add_sub_cancel] at hk ⊢
      refine (h5 k (by omega)).congr (fun i hi => ?_)
      rw [rdI_cpI, if_neg (fun q => n3 q.1), rdI_wrI, if_neg (fun q => n2 q.1)]
    · simp only [opUndo, Nat.add_one_ne_zero, if_false]
      have e : ∀ c j, (c = o ∧ j = 4) ∨ c = o + 3 → rdI (cpI (wrI w o 2 (nI m')) (o + 2) (33 * m') (o + 1) 0 33) c j = rdI w c j := by
        intro c j hc
        rw [rdI_cpI, if_neg (fun q => by omega), rdI_wrI, if_neg (fun q => by omega)]
      cases i with
      | none => simp only [mdI] at h6 ⊢; rw [e _ _ (Or.inl ⟨rfl, rfl⟩)]; exact h6
      | some t =>
        obtain ⟨S', m2, P'⟩ := t
        simp only [mdI] at h6 ⊢
        obtain ⟨g1, g2, g3, g4, g5⟩ := h6
        exact ⟨by rw [e _ _ (Or.inl ⟨rfl, rfl⟩)]; exact g1, g2.congr (fun i _ => e _ _ (Or.inr rfl)), by rw [e _ _ (Or.inr rfl)]; exact g3, g4, fun k hk => (g5 k hk).congr (fun i _ => e _ _ (Or.inr rfl))⟩
theorem m_image {w : Wd} {o : Nat} {c : Cst} (h : MC w o c) : ∃ u, fX9_image [.ref o] w = some (some (.int (opImage c).1), u) ∧ MC u o (opImage c).2 ∧ FrX (Xc o) w u := by
  obtain ⟨S, m, P, i⟩ := c
  obtain ⟨h1, h2, ⟨h3, h4, h5⟩, h6⟩ := h
  simp only at h2 h3 h4 h5 h6
  have n1 : ¬ o + 3 = o := by omega
  have n2 : ¬ o = o + 3 := by omega
  have n3 : ¬ o + 1 = o + 3 := by omega
  have n4 : ¬ o + 2 = o + 3 := by omega
  have n5 : ¬ o + 1 = o := by omega
  have n6 : ¬ o + 2 = o := by omega
  have i231 : inA 231 232 = true := by decide
  have c231 : (231 : Int32).toNatClampNeg = 231 := rfl
  obtain ⟨u, hu⟩ : ∃ u, u = wrI (wrI (cpI (cpI w (o + 1) 0 (o + 3) 0 33) (o + 2) 0 (o + 3) 33 198) (o + 3) 231 (nI m)) o 4 1 := ⟨_, rfl⟩
  have fr : FrX (Xc o) w u := by
    subst hu
    exact (((FrX.rf.cpI (fun _ _ _ => Or.inr ⟨by omega, by omega⟩)).cpI (fun _ _ _ => Or.inr ⟨by omega, by omega⟩)).wrI (Or.inr ⟨by omega, by omega⟩)).wrI (Or.inl ⟨rfl, Or.inr rfl⟩)
  have e0 : ∀ c j, (c = o ∧ j = 2) ∨ c = o + 1 ∨ c = o + 2 → rdI u c j = rdI w c j := by
    intro c j hc
    subst hu
    rw [rdI_wrI, if_neg (fun q => by omega), rdI_wrI, if_neg (fun q => by omega), rdI_cpI, if_neg (fun q => by omega), rdI_cpI, if_neg (fun q => by omega)]
  have e1 : ∀ j, j < 33 → rdI u (o + 3) j = rdI w (o + 1) j := by
    intro j hj
    subst hu
    rw [rdI_wrI, if_neg (fun q => by omega), rdI_wrI, if_neg (fun q => by omega), rdI_cpI, if_neg (fun q => by omega), rdI_cpI, if_pos ⟨rfl, by omega, by omega⟩]
    congr 1; omega
  have e2 : ∀ j, j < 198 → rdI u (o + 3) (33 + j) = rdI w (o + 2) j := by
    intro j hj
    subst hu
    rw [rdI_wrI, if_neg (fun q => by omega), rdI_wrI, if_neg (fun q => by omega), rdI_cpI, if_pos ⟨rfl, by omega, by omega⟩, rdI_cpI, if_neg (fun q => by omega)]
    congr 1; omega
  refine ⟨u, ?_, ⟨fr.md h1, h2.congr (fun i _ => e0 _ _ (Or.inr (Or.inl rfl))), ⟨by rw [e0 _ _ (Or.inl ⟨rfl, rfl⟩)]; exact h3, h4, fun k hk => (h5 k hk).congr (fun i _ => e0 _ _ (Or.inr (Or.inr rfl)))⟩, ?_⟩, fr⟩
  · simp only [opImage]
    have e3 : rdI (cpI (cpI w (o + 1) 0 (o + 3) 0 33) (o + 2) 0 (o + 3) 33 198) o 2 = nI m := by
      rw [rdI_cpI, if_neg (fun q => n2 q.1), rdI_cpI, if_neg (fun q => n2 q.1)]; exact h3
    refine sem_eq (Nat.le_of_ble_eq_true rfl) ?_
    show wp mX9_image 0 [some (.ref o), none] [] _ _
    simp only [eX9_image_0, eX9_image_1, cont_some, tl_some, tl_none, csum_nil, csum_i, csum_r, csum_j, isc2_i, isc2_r, isc2_n, va_rf_s, vfn_ite, true_and, and_true, true_or, or_true, eq_self, Bool.false_eq_true, not_false_eq_true, not_true_eq_false, if_true, if_false, Nat.reduceAdd, Nat.reduceLeDiff, reduceIte]
    have t1 := lo_image1 (w := w) (Q := fun r1 w1 => r1 = some (.int 1) ∧ w1 = u) h1 33 0 (by omega) (fun a1 => by
      simp only [eX9_image_26, eX9_image_27, cont_some, tl_some, tl_none, csum_nil, csum_i, csum_r, csum_j, isc2_i, isc2_r, isc2_n, va_rf_s, vfn_ite, true_and, and_true, true_or, or_true, eq_self, Bool.false_eq_true, not_false_eq_true, not_true_eq_false, if_true, if_false, Nat.reduceAdd, Nat.reduceLeDiff, reduceIte]
      have t2 := lo_image2 (w := cpI w (o + 1) 0 (o + 3) 0 33) (Q := fun r1 w1 => r1 = some (.int 1) ∧ w1 = u) h1 198 0 (by omega) (fun a1 => by
        simp only [eX9_image_56, eX9_image_57, eX9_image_60, eX9_image_63, eX9_image_64, eX9_image_67, eX9_image_68, eX9_image_69, eX9_image_70, eX9_image_73, eX9_image_74, cont_some, tl_some, tl_none, csum_nil, csum_i, csum_r, csum_j, isc2_i, isc2_r, isc2_n, va_rf_s, vfn_ite, true_and, and_true, true_or, or_true, eq_self, Bool.false_eq_true, not_false_eq_true, not_true_eq_false, if_true, if_false, Nat.reduceAdd, Nat.reduceLeDiff, reduceIte, shp_cpI, rdR_cpI, shp_wrI, h1.1, h1.2.1, h1.2.2.1, h1.2.2.2.1, h1.2.2.2.2.1, h1.2.2.2.2.2.1, h1.2.2.2.2.2.2.1, h1.2.2.2.2.2.2.2.1, h1.2.2.2.2.2.2.2.2.1, h1.2.2.2.2.2.2.2.2.2.1, h1.2.2.2.2.2.2.2.2.2.2.1, h1.2.2.2.2.2.2.2.2.2.2.2.1, h1.2.2.2.2.2.2.2.2.2.2.2.2.1, h1.2.2.2.2.2.2.2.2.2.2.2.2.2.1, h1.2.2.2.2.2.2.2.2.2.2.2.2.2.2.1, h1.2.2.2.2.2.2.2.2.2.2.2.2.2.2.2.1, h1.2.2.2.2.2.2.2.2.2.2.2.2.2.2.2.2.1, h1.2.2.2.2.2.2.2.2.2.2.2.2.2.2.2.2.2.1, h1.2.2.2.2.2.2.2.2.2.2.2.2.2.2.2.2.2.2.1, h1.2.2.2.2.2.2.2.2.2.2.2.2.2.2.2.2.2.2.2.1, h1.2.2.2.2.2.2.2.2.2.2.2.2.2.2.2.2.2.2.2.2.1, h1.2.2.2.2.2.2.2.2.2.2.2.2.2.2.2.2.2.2.2.2.2.1, h1.2.2.2.2.2.2.2.2.2.2.2.2.2.2.2.2.2.2.2.2.2.2.1, h1.2.2.2.2.2.2.2.2.2.2.2.2.2.2.2.2.2.2.2.2.2.2.2.1, h1.2.2.2.2.2.2.2.2.2.2.2.2.2.2.2.2.2.2.2.2.2.2.2.2, e3, i231, c231]
        exact hu.symm)
      rw [cpI_0] at t2
      exact t2)
    rw [cpI_0] at t1
    exact t1
  · simp only [opImage, mdI]
    refine ⟨by subst hu; simp [rdI_wrI], h2.congr (fun i hi => e1 i hi), ?_, h4, fun k hk => (h5 k hk).congr (fun i hi => e2 _ (by omega))⟩
    subst hu
    rw [rdI_wrI, if_neg (fun q => n1 q.1), rdI_wrI, if_pos ⟨rfl, rfl⟩]
theorem m_restore {w : Wd} {o : Nat} {c : Cst} (h : MC w o c) : ∃ u, fX9_restore [.ref o] w = some (some (.int (opRestore c).1), u) ∧ MC u o (opRestore c).2 ∧ FrX (Xc o) w u := by
  obtain ⟨S, m, P, i⟩ := c
  obtain ⟨h1, h2, ⟨h3, h4, h5⟩, h6⟩ := h
  simp only at h2 h3 h4 h5 h6
  cases i with
  | none =>
    simp only [mdI] at h6
    refine ⟨w, ?_, ⟨h1, h2, ⟨h3, h4, h5⟩, h6⟩, FrX.rf⟩
    simp only [opRestore]
    refine sem_eq (Nat.le_of_ble_eq_true rfl) ?_
    show wp mX9_restore 0 [some (.ref o), none] [] _ _
    simp only [eX9_restore_0, eX9_restore_1, eX9_restore_4, eX9_restore_7, eX9_restore_9, cont_some, tl_some, tl_none, csum_nil, csum_i, csum_r, csum_j, isc2_i, isc2_r, isc2_n, va_rf_s, vfn_ite, true_and, and_true, true_or, or_true, eq_self, Bool.false_eq_true, not_false_eq_true, not_true_eq_false, if_true, if_false, Nat.reduceAdd, Nat.reduceLeDiff, reduceIte, h1.1, h1.2.1, h1.2.2.1, h1.2.2.2.1, h1.2.2.2.2.1, h1.2.2.2.2.2.1, h1.2.2.2.2.2.2.1, h1.2.2.2.2.2.2.2.1, h1.2.2.2.2.2.2.2.2.1, h1.2.2.2.2.2.2.2.2.2.1, h1.2.2.2.2.2.2.2.2.2.2.1, h1.2.2.2.2.2.2.2.2.2.2.2.1, h1.2.2.2.2.2.2.2.2.2.2.2.2.1, h1.2.2.2.2.2.2.2.2.2.2.2.2.2.1, h1.2.2.2.2.2.2.2.2.2.2.2.2.2.2.1, h1.2.2.2.2.2.2.2.2.2.2.2.2.2.2.2.1, h1.2.2.2.2.2.2.2.2.2.2.2.2.2.2.2.2.1, h1.2.2.2.2.2.2.2.2.2.2.2.2.2.2.2.2.2.1, h1.2.2.2.2.2.2.2.2.2.2.2.2.2.2.2.2.2.2.1, h1.2.2.2.2.2.2.2.2.2.2.2.2.2.2.2.2.2.2.2.1, h1.2.2.2.2.2.2.2.2.2.2.2.2.2.2.2.2.2.2.2.2.1, h1.2.2.2.2.2.2.2.2.2.2.2.2.2.2.2.2.2.2.2.2.2.1, h1.2.2.2.2.2.2.2.2.2.2.2.2.2.2.2.2.2.2.2.2.2.2.1, h1.2.2.2.2.2.2.2.2.2.2.2.2.2.2.2.2.2.2.2.2.2.2.2.1, h1.2.2.2.2.2.2.2.2.2.2.2.2.2.2.2.2.2.2.2.2.2.2.2.2, h6]
  | some t =>
    obtain ⟨S', m', P'⟩ := t
    simp only [mdI] at h6
    obtain ⟨g1, g2, g3, g4, g5⟩ := h6
    have n2 : ¬ o = o + 1 := by omega
    have n4 : ¬ o = o + 2 := by omega
    have k0 : ¬ (1 : Int32) = 0 := by decide
    have i231 : inA 231 232 = true := by decide
    have c231 : (231 : Int32).toNatClampNeg = 231 := rfl
    obtain ⟨u, hu⟩ : ∃ u, u = wrI (cpI (cpI w (o + 3) 0 (o + 1) 0 33) (o + 3) 33 (o + 2) 0 198) o 2 (nI m') := ⟨_, rfl⟩
    have fr : FrX (Xc o) w u := by
      subst hu
      exact ((FrX.rf.cpI (fun _ _ _ => Or.inr ⟨by omega, by omega⟩)).cpI (fun _ _ _ => Or.inr ⟨by omega, by omega⟩)).wrI (Or.inl ⟨rfl, Or.inl rfl⟩)
    have e0 : ∀ c j, (c = o ∧ j = 4) ∨ c = o + 3 → rdI u c j = rdI w c j := by
      intro c j hc
      subst hu
      rw [rdI_wrI, if_neg (fun q => by omega), rdI_cpI, if_neg (fun q => by omega), rdI_cpI, if_neg (fun q => by omega)]
    have e1 : ∀ j, j < 33 → rdI u (o + 1) j = rdI w (o + 3) j := by
      intro j hj
      subst hu
      rw [rdI_wrI, if_neg (fun q => by omega), rdI_cpI, if_neg (fun q => by omega), rdI_cpI, if_pos ⟨rfl, by omega, by omega⟩]
      congr 1; omega
    have e2 : ∀ j, j < 198 → rdI u (o + 2) j = rdI w (o + 3) (33 + j) := by
      intro j hj
      subst hu
      rw [rdI_wrI, if_neg (fun q => by omega), rdI_cpI, if_pos ⟨rfl, by omega, by omega⟩, rdI_cpI, if_neg (fun q => by omega)]
      congr 1
    refine ⟨u, ?_, ⟨fr.md h1, g2.congr (fun i hi => e1 i hi), ⟨by subst hu; simp [opRestore, rdI_wrI], g4, fun k hk => (g5 k hk).congr (fun i hi => e2 _ (by have : k < m' := hk; omega))⟩, ?_⟩, fr⟩
    · simp only [opRestore]
      have e3 : rdI (cpI (cpI w (o + 3) 0 (o + 1) 0 33) (o + 3) 33 (o + 2) 0 198) (o + 3) 231 = nI m' := by
        rw [rdI_cpI, if_neg (fun q => by omega), rdI_cpI, if_neg (fun q => by omega)]; exact g3
      refine sem_eq (Nat.le_of_ble_eq_true rfl) ?_
      show wp mX9_restore 0 [some (.ref o), none] [] _ _
      simp only [eX9_restore_0, eX9_restore_1, eX9_restore_4, eX9_restore_7, eX9_restore_9, eX9_restore_10, eX9_restore_11, cont_some, tl_some, tl_none, csum_nil, csum_i, csum_r, csum_j, isc2_i, isc2_r, isc2_n, va_rf_s, vfn_ite, true_and, and_true, true_or, or_true, eq_self, Bool.false_eq_true, not_false_eq_true, not_true_eq_false, if_true, if_false, Nat.reduceAdd, Nat.reduceLeDiff, reduceIte, h1.1, h1.2.1, h1.2.2.1, h1.2.2.2.1, h1.2.2.2.2.1, h1.2.2.2.2.2.1, h1.2.2.2.2.2.2.1, h1.2.2.2.2.2.2.2.1, h1.2.2.2.2.2.2.2.2.1, h1.2.2.2.2.2.2.2.2.2.1, h1.2.2.2.2.2.2.2.2.2.2.1, h1.2.2.2.2.2.2.2.2.2.2.2.1, h1.2.2.2.2.2.2.2.2.2.2.2.2.1, h1.2.2.2.2.2.2.2.2.2.2.2.2.2.1, h1.2.2.2.2.2.2.2.2.2.2.2.2.2.2.1, h1.2.2.2.2.2.2.2.2.2.2.2.2.2.2.2.1, h1.2.2.2.2.2.2.2.2.2.2.2.2.2.2.2.2.1, h1.2.2.2.2.2.2.2.2.2.2.2.2.2.2.2.2.2.1, h1.2.2.2.2.2.2.2.2.2.2.2.2.2.2.2.2.2.2.1, h1.2.2.2.2.2.2.2.2.2.2.2.2.2.2.2.2.2.2.2.1, h1.2.2.2.2.2.2.2.2.2.2.2.2.2.2.2.2.2.2.2.2.1, h1.2.2.2.2.2.2.2.2.2.2.2.2.2.2.2.2.2.2.2.2.2.1, h1.2.2.2.2.2.2.2.2.2.2.2.2.2.2.2.2.2.2.2.2.2.2.1, h1.2.2.2.2.2.2.2.2.2.2.2.2.2.2.2.2.2.2.2.2.2.2.2.1, h1.2.2.2.2.2.2.2.2.2.2.2.2.2.2.2.2.2.2.2.2.2.2.2.2, g1, k0]
      have t1 := lo_rest1 (w := w) (Q := fun r1 w1 => r1 = some (.int 1) ∧ w1 = u) h1 33 0 (by omega) (fun a1 => by
        simp only [eX9_restore_36, eX9_restore_37, cont_some, tl_some, tl_none, csum_nil, csum_i, csum_r, csum_j, isc2_i, isc2_r, isc2_n, va_rf_s, vfn_ite, true_and, and_true, true_or, or_true, eq_self, Bool.false_eq_true, not_false_eq_true, not_true_eq_false, if_true, if_false, Nat.reduceAdd, Nat.reduceLeDiff, reduceIte]
        have t2 := lo_rest2 (w := cpI w (o + 3) 0 (o + 1) 0 33) (Q := fun r1 w1 => r1 = some (.int 1) ∧ w1 = u) h1 198 0 (by omega) (fun a1 => by
          simp only [eX9_restore_66, eX9_restore_67, eX9_restore_68, eX9_restore_71, eX9_restore_74, eX9_restore_75, eX9_restore_78, eX9_restore_79, cont_some, tl_some, tl_none, csum_nil, csum_i, csum_r, csum_j, isc2_i, isc2_r, isc2_n, va_rf_s, vfn_ite, true_and, and_true, true_or, or_true, eq_self, Bool.false_eq_true, not_false_eq_true, not_true_eq_false, if_true, if_false, Nat.reduceAdd, Nat.reduceLeDiff, reduceIte, shp_cpI, rdR_cpI, shp_wrI, h1.1, h1.2.1, h1.2.2.1, h1.2.2.2.1, h1.2.2.2.2.1, h1.2.2.2.2.2.1, h1.2.2.2.2.2.2.1, h1.2.2.2.2.2.2.2.1, h1.2.2.2.2.2.2.2.2.1, h1.2.2.2.2.2.2.2.2.2.1, h1.2.2.2.2.2.2.2.2.2.2.1, h1.2.2.2.2.2.2.2.2.2.2.2.1, h1.2.2.2.2.2.2.2.2.2.2.2.2.1, h1.2.2.2.2.2.2.2.2.2.2.2.2.2.1, h1.2.2.2.2.2.2.2.2.2.2.2.2.2.2.1, h1.2.2.2.2.2.2.2.2.2.2.2.2.2.2.2.1, h1.2.2.2.2.2.2.2.2.2.2.2.2.2.2.2.2.1, h1.2.2.2.2.2.2.2.2.2.2.2.2.2.2.2.2.2.1, h1.2.2.2.2.2.2.2.2.2.2.2.2.2.2.2.2.2.2.1, h1.2.2.2.2.2.2.2.2.2.2.2.2.2.2.2.2.2.2.2.1, h1.2.2.2.2.2.2.2.2.2.2.2.2.2.2.2.2.2.2.2.2.1, h1.2.2.2.2.2.2.2.2.2.2.2.2.2.2.2.2.2.2.2.2.2.1, h1.2.2.2.2.2.2.2.2.2.2.2.2.2.2.2.2.2.2.2.2.2.2.1, h1.2.2.2.2.2.2.2.2.2.2.2.2.2.2.2.2.2.2.2.2.2.2.2.1, h1.2.2.2.2.2.2.2.2.2.2.2.2.2.2.2.2.2.2.2.2.2.2.2.2, e3, i231, c231]
          exact hu.symm)
        rw [cpI_0] at t2
        exact t2)
      rw [cpI_0] at t1
      exact t1
    · simp only [opRestore, mdI]
      exact ⟨by rw [e0 _ _ (Or.inl ⟨rfl, rfl⟩)]; exact g1, g2.congr (fun i _ => e0 _ _ (Or.inr rfl)), by rw [e0 _ _ (Or.inr rfl)]; exact g3, g4, fun k hk => (g5 k hk).congr (fun i _ => e0 _ _ (Or.inr rfl))⟩
