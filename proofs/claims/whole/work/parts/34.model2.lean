theorem cpI_t {w : Wd} {sa sp da dp n i j : Nat} (h : sa ≠ da ∨ dp ≤ sp) (hi : i = dp + n) (hj : j = sp + n) : wrI (cpI w sa sp da dp n) da i (rdI (cpI w sa sp da dp n) sa j) = cpI w sa sp da dp (n + 1) := by subst hi; subst hj; exact cpI_s h
theorem cpJ_t {w : Wd} {sa sp da dp n i j : Nat} (h : sa ≠ da ∨ dp ≤ sp) (hi : i = dp + n) (hj : j = sp + n) : wrJ (cpJ w sa sp da dp n) da i (rdJ (cpJ w sa sp da dp n) sa j) = cpJ w sa sp da dp (n + 1) := by subst hi; subst hj; exact cpJ_s h
theorem nI_p33 : (33 : Int32) = nI 33 := rfl
theorem lo_deed1 {w : Wd} {o : Nat} {Q : Option Value → Wd → Prop} (h : isMd w o) : ∀ (d k : Nat), k + d = 165 → (∀ a1, wp mX9_deed 39 [some (.ref o), a1] [] (cpI w (o + 2) 33 (o + 2) 0 165) Q) →
    wp mX9_deed 11 [some (.ref o), some (.int (nI k))] [] (cpI w (o + 2) 33 (o + 2) 0 k) Q := by
  intro d
  induction d with
  | zero =>
    intro k hk hQ
    have : k = 165 := by omega
    subst this
    have h1 : ¬ nI 165 < 165 := by decide
    simp only [eX9_deed_11, eX9_deed_12, eX9_deed_15, cont_some, tl_some, tl_none, csum_nil, csum_i, csum_r, csum_j, isc2_i, isc2_r, isc2_n, va_rf_s, vfn_ite, true_and, and_true, true_or, or_true, eq_self, Bool.false_eq_true, not_false_eq_true, not_true_eq_false, if_true, if_false, Nat.reduceAdd, Nat.reduceLeDiff, reduceIte, h1]
    exact hQ _
  | succ d ih =>
    intro k hk hQ
    have h1 : nI k < 165 := nI_lt (b := 165) (by omega) (by decide)
    simp only [eX9_deed_11, eX9_deed_12, eX9_deed_15, eX9_deed_18, eX9_deed_19, eX9_deed_22, eX9_deed_23, eX9_deed_24, eX9_deed_27, eX9_deed_28, eX9_deed_30, eX9_deed_31, eX9_deed_32, eX9_deed_33, cont_some, tl_some, tl_none, csum_nil, csum_i, csum_r, csum_j, isc2_i, isc2_r, isc2_n, va_rf_s, vfn_ite, true_and, and_true, true_or, or_true, eq_self, Bool.false_eq_true, not_false_eq_true, not_true_eq_false, if_true, if_false, Nat.reduceAdd, Nat.reduceLeDiff, reduceIte, shp_cpI, rdR_cpI, h.1, h.2.1, h.2.2.1, h.2.2.2.1, h.2.2.2.2.1, h.2.2.2.2.2.1, h.2.2.2.2.2.2.1, h.2.2.2.2.2.2.2.1, h.2.2.2.2.2.2.2.2.1, h.2.2.2.2.2.2.2.2.2.1, h.2.2.2.2.2.2.2.2.2.2.1, h.2.2.2.2.2.2.2.2.2.2.2.1, h.2.2.2.2.2.2.2.2.2.2.2.2.1, h.2.2.2.2.2.2.2.2.2.2.2.2.2.1, h.2.2.2.2.2.2.2.2.2.2.2.2.2.2.1, h.2.2.2.2.2.2.2.2.2.2.2.2.2.2.2.1, h.2.2.2.2.2.2.2.2.2.2.2.2.2.2.2.2.1, h.2.2.2.2.2.2.2.2.2.2.2.2.2.2.2.2.2.1, h.2.2.2.2.2.2.2.2.2.2.2.2.2.2.2.2.2.2.1, h.2.2.2.2.2.2.2.2.2.2.2.2.2.2.2.2.2.2.2.1, h.2.2.2.2.2.2.2.2.2.2.2.2.2.2.2.2.2.2.2.2.1, h.2.2.2.2.2.2.2.2.2.2.2.2.2.2.2.2.2.2.2.2.2.1, h.2.2.2.2.2.2.2.2.2.2.2.2.2.2.2.2.2.2.2.2.2.2.1, h.2.2.2.2.2.2.2.2.2.2.2.2.2.2.2.2.2.2.2.2.2.2.2.1, h.2.2.2.2.2.2.2.2.2.2.2.2.2.2.2.2.2.2.2.2.2.2.2.2, h1, nI_p33, nI_a, inA_nI (show k < 198 by omega) (by omega), inA_nI (show k + 33 < 198 by omega) (by omega), nI_clamp (show k < 2 ^ 31 by omega), nI_clamp (show k + 33 < 2 ^ 31 by omega), nI_1]
    rw [cpI_t (Or.inr (by omega)) (by omega) (by omega), eX9_deed_36]
    exact ih (k + 1) (by omega) hQ
theorem lo_deed2 {w : Wd} {o m : Nat} {Q : Option Value → Wd → Prop} (h : isMd w o) (hm : rdI w o 2 = nI m) (hm6 : m < 6) : ∀ (d k : Nat), k + d = 33 → (∀ a1, wp mX9_deed 83 [some (.ref o), a1] [] (cpI w (o + 1) 0 (o + 2) (33 * m) 33) Q) →
    wp mX9_deed 51 [some (.ref o), some (.int (nI k))] [] (cpI w (o + 1) 0 (o + 2) (33 * m) k) Q := by
  have n1 : ¬ o = o + 2 := by omega
  intro d
  induction d with
  | zero =>
    intro k hk hQ
    have : k = 33 := by omega
    subst this
    have h1 : ¬ nI 33 < 33 := by decide
    simp only [eX9_deed_51, eX9_deed_52, eX9_deed_54, cont_some, tl_some, tl_none, csum_nil, csum_i, csum_r, csum_j, isc2_i, isc2_r, isc2_n, va_rf_s, vfn_ite, true_and, and_true, true_or, or_true, eq_self, Bool.false_eq_true, not_false_eq_true, not_true_eq_false, if_true, if_false, Nat.reduceAdd, Nat.reduceLeDiff, reduceIte, h1]
    exact hQ _
  | succ d ih =>
    intro k hk hQ
    have h1 : nI k < 33 := nI_lt (b := 33) (by omega) (by decide)
    simp only [eX9_deed_51, eX9_deed_52, eX9_deed_54, cont_some, tl_some, tl_none, csum_nil, csum_i, csum_r, csum_j, isc2_i, isc2_r, isc2_n, va_rf_s, vfn_ite, true_and, and_true, true_or, or_true, eq_self, Bool.false_eq_true, not_false_eq_true, not_true_eq_false, if_true, if_false, Nat.reduceAdd, Nat.reduceLeDiff, reduceIte, h1]
    simp only [eX9_deed_57, eX9_deed_58, eX9_deed_61, eX9_deed_63, eX9_deed_64, eX9_deed_67, eX9_deed_68, eX9_deed_69, eX9_deed_70, eX9_deed_71, eX9_deed_74, eX9_deed_75, eX9_deed_76, eX9_deed_77, cont_some, tl_some, tl_none, csum_nil, csum_i, csum_r, csum_j, isc2_i, isc2_r, isc2_n, va_rf_s, vfn_ite, true_and, and_true, true_or, or_true, eq_self, Bool.false_eq_true, not_false_eq_true, not_true_eq_false, if_true, if_false, Nat.reduceAdd, Nat.reduceLeDiff, reduceIte, shp_cpI, rdR_cpI, rdI_cpI, n1, false_and, h.1, h.2.1, h.2.2.1, h.2.2.2.1, h.2.2.2.2.1, h.2.2.2.2.2.1, h.2.2.2.2.2.2.1, h.2.2.2.2.2.2.2.1, h.2.2.2.2.2.2.2.2.1, h.2.2.2.2.2.2.2.2.2.1, h.2.2.2.2.2.2.2.2.2.2.1, h.2.2.2.2.2.2.2.2.2.2.2.1, h.2.2.2.2.2.2.2.2.2.2.2.2.1, h.2.2.2.2.2.2.2.2.2.2.2.2.2.1, h.2.2.2.2.2.2.2.2.2.2.2.2.2.2.1, h.2.2.2.2.2.2.2.2.2.2.2.2.2.2.2.1, h.2.2.2.2.2.2.2.2.2.2.2.2.2.2.2.2.1, h.2.2.2.2.2.2.2.2.2.2.2.2.2.2.2.2.2.1, h.2.2.2.2.2.2.2.2.2.2.2.2.2.2.2.2.2.2.1, h.2.2.2.2.2.2.2.2.2.2.2.2.2.2.2.2.2.2.2.1, h.2.2.2.2.2.2.2.2.2.2.2.2.2.2.2.2.2.2.2.2.1, h.2.2.2.2.2.2.2.2.2.2.2.2.2.2.2.2.2.2.2.2.2.1, h.2.2.2.2.2.2.2.2.2.2.2.2.2.2.2.2.2.2.2.2.2.2.1, h.2.2.2.2.2.2.2.2.2.2.2.2.2.2.2.2.2.2.2.2.2.2.2.1, h.2.2.2.2.2.2.2.2.2.2.2.2.2.2.2.2.2.2.2.2.2.2.2.2, hm, nI_p33, pk_mul, nI_a, inA_nI (show k < 33 by omega) (by omega), inA_nI (show 33 * m + k < 198 by omega) (by omega), nI_clamp (show k < 2 ^ 31 by omega), nI_clamp (show 33 * m + k < 2 ^ 31 by omega), nI_1]
    rw [← rdI_cpI, cpI_t (Or.inl (by omega)) (by omega) (by omega), eX9_deed_80]
    exact ih (k + 1) (by omega) hQ
def deedW (w : Wd) (o m : Nat) : Wd := if m < 6 then wrI (cpI w (o + 1) 0 (o + 2) (33 * m) 33) o 2 (nI (m + 1)) else wrI (cpI (wrI (cpI w (o + 2) 33 (o + 2) 0 165) o 2 (nI 5)) (o + 1) 0 (o + 2) (33 * 5) 33) o 2 (nI 6)
theorem s_deed {w : Wd} {o m : Nat} (h : isMd w o) (hm : rdI w o 2 = nI m) (hm6 : m ≤ 6) : fX9_deed [.ref o] w = some (none, deedW w o m) := by
  have n1 : ¬ o = o + 2 := by omega
  have fin_ : ∀ (v : Wd) (k : Nat) (Q : Option Value → Wd → Prop), isMd v o → rdI v o 2 = nI k → k < 6 → Q none (wrI (cpI v (o + 1) 0 (o + 2) (33 * k) 33) o 2 (nI (k + 1))) → ∀ a1, wp mX9_deed 49 [some (.ref o), a1] [] v Q := by
    intro v k Q hv hk hk6 hQ a1
    simp only [eX9_deed_49, eX9_deed_50, cont_some, tl_some, tl_none, csum_nil, csum_i, csum_r, csum_j, isc2_i, isc2_r, isc2_n, va_rf_s, vfn_ite, true_and, and_true, true_or, or_true, eq_self, Bool.false_eq_true, not_false_eq_true, not_true_eq_false, if_true, if_false, Nat.reduceAdd, Nat.reduceLeDiff, reduceIte]
    have := lo_deed2 (Q := Q) hv hk hk6 33 0 (by omega) (fun a1 => by
      simp only [eX9_deed_83, eX9_deed_84, eX9_deed_84i, eX9_deed_85, eX9_deed_88, eX9_deed_89, eX9_deed_90, eX9_deed_93, cont_some, tl_some, tl_none, csum_nil, csum_i, csum_r, csum_j, isc2_i, isc2_r, isc2_n, va_rf_s, vfn_ite, true_and, and_true, true_or, or_true, eq_self, Bool.false_eq_true, not_false_eq_true, not_true_eq_false, if_true, if_false, Nat.reduceAdd, Nat.reduceLeDiff, reduceIte, shp_cpI, rdI_cpI, n1, false_and, hv.1, hv.2.1, hv.2.2.1, hv.2.2.2.1, hv.2.2.2.2.1, hv.2.2.2.2.2.1, hv.2.2.2.2.2.2.1, hv.2.2.2.2.2.2.2.1, hv.2.2.2.2.2.2.2.2.1, hv.2.2.2.2.2.2.2.2.2.1, hv.2.2.2.2.2.2.2.2.2.2.1, hv.2.2.2.2.2.2.2.2.2.2.2.1, hv.2.2.2.2.2.2.2.2.2.2.2.2.1, hv.2.2.2.2.2.2.2.2.2.2.2.2.2.1, hv.2.2.2.2.2.2.2.2.2.2.2.2.2.2.1, hv.2.2.2.2.2.2.2.2.2.2.2.2.2.2.2.1, hv.2.2.2.2.2.2.2.2.2.2.2.2.2.2.2.2.1, hv.2.2.2.2.2.2.2.2.2.2.2.2.2.2.2.2.2.1, hv.2.2.2.2.2.2.2.2.2.2.2.2.2.2.2.2.2.2.1, hv.2.2.2.2.2.2.2.2.2.2.2.2.2.2.2.2.2.2.2.1, hv.2.2.2.2.2.2.2.2.2.2.2.2.2.2.2.2.2.2.2.2.1, hv.2.2.2.2.2.2.2.2.2.2.2.2.2.2.2.2.2.2.2.2.2.1, hv.2.2.2.2.2.2.2.2.2.2.2.2.2.2.2.2.2.2.2.2.2.2.1, hv.2.2.2.2.2.2.2.2.2.2.2.2.2.2.2.2.2.2.2.2.2.2.2.1, hv.2.2.2.2.2.2.2.2.2.2.2.2.2.2.2.2.2.2.2.2.2.2.2.2, hk, nI_1]
      exact hQ)
    rw [cpI_0] at this
    exact this
  unfold deedW
  by_cases q : m < 6
  · have hne : ¬ nI m = 6 := fun z => absurd ((nI_eq (b := 6) (by omega) (by omega)).mp z) (by omega)
    rw [if_pos q]
    refine sem_eq (Nat.le_of_ble_eq_true rfl) ?_
    show wp mX9_deed 0 [some (.ref o), none] [] _ _
    simp only [eX9_deed_0, eX9_deed_1, eX9_deed_4, eX9_deed_6, cont_some, tl_some, tl_none, csum_nil, csum_i, csum_r, csum_j, isc2_i, isc2_r, isc2_n, va_rf_s, vfn_ite, true_and, and_true, true_or, or_true, eq_self, Bool.false_eq_true, not_false_eq_true, not_true_eq_false, if_true, if_false, Nat.reduceAdd, Nat.reduceLeDiff, reduceIte, h.1, h.2.1, h.2.2.1, h.2.2.2.1, h.2.2.2.2.1, h.2.2.2.2.2.1, h.2.2.2.2.2.2.1, h.2.2.2.2.2.2.2.1, h.2.2.2.2.2.2.2.2.1, h.2.2.2.2.2.2.2.2.2.1, h.2.2.2.2.2.2.2.2.2.2.1, h.2.2.2.2.2.2.2.2.2.2.2.1, h.2.2.2.2.2.2.2.2.2.2.2.2.1, h.2.2.2.2.2.2.2.2.2.2.2.2.2.1, h.2.2.2.2.2.2.2.2.2.2.2.2.2.2.1, h.2.2.2.2.2.2.2.2.2.2.2.2.2.2.2.1, h.2.2.2.2.2.2.2.2.2.2.2.2.2.2.2.2.1, h.2.2.2.2.2.2.2.2.2.2.2.2.2.2.2.2.2.1, h.2.2.2.2.2.2.2.2.2.2.2.2.2.2.2.2.2.2.1, h.2.2.2.2.2.2.2.2.2.2.2.2.2.2.2.2.2.2.2.1, h.2.2.2.2.2.2.2.2.2.2.2.2.2.2.2.2.2.2.2.2.1, h.2.2.2.2.2.2.2.2.2.2.2.2.2.2.2.2.2.2.2.2.2.1, h.2.2.2.2.2.2.2.2.2.2.2.2.2.2.2.2.2.2.2.2.2.2.1, h.2.2.2.2.2.2.2.2.2.2.2.2.2.2.2.2.2.2.2.2.2.2.2.1, h.2.2.2.2.2.2.2.2.2.2.2.2.2.2.2.2.2.2.2.2.2.2.2.2, hm, hne]
    exact fin_ w m _ h hm q ⟨rfl, rfl⟩ _
  · have h6 : m = 6 := by omega
    subst h6
    rw [if_neg q]
    have he : nI 6 = 6 := rfl
    have e5 : nI 6 - 1 = nI 5 := by decide
    refine sem_eq (Nat.le_of_ble_eq_true rfl) ?_
    show wp mX9_deed 0 [some (.ref o), none] [] _ _
    simp only [eX9_deed_0, eX9_deed_1, eX9_deed_4, eX9_deed_6, eX9_deed_9, eX9_deed_10, cont_some, tl_some, tl_none, csum_nil, csum_i, csum_r, csum_j, isc2_i, isc2_r, isc2_n, va_rf_s, vfn_ite, true_and, and_true, true_or, or_true, eq_self, Bool.false_eq_true, not_false_eq_true, not_true_eq_false, if_true, if_false, Nat.reduceAdd, Nat.reduceLeDiff, reduceIte, h.1, h.2.1, h.2.2.1, h.2.2.2.1, h.2.2.2.2.1, h.2.2.2.2.2.1, h.2.2.2.2.2.2.1, h.2.2.2.2.2.2.2.1, h.2.2.2.2.2.2.2.2.1, h.2.2.2.2.2.2.2.2.2.1, h.2.2.2.2.2.2.2.2.2.2.1, h.2.2.2.2.2.2.2.2.2.2.2.1, h.2.2.2.2.2.2.2.2.2.2.2.2.1, h.2.2.2.2.2.2.2.2.2.2.2.2.2.1, h.2.2.2.2.2.2.2.2.2.2.2.2.2.2.1, h.2.2.2.2.2.2.2.2.2.2.2.2.2.2.2.1, h.2.2.2.2.2.2.2.2.2.2.2.2.2.2.2.2.1, h.2.2.2.2.2.2.2.2.2.2.2.2.2.2.2.2.2.1, h.2.2.2.2.2.2.2.2.2.2.2.2.2.2.2.2.2.2.1, h.2.2.2.2.2.2.2.2.2.2.2.2.2.2.2.2.2.2.2.1, h.2.2.2.2.2.2.2.2.2.2.2.2.2.2.2.2.2.2.2.2.1, h.2.2.2.2.2.2.2.2.2.2.2.2.2.2.2.2.2.2.2.2.2.1, h.2.2.2.2.2.2.2.2.2.2.2.2.2.2.2.2.2.2.2.2.2.2.1, h.2.2.2.2.2.2.2.2.2.2.2.2.2.2.2.2.2.2.2.2.2.2.2.1, h.2.2.2.2.2.2.2.2.2.2.2.2.2.2.2.2.2.2.2.2.2.2.2.2, hm, he]
    have := lo_deed1 (Q := fun r1 w1 => r1 = none ∧ w1 = wrI (cpI (wrI (cpI w (o + 2) 33 (o + 2) 0 165) o 2 (nI 5)) (o + 1) 0 (o + 2) (33 * 5) 33) o 2 (nI 6)) h 165 0 (by omega) (fun a1 => by
      simp only [eX9_deed_39, eX9_deed_40, eX9_deed_40i, eX9_deed_41, eX9_deed_44, eX9_deed_45, eX9_deed_46, cont_some, tl_some, tl_none, csum_nil, csum_i, csum_r, csum_j, isc2_i, isc2_r, isc2_n, va_rf_s, vfn_ite, true_and, and_true, true_or, or_true, eq_self, Bool.false_eq_true, not_false_eq_true, not_true_eq_false, if_true, if_false, Nat.reduceAdd, Nat.reduceLeDiff, reduceIte, shp_cpI, rdI_cpI, n1, false_and, h.1, h.2.1, h.2.2.1, h.2.2.2.1, h.2.2.2.2.1, h.2.2.2.2.2.1, h.2.2.2.2.2.2.1, h.2.2.2.2.2.2.2.1, h.2.2.2.2.2.2.2.2.1, h.2.2.2.2.2.2.2.2.2.1, h.2.2.2.2.2.2.2.2.2.2.1, h.2.2.2.2.2.2.2.2.2.2.2.1, h.2.2.2.2.2.2.2.2.2.2.2.2.1, h.2.2.2.2.2.2.2.2.2.2.2.2.2.1, h.2.2.2.2.2.2.2.2.2.2.2.2.2.2.1, h.2.2.2.2.2.2.2.2.2.2.2.2.2.2.2.1, h.2.2.2.2.2.2.2.2.2.2.2.2.2.2.2.2.1, h.2.2.2.2.2.2.2.2.2.2.2.2.2.2.2.2.2.1, h.2.2.2.2.2.2.2.2.2.2.2.2.2.2.2.2.2.2.1, h.2.2.2.2.2.2.2.2.2.2.2.2.2.2.2.2.2.2.2.1, h.2.2.2.2.2.2.2.2.2.2.2.2.2.2.2.2.2.2.2.2.1, h.2.2.2.2.2.2.2.2.2.2.2.2.2.2.2.2.2.2.2.2.2.1, h.2.2.2.2.2.2.2.2.2.2.2.2.2.2.2.2.2.2.2.2.2.2.1, h.2.2.2.2.2.2.2.2.2.2.2.2.2.2.2.2.2.2.2.2.2.2.2.1, h.2.2.2.2.2.2.2.2.2.2.2.2.2.2.2.2.2.2.2.2.2.2.2.2, hm, e5]
      exact fin_ (wrI (cpI w (o + 2) 33 (o + 2) 0 165) o 2 (nI 5)) 5 _ h (by rw [rdI_wrI, if_pos ⟨rfl, rfl⟩]) (by omega) ⟨rfl, rfl⟩ _)
    rw [cpI_0] at this
    exact this
theorem deedW_fr {w : Wd} {o m : Nat} : FrX (fun c j => (c = o ∧ j = 2) ∨ c = o + 2) w (deedW w o m) := by
  unfold deedW
  split
  · exact (FrX.rf.cpI (fun _ _ _ => Or.inr rfl)).wrI (Or.inl ⟨rfl, rfl⟩)
  · exact (((FrX.rf.cpI (fun _ _ _ => Or.inr rfl)).wrI (Or.inl ⟨rfl, rfl⟩)).cpI (fun _ _ _ => Or.inr rfl)).wrI (Or.inl ⟨rfl, rfl⟩)
theorem deedW_is {w : Wd} {o m : Nat} {P : Nat → Sst} {S : Sst} (h : mdP w o m P) (hS : blkIs (rdI w (o + 1)) S) : mdP (deedW w o m) o (pushM m) (pushS m P S) := by
  obtain ⟨h1, h2, h3⟩ := h
  have n1 : ¬ o + 2 = o := by omega
  have n2 : ¬ o + 1 = o := by omega
  by_cases q : m < 6
  · simp only [deedW, pushM, pushS, q, if_true]
    refine ⟨by simp [rdI_wrI], by omega, fun k hk => ?_⟩
    by_cases e : k = m
    · subst e
      rw [show pushS k P S k = S by simp [pushS, q]]
      refine hS.congr (fun i hi => ?_)
      simp only [rdI_wrI, n1, false_and, if_false, rdI_cpI, true_and]
      rw [if_pos (by omega)]
      congr 1; omega
    · rw [show pushS m P S k = P k by simp [pushS, q, e]]
      refine (h3 k (by omega)).congr (fun i hi => ?_)
      simp only [rdI_wrI, n1, false_and, if_false, rdI_cpI, true_and]
      rw [if_neg (by omega)]
  · simp only [deedW, pushM, pushS, q, if_false]
    refine ⟨by simp [rdI_wrI], by omega, fun k hk => ?_⟩
    by_cases e : k = 5
    · subst e
      rw [show pushS m P S 5 = S by simp [pushS, q]]
      refine hS.congr (fun i hi => ?_)
      simp only [rdI_wrI, n1, n2, false_and, if_false, rdI_cpI, true_and]
      rw [if_pos (by omega), if_neg (by omega), show 0 + (33 * 5 + i - 33 * 5) = i by omega]
    · rw [show pushS m P S k = P (k + 1) by simp [pushS, q, e]]
      refine (h3 (k + 1) (by omega)).congr (fun i hi => ?_)
      simp only [rdI_wrI, n1, false_and, if_false, rdI_cpI, true_and]
      rw [if_neg (by omega), if_pos (by omega)]
      congr 1; omega
theorem s_mayGo {w : Wd} {o n k : Nat} {a v : Int32} (h : isMd w o) (hn : rdI w (o + 1) 0 = nI n) (h10 : n ≤ 10) (hk : k < n) : fX9_mayGo [.ref o, .int (nI k), .int a, .int v] w = some (some (.int (b2i (freeB (fun i => rdI w (o + 1) (3 + i)) n k a v = true))), w) := by
  have p0 : fX9_part [.ref o, .int (nI k), .int 0] w = some (some (.int (rdI w (o + 1) (3 + 3 * k))), w) := s_part (j := 0) h (by omega)
  have p1 : fX9_part [.ref o, .int (nI k), .int 1] w = some (some (.int (rdI w (o + 1) (3 + (3 * k + 1)))), w) := s_part (j := 1) h (by omega)
  have p2 : fX9_part [.ref o, .int (nI k), .int 2] w = some (some (.int (rdI w (o + 1) (3 + (3 * k + 2)))), w) := s_part (j := 2) h (by omega)
  have fin_ : ∀ x y z : Int32, wp mX9_mayGo 45 [some (.ref o), some (.int (nI k)), some (.int a), some (.int v)] [.int z, .int y, .int x, .ref o] w (fun r1 w1 => r1 = some (.int (b2i ((!hasF (fun i => rdI w (o + 1) (3 + i)) x y z n 0) = true))) ∧ w1 = w) := by
    intro x y z
    simp only [eX9_mayGo_45, eX9_mayGo_48, eX9_mayGo_51, eX9_mayGo_52, eX9_mayGo_55, eX9_mayGo_56, cont_some, tl_some, tl_none, csum_nil, csum_i, csum_r, csum_j, isc2_i, isc2_r, isc2_n, va_rf_s, vfn_ite, true_and, and_true, true_or, or_true, eq_self, Bool.false_eq_true, not_false_eq_true, not_true_eq_false, if_true, if_false, Nat.reduceAdd, Nat.reduceLeDiff, reduceIte, h.1, h.2.1, h.2.2.1, h.2.2.2.1, h.2.2.2.2.1, h.2.2.2.2.2.1, h.2.2.2.2.2.2.1, h.2.2.2.2.2.2.2.1, h.2.2.2.2.2.2.2.2.1, h.2.2.2.2.2.2.2.2.2.1, h.2.2.2.2.2.2.2.2.2.2.1, h.2.2.2.2.2.2.2.2.2.2.2.1, h.2.2.2.2.2.2.2.2.2.2.2.2.1, h.2.2.2.2.2.2.2.2.2.2.2.2.2.1, h.2.2.2.2.2.2.2.2.2.2.2.2.2.2.1, h.2.2.2.2.2.2.2.2.2.2.2.2.2.2.2.1, h.2.2.2.2.2.2.2.2.2.2.2.2.2.2.2.2.1, h.2.2.2.2.2.2.2.2.2.2.2.2.2.2.2.2.2.1, h.2.2.2.2.2.2.2.2.2.2.2.2.2.2.2.2.2.2.1, h.2.2.2.2.2.2.2.2.2.2.2.2.2.2.2.2.2.2.2.1, h.2.2.2.2.2.2.2.2.2.2.2.2.2.2.2.2.2.2.2.2.1, h.2.2.2.2.2.2.2.2.2.2.2.2.2.2.2.2.2.2.2.2.2.1, h.2.2.2.2.2.2.2.2.2.2.2.2.2.2.2.2.2.2.2.2.2.2.1, h.2.2.2.2.2.2.2.2.2.2.2.2.2.2.2.2.2.2.2.2.2.2.2.1, h.2.2.2.2.2.2.2.2.2.2.2.2.2.2.2.2.2.2.2.2.2.2.2.2, s_isThere h hn h10, b2i_0]
    by_cases q : hasF (fun i => rdI w (o + 1) (3 + i)) x y z n 0 = true <;> simp [q, b2i]
  refine sem_eq (Nat.le_of_ble_eq_true rfl) ?_
  show wp mX9_mayGo 0 [some (.ref o), some (.int (nI k)), some (.int a), some (.int v)] [] _ _
  unfold freeB
  simp only [eX9_mayGo_0, eX9_mayGo_1, eX9_mayGo_2, eX9_mayGo_5, eX9_mayGo_6, eX9_mayGo_9, eX9_mayGo_10, eX9_mayGo_11, eX9_mayGo_12, eX9_mayGo_15, eX9_mayGo_16, eX9_mayGo_17, eX9_mayGo_20, eX9_mayGo_21, eX9_mayGo_24, eX9_mayGo_25, eX9_mayGo_26, eX9_mayGo_27, eX9_mayGo_30, eX9_mayGo_31, eX9_mayGo_32, eX9_mayGo_35, eX9_mayGo_36, eX9_mayGo_39, eX9_mayGo_40, eX9_mayGo_41, eX9_mayGo_42, cont_some, tl_some, tl_none, csum_nil, csum_i, csum_r, csum_j, isc2_i, isc2_r, isc2_n, va_rf_s, vfn_ite, true_and, and_true, true_or, or_true, eq_self, Bool.false_eq_true, not_false_eq_true, not_true_eq_false, if_true, if_false, Nat.reduceAdd, Nat.reduceLeDiff, reduceIte, h.1, h.2.1, h.2.2.1, h.2.2.2.1, h.2.2.2.2.1, h.2.2.2.2.2.1, h.2.2.2.2.2.2.1, h.2.2.2.2.2.2.2.1, h.2.2.2.2.2.2.2.2.1, h.2.2.2.2.2.2.2.2.2.1, h.2.2.2.2.2.2.2.2.2.2.1, h.2.2.2.2.2.2.2.2.2.2.2.1, h.2.2.2.2.2.2.2.2.2.2.2.2.1, h.2.2.2.2.2.2.2.2.2.2.2.2.2.1, h.2.2.2.2.2.2.2.2.2.2.2.2.2.2.1, h.2.2.2.2.2.2.2.2.2.2.2.2.2.2.2.1, h.2.2.2.2.2.2.2.2.2.2.2.2.2.2.2.2.1, h.2.2.2.2.2.2.2.2.2.2.2.2.2.2.2.2.2.1, h.2.2.2.2.2.2.2.2.2.2.2.2.2.2.2.2.2.2.1, h.2.2.2.2.2.2.2.2.2.2.2.2.2.2.2.2.2.2.2.1, h.2.2.2.2.2.2.2.2.2.2.2.2.2.2.2.2.2.2.2.2.1, h.2.2.2.2.2.2.2.2.2.2.2.2.2.2.2.2.2.2.2.2.2.1, h.2.2.2.2.2.2.2.2.2.2.2.2.2.2.2.2.2.2.2.2.2.2.1, h.2.2.2.2.2.2.2.2.2.2.2.2.2.2.2.2.2.2.2.2.2.2.2.1, h.2.2.2.2.2.2.2.2.2.2.2.2.2.2.2.2.2.2.2.2.2.2.2.2, p0, p1, p2]
  by_cases q0 : a = 0 <;> by_cases q1 : a = 1 <;> by_cases q2 : a = 2 <;> simp only [q0, q1, q2, if_true, if_false] at * <;> exact fin_ _ _ _
