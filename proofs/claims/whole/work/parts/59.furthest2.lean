/-! the furthest two, by the reference -/
def mpt (w : Wd) (o : Nat) : Nat → Int32 := fun j => rdI w (o + 1) (3 + j)
theorem m_ap {w : Wd} {o i j : Nat} {a1 a2 a3 a4 a8 : Option Value} {Q : Option Value → Wd → Prop} (h : isMd w o) (hi : i < 10) (hj : j < 10)
    (hQ : ∀ a8, wp mX9_furthest 99 [some (.ref o), a1, a2, a3, a4, some (.int (nI i)), some (.int (nI j)), some (.int (ap3 (mpt w o) i j)), a8] [] w Q) :
    wp mX9_furthest 47 [some (.ref o), a1, a2, a3, a4, some (.int (nI i)), some (.int (nI j)), some (.int 0), some (.int 0)] [] w Q := by
  have i0 : fX9_part [.ref o, .int (nI i), .int 0] w = some (some (.int (mpt w o (3 * i))), w) := s_part (j := 0) h (by omega)
  have i1 : fX9_part [.ref o, .int (nI i), .int 1] w = some (some (.int (mpt w o (3 * i + 1))), w) := s_part (j := 1) h (by omega)
  have i2 : fX9_part [.ref o, .int (nI i), .int 2] w = some (some (.int (mpt w o (3 * i + 2))), w) := s_part (j := 2) h (by omega)
  have j0 : fX9_part [.ref o, .int (nI j), .int 0] w = some (some (.int (mpt w o (3 * j))), w) := s_part (j := 0) h (by omega)
  have j1 : fX9_part [.ref o, .int (nI j), .int 1] w = some (some (.int (mpt w o (3 * j + 1))), w) := s_part (j := 1) h (by omega)
  have j2 : fX9_part [.ref o, .int (nI j), .int 2] w = some (some (.int (mpt w o (3 * j + 2))), w) := s_part (j := 2) h (by omega)
  have e1 : (0 : Int32) + 1 = 1 := by decide
  have e2 : (1 : Int32) + 1 = 2 := by decide
  have e3 : (2 : Int32) + 1 = 3 := by decide
  have l0 : (0 : Int32) < 3 := by decide
  have l1 : (1 : Int32) < 3 := by decide
  have l2 : (2 : Int32) < 3 := by decide
  have l3 : ¬ (3 : Int32) < 3 := by decide
  simp only [eX9_furthest_47, eX9_furthest_49, eX9_furthest_50, eX9_furthest_53, eX9_furthest_55, eX9_furthest_56, eX9_furthest_58, eX9_furthest_60, eX9_furthest_63, eX9_furthest_64, eX9_furthest_66, eX9_furthest_68, eX9_furthest_71, eX9_furthest_72, eX9_furthest_73, eX9_furthest_75, eX9_furthest_77, eX9_furthest_80, eX9_furthest_81, eX9_furthest_83, eX9_furthest_85, eX9_furthest_88, eX9_furthest_89, eX9_furthest_90, eX9_furthest_91, eX9_furthest_93, cont_some, tl_some, tl_none, csum_nil, csum_i, csum_r, csum_j, isc2_i, isc2_r, isc2_n, va_rf_s, vfn_ite, true_and, and_true, true_or, or_true, eq_self, Bool.false_eq_true, not_false_eq_true, not_true_eq_false, if_true, if_false, Nat.reduceAdd, Nat.reduceLeDiff, reduceIte, h.1, h.2.1, h.2.2.1, h.2.2.2.1, h.2.2.2.2.1, h.2.2.2.2.2.1, h.2.2.2.2.2.2.1, h.2.2.2.2.2.2.2.1, h.2.2.2.2.2.2.2.2.1, h.2.2.2.2.2.2.2.2.2.1, h.2.2.2.2.2.2.2.2.2.2.1, h.2.2.2.2.2.2.2.2.2.2.2.1, h.2.2.2.2.2.2.2.2.2.2.2.2.1, h.2.2.2.2.2.2.2.2.2.2.2.2.2.1, h.2.2.2.2.2.2.2.2.2.2.2.2.2.2.1, h.2.2.2.2.2.2.2.2.2.2.2.2.2.2.2.1, h.2.2.2.2.2.2.2.2.2.2.2.2.2.2.2.2.1, h.2.2.2.2.2.2.2.2.2.2.2.2.2.2.2.2.2.1, h.2.2.2.2.2.2.2.2.2.2.2.2.2.2.2.2.2.2.1, h.2.2.2.2.2.2.2.2.2.2.2.2.2.2.2.2.2.2.2.1, h.2.2.2.2.2.2.2.2.2.2.2.2.2.2.2.2.2.2.2.2.1, h.2.2.2.2.2.2.2.2.2.2.2.2.2.2.2.2.2.2.2.2.2.1, h.2.2.2.2.2.2.2.2.2.2.2.2.2.2.2.2.2.2.2.2.2.2.1, h.2.2.2.2.2.2.2.2.2.2.2.2.2.2.2.2.2.2.2.2.2.2.2.1, h.2.2.2.2.2.2.2.2.2.2.2.2.2.2.2.2.2.2.2.2.2.2.2.2, l0, i0, j0, e1]
  rw [eX9_furthest_96]
  simp only [eX9_furthest_47, eX9_furthest_49, eX9_furthest_50, eX9_furthest_53, eX9_furthest_55, eX9_furthest_56, eX9_furthest_58, eX9_furthest_60, eX9_furthest_63, eX9_furthest_64, eX9_furthest_66, eX9_furthest_68, eX9_furthest_71, eX9_furthest_72, eX9_furthest_73, eX9_furthest_75, eX9_furthest_77, eX9_furthest_80, eX9_furthest_81, eX9_furthest_83, eX9_furthest_85, eX9_furthest_88, eX9_furthest_89, eX9_furthest_90, eX9_furthest_91, eX9_furthest_93, cont_some, tl_some, tl_none, csum_nil, csum_i, csum_r, csum_j, isc2_i, isc2_r, isc2_n, va_rf_s, vfn_ite, true_and, and_true, true_or, or_true, eq_self, Bool.false_eq_true, not_false_eq_true, not_true_eq_false, if_true, if_false, Nat.reduceAdd, Nat.reduceLeDiff, reduceIte, h.1, h.2.1, h.2.2.1, h.2.2.2.1, h.2.2.2.2.1, h.2.2.2.2.2.1, h.2.2.2.2.2.2.1, h.2.2.2.2.2.2.2.1, h.2.2.2.2.2.2.2.2.1, h.2.2.2.2.2.2.2.2.2.1, h.2.2.2.2.2.2.2.2.2.2.1, h.2.2.2.2.2.2.2.2.2.2.2.1, h.2.2.2.2.2.2.2.2.2.2.2.2.1, h.2.2.2.2.2.2.2.2.2.2.2.2.2.1, h.2.2.2.2.2.2.2.2.2.2.2.2.2.2.1, h.2.2.2.2.2.2.2.2.2.2.2.2.2.2.2.1, h.2.2.2.2.2.2.2.2.2.2.2.2.2.2.2.2.1, h.2.2.2.2.2.2.2.2.2.2.2.2.2.2.2.2.2.1, h.2.2.2.2.2.2.2.2.2.2.2.2.2.2.2.2.2.2.1, h.2.2.2.2.2.2.2.2.2.2.2.2.2.2.2.2.2.2.2.1, h.2.2.2.2.2.2.2.2.2.2.2.2.2.2.2.2.2.2.2.2.1, h.2.2.2.2.2.2.2.2.2.2.2.2.2.2.2.2.2.2.2.2.2.1, h.2.2.2.2.2.2.2.2.2.2.2.2.2.2.2.2.2.2.2.2.2.2.1, h.2.2.2.2.2.2.2.2.2.2.2.2.2.2.2.2.2.2.2.2.2.2.2.1, h.2.2.2.2.2.2.2.2.2.2.2.2.2.2.2.2.2.2.2.2.2.2.2.2, l1, i1, j1, e2]
  rw [eX9_furthest_96]
  simp only [eX9_furthest_47, eX9_furthest_49, eX9_furthest_50, eX9_furthest_53, eX9_furthest_55, eX9_furthest_56, eX9_furthest_58, eX9_furthest_60, eX9_furthest_63, eX9_furthest_64, eX9_furthest_66, eX9_furthest_68, eX9_furthest_71, eX9_furthest_72, eX9_furthest_73, eX9_furthest_75, eX9_furthest_77, eX9_furthest_80, eX9_furthest_81, eX9_furthest_83, eX9_furthest_85, eX9_furthest_88, eX9_furthest_89, eX9_furthest_90, eX9_furthest_91, eX9_furthest_93, cont_some, tl_some, tl_none, csum_nil, csum_i, csum_r, csum_j, isc2_i, isc2_r, isc2_n, va_rf_s, vfn_ite, true_and, and_true, true_or, or_true, eq_self, Bool.false_eq_true, not_false_eq_true, not_true_eq_false, if_true, if_false, Nat.reduceAdd, Nat.reduceLeDiff, reduceIte, h.1, h.2.1, h.2.2.1, h.2.2.2.1, h.2.2.2.2.1, h.2.2.2.2.2.1, h.2.2.2.2.2.2.1, h.2.2.2.2.2.2.2.1, h.2.2.2.2.2.2.2.2.1, h.2.2.2.2.2.2.2.2.2.1, h.2.2.2.2.2.2.2.2.2.2.1, h.2.2.2.2.2.2.2.2.2.2.2.1, h.2.2.2.2.2.2.2.2.2.2.2.2.1, h.2.2.2.2.2.2.2.2.2.2.2.2.2.1, h.2.2.2.2.2.2.2.2.2.2.2.2.2.2.1, h.2.2.2.2.2.2.2.2.2.2.2.2.2.2.2.1, h.2.2.2.2.2.2.2.2.2.2.2.2.2.2.2.2.1, h.2.2.2.2.2.2.2.2.2.2.2.2.2.2.2.2.2.1, h.2.2.2.2.2.2.2.2.2.2.2.2.2.2.2.2.2.2.1, h.2.2.2.2.2.2.2.2.2.2.2.2.2.2.2.2.2.2.2.1, h.2.2.2.2.2.2.2.2.2.2.2.2.2.2.2.2.2.2.2.2.1, h.2.2.2.2.2.2.2.2.2.2.2.2.2.2.2.2.2.2.2.2.2.1, h.2.2.2.2.2.2.2.2.2.2.2.2.2.2.2.2.2.2.2.2.2.2.1, h.2.2.2.2.2.2.2.2.2.2.2.2.2.2.2.2.2.2.2.2.2.2.2.1, h.2.2.2.2.2.2.2.2.2.2.2.2.2.2.2.2.2.2.2.2.2.2.2.2, l2, i2, j2, e3]
  rw [eX9_furthest_96]
  simp only [eX9_furthest_47, eX9_furthest_49, eX9_furthest_50, cont_some, tl_some, tl_none, csum_nil, csum_i, csum_r, csum_j, isc2_i, isc2_r, isc2_n, va_rf_s, vfn_ite, true_and, and_true, true_or, or_true, eq_self, Bool.false_eq_true, not_false_eq_true, not_true_eq_false, if_true, if_false, Nat.reduceAdd, Nat.reduceLeDiff, reduceIte, l3]
  exact hQ _
theorem lo_mJ {w : Wd} {o n i : Nat} {a1 : Option Value} {Q : Option Value → Wd → Prop} (ha1 : isc2 (some a1) = false) (h : isMd w o) (hn : rdI w (o + 1) 0 = nI n) (h10 : n ≤ 10) (hi : i < n) : ∀ (d j : Nat) (t : Trp) (a7 a8 : Option Value), j + d = n →
    (∀ a6 a7 a8, wp mX9_furthest 121 [some (.ref o), a1, some (.int (fuJ (mpt w o) i d j t).1), some (.int (fuJ (mpt w o) i d j t).2.1), some (.int (fuJ (mpt w o) i d j t).2.2), some (.int (nI i)), a6, a7, a8] [] w Q) →
    wp mX9_furthest 30 [some (.ref o), a1, some (.int t.1), some (.int t.2.1), some (.int t.2.2), some (.int (nI i)), some (.int (nI j)), a7, a8] [] w Q := by
  have i0 : inA 0 33 = true := by decide
  have c0 : (0 : Int32).toNatClampNeg = 0 := by decide
  intro d
  induction d with
  | zero =>
    intro j t a7 a8 hj hQ
    have e : j = n := by omega
    subst e
    have l : ¬ nI j < nI j := Int32.lt_irrefl
    simp only [eX9_furthest_30, eX9_furthest_32, eX9_furthest_33, eX9_furthest_36, eX9_furthest_37, eX9_furthest_38, cont_some, tl_some, tl_none, csum_nil, csum_i, csum_r, csum_j, isc2_i, isc2_r, isc2_n, va_rf_s, vfn_ite, true_and, and_true, true_or, or_true, eq_self, Bool.false_eq_true, not_false_eq_true, not_true_eq_false, if_true, if_false, Nat.reduceAdd, Nat.reduceLeDiff, reduceIte, h.1, h.2.1, h.2.2.1, h.2.2.2.1, h.2.2.2.2.1, h.2.2.2.2.2.1, h.2.2.2.2.2.2.1, h.2.2.2.2.2.2.2.1, h.2.2.2.2.2.2.2.2.1, h.2.2.2.2.2.2.2.2.2.1, h.2.2.2.2.2.2.2.2.2.2.1, h.2.2.2.2.2.2.2.2.2.2.2.1, h.2.2.2.2.2.2.2.2.2.2.2.2.1, h.2.2.2.2.2.2.2.2.2.2.2.2.2.1, h.2.2.2.2.2.2.2.2.2.2.2.2.2.2.1, h.2.2.2.2.2.2.2.2.2.2.2.2.2.2.2.1, h.2.2.2.2.2.2.2.2.2.2.2.2.2.2.2.2.1, h.2.2.2.2.2.2.2.2.2.2.2.2.2.2.2.2.2.1, h.2.2.2.2.2.2.2.2.2.2.2.2.2.2.2.2.2.2.1, h.2.2.2.2.2.2.2.2.2.2.2.2.2.2.2.2.2.2.2.1, h.2.2.2.2.2.2.2.2.2.2.2.2.2.2.2.2.2.2.2.2.1, h.2.2.2.2.2.2.2.2.2.2.2.2.2.2.2.2.2.2.2.2.2.1, h.2.2.2.2.2.2.2.2.2.2.2.2.2.2.2.2.2.2.2.2.2.2.1, h.2.2.2.2.2.2.2.2.2.2.2.2.2.2.2.2.2.2.2.2.2.2.2.1, h.2.2.2.2.2.2.2.2.2.2.2.2.2.2.2.2.2.2.2.2.2.2.2.2, i0, c0, hn, l]
    exact hQ _ _ _
  | succ d ih =>
    intro j t a7 a8 hj hQ
    have l : nI j < nI n := nI_lt (by omega) (by omega)
    simp only [eX9_furthest_30, eX9_furthest_32, eX9_furthest_33, eX9_furthest_36, eX9_furthest_37, eX9_furthest_38, eX9_furthest_41, eX9_furthest_42, eX9_furthest_44, eX9_furthest_45, cont_some, tl_some, tl_none, csum_nil, csum_i, csum_r, csum_j, isc2_i, isc2_r, isc2_n, va_rf_s, vfn_ite, true_and, and_true, true_or, or_true, eq_self, Bool.false_eq_true, not_false_eq_true, not_true_eq_false, if_true, if_false, Nat.reduceAdd, Nat.reduceLeDiff, reduceIte, h.1, h.2.1, h.2.2.1, h.2.2.2.1, h.2.2.2.2.1, h.2.2.2.2.2.1, h.2.2.2.2.2.2.1, h.2.2.2.2.2.2.2.1, h.2.2.2.2.2.2.2.2.1, h.2.2.2.2.2.2.2.2.2.1, h.2.2.2.2.2.2.2.2.2.2.1, h.2.2.2.2.2.2.2.2.2.2.2.1, h.2.2.2.2.2.2.2.2.2.2.2.2.1, h.2.2.2.2.2.2.2.2.2.2.2.2.2.1, h.2.2.2.2.2.2.2.2.2.2.2.2.2.2.1, h.2.2.2.2.2.2.2.2.2.2.2.2.2.2.2.1, h.2.2.2.2.2.2.2.2.2.2.2.2.2.2.2.2.1, h.2.2.2.2.2.2.2.2.2.2.2.2.2.2.2.2.2.1, h.2.2.2.2.2.2.2.2.2.2.2.2.2.2.2.2.2.2.1, h.2.2.2.2.2.2.2.2.2.2.2.2.2.2.2.2.2.2.2.1, h.2.2.2.2.2.2.2.2.2.2.2.2.2.2.2.2.2.2.2.2.1, h.2.2.2.2.2.2.2.2.2.2.2.2.2.2.2.2.2.2.2.2.2.1, h.2.2.2.2.2.2.2.2.2.2.2.2.2.2.2.2.2.2.2.2.2.2.1, h.2.2.2.2.2.2.2.2.2.2.2.2.2.2.2.2.2.2.2.2.2.2.2.1, h.2.2.2.2.2.2.2.2.2.2.2.2.2.2.2.2.2.2.2.2.2.2.2.2, i0, c0, hn, l]
    refine m_ap (a8 := none) h (by omega) (by omega) (fun b8 => ?_)
    have go := ih (j + 1) (stT (mpt w o) i j t) (some (.int (ap3 (mpt w o) i j))) b8 (by omega) hQ
    by_cases q : t.1 < ap3 (mpt w o) i j
    · have e : stT (mpt w o) i j t = (ap3 (mpt w o) i j, nI i, nI j) := if_pos q
      rw [e] at go
      simp only [eX9_furthest_99, eX9_furthest_101, eX9_furthest_102, eX9_furthest_105, eX9_furthest_107, eX9_furthest_108, eX9_furthest_110, eX9_furthest_111, eX9_furthest_113, eX9_furthest_115, cont_some, tl_some, tl_none, csum_nil, csum_i, csum_r, csum_j, isc2_i, isc2_r, isc2_n, va_rf_s, vfn_ite, true_and, and_true, true_or, or_true, eq_self, Bool.false_eq_true, not_false_eq_true, not_true_eq_false, if_true, if_false, Nat.reduceAdd, Nat.reduceLeDiff, reduceIte, q, nI_1, ha1]
      rw [eX9_furthest_118]
      exact go
    · have e : stT (mpt w o) i j t = t := if_neg q
      rw [e] at go
      simp only [eX9_furthest_99, eX9_furthest_101, eX9_furthest_102, eX9_furthest_105, eX9_furthest_107, eX9_furthest_108, eX9_furthest_110, eX9_furthest_111, eX9_furthest_113, eX9_furthest_115, cont_some, tl_some, tl_none, csum_nil, csum_i, csum_r, csum_j, isc2_i, isc2_r, isc2_n, va_rf_s, vfn_ite, true_and, and_true, true_or, or_true, eq_self, Bool.false_eq_true, not_false_eq_true, not_true_eq_false, if_true, if_false, Nat.reduceAdd, Nat.reduceLeDiff, reduceIte, q, nI_1, ha1]
      rw [eX9_furthest_118]
      exact go
theorem lo_mI {w : Wd} {o n : Nat} {a1 : Option Value} {Q : Option Value → Wd → Prop} (ha1 : isc2 (some a1) = false) (h : isMd w o) (hn : rdI w (o + 1) 0 = nI n) (h10 : n ≤ 10) : ∀ (d i : Nat) (t : Trp) (a6 a7 a8 : Option Value), i + d = n →
    (∀ a5 a6 a7 a8, wp mX9_furthest 127 [some (.ref o), a1, some (.int (fuI (mpt w o) n d i t).1), some (.int (fuI (mpt w o) n d i t).2.1), some (.int (fuI (mpt w o) n d i t).2.2), a5, a6, a7, a8] [] w Q) →
    wp mX9_furthest 13 [some (.ref o), a1, some (.int t.1), some (.int t.2.1), some (.int t.2.2), some (.int (nI i)), a6, a7, a8] [] w Q := by
  have i0 : inA 0 33 = true := by decide
  have c0 : (0 : Int32).toNatClampNeg = 0 := by decide
  intro d
  induction d with
  | zero =>
    intro i t a6 a7 a8 hi hQ
    have e : i = n := by omega
    subst e
    have l : ¬ nI i < nI i := Int32.lt_irrefl
    simp only [eX9_furthest_13, eX9_furthest_15, eX9_furthest_16, eX9_furthest_19, eX9_furthest_20, eX9_furthest_21, cont_some, tl_some, tl_none, csum_nil, csum_i, csum_r, csum_j, isc2_i, isc2_r, isc2_n, va_rf_s, vfn_ite, true_and, and_true, true_or, or_true, eq_self, Bool.false_eq_true, not_false_eq_true, not_true_eq_false, if_true, if_false, Nat.reduceAdd, Nat.reduceLeDiff, reduceIte, h.1, h.2.1, h.2.2.1, h.2.2.2.1, h.2.2.2.2.1, h.2.2.2.2.2.1, h.2.2.2.2.2.2.1, h.2.2.2.2.2.2.2.1, h.2.2.2.2.2.2.2.2.1, h.2.2.2.2.2.2.2.2.2.1, h.2.2.2.2.2.2.2.2.2.2.1, h.2.2.2.2.2.2.2.2.2.2.2.1, h.2.2.2.2.2.2.2.2.2.2.2.2.1, h.2.2.2.2.2.2.2.2.2.2.2.2.2.1, h.2.2.2.2.2.2.2.2.2.2.2.2.2.2.1, h.2.2.2.2.2.2.2.2.2.2.2.2.2.2.2.1, h.2.2.2.2.2.2.2.2.2.2.2.2.2.2.2.2.1, h.2.2.2.2.2.2.2.2.2.2.2.2.2.2.2.2.2.1, h.2.2.2.2.2.2.2.2.2.2.2.2.2.2.2.2.2.2.1, h.2.2.2.2.2.2.2.2.2.2.2.2.2.2.2.2.2.2.2.1, h.2.2.2.2.2.2.2.2.2.2.2.2.2.2.2.2.2.2.2.2.1, h.2.2.2.2.2.2.2.2.2.2.2.2.2.2.2.2.2.2.2.2.2.1, h.2.2.2.2.2.2.2.2.2.2.2.2.2.2.2.2.2.2.2.2.2.2.1, h.2.2.2.2.2.2.2.2.2.2.2.2.2.2.2.2.2.2.2.2.2.2.2.1, h.2.2.2.2.2.2.2.2.2.2.2.2.2.2.2.2.2.2.2.2.2.2.2.2, i0, c0, hn, l]
    exact hQ _ _ _ _
  | succ d ih =>
    intro i t a6 a7 a8 hi hQ
    have l : nI i < nI n := nI_lt (by omega) (by omega)
    simp only [eX9_furthest_13, eX9_furthest_15, eX9_furthest_16, eX9_furthest_19, eX9_furthest_20, eX9_furthest_21, eX9_furthest_24, eX9_furthest_26, eX9_furthest_27, eX9_furthest_28, cont_some, tl_some, tl_none, csum_nil, csum_i, csum_r, csum_j, isc2_i, isc2_r, isc2_n, va_rf_s, vfn_ite, true_and, and_true, true_or, or_true, eq_self, Bool.false_eq_true, not_false_eq_true, not_true_eq_false, if_true, if_false, Nat.reduceAdd, Nat.reduceLeDiff, reduceIte, h.1, h.2.1, h.2.2.1, h.2.2.2.1, h.2.2.2.2.1, h.2.2.2.2.2.1, h.2.2.2.2.2.2.1, h.2.2.2.2.2.2.2.1, h.2.2.2.2.2.2.2.2.1, h.2.2.2.2.2.2.2.2.2.1, h.2.2.2.2.2.2.2.2.2.2.1, h.2.2.2.2.2.2.2.2.2.2.2.1, h.2.2.2.2.2.2.2.2.2.2.2.2.1, h.2.2.2.2.2.2.2.2.2.2.2.2.2.1, h.2.2.2.2.2.2.2.2.2.2.2.2.2.2.1, h.2.2.2.2.2.2.2.2.2.2.2.2.2.2.2.1, h.2.2.2.2.2.2.2.2.2.2.2.2.2.2.2.2.1, h.2.2.2.2.2.2.2.2.2.2.2.2.2.2.2.2.2.1, h.2.2.2.2.2.2.2.2.2.2.2.2.2.2.2.2.2.2.1, h.2.2.2.2.2.2.2.2.2.2.2.2.2.2.2.2.2.2.2.1, h.2.2.2.2.2.2.2.2.2.2.2.2.2.2.2.2.2.2.2.2.1, h.2.2.2.2.2.2.2.2.2.2.2.2.2.2.2.2.2.2.2.2.2.1, h.2.2.2.2.2.2.2.2.2.2.2.2.2.2.2.2.2.2.2.2.2.2.1, h.2.2.2.2.2.2.2.2.2.2.2.2.2.2.2.2.2.2.2.2.2.2.2.1, h.2.2.2.2.2.2.2.2.2.2.2.2.2.2.2.2.2.2.2.2.2.2.2.2, i0, c0, hn, l, nI_1]
    refine lo_mJ ha1 h hn h10 (by omega) (n - (i + 1)) (i + 1) t _ _ (by omega) (fun b6 b7 b8 => ?_)
    simp only [eX9_furthest_121, cont_some, tl_some, tl_none, csum_nil, csum_i, csum_r, csum_j, isc2_i, isc2_r, isc2_n, va_rf_s, vfn_ite, true_and, and_true, true_or, or_true, eq_self, Bool.false_eq_true, not_false_eq_true, not_true_eq_false, if_true, if_false, Nat.reduceAdd, Nat.reduceLeDiff, reduceIte, nI_1]
    rw [eX9_furthest_124]
    exact ih (i + 1) _ _ _ _ (by omega) hQ
theorem m_furthest {w : Wd} {o : Nat} {S : Sst} {x : Int32} (h : isMd w o) (hb : blkIs (rdI w (o + 1)) S) : fX9_furthest [.ref o, .int x] w = some (some (.int (selT x (farT S))), w) := by
  have e : fuI (mpt w o) S.1 S.1 0 (-4, -4, -4) = farT S := fuI_congr hb.2.2.2.2 S.1 0 _ (by omega)
  refine sem_eq (Nat.le_of_ble_eq_true rfl) ?_
  show wp mX9_furthest 0 [some (.ref o), some (.int x), none, none, none, none, none, none, none] [] _ _
  simp only [eX9_furthest_0, eX9_furthest_2, eX9_furthest_3, eX9_furthest_5, eX9_furthest_6, eX9_furthest_8, eX9_furthest_10, eX9_furthest_11, cont_some, tl_some, tl_none, csum_nil, csum_i, csum_r, csum_j, isc2_i, isc2_r, isc2_n, va_rf_s, vfn_ite, true_and, and_true, true_or, or_true, eq_self, Bool.false_eq_true, not_false_eq_true, not_true_eq_false, if_true, if_false, Nat.reduceAdd, Nat.reduceLeDiff, reduceIte]
  refine lo_mI rfl h hb.1 hb.2.1 S.1 0 (-4, -4, -4) _ _ _ (by omega) (fun a5 a6 a7 a8 => ?_)
  rw [e]
  unfold selT
  by_cases q : x = 3
  · simp only [eX9_furthest_127, eX9_furthest_128, eX9_furthest_129, eX9_furthest_132, eX9_furthest_133, eX9_furthest_136, eX9_furthest_137, eX9_furthest_138, eX9_furthest_141, eX9_furthest_142, eX9_furthest_145, eX9_furthest_147, cont_some, tl_some, tl_none, csum_nil, csum_i, csum_r, csum_j, isc2_i, isc2_r, isc2_n, va_rf_s, vfn_ite, true_and, and_true, true_or, or_true, eq_self, Bool.false_eq_true, not_false_eq_true, not_true_eq_false, if_true, if_false, Nat.reduceAdd, Nat.reduceLeDiff, reduceIte, q]
  · by_cases q4 : x = 4
    · have n43 : ¬ (4 : Int32) = 3 := by decide
      simp only [eX9_furthest_127, eX9_furthest_128, eX9_furthest_129, eX9_furthest_132, eX9_furthest_133, eX9_furthest_136, eX9_furthest_137, eX9_furthest_138, eX9_furthest_141, eX9_furthest_142, eX9_furthest_145, eX9_furthest_147, cont_some, tl_some, tl_none, csum_nil, csum_i, csum_r, csum_j, isc2_i, isc2_r, isc2_n, va_rf_s, vfn_ite, true_and, and_true, true_or, or_true, eq_self, Bool.false_eq_true, not_false_eq_true, not_true_eq_false, if_true, if_false, Nat.reduceAdd, Nat.reduceLeDiff, reduceIte, q4, n43]
    · simp only [eX9_furthest_127, eX9_furthest_128, eX9_furthest_129, eX9_furthest_132, eX9_furthest_133, eX9_furthest_136, eX9_furthest_137, eX9_furthest_138, eX9_furthest_141, eX9_furthest_142, eX9_furthest_145, eX9_furthest_147, cont_some, tl_some, tl_none, csum_nil, csum_i, csum_r, csum_j, isc2_i, isc2_r, isc2_n, va_rf_s, vfn_ite, true_and, and_true, true_or, or_true, eq_self, Bool.false_eq_true, not_false_eq_true, not_true_eq_false, if_true, if_false, Nat.reduceAdd, Nat.reduceLeDiff, reduceIte, q, q4]
