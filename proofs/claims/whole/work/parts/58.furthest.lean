/-! the furthest two, by the class -/
abbrev Trp : Type := Int32 × Int32 × Int32
def stT (C : Nat → Int32) (i j : Nat) (b : Trp) : Trp := if b.1 < ap3 C i j then (ap3 C i j, nI i, nI j) else b
def fuJ (C : Nat → Int32) (i : Nat) : Nat → Nat → Trp → Trp
  | 0, _, b => b
  | d + 1, j, b => fuJ C i d (j + 1) (stT C i j b)
def fuI (C : Nat → Int32) (n : Nat) : Nat → Nat → Trp → Trp
  | 0, _, b => b
  | d + 1, i, b => fuI C n d (i + 1) (fuJ C i (n - (i + 1)) (i + 1) b)
theorem lo_fuJ {w : Wd} {b n i : Nat} {a1 : Option Value} {Q : Option Value → Wd → Prop} (ha1 : isc2 (some a1) = false) (hc : isCl w b) (hs : isSc w (b + 1)) (hn : rdI w (b + 1) 1 = nI n) (h10 : n ≤ 10) (hi : i < n) : ∀ (d j : Nat) (t : Trp) (a7 : Option Value), j + d = n →
    (∀ a6 a7, wp mX8_furthest 78 [some (.ref b), a1, some (.int (fuJ (rdI w (b + 1 + 1)) i d j t).1), some (.int (fuJ (rdI w (b + 1 + 1)) i d j t).2.1), some (.int (fuJ (rdI w (b + 1 + 1)) i d j t).2.2), some (.int (nI i)), a6, a7] [] w Q) →
    wp mX8_furthest 31 [some (.ref b), a1, some (.int t.1), some (.int t.2.1), some (.int t.2.2), some (.int (nI i)), some (.int (nI j)), a7] [] w Q := by
  intro d
  induction d with
  | zero =>
    intro j t a7 hj hQ
    have e : j = n := by omega
    subst e
    have l : ¬ nI j < nI j := Int32.lt_irrefl
    simp only [eX8_furthest_31, eX8_furthest_33, eX8_furthest_34, eX8_furthest_37, eX8_furthest_40, cont_some, tl_some, tl_none, csum_nil, csum_i, csum_r, csum_j, isc2_i, isc2_r, isc2_n, va_rf_s, vfn_ite, true_and, and_true, true_or, or_true, eq_self, Bool.false_eq_true, not_false_eq_true, not_true_eq_false, if_true, if_false, Nat.reduceAdd, Nat.reduceLeDiff, reduceIte, hc.1, hc.2.1, hc.2.2.1, hc.2.2.2.1, hc.2.2.2.2.1, hc.2.2.2.2.2.1, hc.2.2.2.2.2.2.1, hc.2.2.2.2.2.2.2.1, hc.2.2.2.2.2.2.2.2.1, hc.2.2.2.2.2.2.2.2.2.1, hc.2.2.2.2.2.2.2.2.2.2, hs.1, hn, l]
    exact hQ _ _
  | succ d ih =>
    intro j t a7 hj hQ
    have l : nI j < nI n := nI_lt (by omega) (by omega)
    have ap := s_sc_apart (k := i) (l := j) hs (by omega) (by omega)
    have go := ih (j + 1) (stT (rdI w (b + 1 + 1)) i j t) (some (.int (ap3 (rdI w (b + 1 + 1)) i j))) (by omega) hQ
    have z5 : isc2 (some (some (Value.int (nI i)))) = false := rfl
    simp only [eX8_furthest_31, eX8_furthest_33, eX8_furthest_34, eX8_furthest_37, eX8_furthest_40, cont_some, tl_some, tl_none, csum_nil, csum_i, csum_r, csum_j, isc2_i, isc2_r, isc2_n, va_rf_s, vfn_ite, true_and, and_true, true_or, or_true, eq_self, Bool.false_eq_true, not_false_eq_true, not_true_eq_false, if_true, if_false, Nat.reduceAdd, Nat.reduceLeDiff, reduceIte, hc.1, hc.2.1, hc.2.2.1, hc.2.2.2.1, hc.2.2.2.2.1, hc.2.2.2.2.2.1, hc.2.2.2.2.2.2.1, hc.2.2.2.2.2.2.2.1, hc.2.2.2.2.2.2.2.2.1, hc.2.2.2.2.2.2.2.2.2.1, hc.2.2.2.2.2.2.2.2.2.2, hs.1, hn, l]
    by_cases q : t.1 < ap3 (rdI w (b + 1 + 1)) i j
    · have e : stT (rdI w (b + 1 + 1)) i j t = (ap3 (rdI w (b + 1 + 1)) i j, nI i, nI j) := if_pos q
      rw [e] at go
      simp only [eX8_furthest_43, eX8_furthest_44, eX8_furthest_47, eX8_furthest_49, eX8_furthest_51, eX8_furthest_54, eX8_furthest_56, eX8_furthest_58, eX8_furthest_59, eX8_furthest_62, eX8_furthest_64, eX8_furthest_65, eX8_furthest_67, eX8_furthest_68, eX8_furthest_70, eX8_furthest_72, cont_some, tl_some, tl_none, csum_nil, csum_i, csum_r, csum_j, isc2_i, isc2_r, isc2_n, va_rf_s, vfn_ite, true_and, and_true, true_or, or_true, eq_self, Bool.false_eq_true, not_false_eq_true, not_true_eq_false, if_true, if_false, Nat.reduceAdd, Nat.reduceLeDiff, reduceIte, hc.1, hc.2.1, hc.2.2.1, hc.2.2.2.1, hc.2.2.2.2.1, hc.2.2.2.2.2.1, hc.2.2.2.2.2.2.1, hc.2.2.2.2.2.2.2.1, hc.2.2.2.2.2.2.2.2.1, hc.2.2.2.2.2.2.2.2.2.1, hc.2.2.2.2.2.2.2.2.2.2, hs.1, ap, q, nI_1, ha1]
      rw [eX8_furthest_75]
      exact go
    · have e : stT (rdI w (b + 1 + 1)) i j t = t := if_neg q
      rw [e] at go
      simp only [eX8_furthest_43, eX8_furthest_44, eX8_furthest_47, eX8_furthest_49, eX8_furthest_51, eX8_furthest_54, eX8_furthest_56, eX8_furthest_58, eX8_furthest_59, eX8_furthest_62, eX8_furthest_64, eX8_furthest_65, eX8_furthest_67, eX8_furthest_68, eX8_furthest_70, eX8_furthest_72, cont_some, tl_some, tl_none, csum_nil, csum_i, csum_r, csum_j, isc2_i, isc2_r, isc2_n, va_rf_s, vfn_ite, true_and, and_true, true_or, or_true, eq_self, Bool.false_eq_true, not_false_eq_true, not_true_eq_false, if_true, if_false, Nat.reduceAdd, Nat.reduceLeDiff, reduceIte, hc.1, hc.2.1, hc.2.2.1, hc.2.2.2.1, hc.2.2.2.2.1, hc.2.2.2.2.2.1, hc.2.2.2.2.2.2.1, hc.2.2.2.2.2.2.2.1, hc.2.2.2.2.2.2.2.2.1, hc.2.2.2.2.2.2.2.2.2.1, hc.2.2.2.2.2.2.2.2.2.2, hs.1, ap, q, nI_1, ha1]
      rw [eX8_furthest_75]
      exact go
theorem lo_fuI {w : Wd} {b n : Nat} {a1 : Option Value} {Q : Option Value → Wd → Prop} (ha1 : isc2 (some a1) = false) (hc : isCl w b) (hs : isSc w (b + 1)) (hn : rdI w (b + 1) 1 = nI n) (h10 : n ≤ 10) : ∀ (d i : Nat) (t : Trp) (a6 a7 : Option Value), i + d = n →
    (∀ a5 a6 a7, wp mX8_furthest 84 [some (.ref b), a1, some (.int (fuI (rdI w (b + 1 + 1)) n d i t).1), some (.int (fuI (rdI w (b + 1 + 1)) n d i t).2.1), some (.int (fuI (rdI w (b + 1 + 1)) n d i t).2.2), a5, a6, a7] [] w Q) →
    wp mX8_furthest 13 [some (.ref b), a1, some (.int t.1), some (.int t.2.1), some (.int t.2.2), some (.int (nI i)), a6, a7] [] w Q := by
  intro d
  induction d with
  | zero =>
    intro i t a6 a7 hi hQ
    have e : i = n := by omega
    subst e
    have l : ¬ nI i < nI i := Int32.lt_irrefl
    simp only [eX8_furthest_13, eX8_furthest_15, eX8_furthest_16, eX8_furthest_19, eX8_furthest_22, cont_some, tl_some, tl_none, csum_nil, csum_i, csum_r, csum_j, isc2_i, isc2_r, isc2_n, va_rf_s, vfn_ite, true_and, and_true, true_or, or_true, eq_self, Bool.false_eq_true, not_false_eq_true, not_true_eq_false, if_true, if_false, Nat.reduceAdd, Nat.reduceLeDiff, reduceIte, hc.1, hc.2.1, hc.2.2.1, hc.2.2.2.1, hc.2.2.2.2.1, hc.2.2.2.2.2.1, hc.2.2.2.2.2.2.1, hc.2.2.2.2.2.2.2.1, hc.2.2.2.2.2.2.2.2.1, hc.2.2.2.2.2.2.2.2.2.1, hc.2.2.2.2.2.2.2.2.2.2, hs.1, hn, l]
    exact hQ _ _ _
  | succ d ih =>
    intro i t a6 a7 hi hQ
    have l : nI i < nI n := nI_lt (by omega) (by omega)
    simp only [eX8_furthest_13, eX8_furthest_15, eX8_furthest_16, eX8_furthest_19, eX8_furthest_22, eX8_furthest_25, eX8_furthest_27, eX8_furthest_28, eX8_furthest_29, cont_some, tl_some, tl_none, csum_nil, csum_i, csum_r, csum_j, isc2_i, isc2_r, isc2_n, va_rf_s, vfn_ite, true_and, and_true, true_or, or_true, eq_self, Bool.false_eq_true, not_false_eq_true, not_true_eq_false, if_true, if_false, Nat.reduceAdd, Nat.reduceLeDiff, reduceIte, hc.1, hc.2.1, hc.2.2.1, hc.2.2.2.1, hc.2.2.2.2.1, hc.2.2.2.2.2.1, hc.2.2.2.2.2.2.1, hc.2.2.2.2.2.2.2.1, hc.2.2.2.2.2.2.2.2.1, hc.2.2.2.2.2.2.2.2.2.1, hc.2.2.2.2.2.2.2.2.2.2, hs.1, hn, l, nI_1]
    refine lo_fuJ ha1 hc hs hn h10 (by omega) (n - (i + 1)) (i + 1) t _ (by omega) (fun b6 b7 => ?_)
    simp only [eX8_furthest_78, cont_some, tl_some, tl_none, csum_nil, csum_i, csum_r, csum_j, isc2_i, isc2_r, isc2_n, va_rf_s, vfn_ite, true_and, and_true, true_or, or_true, eq_self, Bool.false_eq_true, not_false_eq_true, not_true_eq_false, if_true, if_false, Nat.reduceAdd, Nat.reduceLeDiff, reduceIte, nI_1]
    rw [eX8_furthest_81]
    exact ih (i + 1) _ _ _ (by omega) hQ
def selT (x : Int32) (t : Trp) : Int32 := if x = 3 then t.1 else if x = 4 then t.2.1 else t.2.2
def farT (S : Sst) : Trp := fuI S.2.1 S.1 S.1 0 (-4, -4, -4)
theorem fuJ_congr {C E : Nat → Int32} {n i : Nat} (h : ∀ j, j < 3 * n → C j = E j) (hi : i < n) : ∀ (d j : Nat) (t : Trp), j + d = n → fuJ C i d j t = fuJ E i d j t := by
  intro d
  induction d with
  | zero => intro j t _; rfl
  | succ d ih =>
    intro j t hj
    have e : ap3 C i j = ap3 E i j := by
      unfold ap3
      rw [h _ (by omega), h _ (by omega), h _ (by omega), h _ (by omega), h _ (by omega), h _ (by omega)]
    have e2 : stT C i j t = stT E i j t := by unfold stT; rw [e]
    show fuJ C i d (j + 1) (stT C i j t) = fuJ E i d (j + 1) (stT E i j t)
    rw [e2]
    exact ih _ _ (by omega)
theorem fuI_congr {C E : Nat → Int32} {n : Nat} (h : ∀ j, j < 3 * n → C j = E j) : ∀ (d i : Nat) (t : Trp), i + d = n → fuI C n d i t = fuI E n d i t := by
  intro d
  induction d with
  | zero => intro i t _; rfl
  | succ d ih =>
    intro i t hi
    show fuI C n d (i + 1) (fuJ C i (n - (i + 1)) (i + 1) t) = fuI E n d (i + 1) (fuJ E i (n - (i + 1)) (i + 1) t)
    rw [fuJ_congr h (by omega) _ _ _ (by omega)]
    exact ih _ _ (by omega)
theorem c_furthest {w : Wd} {b : Nat} {S : Sst} {x : Int32} (hc : isCl w b) (hs : scIs w (b + 1) S) : fX8_furthest [.ref b, .int x] w = some (some (.int (selT x (farT S))), w) := by
  have e : fuI (rdI w (b + 1 + 1)) S.1 S.1 0 (-4, -4, -4) = farT S := fuI_congr hs.2.2.2.1 S.1 0 _ (by omega)
  refine sem_eq (Nat.le_of_ble_eq_true rfl) ?_
  show wp mX8_furthest 0 [some (.ref b), some (.int x), none, none, none, none, none, none] [] _ _
  simp only [eX8_furthest_0, eX8_furthest_2, eX8_furthest_3, eX8_furthest_5, eX8_furthest_6, eX8_furthest_8, eX8_furthest_10, eX8_furthest_11, cont_some, tl_some, tl_none, csum_nil, csum_i, csum_r, csum_j, isc2_i, isc2_r, isc2_n, va_rf_s, vfn_ite, true_and, and_true, true_or, or_true, eq_self, Bool.false_eq_true, not_false_eq_true, not_true_eq_false, if_true, if_false, Nat.reduceAdd, Nat.reduceLeDiff, reduceIte]
  refine lo_fuI rfl hc hs.1 hs.2.1 hs.2.2.1 S.1 0 (-4, -4, -4) _ _ (by omega) (fun a5 a6 a7 => ?_)
  rw [e]
  unfold selT
  by_cases q : x = 3
  · simp only [eX8_furthest_84, eX8_furthest_85, eX8_furthest_86, eX8_furthest_89, eX8_furthest_90, cont_some, tl_some, tl_none, csum_nil, csum_i, csum_r, csum_j, isc2_i, isc2_r, isc2_n, va_rf_s, vfn_ite, true_and, and_true, true_or, or_true, eq_self, Bool.false_eq_true, not_false_eq_true, not_true_eq_false, if_true, if_false, Nat.reduceAdd, Nat.reduceLeDiff, reduceIte, q]
  · by_cases q4 : x = 4
    · have n43 : ¬ (4 : Int32) = 3 := by decide
      simp only [eX8_furthest_84, eX8_furthest_85, eX8_furthest_86, eX8_furthest_89, eX8_furthest_90, eX8_furthest_91, eX8_furthest_92, eX8_furthest_93, eX8_furthest_96, eX8_furthest_97, eX8_furthest_100, eX8_furthest_102, cont_some, tl_some, tl_none, csum_nil, csum_i, csum_r, csum_j, isc2_i, isc2_r, isc2_n, va_rf_s, vfn_ite, true_and, and_true, true_or, or_true, eq_self, Bool.false_eq_true, not_false_eq_true, not_true_eq_false, if_true, if_false, Nat.reduceAdd, Nat.reduceLeDiff, reduceIte, q4, n43]
    · simp only [eX8_furthest_84, eX8_furthest_85, eX8_furthest_86, eX8_furthest_89, eX8_furthest_90, eX8_furthest_91, eX8_furthest_92, eX8_furthest_93, eX8_furthest_96, eX8_furthest_97, eX8_furthest_100, eX8_furthest_102, cont_some, tl_some, tl_none, csum_nil, csum_i, csum_r, csum_j, isc2_i, isc2_r, isc2_n, va_rf_s, vfn_ite, true_and, and_true, true_or, or_true, eq_self, Bool.false_eq_true, not_false_eq_true, not_true_eq_false, if_true, if_false, Nat.reduceAdd, Nat.reduceLeDiff, reduceIte, q, q4]
