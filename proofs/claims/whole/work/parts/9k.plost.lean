/-! lost, both sides -/
theorem lo_power {w : Wd} {v t : Nat} (hv : v ≤ 10) (ht : t ≤ 10) : ∀ (e k : Nat), k + e = t →
    wp mX1_power 5 [some (.int (nI v)), some (.int (nI t)), some (.long (lN (v ^ k))), none, some (.int (nI k))] [] w (fun r u => r = some (.long (lN (v ^ t))) ∧ u = w) := by
  intro e
  induction e with
  | zero =>
    intro k hk
    have e : k = t := by omega
    subst e
    have l : ¬ nI k < nI k := Int32.lt_irrefl
    simp only [eX1_power_5, eX1_power_7, eX1_power_8, eX1_power_22, eX1_power_23, cont_some, tl_some, tl_none, csum_nil, csum_i, csum_r, csum_j, isc2_i, isc2_r, isc2_n, va_rf_s, vfn_ite, true_and, and_true, true_or, or_true, eq_self, Bool.false_eq_true, not_false_eq_true, not_true_eq_false, if_true, if_false, Nat.reduceAdd, Nat.reduceLeDiff, reduceIte, l]
  | succ e ih =>
    intro k hk
    have l : nI k < nI t := nI_lt (by omega) (by omega)
    simp only [eX1_power_5, eX1_power_7, eX1_power_8, eX1_power_11, eX1_power_12, eX1_power_13, eX1_power_14, eX1_power_15, eX1_power_16, cont_some, tl_some, tl_none, csum_nil, csum_i, csum_r, csum_j, isc2_i, isc2_r, isc2_n, va_rf_s, vfn_ite, true_and, and_true, true_or, or_true, eq_self, Bool.false_eq_true, not_false_eq_true, not_true_eq_false, if_true, if_false, Nat.reduceAdd, Nat.reduceLeDiff, reduceIte, l, nI_lJ (show v < 2 ^ 31 by omega), lN_mul, nI_1]
    rw [eX1_power_19, ← Nat.pow_succ]
    exact ih (k + 1) (by omega)
theorem s_power {w : Wd} {v t : Nat} (hv : v ≤ 10) (ht : t ≤ 10) : fX1_power [.int (nI v), .int (nI t)] w = some (some (.long (lN (v ^ t))), w) := by
  refine sem_eq (Nat.le_of_ble_eq_true rfl) ?_
  show wp mX1_power 0 [some (.int (nI v)), some (.int (nI t)), none, none, none] [] _ _
  simp only [eX1_power_0, eX1_power_1, eX1_power_2, eX1_power_3, cont_some, tl_some, tl_none, csum_nil, csum_i, csum_r, csum_j, isc2_i, isc2_r, isc2_n, va_rf_s, vfn_ite, true_and, and_true, true_or, or_true, eq_self, Bool.false_eq_true, not_false_eq_true, not_true_eq_false, if_true, if_false, Nat.reduceAdd, Nat.reduceLeDiff, reduceIte]
  exact lo_power hv ht t 0 (by omega)
theorem lo_weigh {w : Wd} {d q n c : Nat} {H : Nat → Nat} (h10 : n ≤ 10) (hc : c ≤ 10) (ho : isO w d) (hH : hmW w d H) (hq : shp w q = (0, 0)) (hb : sumT H (fun k => (10 - c) ^ k * c ^ (n - k)) (n + 1) < 2 ^ 62) : ∀ (e k : Nat), k + e = n + 1 →
    wp mX1_weigh 6 [some (.ref d), some (.ref q), some (.int (nI n)), some (.int (nI c)), some (.long (lN (sumT H (fun k => (10 - c) ^ k * c ^ (n - k)) k))), none, some (.int (nI k))] [] w (fun r u => r = none ∧ u = frW w q (sumT H (fun k => (10 - c) ^ k * c ^ (n - k)) (n + 1)) (10 ^ n)) := by
  have p := p10 h10
  intro e
  induction e with
  | zero =>
    intro k hk
    have l : nI n < nI k := nI_lt (by omega) (by omega)
    have e : k = n + 1 := by omega
    subst e
    have sp : fX1_power [.int 10, .int (nI n)] w = some (some (.long (lN (10 ^ n))), w) := s_power (v := 10) (by omega) h10
    simp only [eX1_weigh_6, eX1_weigh_8, eX1_weigh_9, eX1_weigh_49, eX1_weigh_50, eX1_weigh_52, eX1_weigh_54, eX1_weigh_55, eX1_weigh_58, eX1_weigh_61, cont_some, tl_some, tl_none, csum_nil, csum_i, csum_r, csum_j, isc2_i, isc2_r, isc2_n, va_rf_s, vfn_ite, true_and, and_true, true_or, or_true, eq_self, Bool.false_eq_true, not_false_eq_true, not_true_eq_false, if_true, if_false, Nat.reduceAdd, Nat.reduceLeDiff, reduceIte, l, sp, hq, s_fr_become hq hb (show 10 ^ n < 2 ^ 50 by omega) (Nat.pow_pos (by omega))]
  | succ e ih =>
    intro k hk
    have l : ¬ nI n < nI k := nI_nlt (by omega) (by omega)
    have hv := hH k (by omega)
    have s10 : (10 : Int32) - nI c = nI (10 - c) := pk_sub (a := 10) hc
    have sn : nI n - nI k = nI (n - k) := pk_sub (by omega)
    simp only [eX1_weigh_6, eX1_weigh_8, eX1_weigh_9, eX1_weigh_12, eX1_weigh_14, eX1_weigh_15, eX1_weigh_18, eX1_weigh_20, eX1_weigh_21, eX1_weigh_23, eX1_weigh_24, eX1_weigh_25, eX1_weigh_27, eX1_weigh_30, eX1_weigh_31, eX1_weigh_32, eX1_weigh_33, eX1_weigh_35, eX1_weigh_36, eX1_weigh_39, eX1_weigh_40, eX1_weigh_41, eX1_weigh_43, cont_some, tl_some, tl_none, csum_nil, csum_i, csum_r, csum_j, isc2_i, isc2_r, isc2_n, va_rf_s, vfn_ite, true_and, and_true, true_or, or_true, eq_self, Bool.false_eq_true, not_false_eq_true, not_true_eq_false, if_true, if_false, Nat.reduceAdd, Nat.reduceLeDiff, reduceIte, l, ho.1, ho.2.2.1, ho.2.2.2.2, inA_nI (show k < 11 by omega) (show 11 < 2147483648 by omega), nI_clamp (show k < 2 ^ 31 by omega), hv, s10, sn, s_power (show 10 - c ≤ 10 by omega) (show k ≤ 10 by omega), s_power hc (show n - k ≤ 10 by omega), lN_mul, lN_add, nI_1]
    rw [eX1_weigh_46, Nat.mul_assoc]
    exact ih (k + 1) (by omega)
theorem s_weigh {w : Wd} {d q n c : Nat} {H : Nat → Nat} (h10 : n ≤ 10) (hc : c ≤ 10) (ho : isO w d) (hH : hmW w d H) (hq : shp w q = (0, 0)) (hb : sumT H (fun k => (10 - c) ^ k * c ^ (n - k)) (n + 1) < 2 ^ 62) : fX1_weigh [.ref d, .ref q, .int (nI n), .int (nI c)] w = some (none, frW w q (sumT H (fun k => (10 - c) ^ k * c ^ (n - k)) (n + 1)) (10 ^ n)) := by
  refine sem_eq (Nat.le_of_ble_eq_true rfl) ?_
  show wp mX1_weigh 0 [some (.ref d), some (.ref q), some (.int (nI n)), some (.int (nI c)), none, none, none] [] _ _
  simp only [eX1_weigh_0, eX1_weigh_1, eX1_weigh_3, eX1_weigh_4, cont_some, tl_some, tl_none, csum_nil, csum_i, csum_r, csum_j, isc2_i, isc2_r, isc2_n, va_rf_s, vfn_ite, true_and, and_true, true_or, or_true, eq_self, Bool.false_eq_true, not_false_eq_true, not_true_eq_false, if_true, if_false, Nat.reduceAdd, Nat.reduceLeDiff, reduceIte]
  exact lo_weigh h10 hc ho hH hq hb (n + 1) 0 (by omega)
/-! the reference -/
theorem lo_l10 {w : Wd} {o n : Nat} {C : Nat → Int32} {a1 a2 a3 a9 a10 a11 : Option Value} {x : Int64} {Q : Option Value → Wd → Prop} (h : MB w o n C) (hQ : wp mX9_lost 72 [some (.ref o), a1, a2, a3, some (.long x), none, some (.long (lN (10 ^ n))), none, some (.int (nI n)), a9, a10, a11] [] w Q) : ∀ (e k : Nat), k + e = n →
    wp mX9_lost 47 [some (.ref o), a1, a2, a3, some (.long x), none, some (.long (lN (10 ^ k))), none, some (.int (nI k)), a9, a10, a11] [] w Q := by
  have hm := h.1
  have h10 := h.2.2.1
  have i0 : inA 0 33 = true := by decide
  intro e
  induction e with
  | zero =>
    intro k hk
    have e : k = n := by omega
    subst e
    have l : ¬ nI k < nI k := Int32.lt_irrefl
    simp only [eX9_lost_47, eX9_lost_49, eX9_lost_50, eX9_lost_53, eX9_lost_54, eX9_lost_55, cont_some, tl_some, tl_none, csum_nil, csum_i, csum_r, csum_j, isc2_i, isc2_r, isc2_n, va_rf_s, vfn_ite, true_and, and_true, true_or, or_true, eq_self, Bool.false_eq_true, not_false_eq_true, not_true_eq_false, if_true, if_false, Nat.reduceAdd, Nat.reduceLeDiff, reduceIte, hm.1, hm.2.1, hm.2.2.1, hm.2.2.2.1, hm.2.2.2.2.1, hm.2.2.2.2.2.1, hm.2.2.2.2.2.2.1, hm.2.2.2.2.2.2.2.1, hm.2.2.2.2.2.2.2.2.1, hm.2.2.2.2.2.2.2.2.2.1, hm.2.2.2.2.2.2.2.2.2.2.1, hm.2.2.2.2.2.2.2.2.2.2.2.1, hm.2.2.2.2.2.2.2.2.2.2.2.2.1, hm.2.2.2.2.2.2.2.2.2.2.2.2.2.1, hm.2.2.2.2.2.2.2.2.2.2.2.2.2.2.1, hm.2.2.2.2.2.2.2.2.2.2.2.2.2.2.2.1, hm.2.2.2.2.2.2.2.2.2.2.2.2.2.2.2.2.1, hm.2.2.2.2.2.2.2.2.2.2.2.2.2.2.2.2.2.1, hm.2.2.2.2.2.2.2.2.2.2.2.2.2.2.2.2.2.2.1, hm.2.2.2.2.2.2.2.2.2.2.2.2.2.2.2.2.2.2.2.1, hm.2.2.2.2.2.2.2.2.2.2.2.2.2.2.2.2.2.2.2.2.1, hm.2.2.2.2.2.2.2.2.2.2.2.2.2.2.2.2.2.2.2.2.2.1, hm.2.2.2.2.2.2.2.2.2.2.2.2.2.2.2.2.2.2.2.2.2.2.1, hm.2.2.2.2.2.2.2.2.2.2.2.2.2.2.2.2.2.2.2.2.2.2.2.1, hm.2.2.2.2.2.2.2.2.2.2.2.2.2.2.2.2.2.2.2.2.2.2.2.2, i0, cl0, h.2.1, l]
    exact hQ
  | succ e ih =>
    intro k hk
    have l : nI k < nI n := nI_lt (by omega) (by omega)
    have e10 : lN (10 ^ k) * 10 = lN (10 ^ (k + 1)) := by rw [Nat.pow_succ]; exact lN_mul _ 10
    simp only [eX9_lost_47, eX9_lost_49, eX9_lost_50, eX9_lost_53, eX9_lost_54, eX9_lost_55, eX9_lost_58, eX9_lost_60, eX9_lost_63, eX9_lost_64, eX9_lost_66, cont_some, tl_some, tl_none, csum_nil, csum_i, csum_r, csum_j, isc2_i, isc2_r, isc2_n, va_rf_s, vfn_ite, true_and, and_true, true_or, or_true, eq_self, Bool.false_eq_true, not_false_eq_true, not_true_eq_false, if_true, if_false, Nat.reduceAdd, Nat.reduceLeDiff, reduceIte, hm.1, hm.2.1, hm.2.2.1, hm.2.2.2.1, hm.2.2.2.2.1, hm.2.2.2.2.2.1, hm.2.2.2.2.2.2.1, hm.2.2.2.2.2.2.2.1, hm.2.2.2.2.2.2.2.2.1, hm.2.2.2.2.2.2.2.2.2.1, hm.2.2.2.2.2.2.2.2.2.2.1, hm.2.2.2.2.2.2.2.2.2.2.2.1, hm.2.2.2.2.2.2.2.2.2.2.2.2.1, hm.2.2.2.2.2.2.2.2.2.2.2.2.2.1, hm.2.2.2.2.2.2.2.2.2.2.2.2.2.2.1, hm.2.2.2.2.2.2.2.2.2.2.2.2.2.2.2.1, hm.2.2.2.2.2.2.2.2.2.2.2.2.2.2.2.2.1, hm.2.2.2.2.2.2.2.2.2.2.2.2.2.2.2.2.2.1, hm.2.2.2.2.2.2.2.2.2.2.2.2.2.2.2.2.2.2.1, hm.2.2.2.2.2.2.2.2.2.2.2.2.2.2.2.2.2.2.2.1, hm.2.2.2.2.2.2.2.2.2.2.2.2.2.2.2.2.2.2.2.2.1, hm.2.2.2.2.2.2.2.2.2.2.2.2.2.2.2.2.2.2.2.2.2.1, hm.2.2.2.2.2.2.2.2.2.2.2.2.2.2.2.2.2.2.2.2.2.2.1, hm.2.2.2.2.2.2.2.2.2.2.2.2.2.2.2.2.2.2.2.2.2.2.2.1, hm.2.2.2.2.2.2.2.2.2.2.2.2.2.2.2.2.2.2.2.2.2.2.2.2, i0, cl0, h.2.1, l, e10, nI_1]
    rw [eX9_lost_69]
    exact ih (k + 1) (by omega)
theorem lo_lits {w : Wd} {o n c s : Nat} {C : Nat → Int32} {a1 a3 a4 a5 a6 a7 : Option Value} {Q : Option Value → Wd → Prop} (h : MB w o n C) (hc : c ≤ 10) (hs : s < 1024) (hQ : wp mX9_lost 133 [some (.ref o), a1, some (.int (nI c)), a3, a4, a5, a6, a7, some (.int (nI s)), some (.long (lN (itT (10 - c) c s n))), none, some (.int (nI n))] [] w Q) : ∀ (e k : Nat), k + e = n →
    wp mX9_lost 90 [some (.ref o), a1, some (.int (nI c)), a3, a4, a5, a6, a7, some (.int (nI s)), some (.long (lN (itT (10 - c) c s k))), none, some (.int (nI k))] [] w Q := by
  have hm := h.1
  have h10 := h.2.2.1
  have i0 : inA 0 33 = true := by decide
  have s10 : (10 : Int32) - nI c = nI (10 - c) := pk_sub (a := 10) hc
  intro e
  induction e with
  | zero =>
    intro k hk
    have e : k = n := by omega
    subst e
    have l : ¬ nI k < nI k := Int32.lt_irrefl
    simp only [eX9_lost_90, eX9_lost_92, eX9_lost_93, eX9_lost_96, eX9_lost_97, eX9_lost_98, cont_some, tl_some, tl_none, csum_nil, csum_i, csum_r, csum_j, isc2_i, isc2_r, isc2_n, va_rf_s, vfn_ite, true_and, and_true, true_or, or_true, eq_self, Bool.false_eq_true, not_false_eq_true, not_true_eq_false, if_true, if_false, Nat.reduceAdd, Nat.reduceLeDiff, reduceIte, hm.1, hm.2.1, hm.2.2.1, hm.2.2.2.1, hm.2.2.2.2.1, hm.2.2.2.2.2.1, hm.2.2.2.2.2.2.1, hm.2.2.2.2.2.2.2.1, hm.2.2.2.2.2.2.2.2.1, hm.2.2.2.2.2.2.2.2.2.1, hm.2.2.2.2.2.2.2.2.2.2.1, hm.2.2.2.2.2.2.2.2.2.2.2.1, hm.2.2.2.2.2.2.2.2.2.2.2.2.1, hm.2.2.2.2.2.2.2.2.2.2.2.2.2.1, hm.2.2.2.2.2.2.2.2.2.2.2.2.2.2.1, hm.2.2.2.2.2.2.2.2.2.2.2.2.2.2.2.1, hm.2.2.2.2.2.2.2.2.2.2.2.2.2.2.2.2.1, hm.2.2.2.2.2.2.2.2.2.2.2.2.2.2.2.2.2.1, hm.2.2.2.2.2.2.2.2.2.2.2.2.2.2.2.2.2.2.1, hm.2.2.2.2.2.2.2.2.2.2.2.2.2.2.2.2.2.2.2.1, hm.2.2.2.2.2.2.2.2.2.2.2.2.2.2.2.2.2.2.2.2.1, hm.2.2.2.2.2.2.2.2.2.2.2.2.2.2.2.2.2.2.2.2.2.1, hm.2.2.2.2.2.2.2.2.2.2.2.2.2.2.2.2.2.2.2.2.2.2.1, hm.2.2.2.2.2.2.2.2.2.2.2.2.2.2.2.2.2.2.2.2.2.2.2.1, hm.2.2.2.2.2.2.2.2.2.2.2.2.2.2.2.2.2.2.2.2.2.2.2.2, i0, cl0, h.2.1, l]
    exact hQ
  | succ e ih =>
    intro k hk
    have l : nI k < nI n := nI_lt (by omega) (by omega)
    have eb := bit_nI (m := s) (by omega) (show k < 10 by omega)
    have go := ih (k + 1) (by omega)
    have es : itT (10 - c) c s (k + 1) = itT (10 - c) c s k * (if s.testBit k = true then (10 - c) else c) := rfl
    rw [es] at go
    simp only [eX9_lost_90, eX9_lost_92, eX9_lost_93, eX9_lost_96, eX9_lost_97, eX9_lost_98, eX9_lost_101, eX9_lost_103, eX9_lost_105, eX9_lost_107, eX9_lost_108, eX9_lost_109, eX9_lost_110, eX9_lost_111, cont_some, tl_some, tl_none, csum_nil, csum_i, csum_r, csum_j, isc2_i, isc2_r, isc2_n, va_rf_s, vfn_ite, true_and, and_true, true_or, or_true, eq_self, Bool.false_eq_true, not_false_eq_true, not_true_eq_false, if_true, if_false, Nat.reduceAdd, Nat.reduceLeDiff, reduceIte, hm.1, hm.2.1, hm.2.2.1, hm.2.2.2.1, hm.2.2.2.2.1, hm.2.2.2.2.2.1, hm.2.2.2.2.2.2.1, hm.2.2.2.2.2.2.2.1, hm.2.2.2.2.2.2.2.2.1, hm.2.2.2.2.2.2.2.2.2.1, hm.2.2.2.2.2.2.2.2.2.2.1, hm.2.2.2.2.2.2.2.2.2.2.2.1, hm.2.2.2.2.2.2.2.2.2.2.2.2.1, hm.2.2.2.2.2.2.2.2.2.2.2.2.2.1, hm.2.2.2.2.2.2.2.2.2.2.2.2.2.2.1, hm.2.2.2.2.2.2.2.2.2.2.2.2.2.2.2.1, hm.2.2.2.2.2.2.2.2.2.2.2.2.2.2.2.2.1, hm.2.2.2.2.2.2.2.2.2.2.2.2.2.2.2.2.2.1, hm.2.2.2.2.2.2.2.2.2.2.2.2.2.2.2.2.2.2.1, hm.2.2.2.2.2.2.2.2.2.2.2.2.2.2.2.2.2.2.2.1, hm.2.2.2.2.2.2.2.2.2.2.2.2.2.2.2.2.2.2.2.2.1, hm.2.2.2.2.2.2.2.2.2.2.2.2.2.2.2.2.2.2.2.2.2.1, hm.2.2.2.2.2.2.2.2.2.2.2.2.2.2.2.2.2.2.2.2.2.2.1, hm.2.2.2.2.2.2.2.2.2.2.2.2.2.2.2.2.2.2.2.2.2.2.2.1, hm.2.2.2.2.2.2.2.2.2.2.2.2.2.2.2.2.2.2.2.2.2.2.2.2, i0, cl0, h.2.1, l, eb]
    by_cases b : bt s k
    · rw [if_pos b]
      rw [if_pos (bt_tb.mp b)] at go
      simp only [eX9_lost_114, eX9_lost_116, eX9_lost_117, eX9_lost_118, eX9_lost_119, eX9_lost_122, eX9_lost_123, eX9_lost_124, eX9_lost_125, eX9_lost_127, cont_some, tl_some, tl_none, csum_nil, csum_i, csum_r, csum_j, isc2_i, isc2_r, isc2_n, va_rf_s, vfn_ite, true_and, and_true, true_or, or_true, eq_self, Bool.false_eq_true, not_false_eq_true, not_true_eq_false, if_true, if_false, Nat.reduceAdd, Nat.reduceLeDiff, reduceIte, s10, nI_lJ (show 10 - c < 2 ^ 31 by omega), lN_mul, nI_1]
      rw [eX9_lost_130]
      exact go
    · rw [if_neg b]
      rw [if_neg (fun y => b (bt_tb.mpr y))] at go
      simp only [eX9_lost_122, eX9_lost_123, eX9_lost_124, eX9_lost_125, eX9_lost_127, cont_some, tl_some, tl_none, csum_nil, csum_i, csum_r, csum_j, isc2_i, isc2_r, isc2_n, va_rf_s, vfn_ite, true_and, and_true, true_or, or_true, eq_self, Bool.false_eq_true, not_false_eq_true, not_true_eq_false, if_true, if_false, Nat.reduceAdd, Nat.reduceLeDiff, reduceIte, nI_lJ (show c < 2 ^ 31 by omega), lN_mul, nI_1]
      rw [eX9_lost_130]
      exact go
theorem it_le {p c s n : Nat} (hp : p ≤ 10) (hc : c ≤ 10) (h10 : n ≤ 10) : itT p c s n ≤ 10000000000 := by
  have hl := pop_le n s
  rw [it_pop]
  refine Nat.le_trans (pw10 hp hc) ?_
  rw [show pop n s + (n - pop n s) = n by omega]
  exact p10 h10
theorem lo_lsets {o n j c T : Nat} {C : Nat → Int32} {G : Nat → Bool} {a3 : Option Value} {w0 : Wd} {Q : Option Value → Wd → Prop} (h3 : isc2 (some a3) = false) (hb : bdC n C) (hj : j < 4) (hc : c ≤ 10) (hT : T ≤ 999) (h10 : n ≤ 10)
    (hG : ∀ m, m < 2 ^ n → (G m = true ↔ 100 * frA (wdA n m (qZ j C)) (jdS j n m C) ≤ T * T * frB (wdA n m (qZ j C)) (jdS j n m C)))
    (hQ : ∀ u a8 a9 a10 a11, MB u o n C → FrX (Xj o) w0 u → wp mX9_lost 171 [some (.ref o), some (.int (nI j)), some (.int (nI c)), a3, some (.long (lN (sumS G (fun s => itT (10 - c) c s n) (2 ^ n)))), none, some (.long (lN (10 ^ n))), none, some (.int a8), a9, a10, a11] [] u Q) : ∀ (e s : Nat) (w : Wd) (a9 a10 a11 : Option Value), s + e = 2 ^ n → MB w o n C → rdI w (o + 1) 1 = nI T → FrX (Xj o) w0 w →
    wp mX9_lost 75 [some (.ref o), some (.int (nI j)), some (.int (nI c)), a3, some (.long (lN (sumS G (fun s => itT (10 - c) c s n) s))), none, some (.long (lN (10 ^ n))), none, some (.int (nI s)), a9, a10, a11] [] w Q := by
  have hp := pw_lt h10
  have h1 : 1 ≤ 2 ^ n := Nat.one_le_two_pow
  intro e
  induction e with
  | zero =>
    intro s w a9 a10 a11 hs h ht hF
    have hm := h.1
    have e : s = 2 ^ n := by omega
    have l : nI (2 ^ n - 1) < nI s := nI_lt (by omega) (by omega)
    simp only [eX9_lost_75, eX9_lost_77, eX9_lost_78, eX9_lost_81, cont_some, tl_some, tl_none, csum_nil, csum_i, csum_r, csum_j, isc2_i, isc2_r, isc2_n, va_rf_s, vfn_ite, true_and, and_true, true_or, or_true, eq_self, Bool.false_eq_true, not_false_eq_true, not_true_eq_false, if_true, if_false, Nat.reduceAdd, Nat.reduceLeDiff, reduceIte, hm.1, hm.2.1, hm.2.2.1, hm.2.2.2.1, hm.2.2.2.2.1, hm.2.2.2.2.2.1, hm.2.2.2.2.2.2.1, hm.2.2.2.2.2.2.2.1, hm.2.2.2.2.2.2.2.2.1, hm.2.2.2.2.2.2.2.2.2.1, hm.2.2.2.2.2.2.2.2.2.2.1, hm.2.2.2.2.2.2.2.2.2.2.2.1, hm.2.2.2.2.2.2.2.2.2.2.2.2.1, hm.2.2.2.2.2.2.2.2.2.2.2.2.2.1, hm.2.2.2.2.2.2.2.2.2.2.2.2.2.2.1, hm.2.2.2.2.2.2.2.2.2.2.2.2.2.2.2.1, hm.2.2.2.2.2.2.2.2.2.2.2.2.2.2.2.2.1, hm.2.2.2.2.2.2.2.2.2.2.2.2.2.2.2.2.2.1, hm.2.2.2.2.2.2.2.2.2.2.2.2.2.2.2.2.2.2.1, hm.2.2.2.2.2.2.2.2.2.2.2.2.2.2.2.2.2.2.2.1, hm.2.2.2.2.2.2.2.2.2.2.2.2.2.2.2.2.2.2.2.2.1, hm.2.2.2.2.2.2.2.2.2.2.2.2.2.2.2.2.2.2.2.2.2.1, hm.2.2.2.2.2.2.2.2.2.2.2.2.2.2.2.2.2.2.2.2.2.2.1, hm.2.2.2.2.2.2.2.2.2.2.2.2.2.2.2.2.2.2.2.2.2.2.2.1, hm.2.2.2.2.2.2.2.2.2.2.2.2.2.2.2.2.2.2.2.2.2.2.2.2, m_every h, l]
    rw [e]
    exact hQ w _ _ _ _ h hF
  | succ e ih =>
    intro s w a9 a10 a11 hs h ht hF
    have hm := h.1
    have l : ¬ nI (2 ^ n - 1) < nI s := nI_nlt (by omega) (by omega)
    have it := it_le (p := 10 - c) (c := c) (s := s) (n := n) (by omega) hc h10
    simp only [eX9_lost_75, eX9_lost_77, eX9_lost_78, eX9_lost_81, eX9_lost_84, eX9_lost_85, eX9_lost_87, eX9_lost_88, cont_some, tl_some, tl_none, csum_nil, csum_i, csum_r, csum_j, isc2_i, isc2_r, isc2_n, va_rf_s, vfn_ite, true_and, and_true, true_or, or_true, eq_self, Bool.false_eq_true, not_false_eq_true, not_true_eq_false, if_true, if_false, Nat.reduceAdd, Nat.reduceLeDiff, reduceIte, hm.1, hm.2.1, hm.2.2.1, hm.2.2.2.1, hm.2.2.2.2.1, hm.2.2.2.2.2.1, hm.2.2.2.2.2.2.1, hm.2.2.2.2.2.2.2.1, hm.2.2.2.2.2.2.2.2.1, hm.2.2.2.2.2.2.2.2.2.1, hm.2.2.2.2.2.2.2.2.2.2.1, hm.2.2.2.2.2.2.2.2.2.2.2.1, hm.2.2.2.2.2.2.2.2.2.2.2.2.1, hm.2.2.2.2.2.2.2.2.2.2.2.2.2.1, hm.2.2.2.2.2.2.2.2.2.2.2.2.2.2.1, hm.2.2.2.2.2.2.2.2.2.2.2.2.2.2.2.1, hm.2.2.2.2.2.2.2.2.2.2.2.2.2.2.2.2.1, hm.2.2.2.2.2.2.2.2.2.2.2.2.2.2.2.2.2.1, hm.2.2.2.2.2.2.2.2.2.2.2.2.2.2.2.2.2.2.1, hm.2.2.2.2.2.2.2.2.2.2.2.2.2.2.2.2.2.2.2.1, hm.2.2.2.2.2.2.2.2.2.2.2.2.2.2.2.2.2.2.2.2.1, hm.2.2.2.2.2.2.2.2.2.2.2.2.2.2.2.2.2.2.2.2.2.1, hm.2.2.2.2.2.2.2.2.2.2.2.2.2.2.2.2.2.2.2.2.2.2.1, hm.2.2.2.2.2.2.2.2.2.2.2.2.2.2.2.2.2.2.2.2.2.2.2.1, hm.2.2.2.2.2.2.2.2.2.2.2.2.2.2.2.2.2.2.2.2.2.2.2.2, m_every h, l]
    refine lo_lits h hc (by omega) ?_ n 0 (by omega)
    have z0 : (0 : Int64) < lN (itT (10 - c) c s n) ↔ 0 < itT (10 - c) c s n := pk_lLT (a := 0) (by omega) (by omega)
    have es : sumS G (fun s => itT (10 - c) c s n) (s + 1) = sumS G (fun s => itT (10 - c) c s n) s + (if G s = true then itT (10 - c) c s n else 0) := rfl
    simp only [eX9_lost_133, eX9_lost_135, eX9_lost_136, eX9_lost_137, cont_some, tl_some, tl_none, csum_nil, csum_i, csum_r, csum_j, isc2_i, isc2_r, isc2_n, va_rf_s, vfn_ite, true_and, and_true, true_or, or_true, eq_self, Bool.false_eq_true, not_false_eq_true, not_true_eq_false, if_true, if_false, Nat.reduceAdd, Nat.reduceLeDiff, reduceIte, lgc_gt, z0]
    by_cases q : 0 < itT (10 - c) c s n
    · rw [if_pos q]
      have hmn : ∀ i, i < 10 → bt s i → i < n := fun i _ hb' => tb_sub (show s < 2 ^ n by omega) (bt_tb.mp hb')
      obtain ⟨u, k1, k2, k3⟩ := m_judges h hb hj (show s < 2 ^ 31 by omega) hmn
      have hu := h.frX k3
      have hmu := hu.1
      have htu : rdI u (o + 1) 1 = nI T := (k3.1 (o + 1) 1 (fun y => by unfold Xj at y; omega)).trans ht
      have mg := m_isGood hmu htu k2.1 k2.2.1
      have nz := jd_nz (j := j) (n := n) (m := s) (C := C) hb hmn
      have bds : frA (wdA n s (qZ j C)) (jdS j n s C) ≤ 26244000000 ∧ frB (wdA n s (qZ j C)) (jdS j n s C) ≤ 9720000 := by
        cases e' : jdS j n s C with
        | none => exact ⟨by show 0 / Nat.gcd 0 1 ≤ _; decide, by show 1 / Nat.gcd 0 1 ≤ _; decide⟩
        | some v =>
          obtain ⟨v1, -⟩ := nz v e'
          exact ⟨Nat.le_trans (Nat.div_le_self _ _) (wdA_b hb v1), Nat.le_trans (Nat.div_le_self _ _) (dt_bb v1)⟩
      have gi := gdA_iff bds.1 bds.2 hT
      have go := fun a9 a10 a11 => ih (s + 1) u a9 a10 a11 (by omega) hu htu (hF.tr k3)
      rw [es] at go
      simp only [eX9_lost_140, eX9_lost_141, eX9_lost_142, eX9_lost_144, cont_some, tl_some, tl_none, csum_nil, csum_i, csum_r, csum_j, isc2_i, isc2_r, isc2_n, va_rf_s, vfn_ite, true_and, and_true, true_or, or_true, eq_self, Bool.false_eq_true, not_false_eq_true, not_true_eq_false, if_true, if_false, Nat.reduceAdd, Nat.reduceLeDiff, reduceIte, hm.1, hm.2.1, hm.2.2.1, hm.2.2.2.1, hm.2.2.2.2.1, hm.2.2.2.2.2.1, hm.2.2.2.2.2.2.1, hm.2.2.2.2.2.2.2.1, hm.2.2.2.2.2.2.2.2.1, hm.2.2.2.2.2.2.2.2.2.1, hm.2.2.2.2.2.2.2.2.2.2.1, hm.2.2.2.2.2.2.2.2.2.2.2.1, hm.2.2.2.2.2.2.2.2.2.2.2.2.1, hm.2.2.2.2.2.2.2.2.2.2.2.2.2.1, hm.2.2.2.2.2.2.2.2.2.2.2.2.2.2.1, hm.2.2.2.2.2.2.2.2.2.2.2.2.2.2.2.1, hm.2.2.2.2.2.2.2.2.2.2.2.2.2.2.2.2.1, hm.2.2.2.2.2.2.2.2.2.2.2.2.2.2.2.2.2.1, hm.2.2.2.2.2.2.2.2.2.2.2.2.2.2.2.2.2.2.1, hm.2.2.2.2.2.2.2.2.2.2.2.2.2.2.2.2.2.2.2.1, hm.2.2.2.2.2.2.2.2.2.2.2.2.2.2.2.2.2.2.2.2.1, hm.2.2.2.2.2.2.2.2.2.2.2.2.2.2.2.2.2.2.2.2.2.1, hm.2.2.2.2.2.2.2.2.2.2.2.2.2.2.2.2.2.2.2.2.2.2.1, hm.2.2.2.2.2.2.2.2.2.2.2.2.2.2.2.2.2.2.2.2.2.2.2.1, hm.2.2.2.2.2.2.2.2.2.2.2.2.2.2.2.2.2.2.2.2.2.2.2.2, k1]
      simp only [eX9_lost_147, eX9_lost_149, eX9_lost_150, eX9_lost_153, cont_some, tl_some, tl_none, csum_nil, csum_i, csum_r, csum_j, isc2_i, isc2_r, isc2_n, va_rf_s, vfn_ite, true_and, and_true, true_or, or_true, eq_self, Bool.false_eq_true, not_false_eq_true, not_true_eq_false, if_true, if_false, Nat.reduceAdd, Nat.reduceLeDiff, reduceIte, hmu.1, hmu.2.1, hmu.2.2.1, hmu.2.2.2.1, hmu.2.2.2.2.1, hmu.2.2.2.2.2.1, hmu.2.2.2.2.2.2.1, hmu.2.2.2.2.2.2.2.1, hmu.2.2.2.2.2.2.2.2.1, hmu.2.2.2.2.2.2.2.2.2.1, hmu.2.2.2.2.2.2.2.2.2.2.1, hmu.2.2.2.2.2.2.2.2.2.2.2.1, hmu.2.2.2.2.2.2.2.2.2.2.2.2.1, hmu.2.2.2.2.2.2.2.2.2.2.2.2.2.1, hmu.2.2.2.2.2.2.2.2.2.2.2.2.2.2.1, hmu.2.2.2.2.2.2.2.2.2.2.2.2.2.2.2.1, hmu.2.2.2.2.2.2.2.2.2.2.2.2.2.2.2.2.1, hmu.2.2.2.2.2.2.2.2.2.2.2.2.2.2.2.2.2.1, hmu.2.2.2.2.2.2.2.2.2.2.2.2.2.2.2.2.2.2.1, hmu.2.2.2.2.2.2.2.2.2.2.2.2.2.2.2.2.2.2.2.1, hmu.2.2.2.2.2.2.2.2.2.2.2.2.2.2.2.2.2.2.2.2.1, hmu.2.2.2.2.2.2.2.2.2.2.2.2.2.2.2.2.2.2.2.2.2.1, hmu.2.2.2.2.2.2.2.2.2.2.2.2.2.2.2.2.2.2.2.2.2.2.1, hmu.2.2.2.2.2.2.2.2.2.2.2.2.2.2.2.2.2.2.2.2.2.2.2.1, hmu.2.2.2.2.2.2.2.2.2.2.2.2.2.2.2.2.2.2.2.2.2.2.2.2, mg]
      by_cases g : G s = true
      · have g' : ¬ gdA (frA (wdA n s (qZ j C)) (jdS j n s C)) (frB (wdA n s (qZ j C)) (jdS j n s C)) (nI T) = 0 := fun y => gi.mp y ((hG s (by omega)).mp g)
        rw [if_pos g] at go
        rw [if_neg g']
        simp only [eX9_lost_156, eX9_lost_158, eX9_lost_161, eX9_lost_162, eX9_lost_163, eX9_lost_165, cont_some, tl_some, tl_none, csum_nil, csum_i, csum_r, csum_j, isc2_i, isc2_r, isc2_n, va_rf_s, vfn_ite, true_and, and_true, true_or, or_true, eq_self, Bool.false_eq_true, not_false_eq_true, not_true_eq_false, if_true, if_false, Nat.reduceAdd, Nat.reduceLeDiff, reduceIte, lN_add, nI_1, h3]
        rw [eX9_lost_168]
        exact go _ _ _
      · have g' : gdA (frA (wdA n s (qZ j C)) (jdS j n s C)) (frB (wdA n s (qZ j C)) (jdS j n s C)) (nI T) = 0 := gi.mpr (fun y => g ((hG s (by omega)).mpr y))
        rw [if_neg g, Nat.add_zero] at go
        have a0 : lN (sumS G (fun s => itT (10 - c) c s n) s) + 0 = lN (sumS G (fun s => itT (10 - c) c s n) s) := lN_add _ 0
        rw [if_pos g']
        simp only [eX9_lost_161, eX9_lost_162, eX9_lost_163, eX9_lost_165, cont_some, tl_some, tl_none, csum_nil, csum_i, csum_r, csum_j, isc2_i, isc2_r, isc2_n, va_rf_s, vfn_ite, true_and, and_true, true_or, or_true, eq_self, Bool.false_eq_true, not_false_eq_true, not_true_eq_false, if_true, if_false, Nat.reduceAdd, Nat.reduceLeDiff, reduceIte, a0, nI_1, h3]
        rw [eX9_lost_168]
        exact go _ _ _
    · rw [if_neg q]
      have i00 : itT (10 - c) c s n = 0 := by omega
      have go := fun a9 a10 a11 => ih (s + 1) w a9 a10 a11 (by omega) h ht hF
      rw [es, i00] at go
      have : (if G s = true then 0 else 0) = 0 := by split <;> rfl
      rw [this, Nat.add_zero] at go
      simp only [eX9_lost_165, cont_some, tl_some, tl_none, csum_nil, csum_i, csum_r, csum_j, isc2_i, isc2_r, isc2_n, va_rf_s, vfn_ite, true_and, and_true, true_or, or_true, eq_self, Bool.false_eq_true, not_false_eq_true, not_true_eq_false, if_true, if_false, Nat.reduceAdd, Nat.reduceLeDiff, reduceIte, nI_1]
      rw [eX9_lost_168]
      exact go _ _ _
theorem tolN {S : Sst} (h : bdS S) : ∃ T, T ≤ 999 ∧ S.2.2.1 = nI T := by
  obtain ⟨i, hi, e⟩ := nI_of2 (M := 999) (n := 999) (by decide) (Int32.not_lt.mpr h.2.1) h.2.2
  exact ⟨i, hi, e⟩
theorem p_lost {w w' : Wd} {b o A B : Nat} {c : Cst} {x k y : Int32} (hb : bdS c.1) (hC : CC w b c) (hV : isV w (b + 33)) (hO : isO w (b + 38)) (hF : frIs w (b + 52) A B) (hM : MC w' o c) : ∃ r u u' A' B', fX8_lost [.ref b, .int x, .int k, .int y] w = some (some (.long r), u) ∧ fX9_lost [.ref o, .int x, .int k, .int y] w' = some (some (.long r), u') ∧ (∃ v1 v2, Fr (b + 33) (b + 37) w v1 ∧ Fr (b + 38) (b + 41) v1 v2 ∧ Fr (b + 52) (b + 53) v2 u) ∧ frIs u (b + 52) A' B' ∧ isV u (b + 33) ∧ isO u (b + 38) ∧ FrX (Xj o) w' u' := by
  have hc := hC.1
  have hm := hM.1
  by_cases q : 0 ≤ x ∧ x ≤ 2
  · by_cases qk : 0 ≤ k ∧ k ≤ 10
    · by_cases qy : 0 ≤ y ∧ y ≤ 1
      · have q0 := q
        have qk0 := qk
        obtain ⟨j, hj, rfl⟩ := ax_iff.mp q
        obtain ⟨ch, hch, rfl⟩ : ∃ i, i ≤ 10 ∧ k = nI i := nI_of2 (M := 10) (n := 10) (by decide) (Int32.not_lt.mpr qk.1) qk.2
        obtain ⟨T, hT, eT⟩ := tolN hb
        obtain ⟨n, hn⟩ : ∃ n, n = c.1.1 := ⟨_, rfl⟩
        obtain ⟨C, hCd⟩ : ∃ C, C = cN c.1.1 c.1.2.1 := ⟨_, rfl⟩
        have hbC : bdC n C := by rw [hn, hCd]; exact cN_bd hb
        have hMB : MB w' o n C := by rw [hn, hCd]; exact hM.mb.cn
        have h10 := hMB.2.2.1
        have hp := pw_lt h10
        have p := p10 h10
        obtain ⟨v1, l1, l2, l3⟩ := s_look (v := b + 33) hj (by omega) hC.2.1 hV
        rw [← hn] at l2
        have hc1 := hc.fr l3 (by omega)
        have hs1 := hC.2.1.fr l3 (by omega)
        have hO1 : isO v1 (b + 38) := by
          unfold isO
          simp only [l3.shp, l3.R (show b + 38 < b + 33 ∨ b + 33 + 3 ≤ b + 38 by omega)]
          exact hO
        have hin : inZ n (uZ (uOf c.1 j)) (uZ (vOf c.1 j)) := by rw [hn]; exact bd_in hb
        obtain ⟨v2, g1, g2, g3⟩ := s_findGood (d := b + 38) (by omega) l2 hin hT hO1
        have F2 : Fr (b + 38) (b + 41) v1 v2 := g3.fr (fun c j y => by unfold Xo at y; omega)
        have hc2 := hc1.fr F2 (by omega)
        have hv2 : vIs v2 (b + 33) n (uOf c.1 j) (vOf c.1 j) := l2.fx g3 (fun c j y => by unfold Xo at y; omega)
        have hF1 := hF.fr l3 (by omega)
        have hF2 := hF1.fr F2 (by omega)
        have hO2 := hO1.fx g3
        obtain ⟨G, hG⟩ : ∃ G, G = gdF (uZ (uOf c.1 j)) (uZ (vOf c.1 j)) T n := ⟨_, rfl⟩
        rw [← hG] at g2
        have hsum := sum_eq (G := G) (p := 10 - ch) (c := ch) h10
        obtain ⟨N, hN⟩ : ∃ N, N = sumS G (fun s => itT (10 - ch) ch s n) (2 ^ n) := ⟨_, rfl⟩
        have hNb : N ≤ 10240000000000 := by
          have := sumS_le (G := G) (f := fun s => itT (10 - ch) ch s n) (B := 10000000000) (2 ^ n) (fun i _ => it_le (by omega) hch h10)
          rw [← hN] at this
          have := Nat.mul_le_mul_right 10000000000 hp
          omega
        rw [← hN] at hsum
        have sw := s_weigh (q := b + 52) h10 hch hO2 g2 hF2.1 (by rw [hsum]; omega)
        rw [hsum] at sw
        have hGi : ∀ m, m < 2 ^ n → (G m = true ↔ 100 * frA (wdA n m (qZ j C)) (jdS j n m C) ≤ T * T * frB (wdA n m (qZ j C)) (jdS j n m C)) := fun m hm' => by
          rw [hG]
          exact good_iff hj h10 hm' (fun i hi => by rw [hCd, ← hn]; exact q_xy hj hn hi)
        have htol : rdI w' (o + 1) 1 = nI T := hM.2.1.2.2.1.trans eT
        have W0 : 0 < 10 ^ n := Nat.pow_pos (by omega)
        have hg : 0 < Nat.gcd N (10 ^ n) := Nat.gcd_pos_of_pos_right _ W0
        have hgB : Nat.gcd N (10 ^ n) ≤ 10 ^ n := Nat.le_of_dvd W0 (Nat.gcd_dvd_right _ _)
        have gn : ¬ lN (Nat.gcd N (10 ^ n)) = 0 := fun z => by
          have := (pk_lEQ (b := 0) (by omega) (by omega)).mp z
          omega
        have hh : wp mX9_lost 0 [some (.ref o), some (.int (nI j)), some (.int (nI ch)), some (.int y), none, none, none, none, none, none, none, none] [] w' (fun r u => r = some (.long (lN (if y = 0 then N / Nat.gcd N (10 ^ n) else 10 ^ n / Nat.gcd N (10 ^ n)))) ∧ FrX (Xj o) w' u) := by
          simp only [eX9_lost_0, eX9_lost_1, eX9_lost_2, eX9_lost_3, eX9_lost_6, eX9_lost_9, eX9_lost_12, eX9_lost_13, eX9_lost_14, eX9_lost_15, eX9_lost_18, eX9_lost_21, eX9_lost_24, eX9_lost_25, eX9_lost_26, eX9_lost_27, eX9_lost_28, eX9_lost_31, eX9_lost_34, eX9_lost_37, eX9_lost_38, eX9_lost_39, eX9_lost_41, eX9_lost_42, eX9_lost_44, eX9_lost_45, cont_some, tl_some, tl_none, csum_nil, csum_i, csum_r, csum_j, isc2_i, isc2_r, isc2_n, va_rf_s, vfn_ite, true_and, and_true, true_or, or_true, eq_self, Bool.false_eq_true, not_false_eq_true, not_true_eq_false, if_true, if_false, Nat.reduceAdd, Nat.reduceLeDiff, reduceIte, in02, in010, in01, b2i_0, q0, qk0, qy, and_self]
          refine lo_l10 (k := 0) (x := 0) hMB ?_ n (by omega)
          simp only [eX9_lost_72, eX9_lost_73, cont_some, tl_some, tl_none, csum_nil, csum_i, csum_r, csum_j, isc2_i, isc2_r, isc2_n, va_rf_s, vfn_ite, true_and, and_true, true_or, or_true, eq_self, Bool.false_eq_true, not_false_eq_true, not_true_eq_false, if_true, if_false, Nat.reduceAdd, Nat.reduceLeDiff, reduceIte]
          refine lo_lsets (w0 := w') (s := 0) rfl hbC (show j < 4 by omega) hch hT h10 hGi (fun u a8 a9 a10 a11 k1 k2 => ?_) (2 ^ n) w' _ _ _ (by omega) hMB htol FrX.rf
          rw [← hN]
          have cm := s_commonN (w := u) (a := N) (b := 10 ^ n) (by omega) (by omega)
          simp only [eX9_lost_171, eX9_lost_173, eX9_lost_175, eX9_lost_178, eX9_lost_180, eX9_lost_181, cont_some, tl_some, tl_none, csum_nil, csum_i, csum_r, csum_j, isc2_i, isc2_r, isc2_n, va_rf_s, vfn_ite, true_and, and_true, true_or, or_true, eq_self, Bool.false_eq_true, not_false_eq_true, not_true_eq_false, if_true, if_false, Nat.reduceAdd, Nat.reduceLeDiff, reduceIte, cm]
          by_cases y0 : y = 0
          · simp only [y0, not_true_eq_false, if_false, if_true]
            simp only [eX9_lost_184, eX9_lost_186, eX9_lost_188, eX9_lost_189, eX9_lost_192, eX9_lost_194, eX9_lost_196, eX9_lost_197, cont_some, tl_some, tl_none, csum_nil, csum_i, csum_r, csum_j, isc2_i, isc2_r, isc2_n, va_rf_s, vfn_ite, true_and, and_true, true_or, or_true, eq_self, Bool.false_eq_true, not_false_eq_true, not_true_eq_false, if_true, if_false, Nat.reduceAdd, Nat.reduceLeDiff, reduceIte, gn, pk_lDiv (show N < 2 ^ 63 by omega) hg (show Nat.gcd N (10 ^ n) < 2 ^ 63 by omega)]
            exact k2
          · simp only [y0, not_false_eq_true, if_false, if_true]
            simp only [eX9_lost_192, eX9_lost_194, eX9_lost_196, eX9_lost_197, cont_some, tl_some, tl_none, csum_nil, csum_i, csum_r, csum_j, isc2_i, isc2_r, isc2_n, va_rf_s, vfn_ite, true_and, and_true, true_or, or_true, eq_self, Bool.false_eq_true, not_false_eq_true, not_true_eq_false, if_true, if_false, Nat.reduceAdd, Nat.reduceLeDiff, reduceIte, gn, pk_lDiv (show 10 ^ n < 2 ^ 63 by omega) hg (show Nat.gcd N (10 ^ n) < 2 ^ 63 by omega)]
            exact k2
        obtain ⟨r, u', m1, rfl, m2⟩ := sem_wp (nL := 12) (as := [.ref o, .int (nI j), .int (nI ch), .int y]) (Nat.le_of_ble_eq_true rfl) hh
        have fi := frW_is (w := v2) (q := b + 52) (A := N) (B := 10 ^ n) hF2.1
        have fp := s_fr_part (x := y) fi
        have hc3 := hc2.fr (frW_fr (w := v2) (q := b + 52) (A := N) (B := 10 ^ n)) (by omega)
        refine ⟨_, frW v2 (b + 52) N (10 ^ n), u', _, _, ?_, m1, ⟨v1, v2, l3.wide (by omega) (by omega), F2, frW_fr⟩, fi, hv2.1.fr frW_fr (by omega), hO2.fx frW_fx, m2⟩
        refine sem_eq (Nat.le_of_ble_eq_true rfl) ?_
        show wp mX8_lost 0 [some (.ref b), some (.int (nI j)), some (.int (nI ch)), some (.int y)] [] _ _
        have st : rdI v1 (b + 1) 2 = nI T := hs1.2.2.2.2.1.trans eT
        simp only [eX8_lost_0, eX8_lost_1, eX8_lost_4, eX8_lost_7, eX8_lost_8, eX8_lost_9, eX8_lost_11, eX8_lost_14, eX8_lost_17, eX8_lost_18, eX8_lost_19, eX8_lost_20, eX8_lost_23, eX8_lost_26, eX8_lost_29, eX8_lost_30, eX8_lost_31, eX8_lost_34, eX8_lost_35, eX8_lost_38, eX8_lost_39, cont_some, tl_some, tl_none, csum_nil, csum_i, csum_r, csum_j, isc2_i, isc2_r, isc2_n, va_rf_s, vfn_ite, true_and, and_true, true_or, or_true, eq_self, Bool.false_eq_true, not_false_eq_true, not_true_eq_false, if_true, if_false, Nat.reduceAdd, Nat.reduceLeDiff, reduceIte, s_isAxis, s_isIn, b2i_0, q0, qk0, qy, and_self, hc.1, hc.2.1, hc.2.2.1, hc.2.2.2.1, hc.2.2.2.2.1, hc.2.2.2.2.2.1, hc.2.2.2.2.2.2.1, hc.2.2.2.2.2.2.2.1, hc.2.2.2.2.2.2.2.2.1, hc.2.2.2.2.2.2.2.2.2.1, hc.2.2.2.2.2.2.2.2.2.2, hV.1, l1]
        simp only [eX8_lost_42, eX8_lost_43, eX8_lost_46, eX8_lost_47, eX8_lost_50, eX8_lost_51, eX8_lost_54, eX8_lost_57, cont_some, tl_some, tl_none, csum_nil, csum_i, csum_r, csum_j, isc2_i, isc2_r, isc2_n, va_rf_s, vfn_ite, true_and, and_true, true_or, or_true, eq_self, Bool.false_eq_true, not_false_eq_true, not_true_eq_false, if_true, if_false, Nat.reduceAdd, Nat.reduceLeDiff, reduceIte, hc1.1, hc1.2.1, hc1.2.2.1, hc1.2.2.2.1, hc1.2.2.2.2.1, hc1.2.2.2.2.2.1, hc1.2.2.2.2.2.2.1, hc1.2.2.2.2.2.2.2.1, hc1.2.2.2.2.2.2.2.2.1, hc1.2.2.2.2.2.2.2.2.2.1, hc1.2.2.2.2.2.2.2.2.2.2, hs1.1.1, st, hO1.1, g1]
        simp only [eX8_lost_60, eX8_lost_61, eX8_lost_64, eX8_lost_65, eX8_lost_68, eX8_lost_69, eX8_lost_72, eX8_lost_75, eX8_lost_76, cont_some, tl_some, tl_none, csum_nil, csum_i, csum_r, csum_j, isc2_i, isc2_r, isc2_n, va_rf_s, vfn_ite, true_and, and_true, true_or, or_true, eq_self, Bool.false_eq_true, not_false_eq_true, not_true_eq_false, if_true, if_false, Nat.reduceAdd, Nat.reduceLeDiff, reduceIte, hc2.1, hc2.2.1, hc2.2.2.1, hc2.2.2.2.1, hc2.2.2.2.2.1, hc2.2.2.2.2.2.1, hc2.2.2.2.2.2.2.1, hc2.2.2.2.2.2.2.2.1, hc2.2.2.2.2.2.2.2.2.1, hc2.2.2.2.2.2.2.2.2.2.1, hc2.2.2.2.2.2.2.2.2.2.2, hv2.1.1, hv2.2.1, hO2.1, sw]
        simp only [eX8_lost_79, eX8_lost_80, eX8_lost_83, eX8_lost_84, eX8_lost_87, cont_some, tl_some, tl_none, csum_nil, csum_i, csum_r, csum_j, isc2_i, isc2_r, isc2_n, va_rf_s, vfn_ite, true_and, and_true, true_or, or_true, eq_self, Bool.false_eq_true, not_false_eq_true, not_true_eq_false, if_true, if_false, Nat.reduceAdd, Nat.reduceLeDiff, reduceIte, hc3.1, hc3.2.1, hc3.2.2.1, hc3.2.2.2.1, hc3.2.2.2.2.1, hc3.2.2.2.2.2.1, hc3.2.2.2.2.2.2.1, hc3.2.2.2.2.2.2.2.1, hc3.2.2.2.2.2.2.2.2.1, hc3.2.2.2.2.2.2.2.2.2.1, hc3.2.2.2.2.2.2.2.2.2.2, fi.1, fp]
      · refine ⟨-1, w, w', A, B, ?_, ?_, ⟨w, w, Fr.rf, Fr.rf, Fr.rf⟩, hF, hV, hO, FrX.rf⟩
        · refine sem_eq (Nat.le_of_ble_eq_true rfl) ?_
          show wp mX8_lost 0 [some (.ref b), some (.int x), some (.int k), some (.int y)] [] _ _
          simp only [eX8_lost_0, eX8_lost_1, eX8_lost_4, eX8_lost_7, eX8_lost_8, eX8_lost_9, eX8_lost_11, eX8_lost_14, eX8_lost_17, eX8_lost_18, eX8_lost_19, eX8_lost_20, eX8_lost_23, eX8_lost_26, eX8_lost_29, cont_some, tl_some, tl_none, csum_nil, csum_i, csum_r, csum_j, isc2_i, isc2_r, isc2_n, va_rf_s, vfn_ite, true_and, and_true, true_or, or_true, eq_self, Bool.false_eq_true, not_false_eq_true, not_true_eq_false, if_true, if_false, Nat.reduceAdd, Nat.reduceLeDiff, reduceIte, s_isAxis, s_isIn, b2i_0, q, qk, qy, and_self]
        · refine sem_eq (Nat.le_of_ble_eq_true rfl) ?_
          show wp mX9_lost 0 [some (.ref o), some (.int x), some (.int k), some (.int y), none, none, none, none, none, none, none, none] [] _ _
          simp only [eX9_lost_0, eX9_lost_1, eX9_lost_2, eX9_lost_3, eX9_lost_6, eX9_lost_9, eX9_lost_12, eX9_lost_13, eX9_lost_14, eX9_lost_15, eX9_lost_18, eX9_lost_21, eX9_lost_24, eX9_lost_25, eX9_lost_26, eX9_lost_27, eX9_lost_28, eX9_lost_31, eX9_lost_34, eX9_lost_37, cont_some, tl_some, tl_none, csum_nil, csum_i, csum_r, csum_j, isc2_i, isc2_r, isc2_n, va_rf_s, vfn_ite, true_and, and_true, true_or, or_true, eq_self, Bool.false_eq_true, not_false_eq_true, not_true_eq_false, if_true, if_false, Nat.reduceAdd, Nat.reduceLeDiff, reduceIte, in02, in010, in01, b2i_0, q, qk, qy, and_self]
    · refine ⟨-1, w, w', A, B, ?_, ?_, ⟨w, w, Fr.rf, Fr.rf, Fr.rf⟩, hF, hV, hO, FrX.rf⟩
      · refine sem_eq (Nat.le_of_ble_eq_true rfl) ?_
        show wp mX8_lost 0 [some (.ref b), some (.int x), some (.int k), some (.int y)] [] _ _
        simp only [eX8_lost_0, eX8_lost_1, eX8_lost_4, eX8_lost_7, eX8_lost_8, eX8_lost_9, eX8_lost_11, eX8_lost_14, eX8_lost_17, eX8_lost_18, eX8_lost_19, eX8_lost_20, eX8_lost_23, eX8_lost_26, eX8_lost_29, cont_some, tl_some, tl_none, csum_nil, csum_i, csum_r, csum_j, isc2_i, isc2_r, isc2_n, va_rf_s, vfn_ite, true_and, and_true, true_or, or_true, eq_self, Bool.false_eq_true, not_false_eq_true, not_true_eq_false, if_true, if_false, Nat.reduceAdd, Nat.reduceLeDiff, reduceIte, s_isAxis, s_isIn, b2i_0, q, qk, and_self]
      · refine sem_eq (Nat.le_of_ble_eq_true rfl) ?_
        show wp mX9_lost 0 [some (.ref o), some (.int x), some (.int k), some (.int y), none, none, none, none, none, none, none, none] [] _ _
        simp only [eX9_lost_0, eX9_lost_1, eX9_lost_2, eX9_lost_3, eX9_lost_6, eX9_lost_9, eX9_lost_12, eX9_lost_13, eX9_lost_14, eX9_lost_15, eX9_lost_18, eX9_lost_21, eX9_lost_24, eX9_lost_25, eX9_lost_26, eX9_lost_27, eX9_lost_28, eX9_lost_31, eX9_lost_34, eX9_lost_37, cont_some, tl_some, tl_none, csum_nil, csum_i, csum_r, csum_j, isc2_i, isc2_r, isc2_n, va_rf_s, vfn_ite, true_and, and_true, true_or, or_true, eq_self, Bool.false_eq_true, not_false_eq_true, not_true_eq_false, if_true, if_false, Nat.reduceAdd, Nat.reduceLeDiff, reduceIte, in02, in010, b2i_0, q, qk, and_self]
  · refine ⟨-1, w, w', A, B, ?_, ?_, ⟨w, w, Fr.rf, Fr.rf, Fr.rf⟩, hF, hV, hO, FrX.rf⟩
    · refine sem_eq (Nat.le_of_ble_eq_true rfl) ?_
      show wp mX8_lost 0 [some (.ref b), some (.int x), some (.int k), some (.int y)] [] _ _
      simp only [eX8_lost_0, eX8_lost_1, eX8_lost_4, eX8_lost_7, eX8_lost_8, eX8_lost_9, eX8_lost_11, eX8_lost_14, eX8_lost_17, eX8_lost_18, eX8_lost_19, eX8_lost_20, eX8_lost_23, eX8_lost_26, eX8_lost_29, cont_some, tl_some, tl_none, csum_nil, csum_i, csum_r, csum_j, isc2_i, isc2_r, isc2_n, va_rf_s, vfn_ite, true_and, and_true, true_or, or_true, eq_self, Bool.false_eq_true, not_false_eq_true, not_true_eq_false, if_true, if_false, Nat.reduceAdd, Nat.reduceLeDiff, reduceIte, s_isAxis, b2i_0, q]
    · refine sem_eq (Nat.le_of_ble_eq_true rfl) ?_
      show wp mX9_lost 0 [some (.ref o), some (.int x), some (.int k), some (.int y), none, none, none, none, none, none, none, none] [] _ _
      simp only [eX9_lost_0, eX9_lost_1, eX9_lost_2, eX9_lost_3, eX9_lost_6, eX9_lost_9, eX9_lost_12, eX9_lost_13, eX9_lost_14, eX9_lost_15, eX9_lost_18, eX9_lost_21, eX9_lost_24, eX9_lost_25, eX9_lost_26, eX9_lost_27, eX9_lost_28, eX9_lost_31, eX9_lost_34, eX9_lost_37, cont_some, tl_some, tl_none, csum_nil, csum_i, csum_r, csum_j, isc2_i, isc2_r, isc2_n, va_rf_s, vfn_ite, true_and, and_true, true_or, or_true, eq_self, Bool.false_eq_true, not_false_eq_true, not_true_eq_false, if_true, if_false, Nat.reduceAdd, Nat.reduceLeDiff, reduceIte, in02, b2i_0, q]
