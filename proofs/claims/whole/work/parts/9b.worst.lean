/-! the worst -/
def wrS (ww : Nat → Nat × Nat) (k b : Nat) : Nat := if (ww k).1 * (ww b).2 < (ww b).1 * (ww k).2 then k else b
def wrF (ww : Nat → Nat × Nat) : Nat → Nat → Nat → Nat
  | 0, _, b => b
  | e + 1, k, b => wrF ww e (k + 1) (wrS ww k b)
theorem wrF_congr {v w : Nat → Nat × Nat} {n : Nat} (h : ∀ k, k < n → v k = w k) : ∀ (e k b : Nat), k + e = n → b < n → wrF v e k b = wrF w e k b := by
  intro e
  induction e with
  | zero => intro k b _ _; rfl
  | succ e ih =>
    intro k b hk hb
    have es : wrS v k b = wrS w k b := by unfold wrS; rw [h k (by omega), h b hb]
    show wrF v e (k + 1) (wrS v k b) = wrF w e (k + 1) (wrS w k b)
    rw [es]
    exact ih (k + 1) _ (by omega) (by unfold wrS; split <;> omega)
theorem ok_lt {p q : Nat × Nat} (hp : fOK p) (hq : fOK q) : p.1 * q.2 < 2 ^ 63 ∧ q.1 * p.2 < 2 ^ 63 := by
  obtain ⟨-, -, p3, p4⟩ := hp
  obtain ⟨-, -, q3, q4⟩ := hq
  have := mulb p3 q4
  have := mulb q3 p4
  omega
theorem lo_cworst {z n : Nat} {w : Wd} {ww : Nat → Nat × Nat} (h : isZ w z) (hn : rdI w z 2 = nI n) (h10 : n ≤ 10) (hw : wws w z ww) (ho : ∀ k, k < 10 → fOK (ww k)) : ∀ (e k b : Nat), k + e = n → b < n →
    wp mX7_worst 4 [some (.ref z), some (.int (nI b)), some (.int (nI k))] [] w (fun r u => r = some (.int (nI (wrF ww e k b))) ∧ u = w) := by
  have m14 : 14 ∈ [14, 15, 16, 17] := by decide
  intro e
  induction e with
  | zero =>
    intro k b hk hb
    have e : k = n := by omega
    subst e
    have l : ¬ nI k < nI k := Int32.lt_irrefl
    simp only [eX7_worst_4, eX7_worst_5, eX7_worst_6, eX7_worst_9, eX7_worst_50, eX7_worst_51, cont_some, tl_some, tl_none, csum_nil, csum_i, csum_r, csum_j, isc2_i, isc2_r, isc2_n, va_rf_s, vfn_ite, true_and, and_true, true_or, or_true, eq_self, Bool.false_eq_true, not_false_eq_true, not_true_eq_false, if_true, if_false, Nat.reduceAdd, Nat.reduceLeDiff, reduceIte, h.1, hn, l, wrF]
  | succ e ih =>
    intro k b hk hb
    have l : nI k < nI n := nI_lt (by omega) (by omega)
    obtain ⟨g1, g2⟩ := h.2.2.2.2.2.2.2.2.2.2.2.2.2.2.2 b (by omega)
    obtain ⟨g3, g4⟩ := h.2.2.2.2.2.2.2.2.2.2.2.2.2.2.2 k (by omega)
    obtain ⟨f1, f2, f3⟩ := hw k (by omega)
    have hc := s_fr_compare (a := (ww k).1) (b := (ww k).2) (hw b (by omega))
    obtain ⟨b1, b2⟩ := ok_lt (ho k (by omega)) (ho b (by omega))
    have c : sgL (lN ((ww k).1 * (ww b).2)) (lN ((ww b).1 * (ww k).2)) < 0 ↔ (ww k).1 * (ww b).2 < (ww b).1 * (ww k).2 := by rw [sgL_lt, pk_lLT b1 b2]
    have go := ih (k + 1) (wrS ww k b) (by omega) (by unfold wrS; split <;> omega)
    simp only [eX7_worst_4, eX7_worst_5, eX7_worst_6, eX7_worst_9, eX7_worst_12, eX7_worst_13, eX7_worst_16, eX7_worst_17, eX7_worst_18, eX7_worst_19, eX7_worst_22, eX7_worst_23, eX7_worst_24, eX7_worst_27, eX7_worst_28, eX7_worst_31, eX7_worst_32, eX7_worst_33, eX7_worst_36, eX7_worst_39, cont_some, tl_some, tl_none, csum_nil, csum_i, csum_r, csum_j, isc2_i, isc2_r, isc2_n, va_rf_s, vfn_ite, true_and, and_true, true_or, or_true, eq_self, Bool.false_eq_true, not_false_eq_true, not_true_eq_false, if_true, if_false, Nat.reduceAdd, Nat.reduceLeDiff, reduceIte, h.1, hn, l, h.2.2.2.2.2.2.1, h.2.2.2.2.2.2.2.2.2.2.2.2.2.1, m14, inA_nI (show b < 10 by omega) (show 10 < 2147483648 by omega), inA_nI (show k < 10 by omega) (show 10 < 2147483648 by omega), nI_clamp (show b < 2 ^ 31 by omega), nI_clamp (show k < 2 ^ 31 by omega), g1, g2, g3, g4, f2, f3, hc, c]
    show if _ then _ else _
    by_cases q : (ww k).1 * (ww b).2 < (ww b).1 * (ww k).2
    · have es : wrS ww k b = k := if_pos q
      rw [es] at go
      rw [if_pos q]
      simp only [eX7_worst_42, eX7_worst_43, eX7_worst_44, cont_some, tl_some, tl_none, csum_nil, csum_i, csum_r, csum_j, isc2_i, isc2_r, isc2_n, va_rf_s, vfn_ite, true_and, and_true, true_or, or_true, eq_self, Bool.false_eq_true, not_false_eq_true, not_true_eq_false, if_true, if_false, Nat.reduceAdd, Nat.reduceLeDiff, reduceIte, nI_1]
      rw [eX7_worst_47]
      show wp _ _ _ _ _ (fun r u => r = some (.int (nI (wrF ww e (k + 1) (wrS ww k b)))) ∧ u = w)
      rw [es]
      exact go
    · have es : wrS ww k b = b := if_neg q
      rw [es] at go
      rw [if_neg q]
      simp only [eX7_worst_44, cont_some, tl_some, tl_none, csum_nil, csum_i, csum_r, csum_j, isc2_i, isc2_r, isc2_n, va_rf_s, vfn_ite, true_and, and_true, true_or, or_true, eq_self, Bool.false_eq_true, not_false_eq_true, not_true_eq_false, if_true, if_false, Nat.reduceAdd, Nat.reduceLeDiff, reduceIte, nI_1]
      rw [eX7_worst_47]
      show wp _ _ _ _ _ (fun r u => r = some (.int (nI (wrF ww e (k + 1) (wrS ww k b)))) ∧ u = w)
      rw [es]
      exact go
theorem s_worst {z n : Nat} {w : Wd} {ww : Nat → Nat × Nat} (h : isZ w z) (hn : rdI w z 2 = nI n) (h10 : n ≤ 10) (h0 : 0 < n) (hw : wws w z ww) (ho : ∀ k, k < 10 → fOK (ww k)) : fX7_worst [.ref z] w = some (some (.int (nI (wrF ww (n - 1) 1 0))), w) := by
  refine sem_eq (Nat.le_of_ble_eq_true rfl) ?_
  show wp mX7_worst 0 [some (.ref z), none, none] [] _ _
  simp only [eX7_worst_0, eX7_worst_1, eX7_worst_2, eX7_worst_3, cont_some, tl_some, tl_none, csum_nil, csum_i, csum_r, csum_j, isc2_i, isc2_r, isc2_n, va_rf_s, vfn_ite, true_and, and_true, true_or, or_true, eq_self, Bool.false_eq_true, not_false_eq_true, not_true_eq_false, if_true, if_false, Nat.reduceAdd, Nat.reduceLeDiff, reduceIte]
  exact lo_cworst h hn h10 hw ho (n - 1) 1 0 (by omega) h0
theorem evN : ∀ n, n ≤ 10 → (1 : Int32) <<< (nI n &&& 31) - 1 = nI (2 ^ n - 1) := by decide
theorem wtN : ∀ n, n ≤ 10 → ∀ k, k < n → nI (2 ^ n - 1) &&& (((1 : Int32) <<< (nI k &&& 31)) ^^^ (-1)) = nI (2 ^ n - 1 - 2 ^ k) := by decide
theorem m_every {w : Wd} {o n : Nat} {C : Nat → Int32} (h : MB w o n C) : fX9_everything [.ref o] w = some (some (.int (nI (2 ^ n - 1))), w) := by
  have hm := h.1
  have i0 : inA 0 33 = true := by decide
  refine sem_eq (Nat.le_of_ble_eq_true rfl) ?_
  show wp mX9_everything 0 [some (.ref o)] [] _ _
  simp only [eX9_everything_0, eX9_everything_1, eX9_everything_2, eX9_everything_5, eX9_everything_6, eX9_everything_7, eX9_everything_8, eX9_everything_9, eX9_everything_10, cont_some, tl_some, tl_none, csum_nil, csum_i, csum_r, csum_j, isc2_i, isc2_r, isc2_n, va_rf_s, vfn_ite, true_and, and_true, true_or, or_true, eq_self, Bool.false_eq_true, not_false_eq_true, not_true_eq_false, if_true, if_false, Nat.reduceAdd, Nat.reduceLeDiff, reduceIte, hm.1, hm.2.1, hm.2.2.1, hm.2.2.2.1, hm.2.2.2.2.1, hm.2.2.2.2.2.1, hm.2.2.2.2.2.2.1, hm.2.2.2.2.2.2.2.1, hm.2.2.2.2.2.2.2.2.1, hm.2.2.2.2.2.2.2.2.2.1, hm.2.2.2.2.2.2.2.2.2.2.1, hm.2.2.2.2.2.2.2.2.2.2.2.1, hm.2.2.2.2.2.2.2.2.2.2.2.2.1, hm.2.2.2.2.2.2.2.2.2.2.2.2.2.1, hm.2.2.2.2.2.2.2.2.2.2.2.2.2.2.1, hm.2.2.2.2.2.2.2.2.2.2.2.2.2.2.2.1, hm.2.2.2.2.2.2.2.2.2.2.2.2.2.2.2.2.1, hm.2.2.2.2.2.2.2.2.2.2.2.2.2.2.2.2.2.1, hm.2.2.2.2.2.2.2.2.2.2.2.2.2.2.2.2.2.2.1, hm.2.2.2.2.2.2.2.2.2.2.2.2.2.2.2.2.2.2.2.1, hm.2.2.2.2.2.2.2.2.2.2.2.2.2.2.2.2.2.2.2.2.1, hm.2.2.2.2.2.2.2.2.2.2.2.2.2.2.2.2.2.2.2.2.2.1, hm.2.2.2.2.2.2.2.2.2.2.2.2.2.2.2.2.2.2.2.2.2.2.1, hm.2.2.2.2.2.2.2.2.2.2.2.2.2.2.2.2.2.2.2.2.2.2.2.1, hm.2.2.2.2.2.2.2.2.2.2.2.2.2.2.2.2.2.2.2.2.2.2.2.2, i0, cl0, h.2.1, evN n h.2.2.1]
theorem pw_lt {n : Nat} (h : n ≤ 10) : 2 ^ n ≤ 1024 := by
  have : (2 : Nat) ^ n ≤ 2 ^ 10 := Nat.pow_le_pow_right (by omega) h
  simpa using this
theorem lo_mworst {o n j : Nat} {C : Nat → Int32} {rv : Nat → Nat × Nat} {w0 : Wd} (hb : bdC n C) (hj : j < 4) (hrv : ∀ k, k < n → rv k = (frA (wdA n (2 ^ n - 1 - 2 ^ k) (qZ j C)) (jdS j n (2 ^ n - 1 - 2 ^ k) C), frB (wdA n (2 ^ n - 1 - 2 ^ k) (qZ j C)) (jdS j n (2 ^ n - 1 - 2 ^ k) C))) (ho : ∀ k, k < n → fOK (rv k)) : ∀ (e k b : Nat) (w : Wd), k + e = n → MB w o n C → b < k → FrX (Xj o) w0 w →
    wp mX9_worst 11 [some (.ref o), some (.int (nI j)), some (.int (nI b)), some (.long (lN (rv b).1)), none, some (.long (lN (rv b).2)), none, some (.int (nI k))] [] w (fun r u => r = some (.int (nI (wrF rv e k b))) ∧ FrX (Xj o) w0 u) := by
  have i0 : inA 0 33 = true := by decide
  intro e
  induction e with
  | zero =>
    intro k b w hk h hbk hF
    have e : k = n := by omega
    subst e
    have hm := h.1
    have l : ¬ nI k < nI k := Int32.lt_irrefl
    simp only [eX9_worst_11, eX9_worst_13, eX9_worst_14, eX9_worst_17, eX9_worst_18, eX9_worst_19, eX9_worst_81, eX9_worst_82, cont_some, tl_some, tl_none, csum_nil, csum_i, csum_r, csum_j, isc2_i, isc2_r, isc2_n, va_rf_s, vfn_ite, true_and, and_true, true_or, or_true, eq_self, Bool.false_eq_true, not_false_eq_true, not_true_eq_false, if_true, if_false, Nat.reduceAdd, Nat.reduceLeDiff, reduceIte, hm.1, hm.2.1, hm.2.2.1, hm.2.2.2.1, hm.2.2.2.2.1, hm.2.2.2.2.2.1, hm.2.2.2.2.2.2.1, hm.2.2.2.2.2.2.2.1, hm.2.2.2.2.2.2.2.2.1, hm.2.2.2.2.2.2.2.2.2.1, hm.2.2.2.2.2.2.2.2.2.2.1, hm.2.2.2.2.2.2.2.2.2.2.2.1, hm.2.2.2.2.2.2.2.2.2.2.2.2.1, hm.2.2.2.2.2.2.2.2.2.2.2.2.2.1, hm.2.2.2.2.2.2.2.2.2.2.2.2.2.2.1, hm.2.2.2.2.2.2.2.2.2.2.2.2.2.2.2.1, hm.2.2.2.2.2.2.2.2.2.2.2.2.2.2.2.2.1, hm.2.2.2.2.2.2.2.2.2.2.2.2.2.2.2.2.2.1, hm.2.2.2.2.2.2.2.2.2.2.2.2.2.2.2.2.2.2.1, hm.2.2.2.2.2.2.2.2.2.2.2.2.2.2.2.2.2.2.2.1, hm.2.2.2.2.2.2.2.2.2.2.2.2.2.2.2.2.2.2.2.2.1, hm.2.2.2.2.2.2.2.2.2.2.2.2.2.2.2.2.2.2.2.2.2.1, hm.2.2.2.2.2.2.2.2.2.2.2.2.2.2.2.2.2.2.2.2.2.2.1, hm.2.2.2.2.2.2.2.2.2.2.2.2.2.2.2.2.2.2.2.2.2.2.2.1, hm.2.2.2.2.2.2.2.2.2.2.2.2.2.2.2.2.2.2.2.2.2.2.2.2, i0, cl0, h.2.1, l, wrF]
    exact hF
  | succ e ih =>
    intro k b w hk h hbk hF
    have hm := h.1
    have h10 := h.2.2.1
    have hp := pw_lt h10
    have l : nI k < nI n := nI_lt (by omega) (by omega)
    have hmn : ∀ i, i < 10 → bt (2 ^ n - 1 - 2 ^ k) i → i < n := fun i hi hb' => ((btW n h10 k (by omega) i hi).mp hb').1
    obtain ⟨u, k1, k2, k3⟩ := m_judges h hb hj (show 2 ^ n - 1 - 2 ^ k < 2 ^ 31 from Nat.lt_of_le_of_lt (Nat.sub_le _ _) (Nat.lt_of_le_of_lt (Nat.sub_le _ _) (by omega))) hmn
    have hu := h.frX k3
    have hmu := hu.1
    have r1 : rdJ u o 12 = lN (rv k).1 := by rw [hrv k (by omega)]; exact k2.1
    have r2 : rdJ u o 13 = lN (rv k).2 := by rw [hrv k (by omega)]; exact k2.2.1
    have nb : ¬ nI b = -4 := fun y => by
      have := congrArg Int32.toInt y
      rw [nI_T (by omega)] at this
      have e1 : (-4 : Int32).toInt = -4 := by decide
      omega
    obtain ⟨b1, b2⟩ := ok_lt (ho k (by omega)) (ho b (by omega))
    have c : lN ((rv k).1 * (rv b).2) < lN ((rv b).1 * (rv k).2) ↔ (rv k).1 * (rv b).2 < (rv b).1 * (rv k).2 := pk_lLT b1 b2
    have go := ih (k + 1) (wrS rv k b) u (by omega) hu (by unfold wrS; split <;> omega) (hF.tr k3)
    simp only [eX9_worst_11, eX9_worst_13, eX9_worst_14, eX9_worst_17, eX9_worst_18, eX9_worst_19, eX9_worst_22, eX9_worst_23, eX9_worst_24, eX9_worst_25, eX9_worst_28, eX9_worst_29, eX9_worst_31, eX9_worst_32, eX9_worst_33, eX9_worst_34, eX9_worst_35, cont_some, tl_some, tl_none, csum_nil, csum_i, csum_r, csum_j, isc2_i, isc2_r, isc2_n, va_rf_s, vfn_ite, true_and, and_true, true_or, or_true, eq_self, Bool.false_eq_true, not_false_eq_true, not_true_eq_false, if_true, if_false, Nat.reduceAdd, Nat.reduceLeDiff, reduceIte, hm.1, hm.2.1, hm.2.2.1, hm.2.2.2.1, hm.2.2.2.2.1, hm.2.2.2.2.2.1, hm.2.2.2.2.2.2.1, hm.2.2.2.2.2.2.2.1, hm.2.2.2.2.2.2.2.2.1, hm.2.2.2.2.2.2.2.2.2.1, hm.2.2.2.2.2.2.2.2.2.2.1, hm.2.2.2.2.2.2.2.2.2.2.2.1, hm.2.2.2.2.2.2.2.2.2.2.2.2.1, hm.2.2.2.2.2.2.2.2.2.2.2.2.2.1, hm.2.2.2.2.2.2.2.2.2.2.2.2.2.2.1, hm.2.2.2.2.2.2.2.2.2.2.2.2.2.2.2.1, hm.2.2.2.2.2.2.2.2.2.2.2.2.2.2.2.2.1, hm.2.2.2.2.2.2.2.2.2.2.2.2.2.2.2.2.2.1, hm.2.2.2.2.2.2.2.2.2.2.2.2.2.2.2.2.2.2.1, hm.2.2.2.2.2.2.2.2.2.2.2.2.2.2.2.2.2.2.2.1, hm.2.2.2.2.2.2.2.2.2.2.2.2.2.2.2.2.2.2.2.2.1, hm.2.2.2.2.2.2.2.2.2.2.2.2.2.2.2.2.2.2.2.2.2.1, hm.2.2.2.2.2.2.2.2.2.2.2.2.2.2.2.2.2.2.2.2.2.2.1, hm.2.2.2.2.2.2.2.2.2.2.2.2.2.2.2.2.2.2.2.2.2.2.2.1, hm.2.2.2.2.2.2.2.2.2.2.2.2.2.2.2.2.2.2.2.2.2.2.2.2, i0, cl0, h.2.1, l, m_every h, wtN n h10 k (by omega), k1]
    simp only [eX9_worst_38, eX9_worst_39, eX9_worst_41, eX9_worst_44, eX9_worst_45, eX9_worst_48, eX9_worst_50, eX9_worst_51, eX9_worst_52, eX9_worst_53, eX9_worst_56, eX9_worst_57, eX9_worst_58, cont_some, tl_some, tl_none, csum_nil, csum_i, csum_r, csum_j, isc2_i, isc2_r, isc2_n, va_rf_s, vfn_ite, true_and, and_true, true_or, or_true, eq_self, Bool.false_eq_true, not_false_eq_true, not_true_eq_false, if_true, if_false, Nat.reduceAdd, Nat.reduceLeDiff, reduceIte, nb, hmu.1, hmu.2.1, hmu.2.2.1, hmu.2.2.2.1, hmu.2.2.2.2.1, hmu.2.2.2.2.2.1, hmu.2.2.2.2.2.2.1, hmu.2.2.2.2.2.2.2.1, hmu.2.2.2.2.2.2.2.2.1, hmu.2.2.2.2.2.2.2.2.2.1, hmu.2.2.2.2.2.2.2.2.2.2.1, hmu.2.2.2.2.2.2.2.2.2.2.2.1, hmu.2.2.2.2.2.2.2.2.2.2.2.2.1, hmu.2.2.2.2.2.2.2.2.2.2.2.2.2.1, hmu.2.2.2.2.2.2.2.2.2.2.2.2.2.2.1, hmu.2.2.2.2.2.2.2.2.2.2.2.2.2.2.2.1, hmu.2.2.2.2.2.2.2.2.2.2.2.2.2.2.2.2.1, hmu.2.2.2.2.2.2.2.2.2.2.2.2.2.2.2.2.2.1, hmu.2.2.2.2.2.2.2.2.2.2.2.2.2.2.2.2.2.2.1, hmu.2.2.2.2.2.2.2.2.2.2.2.2.2.2.2.2.2.2.2.1, hmu.2.2.2.2.2.2.2.2.2.2.2.2.2.2.2.2.2.2.2.2.1, hmu.2.2.2.2.2.2.2.2.2.2.2.2.2.2.2.2.2.2.2.2.2.1, hmu.2.2.2.2.2.2.2.2.2.2.2.2.2.2.2.2.2.2.2.2.2.2.1, hmu.2.2.2.2.2.2.2.2.2.2.2.2.2.2.2.2.2.2.2.2.2.2.2.1, hmu.2.2.2.2.2.2.2.2.2.2.2.2.2.2.2.2.2.2.2.2.2.2.2.2, r1, r2, lN_mul, lgc_lt, c]
    by_cases q : (rv k).1 * (rv b).2 < (rv b).1 * (rv k).2
    · have es : wrS rv k b = k := if_pos q
      rw [es] at go
      rw [if_pos q]
      simp only [eX9_worst_61, eX9_worst_63, eX9_worst_64, eX9_worst_65, eX9_worst_68, eX9_worst_69, eX9_worst_70, eX9_worst_73, eX9_worst_75, cont_some, tl_some, tl_none, csum_nil, csum_i, csum_r, csum_j, isc2_i, isc2_r, isc2_n, va_rf_s, vfn_ite, true_and, and_true, true_or, or_true, eq_self, Bool.false_eq_true, not_false_eq_true, not_true_eq_false, if_true, if_false, Nat.reduceAdd, Nat.reduceLeDiff, reduceIte, hmu.1, hmu.2.1, hmu.2.2.1, hmu.2.2.2.1, hmu.2.2.2.2.1, hmu.2.2.2.2.2.1, hmu.2.2.2.2.2.2.1, hmu.2.2.2.2.2.2.2.1, hmu.2.2.2.2.2.2.2.2.1, hmu.2.2.2.2.2.2.2.2.2.1, hmu.2.2.2.2.2.2.2.2.2.2.1, hmu.2.2.2.2.2.2.2.2.2.2.2.1, hmu.2.2.2.2.2.2.2.2.2.2.2.2.1, hmu.2.2.2.2.2.2.2.2.2.2.2.2.2.1, hmu.2.2.2.2.2.2.2.2.2.2.2.2.2.2.1, hmu.2.2.2.2.2.2.2.2.2.2.2.2.2.2.2.1, hmu.2.2.2.2.2.2.2.2.2.2.2.2.2.2.2.2.1, hmu.2.2.2.2.2.2.2.2.2.2.2.2.2.2.2.2.2.1, hmu.2.2.2.2.2.2.2.2.2.2.2.2.2.2.2.2.2.2.1, hmu.2.2.2.2.2.2.2.2.2.2.2.2.2.2.2.2.2.2.2.1, hmu.2.2.2.2.2.2.2.2.2.2.2.2.2.2.2.2.2.2.2.2.1, hmu.2.2.2.2.2.2.2.2.2.2.2.2.2.2.2.2.2.2.2.2.2.1, hmu.2.2.2.2.2.2.2.2.2.2.2.2.2.2.2.2.2.2.2.2.2.2.1, hmu.2.2.2.2.2.2.2.2.2.2.2.2.2.2.2.2.2.2.2.2.2.2.2.1, hmu.2.2.2.2.2.2.2.2.2.2.2.2.2.2.2.2.2.2.2.2.2.2.2.2, r1, r2, nI_1]
      rw [eX9_worst_78]
      show wp _ _ _ _ _ (fun r u => r = some (.int (nI (wrF rv e (k + 1) (wrS rv k b)))) ∧ FrX (Xj o) w0 u)
      rw [es]
      exact go
    · have es : wrS rv k b = b := if_neg q
      rw [es] at go
      rw [if_neg q]
      simp only [eX9_worst_75, cont_some, tl_some, tl_none, csum_nil, csum_i, csum_r, csum_j, isc2_i, isc2_r, isc2_n, va_rf_s, vfn_ite, true_and, and_true, true_or, or_true, eq_self, Bool.false_eq_true, not_false_eq_true, not_true_eq_false, if_true, if_false, Nat.reduceAdd, Nat.reduceLeDiff, reduceIte, nI_1]
      rw [eX9_worst_78]
      show wp _ _ _ _ _ (fun r u => r = some (.int (nI (wrF rv e (k + 1) (wrS rv k b)))) ∧ FrX (Xj o) w0 u)
      rw [es]
      exact go
theorem m_worst {w : Wd} {o n j : Nat} {C : Nat → Int32} {rv : Nat → Nat × Nat} (h : MB w o n C) (hb : bdC n C) (hj : j < 4) (hrv : ∀ k, k < n → rv k = (frA (wdA n (2 ^ n - 1 - 2 ^ k) (qZ j C)) (jdS j n (2 ^ n - 1 - 2 ^ k) C), frB (wdA n (2 ^ n - 1 - 2 ^ k) (qZ j C)) (jdS j n (2 ^ n - 1 - 2 ^ k) C))) (ho : ∀ k, k < n → fOK (rv k)) : ∃ u, fX9_worst [.ref o, .int (nI j)] w = some (some (.int (if n = 0 then -4 else nI (wrF rv (n - 1) 1 0))), u) ∧ FrX (Xj o) w u := by
  have hm := h.1
  have i0 : inA 0 33 = true := by decide
  have h10 := h.2.2.1
  by_cases q : n = 0
  · subst q
    refine ⟨w, ?_, FrX.rf⟩
    have l : ¬ (0 : Int32) < nI 0 := by decide
    refine sem_eq (Nat.le_of_ble_eq_true rfl) ?_
    show wp mX9_worst 0 [some (.ref o), some (.int (nI j)), none, none, none, none, none, none] [] _ _
    simp only [eX9_worst_0, eX9_worst_2, eX9_worst_3, eX9_worst_4, eX9_worst_5, eX9_worst_6, eX9_worst_8, eX9_worst_9, eX9_worst_11, eX9_worst_13, eX9_worst_14, eX9_worst_17, eX9_worst_18, eX9_worst_19, eX9_worst_81, eX9_worst_82, cont_some, tl_some, tl_none, csum_nil, csum_i, csum_r, csum_j, isc2_i, isc2_r, isc2_n, va_rf_s, vfn_ite, true_and, and_true, true_or, or_true, eq_self, Bool.false_eq_true, not_false_eq_true, not_true_eq_false, if_true, if_false, Nat.reduceAdd, Nat.reduceLeDiff, reduceIte, hm.1, hm.2.1, hm.2.2.1, hm.2.2.2.1, hm.2.2.2.2.1, hm.2.2.2.2.2.1, hm.2.2.2.2.2.2.1, hm.2.2.2.2.2.2.2.1, hm.2.2.2.2.2.2.2.2.1, hm.2.2.2.2.2.2.2.2.2.1, hm.2.2.2.2.2.2.2.2.2.2.1, hm.2.2.2.2.2.2.2.2.2.2.2.1, hm.2.2.2.2.2.2.2.2.2.2.2.2.1, hm.2.2.2.2.2.2.2.2.2.2.2.2.2.1, hm.2.2.2.2.2.2.2.2.2.2.2.2.2.2.1, hm.2.2.2.2.2.2.2.2.2.2.2.2.2.2.2.1, hm.2.2.2.2.2.2.2.2.2.2.2.2.2.2.2.2.1, hm.2.2.2.2.2.2.2.2.2.2.2.2.2.2.2.2.2.1, hm.2.2.2.2.2.2.2.2.2.2.2.2.2.2.2.2.2.2.1, hm.2.2.2.2.2.2.2.2.2.2.2.2.2.2.2.2.2.2.2.1, hm.2.2.2.2.2.2.2.2.2.2.2.2.2.2.2.2.2.2.2.2.1, hm.2.2.2.2.2.2.2.2.2.2.2.2.2.2.2.2.2.2.2.2.2.1, hm.2.2.2.2.2.2.2.2.2.2.2.2.2.2.2.2.2.2.2.2.2.2.1, hm.2.2.2.2.2.2.2.2.2.2.2.2.2.2.2.2.2.2.2.2.2.2.2.1, hm.2.2.2.2.2.2.2.2.2.2.2.2.2.2.2.2.2.2.2.2.2.2.2.2, i0, cl0, h.2.1, l]
  · have hp := pw_lt h10
    have l : (0 : Int32) < nI n := nI_lt (a := 0) (by omega) (by omega)
    have hmn : ∀ i, i < 10 → bt (2 ^ n - 1 - 2 ^ 0) i → i < n := fun i hi hb' => ((btW n h10 0 (by omega) i hi).mp hb').1
    obtain ⟨u, k1, k2, k3⟩ := m_judges h hb hj (show 2 ^ n - 1 - 2 ^ 0 < 2 ^ 31 by omega) hmn
    have hu := h.frX k3
    have hmu := hu.1
    have r1 : rdJ u o 12 = lN (rv 0).1 := by rw [hrv 0 (by omega)]; exact k2.1
    have r2 : rdJ u o 13 = lN (rv 0).2 := by rw [hrv 0 (by omega)]; exact k2.2.1
    have wt : nI (2 ^ n - 1) &&& (((1 : Int32) <<< ((0 : Int32) &&& 31)) ^^^ (-1)) = nI (2 ^ n - 1 - 2 ^ 0) := wtN n h10 0 (by omega)
    have hh : wp mX9_worst 0 [some (.ref o), some (.int (nI j)), none, none, none, none, none, none] [] w (fun r u => r = some (.int (nI (wrF rv (n - 1) 1 0))) ∧ FrX (Xj o) w u) := by
      simp only [eX9_worst_0, eX9_worst_2, eX9_worst_3, eX9_worst_4, eX9_worst_5, eX9_worst_6, eX9_worst_8, eX9_worst_9, eX9_worst_11, eX9_worst_13, eX9_worst_14, eX9_worst_17, eX9_worst_18, eX9_worst_19, eX9_worst_22, eX9_worst_23, eX9_worst_24, eX9_worst_25, eX9_worst_28, eX9_worst_29, eX9_worst_31, eX9_worst_32, eX9_worst_33, eX9_worst_34, eX9_worst_35, cont_some, tl_some, tl_none, csum_nil, csum_i, csum_r, csum_j, isc2_i, isc2_r, isc2_n, va_rf_s, vfn_ite, true_and, and_true, true_or, or_true, eq_self, Bool.false_eq_true, not_false_eq_true, not_true_eq_false, if_true, if_false, Nat.reduceAdd, Nat.reduceLeDiff, reduceIte, hm.1, hm.2.1, hm.2.2.1, hm.2.2.2.1, hm.2.2.2.2.1, hm.2.2.2.2.2.1, hm.2.2.2.2.2.2.1, hm.2.2.2.2.2.2.2.1, hm.2.2.2.2.2.2.2.2.1, hm.2.2.2.2.2.2.2.2.2.1, hm.2.2.2.2.2.2.2.2.2.2.1, hm.2.2.2.2.2.2.2.2.2.2.2.1, hm.2.2.2.2.2.2.2.2.2.2.2.2.1, hm.2.2.2.2.2.2.2.2.2.2.2.2.2.1, hm.2.2.2.2.2.2.2.2.2.2.2.2.2.2.1, hm.2.2.2.2.2.2.2.2.2.2.2.2.2.2.2.1, hm.2.2.2.2.2.2.2.2.2.2.2.2.2.2.2.2.1, hm.2.2.2.2.2.2.2.2.2.2.2.2.2.2.2.2.2.1, hm.2.2.2.2.2.2.2.2.2.2.2.2.2.2.2.2.2.2.1, hm.2.2.2.2.2.2.2.2.2.2.2.2.2.2.2.2.2.2.2.1, hm.2.2.2.2.2.2.2.2.2.2.2.2.2.2.2.2.2.2.2.2.1, hm.2.2.2.2.2.2.2.2.2.2.2.2.2.2.2.2.2.2.2.2.2.1, hm.2.2.2.2.2.2.2.2.2.2.2.2.2.2.2.2.2.2.2.2.2.2.1, hm.2.2.2.2.2.2.2.2.2.2.2.2.2.2.2.2.2.2.2.2.2.2.2.1, hm.2.2.2.2.2.2.2.2.2.2.2.2.2.2.2.2.2.2.2.2.2.2.2.2, i0, cl0, h.2.1, l, m_every h, wt, k1]
      simp only [eX9_worst_38, eX9_worst_39, eX9_worst_41, cont_some, tl_some, tl_none, csum_nil, csum_i, csum_r, csum_j, isc2_i, isc2_r, isc2_n, va_rf_s, vfn_ite, true_and, and_true, true_or, or_true, eq_self, Bool.false_eq_true, not_false_eq_true, not_true_eq_false, if_true, if_false, Nat.reduceAdd, Nat.reduceLeDiff, reduceIte]
      simp only [eX9_worst_61, eX9_worst_63, eX9_worst_64, eX9_worst_65, eX9_worst_68, eX9_worst_69, eX9_worst_70, eX9_worst_73, eX9_worst_75, cont_some, tl_some, tl_none, csum_nil, csum_i, csum_r, csum_j, isc2_i, isc2_r, isc2_n, va_rf_s, vfn_ite, true_and, and_true, true_or, or_true, eq_self, Bool.false_eq_true, not_false_eq_true, not_true_eq_false, if_true, if_false, Nat.reduceAdd, Nat.reduceLeDiff, reduceIte, hmu.1, hmu.2.1, hmu.2.2.1, hmu.2.2.2.1, hmu.2.2.2.2.1, hmu.2.2.2.2.2.1, hmu.2.2.2.2.2.2.1, hmu.2.2.2.2.2.2.2.1, hmu.2.2.2.2.2.2.2.2.1, hmu.2.2.2.2.2.2.2.2.2.1, hmu.2.2.2.2.2.2.2.2.2.2.1, hmu.2.2.2.2.2.2.2.2.2.2.2.1, hmu.2.2.2.2.2.2.2.2.2.2.2.2.1, hmu.2.2.2.2.2.2.2.2.2.2.2.2.2.1, hmu.2.2.2.2.2.2.2.2.2.2.2.2.2.2.1, hmu.2.2.2.2.2.2.2.2.2.2.2.2.2.2.2.1, hmu.2.2.2.2.2.2.2.2.2.2.2.2.2.2.2.2.1, hmu.2.2.2.2.2.2.2.2.2.2.2.2.2.2.2.2.2.1, hmu.2.2.2.2.2.2.2.2.2.2.2.2.2.2.2.2.2.2.1, hmu.2.2.2.2.2.2.2.2.2.2.2.2.2.2.2.2.2.2.2.1, hmu.2.2.2.2.2.2.2.2.2.2.2.2.2.2.2.2.2.2.2.2.1, hmu.2.2.2.2.2.2.2.2.2.2.2.2.2.2.2.2.2.2.2.2.2.1, hmu.2.2.2.2.2.2.2.2.2.2.2.2.2.2.2.2.2.2.2.2.2.2.1, hmu.2.2.2.2.2.2.2.2.2.2.2.2.2.2.2.2.2.2.2.2.2.2.2.1, hmu.2.2.2.2.2.2.2.2.2.2.2.2.2.2.2.2.2.2.2.2.2.2.2.2, r1, r2]
      rw [eX9_worst_78]
      exact lo_mworst hb hj hrv ho (n - 1) 1 0 u (by omega) hu (by omega) k3
    obtain ⟨r, v, g1, rfl, g2⟩ := sem_wp (nL := 8) (as := [.ref o, .int (nI j)]) (Nat.le_of_ble_eq_true rfl) hh
    refine ⟨v, ?_, g2⟩
    rw [if_neg q]
    exact g1
