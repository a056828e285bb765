/-! Scene: the cell at sc, its row behind it -/
abbrev isSc (w : Wd) (sc : Nat) : Prop := shp w sc = (4, 0) ∧ rdR w sc 0 = some (sc + 1) ∧ shp w (sc + 1) = (10, 30)
theorem nI_m3 (k : Nat) : nI k * 3 = nI (3 * k) := by rw [Nat.mul_comm]; exact pk_mul k 3
theorem nI_a (a b : Nat) : nI a + nI b = nI (a + b) := nI_add a b
theorem nI_p0 : (0 : Int32) = nI 0 := rfl
theorem nI_p1 : (1 : Int32) = nI 1 := rfl
theorem nI_p2 : (2 : Int32) = nI 2 := rfl
theorem nI_p3 : (3 : Int32) = nI 3 := rfl
theorem nI_p10 : (10 : Int32) = nI 10 := rfl
theorem nI_p6 : (6 : Int32) = nI 6 := rfl
theorem s_coordinate {w : Wd} {sc k j : Nat} (h : isSc w sc) (hk : 3 * k + j < 30) : fX4_coordinate [.ref sc, .int (nI k), .int (nI j)] w = some (some (.int (rdI w (sc + 1) (3 * k + j))), w) := by
  refine sem_eq (Nat.le_of_ble_eq_true rfl) ?_
  show wp mX4_coordinate 0 [some (.ref sc), some (.int (nI k)), some (.int (nI j))] [] _ _
  simp only [eX4_coordinate_0, eX4_coordinate_1, eX4_coordinate_4, eX4_coordinate_5, eX4_coordinate_6, eX4_coordinate_7, eX4_coordinate_8, eX4_coordinate_9, eX4_coordinate_10, cont_some, tl_some, tl_none, csum_nil, csum_i, csum_r, csum_j, isc2_i, isc2_r, isc2_n, va_rf_s, vfn_ite, true_and, and_true, true_or, or_true, eq_self, Bool.false_eq_true, not_false_eq_true, not_true_eq_false, if_true, if_false, Nat.reduceAdd, Nat.reduceLeDiff, reduceIte, h.1, h.2.1, h.2.2, nI_m3, nI_a, inA_nI hk (by omega), nI_clamp (show 3 * k + j < 2 ^ 31 by omega)]
theorem s_place {w : Wd} {sc k j : Nat} {v : Int32} (h : isSc w sc) (hk : 3 * k + j < 30) : fX4_place [.ref sc, .int (nI k), .int (nI j), .int v] w = some (none, wrI w (sc + 1) (3 * k + j) v) := by
  refine sem_eq (Nat.le_of_ble_eq_true rfl) ?_
  show wp mX4_place 0 [some (.ref sc), some (.int (nI k)), some (.int (nI j)), some (.int v)] [] _ _
  simp only [eX4_place_0, eX4_place_1, eX4_place_4, eX4_place_5, eX4_place_6, eX4_place_7, eX4_place_8, eX4_place_9, eX4_place_10, eX4_place_11, cont_some, tl_some, tl_none, csum_nil, csum_i, csum_r, csum_j, isc2_i, isc2_r, isc2_n, va_rf_s, vfn_ite, true_and, and_true, true_or, or_true, eq_self, Bool.false_eq_true, not_false_eq_true, not_true_eq_false, if_true, if_false, Nat.reduceAdd, Nat.reduceLeDiff, reduceIte, h.1, h.2.1, h.2.2, nI_m3, nI_a, inA_nI hk (by omega), nI_clamp (show 3 * k + j < 2 ^ 31 by omega)]
theorem s_sc_clear {w : Wd} {sc : Nat} (h : isSc w sc) : fX4_clear [.ref sc] w = some (none, wrI w sc 1 0) := by
  refine sem_eq (Nat.le_of_ble_eq_true rfl) ?_
  show wp mX4_clear 0 [some (.ref sc)] [] _ _
  simp only [eX4_clear_0, eX4_clear_1, eX4_clear_2, eX4_clear_5, cont_some, tl_some, tl_none, csum_nil, csum_i, csum_r, csum_j, isc2_i, isc2_r, isc2_n, va_rf_s, vfn_ite, true_and, and_true, true_or, or_true, eq_self, Bool.false_eq_true, not_false_eq_true, not_true_eq_false, if_true, if_false, Nat.reduceAdd, Nat.reduceLeDiff, reduceIte, h.1]
/-- a place more -/
def apW (w : Wd) (sc n : Nat) (x y z : Int32) : Wd := wrI (wrI (wrI (wrI w (sc + 1) (3 * n) x) (sc + 1) (3 * n + 1) y) (sc + 1) (3 * n + 2) z) sc 1 (nI (n + 1))
theorem s_sc_append {w : Wd} {sc n : Nat} {x y z : Int32} (h : isSc w sc) (hn : rdI w sc 1 = nI n) (h10 : n < 10) : fX4_append [.ref sc, .int x, .int y, .int z] w = some (none, apW w sc n x y z) := by
  have hlt : nI n < 10 := nI_lt (b := 10) h10 (by decide)
  have hne : sc ≠ sc + 1 := by omega
  have p0 : ∀ u : Wd, isSc u sc → fX4_place [.ref sc, .int (nI n), .int 0, .int x] u = some (none, wrI u (sc + 1) (3 * n) x) := fun u hu => s_place (j := 0) hu (by omega)
  have p1 : ∀ u : Wd, isSc u sc → fX4_place [.ref sc, .int (nI n), .int 1, .int y] u = some (none, wrI u (sc + 1) (3 * n + 1) y) := fun u hu => s_place (j := 1) hu (by omega)
  have p2 : ∀ u : Wd, isSc u sc → fX4_place [.ref sc, .int (nI n), .int 2, .int z] u = some (none, wrI u (sc + 1) (3 * n + 2) z) := fun u hu => s_place (j := 2) hu (by omega)
  refine sem_eq (Nat.le_of_ble_eq_true rfl) ?_
  show wp mX4_append 0 [some (.ref sc), some (.int x), some (.int y), some (.int z)] [] _ _
  simp only [eX4_append_0, eX4_append_1, eX4_append_4, eX4_append_6, eX4_append_9, eX4_append_10, eX4_append_11, eX4_append_14, eX4_append_15, eX4_append_16, eX4_append_19, eX4_append_20, eX4_append_21, eX4_append_24, eX4_append_25, eX4_append_26, eX4_append_29, eX4_append_30, eX4_append_31, eX4_append_34, eX4_append_35, eX4_append_36, eX4_append_39, eX4_append_40, eX4_append_40i, eX4_append_41, eX4_append_44, eX4_append_45, eX4_append_46, eX4_append_49, cont_some, tl_some, tl_none, csum_nil, csum_i, csum_r, csum_j, isc2_i, isc2_r, isc2_n, va_rf_s, vfn_ite, true_and, and_true, true_or, or_true, eq_self, Bool.false_eq_true, not_false_eq_true, not_true_eq_false, if_true, if_false, Nat.reduceAdd, Nat.reduceLeDiff, reduceIte, h.1, hn, hlt, shp_wrI, p0 w h]
  simp only [eX4_append_0, eX4_append_1, eX4_append_4, eX4_append_6, eX4_append_9, eX4_append_10, eX4_append_11, eX4_append_14, eX4_append_15, eX4_append_16, eX4_append_19, eX4_append_20, eX4_append_21, eX4_append_24, eX4_append_25, eX4_append_26, eX4_append_29, eX4_append_30, eX4_append_31, eX4_append_34, eX4_append_35, eX4_append_36, eX4_append_39, eX4_append_40, eX4_append_40i, eX4_append_41, eX4_append_44, eX4_append_45, eX4_append_46, eX4_append_49, cont_some, tl_some, tl_none, csum_nil, csum_i, csum_r, csum_j, isc2_i, isc2_r, isc2_n, va_rf_s, vfn_ite, true_and, and_true, true_or, or_true, eq_self, Bool.false_eq_true, not_false_eq_true, not_true_eq_false, if_true, if_false, Nat.reduceAdd, Nat.reduceLeDiff, reduceIte, h.1, hn, shp_wrI, rdI_wrI, hne, false_and, p1 (wrI w (sc + 1) (3 * n) x) h]
  simp only [eX4_append_0, eX4_append_1, eX4_append_4, eX4_append_6, eX4_append_9, eX4_append_10, eX4_append_11, eX4_append_14, eX4_append_15, eX4_append_16, eX4_append_19, eX4_append_20, eX4_append_21, eX4_append_24, eX4_append_25, eX4_append_26, eX4_append_29, eX4_append_30, eX4_append_31, eX4_append_34, eX4_append_35, eX4_append_36, eX4_append_39, eX4_append_40, eX4_append_40i, eX4_append_41, eX4_append_44, eX4_append_45, eX4_append_46, eX4_append_49, cont_some, tl_some, tl_none, csum_nil, csum_i, csum_r, csum_j, isc2_i, isc2_r, isc2_n, va_rf_s, vfn_ite, true_and, and_true, true_or, or_true, eq_self, Bool.false_eq_true, not_false_eq_true, not_true_eq_false, if_true, if_false, Nat.reduceAdd, Nat.reduceLeDiff, reduceIte, h.1, hn, shp_wrI, rdI_wrI, hne, false_and, p2 (wrI (wrI w (sc + 1) (3 * n) x) (sc + 1) (3 * n + 1) y) h, nI_1]
  rfl
/-- whether one of d places from k on is there -/
def hasF (C : Nat → Int32) (x y z : Int32) : Nat → Nat → Bool
  | 0, _ => false
  | d + 1, k => decide (C (3 * k) = x ∧ C (3 * k + 1) = y ∧ C (3 * k + 2) = z) || hasF C x y z d (k + 1)
theorem hasF_congr {C C' : Nat → Int32} {x y z : Int32} : ∀ (d k : Nat), (∀ i, i < 3 * (k + d) → C i = C' i) → hasF C x y z d k = hasF C' x y z d k := by
  intro d
  induction d with
  | zero => intro k _; rfl
  | succ d ih =>
    intro k h
    unfold hasF
    rw [h _ (by omega), h _ (by omega), h _ (by omega), ih (k + 1) (fun i hi => h i (by omega))]
theorem lo_holds {w : Wd} {sc n : Nat} {x y z : Int32} {Q : Option Value → Wd → Prop} (h : isSc w sc) (hn : rdI w sc 1 = nI n) (h10 : n ≤ 10) : ∀ (d k : Nat), k + d = n → Q (some (.int (b2i (hasF (rdI w (sc + 1)) x y z d k = true)))) w →
    wp mX4_holds 3 [some (.ref sc), some (.int x), some (.int y), some (.int z), some (.int (nI k))] [] w Q := by
  intro d
  induction d with
  | zero =>
    intro k hk hQ
    have h1 : ¬ nI k < nI n := nI_nlt (by omega) (by omega)
    simp only [eX4_holds_3, eX4_holds_5, eX4_holds_6, eX4_holds_9, eX4_holds_53, eX4_holds_54, cont_some, tl_some, tl_none, csum_nil, csum_i, csum_r, csum_j, isc2_i, isc2_r, isc2_n, va_rf_s, vfn_ite, true_and, and_true, true_or, or_true, eq_self, Bool.false_eq_true, not_false_eq_true, not_true_eq_false, if_true, if_false, Nat.reduceAdd, Nat.reduceLeDiff, reduceIte, h.1, hn, h1]
    exact hQ
  | succ d ih =>
    intro k hk hQ
    have h1 : nI k < nI n := nI_lt (by omega) (by omega)
    have c0 : fX4_coordinate [.ref sc, .int (nI k), .int (nI 0)] w = some (some (.int (rdI w (sc + 1) (3 * k))), w) := s_coordinate (k := k) (j := 0) h (by omega)
    have c1 := s_coordinate (k := k) (j := 1) h (by omega)
    have c2 := s_coordinate (k := k) (j := 2) h (by omega)
    simp only [eX4_holds_3, eX4_holds_5, eX4_holds_6, eX4_holds_9, eX4_holds_12, eX4_holds_13, eX4_holds_15, eX4_holds_16, eX4_holds_19, eX4_holds_20, eX4_holds_23, eX4_holds_24, eX4_holds_26, eX4_holds_27, eX4_holds_30, eX4_holds_31, eX4_holds_34, eX4_holds_35, eX4_holds_37, eX4_holds_38, eX4_holds_41, eX4_holds_42, eX4_holds_45, eX4_holds_46, eX4_holds_47, cont_some, tl_some, tl_none, csum_nil, csum_i, csum_r, csum_j, isc2_i, isc2_r, isc2_n, va_rf_s, vfn_ite, true_and, and_true, true_or, or_true, eq_self, Bool.false_eq_true, not_false_eq_true, not_true_eq_false, if_true, if_false, Nat.reduceAdd, Nat.reduceLeDiff, reduceIte, h.1, hn, h1, nI_p0, nI_p1, nI_p2, c0, c1, c2]
    unfold hasF at hQ
    by_cases q0 : rdI w (sc + 1) (3 * k) = x
    · by_cases q1 : rdI w (sc + 1) (3 * k + 1) = y
      · by_cases q2 : rdI w (sc + 1) (3 * k + 2) = z
        · simp only [q0, q1, q2, if_true]
          rw [b2i_t (by simp [q0, q1, q2])] at hQ
          exact hQ
        · simp only [q0, q1, q2, if_true, if_false]
          rw [nI_a, eX4_holds_50]
          exact ih (k + 1) (by omega) (by simpa [q0, q1, q2] using hQ)
      · simp only [q0, q1, if_true, if_false]
        rw [nI_a, eX4_holds_50]
        exact ih (k + 1) (by omega) (by simpa [q0, q1] using hQ)
    · simp only [q0, if_false]
      rw [nI_a, eX4_holds_50]
      exact ih (k + 1) (by omega) (by simpa [q0] using hQ)
theorem s_holds {w : Wd} {sc n : Nat} {x y z : Int32} (h : isSc w sc) (hn : rdI w sc 1 = nI n) (h10 : n ≤ 10) : fX4_holds [.ref sc, .int x, .int y, .int z] w = some (some (.int (b2i (hasF (rdI w (sc + 1)) x y z n 0 = true))), w) := by
  refine sem_eq (Nat.le_of_ble_eq_true rfl) ?_
  show wp mX4_holds 0 [some (.ref sc), some (.int x), some (.int y), some (.int z), none] [] _ _
  simp only [eX4_holds_0, eX4_holds_1, cont_some, tl_some, tl_none, csum_nil, csum_i, csum_r, csum_j, isc2_i, isc2_r, isc2_n, va_rf_s, vfn_ite, true_and, and_true, true_or, or_true, eq_self, Bool.false_eq_true, not_false_eq_true, not_true_eq_false, if_true, if_false, Nat.reduceAdd, Nat.reduceLeDiff, reduceIte]
  exact lo_holds h hn h10 n 0 (by omega) ⟨rfl, rfl⟩
/-- whether place k may go to v by an axis -/
def freeB (C : Nat → Int32) (n k : Nat) (a v : Int32) : Bool := !hasF C (if a = 0 then v else C (3 * k)) (if a = 1 then v else C (3 * k + 1)) (if a = 2 then v else C (3 * k + 2)) n 0
theorem s_isFree {w : Wd} {sc n k : Nat} {a v : Int32} (h : isSc w sc) (hn : rdI w sc 1 = nI n) (h10 : n ≤ 10) (hk : k < n) : fX4_isFree [.ref sc, .int (nI k), .int a, .int v] w = some (some (.int (b2i (freeB (rdI w (sc + 1)) n k a v = true))), w) := by
  have c0 : fX4_coordinate [.ref sc, .int (nI k), .int (nI 0)] w = some (some (.int (rdI w (sc + 1) (3 * k))), w) := s_coordinate (k := k) (j := 0) h (by omega)
  have c1 := s_coordinate (k := k) (j := 1) h (by omega)
  have c2 := s_coordinate (k := k) (j := 2) h (by omega)
  have c0' : fX4_coordinate [.ref sc, .int (nI k), .int 0] w = _ := c0
  have c1' : fX4_coordinate [.ref sc, .int (nI k), .int 1] w = _ := c1
  have c2' : fX4_coordinate [.ref sc, .int (nI k), .int 2] w = _ := c2
  have fin_ : ∀ x y z : Int32, wp mX4_isFree 50 [some (.ref sc), some (.int (nI k)), some (.int a), some (.int v), some (.int x), some (.int y), some (.int z)] [] w (fun r1 w1 => r1 = some (.int (b2i ((!hasF (rdI w (sc + 1)) x y z n 0) = true))) ∧ w1 = w) := by
    intro x y z
    simp only [eX4_isFree_50, eX4_isFree_51, eX4_isFree_53, eX4_isFree_55, eX4_isFree_57, eX4_isFree_60, eX4_isFree_63, eX4_isFree_64, eX4_isFree_67, eX4_isFree_68, cont_some, tl_some, tl_none, csum_nil, csum_i, csum_r, csum_j, isc2_i, isc2_r, isc2_n, va_rf_s, vfn_ite, true_and, and_true, true_or, or_true, eq_self, Bool.false_eq_true, not_false_eq_true, not_true_eq_false, if_true, if_false, Nat.reduceAdd, Nat.reduceLeDiff, reduceIte, h.1, s_holds h hn h10, b2i_0]
    by_cases q : hasF (rdI w (sc + 1)) x y z n 0 = true <;> simp [q, b2i]
  refine sem_eq (Nat.le_of_ble_eq_true rfl) ?_
  show wp mX4_isFree 0 [some (.ref sc), some (.int (nI k)), some (.int a), some (.int v), none, none, none] [] _ _
  unfold freeB
  simp only [eX4_isFree_0, eX4_isFree_1, eX4_isFree_4, eX4_isFree_5, eX4_isFree_8, eX4_isFree_9, eX4_isFree_10, eX4_isFree_11, eX4_isFree_14, eX4_isFree_16, eX4_isFree_17, eX4_isFree_18, eX4_isFree_21, eX4_isFree_22, eX4_isFree_25, eX4_isFree_26, eX4_isFree_27, eX4_isFree_28, eX4_isFree_31, eX4_isFree_33, eX4_isFree_34, eX4_isFree_35, eX4_isFree_38, eX4_isFree_39, eX4_isFree_42, eX4_isFree_43, eX4_isFree_44, eX4_isFree_45, eX4_isFree_48, cont_some, tl_some, tl_none, csum_nil, csum_i, csum_r, csum_j, isc2_i, isc2_r, isc2_n, va_rf_s, vfn_ite, true_and, and_true, true_or, or_true, eq_self, Bool.false_eq_true, not_false_eq_true, not_true_eq_false, if_true, if_false, Nat.reduceAdd, Nat.reduceLeDiff, reduceIte, h.1, c0', c1', c2']
  by_cases q0 : a = 0 <;> by_cases q1 : a = 1 <;> by_cases q2 : a = 2 <;> simp only [q0, q1, q2, if_true, if_false] at * <;> exact fin_ _ _ _
