/-! sheets -/
abbrev Sht : Type := (Nat → Option (Nat × Nat)) × (Nat → Nat → Int64)
abbrev isRw (w : Wd) (r : Nat) : Prop := shp w r = (3, 0) ∧ rdR w r 0 = some (r + 1) ∧ rdR w r 1 = some (r + 6) ∧ rdR w r 2 = some (r + 7) ∧ shp w (r + 1) = (17, 4) ∧ shp w (r + 6) = (10, 4) ∧ shp w (r + 7) = (10, 4) ∧ ∀ k, k < 4 → rdR w (r + 1) k = some (r + 2 + k) ∧ shp w (r + 2 + k) = (11, 24)
def CSk (w : Wd) (r k : Nat) (h : Sht) : Prop := (match h.1 k with
  | none => rdI w (r + 6) k = -1
  | some (l, n) => l < 4 ∧ n ≤ 24 ∧ rdI w (r + 6) k = nI l ∧ rdI w (r + 7) k = nI n) ∧ ∀ i, i < 24 → rdJ w (r + 2 + k) i = h.2 k i
def CS (w : Wd) (r : Nat) (h : Sht) : Prop := isRw w r ∧ ∀ k, k < 4 → CSk w r k h
def MSk (w : Wd) (o k : Nat) (h : Sht) : Prop := (match h.1 k with
  | none => rdI w (o + 6) k = -4
  | some (l, n) => l < 4 ∧ n ≤ 24 ∧ rdI w (o + 5) k = nI l ∧ rdI w (o + 6) k = nI n) ∧ ∀ i, i < 24 → rdJ w (o + 7) (24 * k + i) = h.2 k i
def MS (w : Wd) (o : Nat) (h : Sht) : Prop := isMd w o ∧ ∀ k, k < 4 → MSk w o k h
theorem sh_iff {a : Int32} : 0 ≤ a ∧ a ≤ 3 ↔ ∃ j, j < 4 ∧ a = nI j := by
  constructor
  · rintro ⟨h1, h2⟩
    obtain ⟨j, hj, rfl⟩ := nI_of2 (M := 3) (n := 3) (by decide) (Int32.not_lt.mpr h1) h2
    exact ⟨j, by omega, rfl⟩
  · rintro ⟨j, hj, rfl⟩
    have : j = 0 ∨ j = 1 ∨ j = 2 ∨ j = 3 := by omega
    rcases this with rfl | rfl | rfl | rfl <;> decide
def okIx (len : Nat) (i n : Int32) : Prop := 0 ≤ i.toInt ∧ 0 ≤ n.toInt ∧ i.toInt + n.toInt ≤ len
theorem lt0 {x : Int32} : x < 0 ↔ x.toInt < 0 := Int32.lt_iff_toInt_lt
theorem nI_T {n : Nat} (h : n ≤ 96) : (nI n).toInt = (n : Int) := nI_toInt (by omega)
theorem s_lacks {w : Wd} {r k len : Nat} {i n : Int32} (h : isRw w r) (hk : k < 4) (hl : rdI w (r + 7) k = nI len) (h24 : len ≤ 24) : ∃ x : Int32, fX3_lacks [.ref r, .int (nI k), .int i, .int n] w = some (some (.int x), w) ∧ (x = 0 ∨ x = 1) ∧ (x = 0 ↔ okIx len i n) := by
  have key : ∀ x : Int32, (x = if n < 0 then 1 else if i < 0 then 1 else if nI len - n < i then 1 else 0) → (x = 0 ∨ x = 1) ∧ (x = 0 ↔ okIx len i n) := by
    intro x hx
    unfold okIx
    by_cases q1 : n < 0
    · rw [if_pos q1] at hx
      have := lt0.mp q1
      exact ⟨Or.inr hx, by rw [hx]; constructor <;> intro z <;> first | exact absurd z (by decide) | omega⟩
    · rw [if_neg q1] at hx
      by_cases q2 : i < 0
      · rw [if_pos q2] at hx
        have := lt0.mp q2
        exact ⟨Or.inr hx, by rw [hx]; constructor <;> intro z <;> first | exact absurd z (by decide) | omega⟩
      · rw [if_neg q2] at hx
        have e1 : ¬ n.toInt < 0 := fun z => q1 (lt0.mpr z)
        have e2 : ¬ i.toInt < 0 := fun z => q2 (lt0.mpr z)
        have e3 : (nI len - n).toInt = (len : Int) - n.toInt := by
          have hn : n = iI n.toInt := (Int32.ofInt_toInt n).symm
          have hn2 := n.toInt_lt
          rw [hn, nI_iI, iI_sub, iI_toInt ⟨by omega, by omega⟩, iI_toInt ⟨by omega, by omega⟩]
        have e4 : nI len - n < i ↔ (len : Int) - n.toInt < i.toInt := by rw [Int32.lt_iff_toInt_lt, e3]
        by_cases q3 : nI len - n < i
        · rw [if_pos q3] at hx
          have := e4.mp q3
          exact ⟨Or.inr hx, by rw [hx]; constructor <;> intro z <;> first | exact absurd z (by decide) | omega⟩
        · rw [if_neg q3] at hx
          have : ¬ (len : Int) - n.toInt < i.toInt := fun z => q3 (e4.mpr z)
          exact ⟨Or.inl hx, by rw [hx]; exact ⟨fun _ => ⟨by omega, by omega, by omega⟩, fun _ => rfl⟩⟩
  refine ⟨_, ?_, key _ rfl⟩
  refine sem_eq (Nat.le_of_ble_eq_true rfl) ?_
  show wp mX3_lacks 0 [some (.ref r), some (.int (nI k)), some (.int i), some (.int n)] [] _ _
  simp only [eX3_lacks_0, eX3_lacks_1, eX3_lacks_4, eX3_lacks_5, eX3_lacks_8, eX3_lacks_9, eX3_lacks_10, eX3_lacks_13, eX3_lacks_14, eX3_lacks_15, eX3_lacks_16, eX3_lacks_17, eX3_lacks_20, eX3_lacks_21, eX3_lacks_24, eX3_lacks_25, cont_some, tl_some, tl_none, csum_nil, csum_i, csum_r, csum_j, isc2_i, isc2_r, isc2_n, va_rf_s, vfn_ite, true_and, and_true, true_or, or_true, eq_self, Bool.false_eq_true, not_false_eq_true, not_true_eq_false, if_true, if_false, Nat.reduceAdd, Nat.reduceLeDiff, reduceIte, h.1, h.2.1, h.2.2.1, h.2.2.2.1, h.2.2.2.2.1, h.2.2.2.2.2.1, h.2.2.2.2.2.2.1, inA_nI hk (by omega), nI_clamp (show k < 2 ^ 31 by omega), hl]
  by_cases q1 : n < 0
  · simp [q1]
  · by_cases q2 : i < 0
    · simp [q1, q2]
    · by_cases q3 : nI len - n < i <;> simp [q1, q2, q3]
def refu (h : Sht) (s l i n : Int32) : Int32 → Prop := fun x =>
  ((¬ (0 ≤ s ∧ s ≤ 3) ∨ ¬ (0 ≤ l ∧ l ≤ 3)) ∧ x = -1) ∨ (∃ k, k < 4 ∧ s = nI k ∧ (0 ≤ l ∧ l ≤ 3) ∧ ((h.1 k = none ∧ x = -11) ∨ ∃ l' len, h.1 k = some (l', len) ∧ ((nI l' ≠ l ∧ x = -12) ∨ (nI l' = l ∧ ¬ okIx len i n ∧ x = -13) ∨ (nI l' = l ∧ okIx len i n ∧ x = 0))))
theorem s_refusal {w : Wd} {r : Nat} {h : Sht} {s l i n : Int32} (hS : CS w r h) : ∃ x, fX3_refusal [.ref r, .int s, .int l, .int i, .int n] w = some (some (.int x), w) ∧ refu h s l i n x := by
  obtain ⟨hr, hk⟩ := hS
  by_cases q1 : 0 ≤ s ∧ s ≤ 3
  · by_cases q2 : 0 ≤ l ∧ l ≤ 3
    · obtain ⟨k, hk4, rfl⟩ := sh_iff.mp q1
      have hck := (hk k hk4).1
      have i4 := inA_nI hk4 (show 4 < 2147483648 by omega)
      have c4 := nI_clamp (show k < 2 ^ 31 by omega)
      cases hi : h.1 k with
      | none =>
        rw [hi] at hck
        refine ⟨-11, ?_, Or.inr ⟨k, hk4, rfl, q2, Or.inl ⟨hi, rfl⟩⟩⟩
        refine sem_eq (Nat.le_of_ble_eq_true rfl) ?_
        show wp mX3_refusal 0 [some (.ref r), some (.int (nI k)), some (.int l), some (.int i), some (.int n)] [] _ _
        simp only [eX3_refusal_0, eX3_refusal_1, eX3_refusal_4, eX3_refusal_7, eX3_refusal_8, eX3_refusal_11, eX3_refusal_14, eX3_refusal_15, eX3_refusal_16, eX3_refusal_17, eX3_refusal_20, eX3_refusal_21, eX3_refusal_22, eX3_refusal_23, eX3_refusal_26, eX3_refusal_28, eX3_refusal_29, eX3_refusal_30, eX3_refusal_33, eX3_refusal_34, eX3_refusal_35, eX3_refusal_36, eX3_refusal_39, eX3_refusal_41, eX3_refusal_42, eX3_refusal_43, eX3_refusal_44, eX3_refusal_45, eX3_refusal_47, eX3_refusal_50, eX3_refusal_53, eX3_refusal_55, eX3_refusal_58, eX3_refusal_59, cont_some, tl_some, tl_none, csum_nil, csum_i, csum_r, csum_j, isc2_i, isc2_r, isc2_n, va_rf_s, vfn_ite, true_and, and_true, true_or, or_true, eq_self, Bool.false_eq_true, not_false_eq_true, not_true_eq_false, if_true, if_false, Nat.reduceAdd, Nat.reduceLeDiff, reduceIte, hr.1, hr.2.1, hr.2.2.1, hr.2.2.2.1, hr.2.2.2.2.1, hr.2.2.2.2.2.1, hr.2.2.2.2.2.2.1, s_isSheet, s_isLane, b2i_0, q1, q2, and_self, i4, c4, hck]
      | some t =>
        obtain ⟨l', len⟩ := t
        rw [hi] at hck
        obtain ⟨g1, g2, g3, g4⟩ := hck
        have hm1 : ¬ nI l' = -1 := by
          have : l' = 0 ∨ l' = 1 ∨ l' = 2 ∨ l' = 3 := by omega
          rcases this with rfl | rfl | rfl | rfl <;> decide
        by_cases q3 : nI l' = l
        · have hm1' : ¬ l = -1 := q3 ▸ hm1
          obtain ⟨x, hx, -, hx2⟩ := s_lacks (i := i) (n := n) hr hk4 g4 g2
          by_cases q4 : okIx len i n
          · have e := hx2.mpr q4
            subst e
            refine ⟨0, ?_, Or.inr ⟨k, hk4, rfl, q2, Or.inr ⟨l', len, hi, Or.inr (Or.inr ⟨q3, q4, rfl⟩)⟩⟩⟩
            refine sem_eq (Nat.le_of_ble_eq_true rfl) ?_
            show wp mX3_refusal 0 [some (.ref r), some (.int (nI k)), some (.int l), some (.int i), some (.int n)] [] _ _
            simp only [eX3_refusal_0, eX3_refusal_1, eX3_refusal_4, eX3_refusal_7, eX3_refusal_8, eX3_refusal_11, eX3_refusal_14, eX3_refusal_15, eX3_refusal_16, eX3_refusal_17, eX3_refusal_20, eX3_refusal_21, eX3_refusal_22, eX3_refusal_23, eX3_refusal_26, eX3_refusal_28, eX3_refusal_29, eX3_refusal_30, eX3_refusal_33, eX3_refusal_34, eX3_refusal_35, eX3_refusal_36, eX3_refusal_39, eX3_refusal_41, eX3_refusal_42, eX3_refusal_43, eX3_refusal_44, eX3_refusal_45, eX3_refusal_47, eX3_refusal_50, eX3_refusal_53, eX3_refusal_55, eX3_refusal_58, eX3_refusal_59, cont_some, tl_some, tl_none, csum_nil, csum_i, csum_r, csum_j, isc2_i, isc2_r, isc2_n, va_rf_s, vfn_ite, true_and, and_true, true_or, or_true, eq_self, Bool.false_eq_true, not_false_eq_true, not_true_eq_false, if_true, if_false, Nat.reduceAdd, Nat.reduceLeDiff, reduceIte, hr.1, hr.2.1, hr.2.2.1, hr.2.2.2.1, hr.2.2.2.2.1, hr.2.2.2.2.2.1, hr.2.2.2.2.2.2.1, s_isSheet, s_isLane, b2i_0, q1, q2, and_self, i4, c4, g3, hm1, hm1', q3, hx]
          · have e : ¬ x = 0 := fun z => q4 (hx2.mp z)
            refine ⟨-13, ?_, Or.inr ⟨k, hk4, rfl, q2, Or.inr ⟨l', len, hi, Or.inr (Or.inl ⟨q3, q4, rfl⟩)⟩⟩⟩
            refine sem_eq (Nat.le_of_ble_eq_true rfl) ?_
            show wp mX3_refusal 0 [some (.ref r), some (.int (nI k)), some (.int l), some (.int i), some (.int n)] [] _ _
            simp only [eX3_refusal_0, eX3_refusal_1, eX3_refusal_4, eX3_refusal_7, eX3_refusal_8, eX3_refusal_11, eX3_refusal_14, eX3_refusal_15, eX3_refusal_16, eX3_refusal_17, eX3_refusal_20, eX3_refusal_21, eX3_refusal_22, eX3_refusal_23, eX3_refusal_26, eX3_refusal_28, eX3_refusal_29, eX3_refusal_30, eX3_refusal_33, eX3_refusal_34, eX3_refusal_35, eX3_refusal_36, eX3_refusal_39, eX3_refusal_41, eX3_refusal_42, eX3_refusal_43, eX3_refusal_44, eX3_refusal_45, eX3_refusal_47, eX3_refusal_50, eX3_refusal_53, eX3_refusal_55, eX3_refusal_58, eX3_refusal_59, cont_some, tl_some, tl_none, csum_nil, csum_i, csum_r, csum_j, isc2_i, isc2_r, isc2_n, va_rf_s, vfn_ite, true_and, and_true, true_or, or_true, eq_self, Bool.false_eq_true, not_false_eq_true, not_true_eq_false, if_true, if_false, Nat.reduceAdd, Nat.reduceLeDiff, reduceIte, hr.1, hr.2.1, hr.2.2.1, hr.2.2.2.1, hr.2.2.2.2.1, hr.2.2.2.2.2.1, hr.2.2.2.2.2.2.1, s_isSheet, s_isLane, b2i_0, q1, q2, and_self, i4, c4, g3, hm1, hm1', q3, hx, e]
        · refine ⟨-12, ?_, Or.inr ⟨k, hk4, rfl, q2, Or.inr ⟨l', len, hi, Or.inl ⟨q3, rfl⟩⟩⟩⟩
          refine sem_eq (Nat.le_of_ble_eq_true rfl) ?_
          show wp mX3_refusal 0 [some (.ref r), some (.int (nI k)), some (.int l), some (.int i), some (.int n)] [] _ _
          simp only [eX3_refusal_0, eX3_refusal_1, eX3_refusal_4, eX3_refusal_7, eX3_refusal_8, eX3_refusal_11, eX3_refusal_14, eX3_refusal_15, eX3_refusal_16, eX3_refusal_17, eX3_refusal_20, eX3_refusal_21, eX3_refusal_22, eX3_refusal_23, eX3_refusal_26, eX3_refusal_28, eX3_refusal_29, eX3_refusal_30, eX3_refusal_33, eX3_refusal_34, eX3_refusal_35, eX3_refusal_36, eX3_refusal_39, eX3_refusal_41, eX3_refusal_42, eX3_refusal_43, eX3_refusal_44, eX3_refusal_45, eX3_refusal_47, eX3_refusal_50, eX3_refusal_53, eX3_refusal_55, eX3_refusal_58, eX3_refusal_59, cont_some, tl_some, tl_none, csum_nil, csum_i, csum_r, csum_j, isc2_i, isc2_r, isc2_n, va_rf_s, vfn_ite, true_and, and_true, true_or, or_true, eq_self, Bool.false_eq_true, not_false_eq_true, not_true_eq_false, if_true, if_false, Nat.reduceAdd, Nat.reduceLeDiff, reduceIte, hr.1, hr.2.1, hr.2.2.1, hr.2.2.2.1, hr.2.2.2.2.1, hr.2.2.2.2.2.1, hr.2.2.2.2.2.2.1, s_isSheet, s_isLane, b2i_0, q1, q2, and_self, i4, c4, g3, hm1, q3]
    · refine ⟨-1, ?_, Or.inl ⟨Or.inr q2, rfl⟩⟩
      refine sem_eq (Nat.le_of_ble_eq_true rfl) ?_
      show wp mX3_refusal 0 [some (.ref r), some (.int s), some (.int l), some (.int i), some (.int n)] [] _ _
      simp only [eX3_refusal_0, eX3_refusal_1, eX3_refusal_4, eX3_refusal_7, eX3_refusal_8, eX3_refusal_11, eX3_refusal_14, eX3_refusal_15, eX3_refusal_16, eX3_refusal_17, eX3_refusal_20, eX3_refusal_21, eX3_refusal_22, eX3_refusal_23, eX3_refusal_26, eX3_refusal_28, eX3_refusal_29, eX3_refusal_30, eX3_refusal_33, eX3_refusal_34, eX3_refusal_35, eX3_refusal_36, eX3_refusal_39, eX3_refusal_41, eX3_refusal_42, eX3_refusal_43, eX3_refusal_44, eX3_refusal_45, eX3_refusal_47, eX3_refusal_50, eX3_refusal_53, eX3_refusal_55, eX3_refusal_58, eX3_refusal_59, cont_some, tl_some, tl_none, csum_nil, csum_i, csum_r, csum_j, isc2_i, isc2_r, isc2_n, va_rf_s, vfn_ite, true_and, and_true, true_or, or_true, eq_self, Bool.false_eq_true, not_false_eq_true, not_true_eq_false, if_true, if_false, Nat.reduceAdd, Nat.reduceLeDiff, reduceIte, s_isSheet, s_isLane, b2i_0, q1, q2, and_self]
  · refine ⟨-1, ?_, Or.inl ⟨Or.inl q1, rfl⟩⟩
    refine sem_eq (Nat.le_of_ble_eq_true rfl) ?_
    show wp mX3_refusal 0 [some (.ref r), some (.int s), some (.int l), some (.int i), some (.int n)] [] _ _
    simp only [eX3_refusal_0, eX3_refusal_1, eX3_refusal_4, eX3_refusal_7, eX3_refusal_8, eX3_refusal_11, eX3_refusal_14, eX3_refusal_15, eX3_refusal_16, eX3_refusal_17, eX3_refusal_20, eX3_refusal_21, eX3_refusal_22, eX3_refusal_23, eX3_refusal_26, eX3_refusal_28, eX3_refusal_29, eX3_refusal_30, eX3_refusal_33, eX3_refusal_34, eX3_refusal_35, eX3_refusal_36, eX3_refusal_39, eX3_refusal_41, eX3_refusal_42, eX3_refusal_43, eX3_refusal_44, eX3_refusal_45, eX3_refusal_47, eX3_refusal_50, eX3_refusal_53, eX3_refusal_55, eX3_refusal_58, eX3_refusal_59, cont_some, tl_some, tl_none, csum_nil, csum_i, csum_r, csum_j, isc2_i, isc2_r, isc2_n, va_rf_s, vfn_ite, true_and, and_true, true_or, or_true, eq_self, Bool.false_eq_true, not_false_eq_true, not_true_eq_false, if_true, if_false, Nat.reduceAdd, Nat.reduceLeDiff, reduceIte, s_isSheet, b2i_0, q1]
theorem m_isLane {v : Int32} {w : Wd} : fX9_isLane [.int v] w = some (some (.int (b2i (0 ≤ v ∧ v ≤ 3))), w) := by
  refine sem_eq (Nat.le_of_ble_eq_true rfl) ?_
  show wp mX9_isLane 0 [some (.int v)] [] _ _
  simp only [eX9_isLane_0, eX9_isLane_1, eX9_isLane_2, eX9_isLane_3, eX9_isLane_6, eX9_isLane_9, cont_some, tl_some, tl_none, csum_nil, csum_i, csum_r, csum_j, isc2_i, isc2_r, isc2_n, va_rf_s, vfn_ite, true_and, and_true, true_or, or_true, eq_self, Bool.false_eq_true, not_false_eq_true, not_true_eq_false, if_true, if_false, Nat.reduceAdd, Nat.reduceLeDiff, reduceIte, in03, b2i_01]
theorem m_isSheet {v : Int32} {w : Wd} : fX9_isSheet [.int v] w = some (some (.int (b2i (0 ≤ v ∧ v ≤ 3))), w) := by
  refine sem_eq (Nat.le_of_ble_eq_true rfl) ?_
  show wp mX9_isSheet 0 [some (.int v)] [] _ _
  simp only [eX9_isSheet_0, eX9_isSheet_1, eX9_isSheet_2, eX9_isSheet_3, eX9_isSheet_6, eX9_isSheet_9, cont_some, tl_some, tl_none, csum_nil, csum_i, csum_r, csum_j, isc2_i, isc2_r, isc2_n, va_rf_s, vfn_ite, true_and, and_true, true_or, or_true, eq_self, Bool.false_eq_true, not_false_eq_true, not_true_eq_false, if_true, if_false, Nat.reduceAdd, Nat.reduceLeDiff, reduceIte, in03, b2i_01]
/-- what the reference says a sheet is not -/
def lck (h : Sht) (s l : Int32) : Int32 → Prop := fun x =>
  ((¬ (0 ≤ s ∧ s ≤ 3) ∨ ¬ (0 ≤ l ∧ l ≤ 3)) ∧ x = -1) ∨ (∃ k, k < 4 ∧ s = nI k ∧ (0 ≤ l ∧ l ≤ 3) ∧ ((h.1 k = none ∧ x = -11) ∨ ∃ l' len, h.1 k = some (l', len) ∧ ((nI l' ≠ l ∧ x = -12) ∨ (nI l' = l ∧ x = 0))))
theorem nI_m4 {n : Nat} (h : n ≤ 24) : ¬ nI n = -4 := fun z => by
  have := congrArg Int32.toInt z
  rw [nI_T (by omega)] at this
  have e : (-4 : Int32).toInt = -4 := by decide
  omega
theorem m_lacks {w : Wd} {o : Nat} {h : Sht} {s l : Int32} (hS : MS w o h) : ∃ x, fX9_lacks [.ref o, .int s, .int l] w = some (some (.int x), w) ∧ lck h s l x := by
  obtain ⟨hr, hk⟩ := hS
  by_cases q1 : 0 ≤ s ∧ s ≤ 3
  · by_cases q2 : 0 ≤ l ∧ l ≤ 3
    · obtain ⟨k, hk4, rfl⟩ := sh_iff.mp q1
      have hck := (hk k hk4).1
      have i4 := inA_nI hk4 (show 4 < 2147483648 by omega)
      have c4 := nI_clamp (show k < 2 ^ 31 by omega)
      cases hi : h.1 k with
      | none =>
        rw [hi] at hck
        refine ⟨-11, ?_, Or.inr ⟨k, hk4, rfl, q2, Or.inl ⟨hi, rfl⟩⟩⟩
        refine sem_eq (Nat.le_of_ble_eq_true rfl) ?_
        show wp mX9_lacks 0 [some (.ref o), some (.int (nI k)), some (.int l)] [] _ _
        simp only [eX9_lacks_0, eX9_lacks_1, eX9_lacks_4, eX9_lacks_7, eX9_lacks_8, eX9_lacks_11, eX9_lacks_14, eX9_lacks_15, eX9_lacks_18, eX9_lacks_19, eX9_lacks_22, eX9_lacks_23, eX9_lacks_24, eX9_lacks_26, eX9_lacks_29, eX9_lacks_31, eX9_lacks_34, eX9_lacks_35, eX9_lacks_38, eX9_lacks_39, eX9_lacks_40, eX9_lacks_41, eX9_lacks_44, eX9_lacks_46, eX9_lacks_49, eX9_lacks_50, cont_some, tl_some, tl_none, csum_nil, csum_i, csum_r, csum_j, isc2_i, isc2_r, isc2_n, va_rf_s, vfn_ite, true_and, and_true, true_or, or_true, eq_self, Bool.false_eq_true, not_false_eq_true, not_true_eq_false, if_true, if_false, Nat.reduceAdd, Nat.reduceLeDiff, reduceIte, hr.1, hr.2.1, hr.2.2.1, hr.2.2.2.1, hr.2.2.2.2.1, hr.2.2.2.2.2.1, hr.2.2.2.2.2.2.1, hr.2.2.2.2.2.2.2.1, hr.2.2.2.2.2.2.2.2.1, hr.2.2.2.2.2.2.2.2.2.1, hr.2.2.2.2.2.2.2.2.2.2.1, hr.2.2.2.2.2.2.2.2.2.2.2.1, hr.2.2.2.2.2.2.2.2.2.2.2.2.1, hr.2.2.2.2.2.2.2.2.2.2.2.2.2.1, hr.2.2.2.2.2.2.2.2.2.2.2.2.2.2.1, hr.2.2.2.2.2.2.2.2.2.2.2.2.2.2.2.1, hr.2.2.2.2.2.2.2.2.2.2.2.2.2.2.2.2.1, hr.2.2.2.2.2.2.2.2.2.2.2.2.2.2.2.2.2.1, hr.2.2.2.2.2.2.2.2.2.2.2.2.2.2.2.2.2.2.1, hr.2.2.2.2.2.2.2.2.2.2.2.2.2.2.2.2.2.2.2.1, hr.2.2.2.2.2.2.2.2.2.2.2.2.2.2.2.2.2.2.2.2.1, hr.2.2.2.2.2.2.2.2.2.2.2.2.2.2.2.2.2.2.2.2.2.1, hr.2.2.2.2.2.2.2.2.2.2.2.2.2.2.2.2.2.2.2.2.2.2.1, hr.2.2.2.2.2.2.2.2.2.2.2.2.2.2.2.2.2.2.2.2.2.2.2.1, hr.2.2.2.2.2.2.2.2.2.2.2.2.2.2.2.2.2.2.2.2.2.2.2.2, m_isSheet, m_isLane, b2i_0, q1, q2, and_self, i4, c4, hck]
      | some t =>
        obtain ⟨l', len⟩ := t
        rw [hi] at hck
        obtain ⟨g1, g2, g3, g4⟩ := hck
        have hm4 := nI_m4 g2
        by_cases q3 : nI l' = l
        · refine ⟨0, ?_, Or.inr ⟨k, hk4, rfl, q2, Or.inr ⟨l', len, hi, Or.inr ⟨q3, rfl⟩⟩⟩⟩
          refine sem_eq (Nat.le_of_ble_eq_true rfl) ?_
          show wp mX9_lacks 0 [some (.ref o), some (.int (nI k)), some (.int l)] [] _ _
          simp only [eX9_lacks_0, eX9_lacks_1, eX9_lacks_4, eX9_lacks_7, eX9_lacks_8, eX9_lacks_11, eX9_lacks_14, eX9_lacks_15, eX9_lacks_18, eX9_lacks_19, eX9_lacks_22, eX9_lacks_23, eX9_lacks_24, eX9_lacks_26, eX9_lacks_29, eX9_lacks_31, eX9_lacks_34, eX9_lacks_35, eX9_lacks_38, eX9_lacks_39, eX9_lacks_40, eX9_lacks_41, eX9_lacks_44, eX9_lacks_46, eX9_lacks_49, eX9_lacks_50, cont_some, tl_some, tl_none, csum_nil, csum_i, csum_r, csum_j, isc2_i, isc2_r, isc2_n, va_rf_s, vfn_ite, true_and, and_true, true_or, or_true, eq_self, Bool.false_eq_true, not_false_eq_true, not_true_eq_false, if_true, if_false, Nat.reduceAdd, Nat.reduceLeDiff, reduceIte, hr.1, hr.2.1, hr.2.2.1, hr.2.2.2.1, hr.2.2.2.2.1, hr.2.2.2.2.2.1, hr.2.2.2.2.2.2.1, hr.2.2.2.2.2.2.2.1, hr.2.2.2.2.2.2.2.2.1, hr.2.2.2.2.2.2.2.2.2.1, hr.2.2.2.2.2.2.2.2.2.2.1, hr.2.2.2.2.2.2.2.2.2.2.2.1, hr.2.2.2.2.2.2.2.2.2.2.2.2.1, hr.2.2.2.2.2.2.2.2.2.2.2.2.2.1, hr.2.2.2.2.2.2.2.2.2.2.2.2.2.2.1, hr.2.2.2.2.2.2.2.2.2.2.2.2.2.2.2.1, hr.2.2.2.2.2.2.2.2.2.2.2.2.2.2.2.2.1, hr.2.2.2.2.2.2.2.2.2.2.2.2.2.2.2.2.2.1, hr.2.2.2.2.2.2.2.2.2.2.2.2.2.2.2.2.2.2.1, hr.2.2.2.2.2.2.2.2.2.2.2.2.2.2.2.2.2.2.2.1, hr.2.2.2.2.2.2.2.2.2.2.2.2.2.2.2.2.2.2.2.2.1, hr.2.2.2.2.2.2.2.2.2.2.2.2.2.2.2.2.2.2.2.2.2.1, hr.2.2.2.2.2.2.2.2.2.2.2.2.2.2.2.2.2.2.2.2.2.2.1, hr.2.2.2.2.2.2.2.2.2.2.2.2.2.2.2.2.2.2.2.2.2.2.2.1, hr.2.2.2.2.2.2.2.2.2.2.2.2.2.2.2.2.2.2.2.2.2.2.2.2, m_isSheet, m_isLane, b2i_0, q1, q2, and_self, i4, c4, g3, g4, hm4, q3]
        · refine ⟨-12, ?_, Or.inr ⟨k, hk4, rfl, q2, Or.inr ⟨l', len, hi, Or.inl ⟨q3, rfl⟩⟩⟩⟩
          refine sem_eq (Nat.le_of_ble_eq_true rfl) ?_
          show wp mX9_lacks 0 [some (.ref o), some (.int (nI k)), some (.int l)] [] _ _
          simp only [eX9_lacks_0, eX9_lacks_1, eX9_lacks_4, eX9_lacks_7, eX9_lacks_8, eX9_lacks_11, eX9_lacks_14, eX9_lacks_15, eX9_lacks_18, eX9_lacks_19, eX9_lacks_22, eX9_lacks_23, eX9_lacks_24, eX9_lacks_26, eX9_lacks_29, eX9_lacks_31, eX9_lacks_34, eX9_lacks_35, eX9_lacks_38, eX9_lacks_39, eX9_lacks_40, eX9_lacks_41, eX9_lacks_44, eX9_lacks_46, eX9_lacks_49, eX9_lacks_50, cont_some, tl_some, tl_none, csum_nil, csum_i, csum_r, csum_j, isc2_i, isc2_r, isc2_n, va_rf_s, vfn_ite, true_and, and_true, true_or, or_true, eq_self, Bool.false_eq_true, not_false_eq_true, not_true_eq_false, if_true, if_false, Nat.reduceAdd, Nat.reduceLeDiff, reduceIte, hr.1, hr.2.1, hr.2.2.1, hr.2.2.2.1, hr.2.2.2.2.1, hr.2.2.2.2.2.1, hr.2.2.2.2.2.2.1, hr.2.2.2.2.2.2.2.1, hr.2.2.2.2.2.2.2.2.1, hr.2.2.2.2.2.2.2.2.2.1, hr.2.2.2.2.2.2.2.2.2.2.1, hr.2.2.2.2.2.2.2.2.2.2.2.1, hr.2.2.2.2.2.2.2.2.2.2.2.2.1, hr.2.2.2.2.2.2.2.2.2.2.2.2.2.1, hr.2.2.2.2.2.2.2.2.2.2.2.2.2.2.1, hr.2.2.2.2.2.2.2.2.2.2.2.2.2.2.2.1, hr.2.2.2.2.2.2.2.2.2.2.2.2.2.2.2.2.1, hr.2.2.2.2.2.2.2.2.2.2.2.2.2.2.2.2.2.1, hr.2.2.2.2.2.2.2.2.2.2.2.2.2.2.2.2.2.2.1, hr.2.2.2.2.2.2.2.2.2.2.2.2.2.2.2.2.2.2.2.1, hr.2.2.2.2.2.2.2.2.2.2.2.2.2.2.2.2.2.2.2.2.1, hr.2.2.2.2.2.2.2.2.2.2.2.2.2.2.2.2.2.2.2.2.2.1, hr.2.2.2.2.2.2.2.2.2.2.2.2.2.2.2.2.2.2.2.2.2.2.1, hr.2.2.2.2.2.2.2.2.2.2.2.2.2.2.2.2.2.2.2.2.2.2.2.1, hr.2.2.2.2.2.2.2.2.2.2.2.2.2.2.2.2.2.2.2.2.2.2.2.2, m_isSheet, m_isLane, b2i_0, q1, q2, and_self, i4, c4, g3, g4, hm4, q3]
    · refine ⟨-1, ?_, Or.inl ⟨Or.inr q2, rfl⟩⟩
      refine sem_eq (Nat.le_of_ble_eq_true rfl) ?_
      show wp mX9_lacks 0 [some (.ref o), some (.int s), some (.int l)] [] _ _
      simp only [eX9_lacks_0, eX9_lacks_1, eX9_lacks_4, eX9_lacks_7, eX9_lacks_8, eX9_lacks_11, eX9_lacks_14, eX9_lacks_15, eX9_lacks_18, eX9_lacks_19, eX9_lacks_22, eX9_lacks_23, eX9_lacks_24, eX9_lacks_26, eX9_lacks_29, eX9_lacks_31, eX9_lacks_34, eX9_lacks_35, eX9_lacks_38, eX9_lacks_39, eX9_lacks_40, eX9_lacks_41, eX9_lacks_44, eX9_lacks_46, eX9_lacks_49, eX9_lacks_50, cont_some, tl_some, tl_none, csum_nil, csum_i, csum_r, csum_j, isc2_i, isc2_r, isc2_n, va_rf_s, vfn_ite, true_and, and_true, true_or, or_true, eq_self, Bool.false_eq_true, not_false_eq_true, not_true_eq_false, if_true, if_false, Nat.reduceAdd, Nat.reduceLeDiff, reduceIte, m_isSheet, m_isLane, b2i_0, q1, q2, and_self]
  · refine ⟨-1, ?_, Or.inl ⟨Or.inl q1, rfl⟩⟩
    refine sem_eq (Nat.le_of_ble_eq_true rfl) ?_
    show wp mX9_lacks 0 [some (.ref o), some (.int s), some (.int l)] [] _ _
    simp only [eX9_lacks_0, eX9_lacks_1, eX9_lacks_4, eX9_lacks_7, eX9_lacks_8, eX9_lacks_11, eX9_lacks_14, eX9_lacks_15, eX9_lacks_18, eX9_lacks_19, eX9_lacks_22, eX9_lacks_23, eX9_lacks_24, eX9_lacks_26, eX9_lacks_29, eX9_lacks_31, eX9_lacks_34, eX9_lacks_35, eX9_lacks_38, eX9_lacks_39, eX9_lacks_40, eX9_lacks_41, eX9_lacks_44, eX9_lacks_46, eX9_lacks_49, eX9_lacks_50, cont_some, tl_some, tl_none, csum_nil, csum_i, csum_r, csum_j, isc2_i, isc2_r, isc2_n, va_rf_s, vfn_ite, true_and, and_true, true_or, or_true, eq_self, Bool.false_eq_true, not_false_eq_true, not_true_eq_false, if_true, if_false, Nat.reduceAdd, Nat.reduceLeDiff, reduceIte, m_isSheet, b2i_0, q1]
/-! what a lane's item keeps -/
def lowJ (l : Int32) (v : Int64) : Int64 := if l = 0 then v.toInt32.toInt8.toInt32.toInt64 else if l = 1 then v.toInt32.toInt16.toInt32.toInt64 else if l = 2 then v.toInt32.toInt64 else v
theorem s_lowest {l : Int32} {v : Int64} {w : Wd} : fX3_lowest [.int l, .long v] w = some (some (.long (lowJ l v)), w) := by
  refine sem_eq (Nat.le_of_ble_eq_true rfl) ?_
  show wp mX3_lowest 0 [some (.int l), some (.long v), none] [] _ _
  simp only [eX3_lowest_0, eX3_lowest_1, eX3_lowest_28, eX3_lowest_29, eX3_lowest_30, eX3_lowest_31, eX3_lowest_32, eX3_lowest_33, eX3_lowest_34, eX3_lowest_35, eX3_lowest_36, eX3_lowest_37, eX3_lowest_38, eX3_lowest_39, eX3_lowest_40, eX3_lowest_41, eX3_lowest_42, eX3_lowest_43, cont_some, tl_some, tl_none, csum_nil, csum_i, csum_r, csum_j, isc2_i, isc2_r, isc2_n, va_rf_s, vfn_ite, true_and, and_true, true_or, or_true, eq_self, Bool.false_eq_true, not_false_eq_true, not_true_eq_false, if_true, if_false, Nat.reduceAdd, Nat.reduceLeDiff, reduceIte, lowJ]
  by_cases q0 : l = 0
  · simp [q0]
  · by_cases q1 : l = 1
    · simp [q1]
    · by_cases q2 : l = 2 <;> simp [q0, q1, q2]
theorem s_kept {l : Int32} {v : Int64} {w : Wd} : fX9_kept [.int l, .long v] w = some (some (.long (lowJ l v)), w) := by
  refine sem_eq (Nat.le_of_ble_eq_true rfl) ?_
  show wp mX9_kept 0 [some (.int l), some (.long v), none] [] _ _
  simp only [eX9_kept_0, eX9_kept_1, eX9_kept_4, eX9_kept_5, eX9_kept_6, eX9_kept_7, eX9_kept_8, eX9_kept_11, eX9_kept_12, eX9_kept_13, eX9_kept_16, eX9_kept_17, eX9_kept_18, eX9_kept_19, eX9_kept_20, eX9_kept_23, eX9_kept_24, eX9_kept_25, eX9_kept_28, eX9_kept_29, eX9_kept_30, eX9_kept_31, eX9_kept_34, eX9_kept_35, cont_some, tl_some, tl_none, csum_nil, csum_i, csum_r, csum_j, isc2_i, isc2_r, isc2_n, va_rf_s, vfn_ite, true_and, and_true, true_or, or_true, eq_self, Bool.false_eq_true, not_false_eq_true, not_true_eq_false, if_true, if_false, Nat.reduceAdd, Nat.reduceLeDiff, reduceIte, lowJ]
  by_cases q0 : l = 0
  · simp [q0]
  · by_cases q1 : l = 1
    · simp [q1]
    · by_cases q2 : l = 2 <;> simp [q0, q1, q2]
/-! sheet, drop, item -/
def opSheet (h : Sht) (s l n : Int32) : Int32 × Sht := if ((0 ≤ s ∧ s ≤ 3) ∧ (0 ≤ l ∧ l ≤ 3)) ∧ ¬ 24 < n then (if n < 0 then (-14, h) else (n, (fun k => if k = s.toNatClampNeg then some (l.toNatClampNeg, n.toNatClampNeg) else h.1 k, fun k i => if k = s.toNatClampNeg then 0 else h.2 k i))) else (-1, h)
def opDrop (h : Sht) (s : Int32) : Int32 × Sht := if 0 ≤ s ∧ s ≤ 3 then (match h.1 s.toNatClampNeg with
  | none => (-11, h)
  | some (_, n) => (nI n, (fun k => if k = s.toNatClampNeg then none else h.1 k, h.2))) else (-1, h)
theorem CSk.fr {w u : Wd} {r k : Nat} {h h' : Sht} (g : CSk w r k h) (e0 : h'.1 k = h.1 k) (e0' : ∀ i, i < 24 → h'.2 k i = h.2 k i) (e1 : rdI u (r + 6) k = rdI w (r + 6) k) (e2 : rdI u (r + 7) k = rdI w (r + 7) k) (e3 : ∀ i, i < 24 → rdJ u (r + 2 + k) i = rdJ w (r + 2 + k) i) : CSk u r k h' := by
  unfold CSk at g ⊢
  rw [e0, e1, e2]
  exact ⟨g.1, fun i hi => by rw [e3 i hi, e0' i hi]; exact g.2 i hi⟩
theorem MSk.fr {w u : Wd} {o k : Nat} {h h' : Sht} (g : MSk w o k h) (e0 : h'.1 k = h.1 k) (e0' : ∀ i, i < 24 → h'.2 k i = h.2 k i) (e1 : rdI u (o + 5) k = rdI w (o + 5) k) (e2 : rdI u (o + 6) k = rdI w (o + 6) k) (e3 : ∀ i, i < 24 → rdJ u (o + 7) (24 * k + i) = rdJ w (o + 7) (24 * k + i)) : MSk u o k h' := by
  unfold MSk at g ⊢
  rw [e0, e1, e2]
  exact ⟨g.1, fun i hi => by rw [e3 i hi, e0' i hi]; exact g.2 i hi⟩
theorem lo_open {w0 : Wd} {r k : Nat} {a2 a3 : Option Value} (h3 : isc2 (some a3) = false) (hk : k < 4) : ∀ (d i : Nat) (w : Wd), i + d = 24 → isRw w r → (∀ j, j < i → rdJ w (r + 2 + k) j = 0) → (∀ c j, rdI w c j = rdI w0 c j) → (∀ c j, c ≠ r + 2 + k → rdJ w c j = rdJ w0 c j) → Fr r (r + 8) w0 w →
    wp mX3_open 17 [some (.ref r), some (.int (nI k)), a2, a3, some (.int (nI i))] [] w (fun r1 w1 => r1 = none ∧ isRw w1 r ∧ (∀ j, j < 24 → rdJ w1 (r + 2 + k) j = 0) ∧ (∀ c j, rdI w1 c j = rdI w0 c j) ∧ (∀ c j, c ≠ r + 2 + k → rdJ w1 c j = rdJ w0 c j) ∧ Fr r (r + 8) w0 w1) := by
  have m17 : 17 ∈ [14, 15, 16, 17] := by decide
  intro d
  induction d with
  | zero =>
    intro i w hi hr hz hI hJ hF
    have e : i = 24 := by omega
    subst e
    have h1 : ¬ nI 24 < 24 := by decide
    simp only [eX3_open_17, eX3_open_19, eX3_open_21, eX3_open_40, cont_some, tl_some, tl_none, csum_nil, csum_i, csum_r, csum_j, isc2_i, isc2_r, isc2_n, va_rf_s, vfn_ite, true_and, and_true, true_or, or_true, eq_self, Bool.false_eq_true, not_false_eq_true, not_true_eq_false, if_true, if_false, Nat.reduceAdd, Nat.reduceLeDiff, reduceIte, h1]
    exact ⟨hr, hz, hI, hJ, hF⟩
  | succ d ih =>
    intro i w hi hr hz hI hJ hF
    have h1 : nI i < 24 := nI_lt (b := 24) (by omega) (by decide)
    obtain ⟨g1, g2⟩ := hr.2.2.2.2.2.2.2 k hk
    simp only [eX3_open_17, eX3_open_19, eX3_open_21, eX3_open_24, eX3_open_25, eX3_open_28, eX3_open_29, eX3_open_30, eX3_open_32, eX3_open_33, eX3_open_34, cont_some, tl_some, tl_none, csum_nil, csum_i, csum_r, csum_j, isc2_i, isc2_r, isc2_n, va_rf_s, vfn_ite, true_and, and_true, true_or, or_true, eq_self, Bool.false_eq_true, not_false_eq_true, not_true_eq_false, if_true, if_false, Nat.reduceAdd, Nat.reduceLeDiff, reduceIte, h1, h3, hr.1, hr.2.1, hr.2.2.2.2.1, inA_nI hk (by omega), nI_clamp (show k < 2 ^ 31 by omega), m17, g1, g2, inA_nI (show i < 24 by omega) (by omega), nI_clamp (show i < 2 ^ 31 by omega), nI_1]
    rw [eX3_open_37]
    refine ih (i + 1) _ (by omega) hr (fun j hj => ?_) hI (fun c j hc => ?_) (hF.wrJ ⟨by omega, by omega⟩)
    · rw [rdJ_wrJ]
      split
      · rfl
      · rename_i z
        exact hz j (by omega)
    · rw [rdJ_wrJ, if_neg (fun z => hc z.1)]; exact hJ c j hc
theorem c_sheet {w : Wd} {b : Nat} {h : Sht} {s l n : Int32} (hc : isCl w b) (hS : CS w (b + 44) h) : ∃ u, fX8_sheet [.ref b, .int s, .int l, .int n] w = some (some (.int (opSheet h s l n).1), u) ∧ CS u (b + 44) (opSheet h s l n).2 ∧ Fr (b + 44) (b + 52) w u := by
  obtain ⟨hr, hk⟩ := hS
  by_cases q1 : 0 ≤ s ∧ s ≤ 3
  · by_cases q2 : 0 ≤ l ∧ l ≤ 3
    · by_cases q3 : 24 < n
      · refine ⟨w, ?_, by simp only [opSheet, q3, not_true_eq_false, and_false, if_false]; exact ⟨hr, hk⟩, Fr.rf⟩
        simp only [opSheet, q3, not_true_eq_false, and_false, if_false]
        refine sem_eq (Nat.le_of_ble_eq_true rfl) ?_
        show wp mX8_sheet 0 [some (.ref b), some (.int s), some (.int l), some (.int n)] [] _ _
        simp only [eX8_sheet_0, eX8_sheet_1, eX8_sheet_4, eX8_sheet_7, eX8_sheet_8, eX8_sheet_11, eX8_sheet_14, eX8_sheet_15, eX8_sheet_17, eX8_sheet_20, eX8_sheet_21, cont_some, tl_some, tl_none, csum_nil, csum_i, csum_r, csum_j, isc2_i, isc2_r, isc2_n, va_rf_s, vfn_ite, true_and, and_true, true_or, or_true, eq_self, Bool.false_eq_true, not_false_eq_true, not_true_eq_false, if_true, if_false, Nat.reduceAdd, Nat.reduceLeDiff, reduceIte, s_isSheet, s_isLane, b2i_0, q1, q2, and_self, q3]
      · by_cases q4 : n < 0
        · refine ⟨w, ?_, by simp only [opSheet, q1, q2, q3, q4, not_false_eq_true, and_self, if_true]; exact ⟨hr, hk⟩, Fr.rf⟩
          simp only [opSheet, q1, q2, q3, q4, not_false_eq_true, and_self, if_true]
          refine sem_eq (Nat.le_of_ble_eq_true rfl) ?_
          show wp mX8_sheet 0 [some (.ref b), some (.int s), some (.int l), some (.int n)] [] _ _
          simp only [eX8_sheet_0, eX8_sheet_1, eX8_sheet_4, eX8_sheet_7, eX8_sheet_8, eX8_sheet_11, eX8_sheet_14, eX8_sheet_15, eX8_sheet_17, eX8_sheet_20, eX8_sheet_21, eX8_sheet_22, eX8_sheet_23, eX8_sheet_26, eX8_sheet_28, cont_some, tl_some, tl_none, csum_nil, csum_i, csum_r, csum_j, isc2_i, isc2_r, isc2_n, va_rf_s, vfn_ite, true_and, and_true, true_or, or_true, eq_self, Bool.false_eq_true, not_false_eq_true, not_true_eq_false, if_true, if_false, Nat.reduceAdd, Nat.reduceLeDiff, reduceIte, s_isSheet, s_isLane, b2i_0, q1, q2, and_self, q3, q4]
        · obtain ⟨k, hk4, rfl⟩ := sh_iff.mp q1
          obtain ⟨l', hl4, rfl⟩ := sh_iff.mp q2
          obtain ⟨m, hm, rfl⟩ := nI_of2 (M := 24) (n := 24) (by decide) q4 (Int32.not_lt.mp q3)
          have ck := nI_clamp (show k < 2 ^ 31 by omega)
          have cl := nI_clamp (show l' < 2 ^ 31 by omega)
          have cm := nI_clamp (show m < 2 ^ 31 by omega)
          obtain ⟨v, hv⟩ : ∃ v, v = wrI (wrI w (b + 44 + 6) k (nI l')) (b + 44 + 7) k (nI m) := ⟨_, rfl⟩
          have hrv : isRw v (b + 44) := by rw [hv]; exact hr
          have fv : Fr (b + 44) (b + 44 + 8) w v := by rw [hv]; exact (Fr.rf.wrI ⟨by omega, by omega⟩).wrI ⟨by omega, by omega⟩
          have hh : wp mX3_open 0 [some (.ref (b + 44)), some (.int (nI k)), some (.int (nI l')), some (.int (nI m)), none] [] w (fun r1 w1 => r1 = none ∧ isRw w1 (b + 44) ∧ (∀ j, j < 24 → rdJ w1 (b + 44 + 2 + k) j = 0) ∧ (∀ c j, rdI w1 c j = rdI v c j) ∧ (∀ c j, c ≠ b + 44 + 2 + k → rdJ w1 c j = rdJ v c j) ∧ Fr (b + 44) (b + 44 + 8) v w1) := by
            simp only [eX3_open_0, eX3_open_1, eX3_open_4, eX3_open_5, eX3_open_6, eX3_open_7, eX3_open_8, eX3_open_11, eX3_open_12, eX3_open_13, eX3_open_14, eX3_open_15, cont_some, tl_some, tl_none, csum_nil, csum_i, csum_r, csum_j, isc2_i, isc2_r, isc2_n, va_rf_s, vfn_ite, true_and, and_true, true_or, or_true, eq_self, Bool.false_eq_true, not_false_eq_true, not_true_eq_false, if_true, if_false, Nat.reduceAdd, Nat.reduceLeDiff, reduceIte, hr.1, hr.2.1, hr.2.2.1, hr.2.2.2.1, hr.2.2.2.2.1, hr.2.2.2.2.2.1, hr.2.2.2.2.2.2.1, inA_nI hk4 (by omega), ck, shp_wrI, rdR_wrI]
            rw [← hv]
            exact lo_open rfl hk4 24 0 v (by omega) hrv (fun j hj => absurd hj (by omega)) (fun _ _ => rfl) (fun _ _ _ => rfl) Fr.rf
          obtain ⟨r, u, h1, rfl, u1, u2, u3, u4, u5⟩ := sem_wp (nL := 5) (as := [.ref (b + 44), .int (nI k), .int (nI l'), .int (nI m)]) (Nat.le_of_ble_eq_true rfl) hh
          have h1' : fX3_open [.ref (b + 44), .int (nI k), .int (nI l'), .int (nI m)] w = some (none, u) := h1
          have hS' : (opSheet h (nI k) (nI l') (nI m)) = (nI m, (fun j => if j = k then some (l', m) else h.1 j, fun j i => if j = k then 0 else h.2 j i)) := by
            simp only [opSheet, q1, q2, q3, q4, not_false_eq_true, and_self, if_true, if_false, ck, cl, cm]
          rw [hS']
          refine ⟨u, ?_, ⟨u1, fun j hj => ?_⟩, fv.tr u5⟩
          · refine sem_eq (Nat.le_of_ble_eq_true rfl) ?_
            show wp mX8_sheet 0 [some (.ref b), some (.int (nI k)), some (.int (nI l')), some (.int (nI m))] [] _ _
            simp only [eX8_sheet_0, eX8_sheet_1, eX8_sheet_4, eX8_sheet_7, eX8_sheet_8, eX8_sheet_11, eX8_sheet_14, eX8_sheet_15, eX8_sheet_17, eX8_sheet_20, eX8_sheet_21, eX8_sheet_22, eX8_sheet_23, eX8_sheet_26, eX8_sheet_28, eX8_sheet_29, eX8_sheet_30, eX8_sheet_33, eX8_sheet_34, eX8_sheet_35, eX8_sheet_36, eX8_sheet_39, eX8_sheet_40, cont_some, tl_some, tl_none, csum_nil, csum_i, csum_r, csum_j, isc2_i, isc2_r, isc2_n, va_rf_s, vfn_ite, true_and, and_true, true_or, or_true, eq_self, Bool.false_eq_true, not_false_eq_true, not_true_eq_false, if_true, if_false, Nat.reduceAdd, Nat.reduceLeDiff, reduceIte, hc.1, hc.2.1, hc.2.2.1, hc.2.2.2.1, hc.2.2.2.2.1, hc.2.2.2.2.2.1, hc.2.2.2.2.2.2.1, hc.2.2.2.2.2.2.2.1, hc.2.2.2.2.2.2.2.2.1, hc.2.2.2.2.2.2.2.2.2.1, hc.2.2.2.2.2.2.2.2.2.2, hr.1, s_isSheet, s_isLane, b2i_0, q1, q2, and_self, q3, q4, h1']
          · by_cases e : j = k
            · subst e
              unfold CSk
              simp only [if_true]
              refine ⟨⟨hl4, hm, ?_, ?_⟩, u2⟩
              · rw [u3, hv, rdI_wrI, if_neg (by omega), rdI_wrI, if_pos ⟨rfl, rfl⟩]
              · rw [u3, hv, rdI_wrI, if_pos ⟨rfl, rfl⟩]
            · refine (hk j hj).fr (by simp [e]) (fun i _ => by simp [e]) ?_ ?_ (fun i _ => ?_)
              · rw [u3, hv, rdI_wrI, if_neg (by omega), rdI_wrI, if_neg (by omega)]
              · rw [u3, hv, rdI_wrI, if_neg (by omega), rdI_wrI, if_neg (by omega)]
              · rw [u4 _ _ (by omega), hv]; rfl
    · refine ⟨w, ?_, by simp only [opSheet, q2, and_false, false_and, if_false]; exact ⟨hr, hk⟩, Fr.rf⟩
      simp only [opSheet, q2, and_false, false_and, if_false]
      refine sem_eq (Nat.le_of_ble_eq_true rfl) ?_
      show wp mX8_sheet 0 [some (.ref b), some (.int s), some (.int l), some (.int n)] [] _ _
      simp only [eX8_sheet_0, eX8_sheet_1, eX8_sheet_4, eX8_sheet_7, eX8_sheet_8, eX8_sheet_11, eX8_sheet_14, eX8_sheet_15, eX8_sheet_17, eX8_sheet_20, eX8_sheet_21, cont_some, tl_some, tl_none, csum_nil, csum_i, csum_r, csum_j, isc2_i, isc2_r, isc2_n, va_rf_s, vfn_ite, true_and, and_true, true_or, or_true, eq_self, Bool.false_eq_true, not_false_eq_true, not_true_eq_false, if_true, if_false, Nat.reduceAdd, Nat.reduceLeDiff, reduceIte, s_isSheet, s_isLane, b2i_0, q1, q2, and_self]
  · refine ⟨w, ?_, by simp only [opSheet, q1, false_and, if_false]; exact ⟨hr, hk⟩, Fr.rf⟩
    simp only [opSheet, q1, false_and, if_false]
    refine sem_eq (Nat.le_of_ble_eq_true rfl) ?_
    show wp mX8_sheet 0 [some (.ref b), some (.int s), some (.int l), some (.int n)] [] _ _
    simp only [eX8_sheet_0, eX8_sheet_1, eX8_sheet_4, eX8_sheet_7, eX8_sheet_8, eX8_sheet_11, eX8_sheet_14, eX8_sheet_15, eX8_sheet_17, eX8_sheet_20, eX8_sheet_21, cont_some, tl_some, tl_none, csum_nil, csum_i, csum_r, csum_j, isc2_i, isc2_r, isc2_n, va_rf_s, vfn_ite, true_and, and_true, true_or, or_true, eq_self, Bool.false_eq_true, not_false_eq_true, not_true_eq_false, if_true, if_false, Nat.reduceAdd, Nat.reduceLeDiff, reduceIte, s_isSheet, b2i_0, q1]
