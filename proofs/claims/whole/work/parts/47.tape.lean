/-! the tape -/
theorem wrI_self {w : Wd} {a k : Nat} {x : Int32} (h : rdI w a k = x) : wrI w a k x = w := by
  subst h
  refine Prod.ext ?_ rfl
  funext c j
  show rdI (wrI w a k (rdI w a k)) c j = rdI w c j
  rw [rdI_wrI]
  by_cases q : c = a ∧ j = k
  · rw [if_pos q, q.1, q.2]
  · rw [if_neg q]
theorem wrI_wrI {w : Wd} {a k : Nat} {x y : Int32} : wrI (wrI w a k x) a k y = wrI w a k y := by
  refine Prod.ext ?_ rfl
  funext c j
  show rdI (wrI (wrI w a k x) a k y) c j = rdI (wrI w a k y) c j
  rw [rdI_wrI, rdI_wrI, rdI_wrI]
  by_cases q : c = a ∧ j = k
  · rw [if_pos q, if_pos q]
  · rw [if_neg q, if_neg q, if_neg q]
abbrev Tst : Type := Nat × (Nat → Nat)
abbrev isTp (w : Wd) (t : Nat) : Prop := shp w t = (5, 0) ∧ rdR w t 0 = some (t + 1) ∧ rdR w t 2 = some (t + 2) ∧ shp w (t + 1) = (13, 90) ∧ shp w (t + 2) = (10, 30)
def CT (w : Wd) (t : Nat) (T : Tst) : Prop := isTp w t ∧ rdI w t 1 = nI T.1 ∧ T.1 ≤ 90 ∧ ∀ i, i < T.1 → rdI w (t + 1) i = nI (T.2 i) ∧ 32 ≤ T.2 i ∧ T.2 i ≤ 126
def MT (w : Wd) (o : Nat) (T : Tst) : Prop := isMd w o ∧ rdI w o 6 = nI T.1 ∧ T.1 ≤ 90 ∧ ∀ i, i < T.1 → rdI w (o + 4) i = nI (T.2 i) ∧ 32 ≤ T.2 i ∧ T.2 i ≤ 126
def typT (T : Tst) (m : Nat) : Tst := (T.1 + 1, fun i => if i = T.1 then m else T.2 i)
def opType (T : Tst) (x : Int32) : Int32 × Tst := if 32 ≤ x ∧ x ≤ 126 then (if T.1 < 90 then (nI (T.1 + 1), typT T x.toNatClampNeg) else (-3, T)) else (-1, T)
theorem ch_iff {x : Int32} (h : 32 ≤ x ∧ x ≤ 126) : ∃ m, x = nI m ∧ 32 ≤ m ∧ m ≤ 126 := by
  obtain ⟨j, hj, rfl⟩ := nI_of2 (M := 126) (n := 126) (by decide) (Int32.not_lt.mpr (Int32.le_trans (by decide) h.1)) h.2
  exact ⟨j, rfl, (nI_leI (a := 32) (b := j) (by omega) (by omega)).mp h.1, hj⟩
theorem ch_i2c : ∀ m, m < 127 → ((nI m).toUInt32 % 65536).toInt32 = nI m := by decide
theorem ch_nar : ∀ m, m < 127 → vp_nar .char (nI m) = nI m := by decide
theorem s_t_append {w : Wd} {t m : Nat} {T : Tst} (h : CT w t T) (hm : m < 127) (h9 : T.1 < 90) : fX5_append [.ref t, .int (nI m)] w = some (none, wrI (wrI w (t + 1) T.1 (nI m)) t 1 (nI (T.1 + 1))) := by
  obtain ⟨h1, h2, h3, h4⟩ := h
  have l9 : nI T.1 < 90 := nI_lt (b := 90) (by omega) (by decide)
  have n1 : ¬ t = t + 1 := by omega
  refine sem_eq (Nat.le_of_ble_eq_true rfl) ?_
  show wp mX5_append 0 [some (.ref t), some (.int (nI m))] [] _ _
  simp only [eX5_append_0, eX5_append_1, eX5_append_4, eX5_append_6, eX5_append_9, eX5_append_10, eX5_append_13, eX5_append_14, eX5_append_17, eX5_append_18, eX5_append_19, eX5_append_20, eX5_append_20i, eX5_append_21, eX5_append_24, eX5_append_25, eX5_append_26, eX5_append_29, cont_some, tl_some, tl_none, csum_nil, csum_i, csum_r, csum_j, isc2_i, isc2_r, isc2_n, va_rf_s, vfn_ite, true_and, and_true, true_or, or_true, eq_self, Bool.false_eq_true, not_false_eq_true, not_true_eq_false, if_true, if_false, Nat.reduceAdd, Nat.reduceLeDiff, reduceIte, h1.1, h1.2.1, h1.2.2.1, h1.2.2.2.1, h2, l9, inA_nI h9 (show 90 < 2147483648 by omega), nI_clamp (show T.1 < 2 ^ 31 by omega), ch_nar m hm, shp_wrI, rdR_wrI, rdI_wrI, n1, false_and, nI_1]
theorem c_type {w : Wd} {b : Nat} {T : Tst} {x : Int32} (hc : isCl w b) (h : CT w (b + 41) T) : ∃ u, fX8_type [.ref b, .int x] w = some (some (.int (opType T x).1), u) ∧ CT u (b + 41) (opType T x).2 ∧ Fr (b + 41) (b + 43) w u := by
  obtain ⟨h1, h2, h3, h4⟩ := h
  by_cases q : 32 ≤ x ∧ x ≤ 126
  · obtain ⟨m, rfl, m1, m2⟩ := ch_iff q
    by_cases q9 : T.1 < 90
    · have l9 : nI T.1 < 90 := nI_lt (b := 90) (by omega) (by decide)
      have hap := s_t_append (m := m) ⟨h1, h2, h3, h4⟩ (by omega) q9
      have e : opType T (nI m) = (nI (T.1 + 1), typT T m) := by unfold opType; rw [if_pos q, if_pos q9, nI_clamp (by omega)]
      rw [e]
      refine ⟨wrI (wrI w (b + 41 + 1) T.1 (nI m)) (b + 41) 1 (nI (T.1 + 1)), ?_, ⟨h1, ?_, by simp only [typT]; omega, fun i hi => ?_⟩, (Fr.rf.wrI ⟨by omega, by omega⟩).wrI ⟨by omega, by omega⟩⟩
      · refine sem_eq (Nat.le_of_ble_eq_true rfl) ?_
        show wp mX8_type 0 [some (.ref b), some (.int (nI m))] [] _ _
        simp only [eX8_type_0, eX8_type_1, eX8_type_3, eX8_type_5, eX8_type_8, eX8_type_11, eX8_type_12, eX8_type_13, eX8_type_14, eX8_type_17, eX8_type_20, eX8_type_22, eX8_type_25, eX8_type_27, eX8_type_28, eX8_type_29, eX8_type_32, eX8_type_33, eX8_type_34, eX8_type_37, eX8_type_38, eX8_type_41, eX8_type_44, cont_some, tl_some, tl_none, csum_nil, csum_i, csum_r, csum_j, isc2_i, isc2_r, isc2_n, va_rf_s, vfn_ite, true_and, and_true, true_or, or_true, eq_self, Bool.false_eq_true, not_false_eq_true, not_true_eq_false, if_true, if_false, Nat.reduceAdd, Nat.reduceLeDiff, reduceIte, hc.1, hc.2.1, hc.2.2.1, hc.2.2.2.1, hc.2.2.2.2.1, hc.2.2.2.2.2.1, hc.2.2.2.2.2.2.1, hc.2.2.2.2.2.2.2.1, hc.2.2.2.2.2.2.2.2.1, hc.2.2.2.2.2.2.2.2.2.1, hc.2.2.2.2.2.2.2.2.2.2, s_isIn, b2i_0, q, and_self, h1.1, h2, l9, ch_i2c m (by omega), hap, shp_wrI, rdR_wrI, rdI_wrI]
      · simp [rdI_wrI, typT]
      · simp only [typT] at hi ⊢
        rw [rdI_wrI, if_neg (by omega), rdI_wrI]
        by_cases e : i = T.1
        · rw [if_pos e, if_pos ⟨rfl, e⟩]; exact ⟨rfl, m1, m2⟩
        · rw [if_neg e, if_neg (fun z => e z.2)]; exact h4 i (by omega)
    · have e9 : T.1 = 90 := by omega
      have l9 : ¬ nI T.1 < 90 := by rw [e9]; decide
      have e : opType T (nI m) = (-3, T) := by unfold opType; rw [if_pos q, if_neg q9]
      rw [e]
      refine ⟨w, ?_, ⟨h1, h2, h3, h4⟩, Fr.rf⟩
      refine sem_eq (Nat.le_of_ble_eq_true rfl) ?_
      show wp mX8_type 0 [some (.ref b), some (.int (nI m))] [] _ _
      simp only [eX8_type_0, eX8_type_1, eX8_type_3, eX8_type_5, eX8_type_8, eX8_type_11, eX8_type_12, eX8_type_13, eX8_type_14, eX8_type_17, eX8_type_20, eX8_type_22, eX8_type_25, eX8_type_27, cont_some, tl_some, tl_none, csum_nil, csum_i, csum_r, csum_j, isc2_i, isc2_r, isc2_n, va_rf_s, vfn_ite, true_and, and_true, true_or, or_true, eq_self, Bool.false_eq_true, not_false_eq_true, not_true_eq_false, if_true, if_false, Nat.reduceAdd, Nat.reduceLeDiff, reduceIte, hc.1, hc.2.1, hc.2.2.1, hc.2.2.2.1, hc.2.2.2.2.1, hc.2.2.2.2.2.1, hc.2.2.2.2.2.2.1, hc.2.2.2.2.2.2.2.1, hc.2.2.2.2.2.2.2.2.1, hc.2.2.2.2.2.2.2.2.2.1, hc.2.2.2.2.2.2.2.2.2.2, s_isIn, b2i_0, q, and_self, h1.1, h2, l9]
  · have e : opType T x = (-1, T) := by unfold opType; rw [if_neg q]
    rw [e]
    refine ⟨w, ?_, ⟨h1, h2, h3, h4⟩, Fr.rf⟩
    refine sem_eq (Nat.le_of_ble_eq_true rfl) ?_
    show wp mX8_type 0 [some (.ref b), some (.int x)] [] _ _
    simp only [eX8_type_0, eX8_type_1, eX8_type_3, eX8_type_5, eX8_type_8, eX8_type_11, eX8_type_12, cont_some, tl_some, tl_none, csum_nil, csum_i, csum_r, csum_j, isc2_i, isc2_r, isc2_n, va_rf_s, vfn_ite, true_and, and_true, true_or, or_true, eq_self, Bool.false_eq_true, not_false_eq_true, not_true_eq_false, if_true, if_false, Nat.reduceAdd, Nat.reduceLeDiff, reduceIte, s_isIn, b2i_0, q]
theorem in32 {x : Int32} {w : Wd} : fX9_in [.long x.toInt64, .long 32, .long 126] w = some (some (.int (b2i (32 ≤ x ∧ x ≤ 126))), w) := s_inI (by decide) (by decide)
theorem in48 {x : Int32} {w : Wd} : fX9_in [.long x.toInt64, .long 48, .long 57] w = some (some (.int (b2i (48 ≤ x ∧ x ≤ 57))), w) := s_inI (by decide) (by decide)
def Xt (o : Nat) : Nat → Nat → Prop := fun c j => (c = o ∧ (j = 6 ∨ j = 25 ∨ j = 26 ∨ j = 27)) ∨ c = o + 4 ∨ c = o + 12
theorem m_type {w : Wd} {o : Nat} {T : Tst} {x : Int32} (h : MT w o T) : ∃ u, fX9_type [.ref o, .int x] w = some (some (.int (opType T x).1), u) ∧ MT u o (opType T x).2 ∧ FrX (Xt o) w u := by
  obtain ⟨h1, h2, h3, h4⟩ := h
  by_cases q : 32 ≤ x ∧ x ≤ 126
  · obtain ⟨m, rfl, m1, m2⟩ := ch_iff q
    by_cases q9 : T.1 < 90
    · have l9 : ¬ nI T.1 = 90 := fun z => absurd ((nI_eq (a := T.1) (b := 90) (by omega) (by omega)).mp z) (by omega)
      have n1 : ¬ o = o + 4 := by omega
      have e : opType T (nI m) = (nI (T.1 + 1), typT T m) := by unfold opType; rw [if_pos q, if_pos q9, nI_clamp (by omega)]
      rw [e]
      refine ⟨wrI (wrI w (o + 4) T.1 (nI m)) o 6 (nI (T.1 + 1)), ?_, ⟨h1, ?_, by simp only [typT]; omega, fun i hi => ?_⟩, (FrX.rf.wrI (Or.inr (Or.inl rfl))).wrI (Or.inl ⟨rfl, Or.inl rfl⟩)⟩
      · refine sem_eq (Nat.le_of_ble_eq_true rfl) ?_
        show wp mX9_type 0 [some (.ref o), some (.int (nI m))] [] _ _
        simp only [eX9_type_0, eX9_type_1, eX9_type_2, eX9_type_5, eX9_type_8, eX9_type_11, eX9_type_14, eX9_type_15, eX9_type_16, eX9_type_17, eX9_type_20, eX9_type_22, eX9_type_25, eX9_type_27, eX9_type_28, eX9_type_29, eX9_type_32, eX9_type_33, eX9_type_36, eX9_type_37, eX9_type_38, eX9_type_39, eX9_type_39i, eX9_type_40, eX9_type_43, eX9_type_44, eX9_type_45, eX9_type_48, eX9_type_49, eX9_type_52, cont_some, tl_some, tl_none, csum_nil, csum_i, csum_r, csum_j, isc2_i, isc2_r, isc2_n, va_rf_s, vfn_ite, true_and, and_true, true_or, or_true, eq_self, Bool.false_eq_true, not_false_eq_true, not_true_eq_false, if_true, if_false, Nat.reduceAdd, Nat.reduceLeDiff, reduceIte, h1.1, h1.2.1, h1.2.2.1, h1.2.2.2.1, h1.2.2.2.2.1, h1.2.2.2.2.2.1, h1.2.2.2.2.2.2.1, h1.2.2.2.2.2.2.2.1, h1.2.2.2.2.2.2.2.2.1, h1.2.2.2.2.2.2.2.2.2.1, h1.2.2.2.2.2.2.2.2.2.2.1, h1.2.2.2.2.2.2.2.2.2.2.2.1, h1.2.2.2.2.2.2.2.2.2.2.2.2.1, h1.2.2.2.2.2.2.2.2.2.2.2.2.2.1, h1.2.2.2.2.2.2.2.2.2.2.2.2.2.2.1, h1.2.2.2.2.2.2.2.2.2.2.2.2.2.2.2.1, h1.2.2.2.2.2.2.2.2.2.2.2.2.2.2.2.2.1, h1.2.2.2.2.2.2.2.2.2.2.2.2.2.2.2.2.2.1, h1.2.2.2.2.2.2.2.2.2.2.2.2.2.2.2.2.2.2.1, h1.2.2.2.2.2.2.2.2.2.2.2.2.2.2.2.2.2.2.2.1, h1.2.2.2.2.2.2.2.2.2.2.2.2.2.2.2.2.2.2.2.2.1, h1.2.2.2.2.2.2.2.2.2.2.2.2.2.2.2.2.2.2.2.2.2.1, h1.2.2.2.2.2.2.2.2.2.2.2.2.2.2.2.2.2.2.2.2.2.2.1, h1.2.2.2.2.2.2.2.2.2.2.2.2.2.2.2.2.2.2.2.2.2.2.2.1, h1.2.2.2.2.2.2.2.2.2.2.2.2.2.2.2.2.2.2.2.2.2.2.2.2, in32, b2i_0, q, and_self, h2, l9, inA_nI q9 (show 90 < 2147483648 by omega), nI_clamp (show T.1 < 2 ^ 31 by omega), shp_wrI, rdR_wrI, rdI_wrI, n1, false_and, nI_1]
      · simp [rdI_wrI, typT]
      · simp only [typT] at hi ⊢
        rw [rdI_wrI, if_neg (by omega), rdI_wrI]
        by_cases e : i = T.1
        · rw [if_pos e, if_pos ⟨rfl, e⟩]; exact ⟨rfl, m1, m2⟩
        · rw [if_neg e, if_neg (fun z => e z.2)]; exact h4 i (by omega)
    · have e9 : T.1 = 90 := by omega
      have l9 : nI T.1 = 90 := by rw [e9]; rfl
      have e : opType T (nI m) = (-3, T) := by unfold opType; rw [if_pos q, if_neg q9]
      rw [e]
      refine ⟨w, ?_, ⟨h1, h2, h3, h4⟩, FrX.rf⟩
      refine sem_eq (Nat.le_of_ble_eq_true rfl) ?_
      show wp mX9_type 0 [some (.ref o), some (.int (nI m))] [] _ _
      simp only [eX9_type_0, eX9_type_1, eX9_type_2, eX9_type_5, eX9_type_8, eX9_type_11, eX9_type_14, eX9_type_15, eX9_type_16, eX9_type_17, eX9_type_20, eX9_type_22, eX9_type_25, eX9_type_27, cont_some, tl_some, tl_none, csum_nil, csum_i, csum_r, csum_j, isc2_i, isc2_r, isc2_n, va_rf_s, vfn_ite, true_and, and_true, true_or, or_true, eq_self, Bool.false_eq_true, not_false_eq_true, not_true_eq_false, if_true, if_false, Nat.reduceAdd, Nat.reduceLeDiff, reduceIte, h1.1, h1.2.1, h1.2.2.1, h1.2.2.2.1, h1.2.2.2.2.1, h1.2.2.2.2.2.1, h1.2.2.2.2.2.2.1, h1.2.2.2.2.2.2.2.1, h1.2.2.2.2.2.2.2.2.1, h1.2.2.2.2.2.2.2.2.2.1, h1.2.2.2.2.2.2.2.2.2.2.1, h1.2.2.2.2.2.2.2.2.2.2.2.1, h1.2.2.2.2.2.2.2.2.2.2.2.2.1, h1.2.2.2.2.2.2.2.2.2.2.2.2.2.1, h1.2.2.2.2.2.2.2.2.2.2.2.2.2.2.1, h1.2.2.2.2.2.2.2.2.2.2.2.2.2.2.2.1, h1.2.2.2.2.2.2.2.2.2.2.2.2.2.2.2.2.1, h1.2.2.2.2.2.2.2.2.2.2.2.2.2.2.2.2.2.1, h1.2.2.2.2.2.2.2.2.2.2.2.2.2.2.2.2.2.2.1, h1.2.2.2.2.2.2.2.2.2.2.2.2.2.2.2.2.2.2.2.1, h1.2.2.2.2.2.2.2.2.2.2.2.2.2.2.2.2.2.2.2.2.1, h1.2.2.2.2.2.2.2.2.2.2.2.2.2.2.2.2.2.2.2.2.2.1, h1.2.2.2.2.2.2.2.2.2.2.2.2.2.2.2.2.2.2.2.2.2.2.1, h1.2.2.2.2.2.2.2.2.2.2.2.2.2.2.2.2.2.2.2.2.2.2.2.1, h1.2.2.2.2.2.2.2.2.2.2.2.2.2.2.2.2.2.2.2.2.2.2.2.2, in32, b2i_0, q, and_self, h2, l9]
  · have e : opType T x = (-1, T) := by unfold opType; rw [if_neg q]
    rw [e]
    refine ⟨w, ?_, ⟨h1, h2, h3, h4⟩, FrX.rf⟩
    refine sem_eq (Nat.le_of_ble_eq_true rfl) ?_
    show wp mX9_type 0 [some (.ref o), some (.int x)] [] _ _
    simp only [eX9_type_0, eX9_type_1, eX9_type_2, eX9_type_5, eX9_type_8, eX9_type_11, eX9_type_14, eX9_type_15, cont_some, tl_some, tl_none, csum_nil, csum_i, csum_r, csum_j, isc2_i, isc2_r, isc2_n, va_rf_s, vfn_ite, true_and, and_true, true_or, or_true, eq_self, Bool.false_eq_true, not_false_eq_true, not_true_eq_false, if_true, if_false, Nat.reduceAdd, Nat.reduceLeDiff, reduceIte, in32, b2i_0, q]
/-! blanks, letters, figures -/
def skF (T : Tst) : Nat → Nat → Nat
  | 0, p => p
  | d + 1, p => if T.2 p = 32 then skF T d (p + 1) else p
def sk (T : Tst) (p : Nat) : Nat := skF T (T.1 - p) p
theorem skF_le {T : Tst} : ∀ (d p : Nat), p ≤ skF T d p ∧ skF T d p ≤ p + d := by
  intro d
  induction d with
  | zero => intro p; exact ⟨Nat.le_refl _, Nat.le_refl _⟩
  | succ d ih =>
    intro p
    unfold skF
    split
    · have := ih (p + 1); omega
    · omega
theorem sk_le {T : Tst} {p : Nat} (h : p ≤ T.1) : p ≤ sk T p ∧ sk T p ≤ T.1 := by
  have := skF_le (T := T) (T.1 - p) p
  unfold sk
  omega
theorem skF_sk {T : Tst} {d p : Nat} (h : p + d = T.1) : skF T d p = sk T p := by unfold sk; congr 1; omega
theorem CT.pl {w : Wd} {t : Nat} {T : Tst} {x : Int32} (h : CT w t T) : CT (wrI w t 4 x) t T := by
  obtain ⟨h1, h2, h3, h4⟩ := h
  exact ⟨h1, by rw [rdI_wrI, if_neg (by omega)]; exact h2, h3, fun i hi => by rw [rdI_wrI, if_neg (by omega)]; exact h4 i hi⟩
theorem MT.at {w : Wd} {o : Nat} {T : Tst} {x : Int32} {j : Nat} (h : MT w o T) (hj : j ≠ 6) : MT (wrI w o j x) o T := by
  obtain ⟨h1, h2, h3, h4⟩ := h
  exact ⟨h1, by rw [rdI_wrI, if_neg (by omega)]; exact h2, h3, fun i hi => by rw [rdI_wrI, if_neg (by omega)]; exact h4 i hi⟩
theorem nI_is {m k : Nat} (hm : m ≤ 126) (hk : k ≤ 126) : nI m = nI k ↔ m = k := nI_eq (by omega) (by omega)
theorem lo_skip {t : Nat} {T : Tst} : ∀ (d p : Nat) (w : Wd), p + d = T.1 → CT w t T → rdI w t 4 = nI p → wp mX5_skipBlanks 0 [some (.ref t)] [] w (fun r u => r = none ∧ u = wrI w t 4 (nI (skF T d p))) := by
  intro d
  induction d with
  | zero =>
    intro p w hp h h4
    have e : p = T.1 := by omega
    subst e
    have l : ¬ nI T.1 < nI T.1 := Int32.lt_irrefl
    simp only [eX5_skipBlanks_0, eX5_skipBlanks_1, eX5_skipBlanks_4, eX5_skipBlanks_5, eX5_skipBlanks_8, eX5_skipBlanks_38, cont_some, tl_some, tl_none, csum_nil, csum_i, csum_r, csum_j, isc2_i, isc2_r, isc2_n, va_rf_s, vfn_ite, true_and, and_true, true_or, or_true, eq_self, Bool.false_eq_true, not_false_eq_true, not_true_eq_false, if_true, if_false, Nat.reduceAdd, Nat.reduceLeDiff, reduceIte, h.1.1, h4, h.2.1, l, skF]
    exact (wrI_self h4).symm
  | succ d ih =>
    intro p w hp h h4
    obtain ⟨h1, h2, h3, h5⟩ := h
    have l : nI p < nI T.1 := nI_lt (by omega) (by omega)
    obtain ⟨g1, g2, g3⟩ := h5 p (by omega)
    have i9 := inA_nI (show p < 90 by omega) (show 90 < 2147483648 by omega)
    have cp := nI_clamp (show p < 2 ^ 31 by omega)
    by_cases q : T.2 p = 32
    · have e : nI (T.2 p) = 32 := by rw [q]; rfl
      simp only [eX5_skipBlanks_0, eX5_skipBlanks_1, eX5_skipBlanks_4, eX5_skipBlanks_5, eX5_skipBlanks_8, cont_some, tl_some, tl_none, csum_nil, csum_i, csum_r, csum_j, isc2_i, isc2_r, isc2_n, va_rf_s, vfn_ite, true_and, and_true, true_or, or_true, eq_self, Bool.false_eq_true, not_false_eq_true, not_true_eq_false, if_true, if_false, Nat.reduceAdd, Nat.reduceLeDiff, reduceIte, h1.1, h4, h2, l]
      simp only [eX5_skipBlanks_11, eX5_skipBlanks_12, eX5_skipBlanks_15, eX5_skipBlanks_16, eX5_skipBlanks_19, eX5_skipBlanks_20, eX5_skipBlanks_22, eX5_skipBlanks_25, eX5_skipBlanks_26, eX5_skipBlanks_26i, eX5_skipBlanks_27, eX5_skipBlanks_30, eX5_skipBlanks_31, eX5_skipBlanks_32, cont_some, tl_some, tl_none, csum_nil, csum_i, csum_r, csum_j, isc2_i, isc2_r, isc2_n, va_rf_s, vfn_ite, true_and, and_true, true_or, or_true, eq_self, Bool.false_eq_true, not_false_eq_true, not_true_eq_false, if_true, if_false, Nat.reduceAdd, Nat.reduceLeDiff, reduceIte, h1.1, h1.2.1, h1.2.2.2.1, h4, i9, cp, g1, e, nI_1]
      rw [eX5_skipBlanks_35]
      have := ih (p + 1) (wrI w t 4 (nI (p + 1))) (by omega) (CT.pl ⟨h1, h2, h3, h5⟩) (by simp [rdI_wrI])
      simp only [wrI_wrI] at this
      simp only [skF, q, if_true]
      exact this
    · have e : ¬ nI (T.2 p) = 32 := fun z => q ((nI_is (k := 32) g3 (by omega)).mp z)
      simp only [eX5_skipBlanks_0, eX5_skipBlanks_1, eX5_skipBlanks_4, eX5_skipBlanks_5, eX5_skipBlanks_8, eX5_skipBlanks_11, eX5_skipBlanks_12, eX5_skipBlanks_15, eX5_skipBlanks_16, eX5_skipBlanks_19, eX5_skipBlanks_20, eX5_skipBlanks_22, eX5_skipBlanks_38, cont_some, tl_some, tl_none, csum_nil, csum_i, csum_r, csum_j, isc2_i, isc2_r, isc2_n, va_rf_s, vfn_ite, true_and, and_true, true_or, or_true, eq_self, Bool.false_eq_true, not_false_eq_true, not_true_eq_false, if_true, if_false, Nat.reduceAdd, Nat.reduceLeDiff, reduceIte, h1.1, h1.2.1, h1.2.2.2.1, h4, h2, l, i9, cp, g1, e, skF, q]
      exact (wrI_self h4).symm
theorem s_skip {w : Wd} {t p : Nat} {T : Tst} (h : CT w t T) (h4 : rdI w t 4 = nI p) (hp : p ≤ T.1) : fX5_skipBlanks [.ref t] w = some (none, wrI w t 4 (nI (sk T p))) := by
  refine sem_eq (Nat.le_of_ble_eq_true rfl) ?_
  show wp mX5_skipBlanks 0 [some (.ref t)] [] _ _
  have := lo_skip (T.1 - p) p w (by omega) h h4
  rw [skF_sk (by omega)] at this
  exact this
def ltr (T : Tst) (p : Nat) (e : Int32) : Int32 := if p < T.1 then nI (T.2 p) else e
theorem s_letter {w : Wd} {t p : Nat} {T : Tst} (h : CT w t T) (h4 : rdI w t 4 = nI p) (hp : p ≤ T.1) : fX5_letter [.ref t] w = some (some (.int (ltr T p 0)), w) := by
  obtain ⟨h1, h2, h3, h5⟩ := h
  unfold ltr
  by_cases q : p < T.1
  · have l : nI p < nI T.1 := nI_lt (by omega) (by omega)
    obtain ⟨g1, g2, g3⟩ := h5 p q
    have hn : narrow .char (.int (nI (T.2 p))) = .int (nI (T.2 p)) := by
      have := ch_nar (T.2 p) (by omega)
      exact congrArg Value.int this
    rw [if_pos q]
    refine sem_eq (Nat.le_of_ble_eq_true rfl) ?_
    show wp mX5_letter 0 [some (.ref t)] [] _ _
    simp only [eX5_letter_0, eX5_letter_1, eX5_letter_4, eX5_letter_5, eX5_letter_8, eX5_letter_11, eX5_letter_12, eX5_letter_15, eX5_letter_16, eX5_letter_19, eX5_letter_20, eX5_letter_23, eX5_letter_24, cont_some, tl_some, tl_none, csum_nil, csum_i, csum_r, csum_j, isc2_i, isc2_r, isc2_n, va_rf_s, vfn_ite, true_and, and_true, true_or, or_true, eq_self, Bool.false_eq_true, not_false_eq_true, not_true_eq_false, if_true, if_false, Nat.reduceAdd, Nat.reduceLeDiff, reduceIte, h1.1, h1.2.1, h1.2.2.2.1, h4, h2, l, inA_nI (show p < 90 by omega) (show 90 < 2147483648 by omega), nI_clamp (show p < 2 ^ 31 by omega), g1, hn]
  · have l : ¬ nI p < nI T.1 := by rw [show p = T.1 by omega]; exact Int32.lt_irrefl
    have hn : narrow .char (.int 0) = .int 0 := rfl
    rw [if_neg q]
    refine sem_eq (Nat.le_of_ble_eq_true rfl) ?_
    show wp mX5_letter 0 [some (.ref t)] [] _ _
    simp only [eX5_letter_0, eX5_letter_1, eX5_letter_4, eX5_letter_5, eX5_letter_8, eX5_letter_11, eX5_letter_12, eX5_letter_15, eX5_letter_16, eX5_letter_19, eX5_letter_20, eX5_letter_23, eX5_letter_24, cont_some, tl_some, tl_none, csum_nil, csum_i, csum_r, csum_j, isc2_i, isc2_r, isc2_n, va_rf_s, vfn_ite, true_and, and_true, true_or, or_true, eq_self, Bool.false_eq_true, not_false_eq_true, not_true_eq_false, if_true, if_false, Nat.reduceAdd, Nat.reduceLeDiff, reduceIte, h1.1, h4, h2, l, hn]
abbrev fig (T : Tst) (p : Nat) : Prop := p < T.1 ∧ 48 ≤ T.2 p ∧ T.2 p ≤ 57
