theorem c_out {w : Wd} {b : Nat} {c : Cst} {k : Int32} (h : CC w b c) : ∃ u, fX8_out [.ref b, .int k] w = some (some (.int (opOut c k).1), u) ∧ CC u b (opOut c k).2 ∧ Fr b (b + 33) w u := by
  obtain ⟨S, m, P, i⟩ := c
  obtain ⟨n, C, tol, drw⟩ := S
  have hCC := h
  obtain ⟨h1, h2, h3, h4⟩ := h
  have h2' := h2
  obtain ⟨b0, b1, b2, b5, b3, b4⟩ := h2
  simp only at b1 b2 b3 b4 b5 h3 h4 h2'
  have hip := s_clPoint (k := k) h1 b0 b1
  by_cases q : 0 ≤ k ∧ k ≤ nI n - 1
  · obtain ⟨j, hj, rfl⟩ := (isPt_iff b2).mp q
    have kj := nI_clamp (show j < 2 ^ 31 by omega)
    obtain ⟨v, hv, pv, fv⟩ := s_keep h3 h2' (by omega)
    have hcv := h1.fr fv (by omega)
    have hsv := h2'.fr fv (by omega)
    have hrm := s_remove hsv.1 hsv.2.1 b2 hj
    simp only at hrm
    have n1 : ¬ b + 1 = b + 1 + 1 := by omega
    have n2 : ¬ b + 1 + 1 = b + 1 := by omega
    have fu : Fr (b + 1) (b + 3) v (rmW v (b + 1) n j) := by
      unfold rmW
      exact (Fr.rf.cpI ⟨by omega, by omega⟩).wrI ⟨by omega, by omega⟩
    have gn : rdI (rmW v (b + 1) n j) (b + 1) 1 = nI (n - 1) := by simp [rmW, rdI_wrI]
    have hsu : isSc (rmW v (b + 1) n j) (b + 1) := hsv.1
    have hcu := hcv.fr fu (by omega)
    have hS : scIs (rmW v (b + 1) n j) (b + 1) (rmS (n, C, tol, drw) j) := by
      refine ⟨hsu, gn, by simp only [rmS]; omega, fun i hi => ?_, ?_, ?_⟩
      · simp only [rmS] at hi ⊢
        simp only [rmW, rdI_wrI, n2, false_and, if_false, rdI_cpI, true_and]
        by_cases z : i < 3 * j
        · rw [if_neg (by omega), if_pos z]; exact hsv.2.2.2.1 i (by simp only; omega)
        · rw [if_pos (by omega), if_neg z, show 3 * (j + 1) + (i - 3 * j) = i + 3 by omega]; exact hsv.2.2.2.1 (i + 3) (by simp only; omega)
      · have e : rdI (rmW v (b + 1) n j) (b + 1) 2 = rdI v (b + 1) 2 := by simp [rmW, rdI_wrI, rdI_cpI]
        rw [e]; exact hsv.2.2.2.2.1
      · have e : rdI (rmW v (b + 1) n j) (b + 1) 3 = rdI v (b + 1) 3 := by simp [rmW, rdI_wrI, rdI_cpI]
        rw [e]; exact hsv.2.2.2.2.2
    obtain ⟨r1, r2⟩ := hCC.deed pv fv fu hS
    refine ⟨_, ?_, by simp only [opOut, q, and_self, if_true, kj]; exact r1, r2⟩
    simp only [opOut, q, and_self, if_true]
    have p0 : shp w (b + 3) = (2, 0) := by obtain ⟨ad, hp, -⟩ := h3; exact hp.1
    refine sem_eq (Nat.le_of_ble_eq_true rfl) ?_
    show wp mX8_out 0 [some (.ref b), some (.int (nI j))] [] _ _
    simp only [eX8_out_0, eX8_out_1, eX8_out_2, eX8_out_5, eX8_out_8, eX8_out_9, eX8_out_10, eX8_out_11, eX8_out_14, eX8_out_15, eX8_out_18, cont_some, tl_some, tl_none, csum_nil, csum_i, csum_r, csum_j, isc2_i, isc2_r, isc2_n, va_rf_s, vfn_ite, true_and, and_true, true_or, or_true, eq_self, Bool.false_eq_true, not_false_eq_true, not_true_eq_false, if_true, if_false, Nat.reduceAdd, Nat.reduceLeDiff, reduceIte, h1.1, h1.2.1, h1.2.2.1, h1.2.2.2.1, h1.2.2.2.2.1, h1.2.2.2.2.2.1, h1.2.2.2.2.2.2.1, h1.2.2.2.2.2.2.2.1, h1.2.2.2.2.2.2.2.2.1, h1.2.2.2.2.2.2.2.2.2.1, h1.2.2.2.2.2.2.2.2.2.2, hip, p0, b2i_0, q, and_self, hv]
    simp only [eX8_out_21, eX8_out_22, eX8_out_25, eX8_out_26, eX8_out_29, eX8_out_30, eX8_out_33, eX8_out_36, cont_some, tl_some, tl_none, csum_nil, csum_i, csum_r, csum_j, isc2_i, isc2_r, isc2_n, va_rf_s, vfn_ite, true_and, and_true, true_or, or_true, eq_self, Bool.false_eq_true, not_false_eq_true, not_true_eq_false, if_true, if_false, Nat.reduceAdd, Nat.reduceLeDiff, reduceIte, hcv.1, hcv.2.1, hcv.2.2.1, hcv.2.2.2.1, hcv.2.2.2.2.1, hcv.2.2.2.2.2.1, hcv.2.2.2.2.2.2.1, hcv.2.2.2.2.2.2.2.1, hcv.2.2.2.2.2.2.2.2.1, hcv.2.2.2.2.2.2.2.2.2.1, hcv.2.2.2.2.2.2.2.2.2.2, hcu.1, hcu.2.1, hcu.2.2.1, hcu.2.2.2.1, hcu.2.2.2.2.1, hcu.2.2.2.2.2.1, hcu.2.2.2.2.2.2.1, hcu.2.2.2.2.2.2.2.1, hcu.2.2.2.2.2.2.2.2.1, hcu.2.2.2.2.2.2.2.2.2.1, hcu.2.2.2.2.2.2.2.2.2.2, hsv.1.1, hsu.1, hrm, gn]
  · refine ⟨w, ?_, by simp only [opOut, q, if_false]; exact hCC, Fr.rf⟩
    simp only [opOut, q, if_false]
    refine sem_eq (Nat.le_of_ble_eq_true rfl) ?_
    show wp mX8_out 0 [some (.ref b), some (.int k)] [] _ _
    simp only [eX8_out_0, eX8_out_1, eX8_out_2, eX8_out_5, eX8_out_8, eX8_out_9, cont_some, tl_some, tl_none, csum_nil, csum_i, csum_r, csum_j, isc2_i, isc2_r, isc2_n, va_rf_s, vfn_ite, true_and, and_true, true_or, or_true, eq_self, Bool.false_eq_true, not_false_eq_true, not_true_eq_false, if_true, if_false, Nat.reduceAdd, Nat.reduceLeDiff, reduceIte, h1.1, h1.2.1, h1.2.2.1, h1.2.2.2.1, h1.2.2.2.2.1, h1.2.2.2.2.2.1, h1.2.2.2.2.2.2.1, h1.2.2.2.2.2.2.2.1, h1.2.2.2.2.2.2.2.2.1, h1.2.2.2.2.2.2.2.2.2.1, h1.2.2.2.2.2.2.2.2.2.2, hip, b2i_0, q]
theorem c_tol {w : Wd} {b : Nat} {c : Cst} {t : Int32} (h : CC w b c) : ∃ u, fX8_tolerance [.ref b, .int t] w = some (some (.int (opTol c t).1), u) ∧ CC u b (opTol c t).2 ∧ Fr b (b + 33) w u := by
  obtain ⟨S, m, P, i⟩ := c
  obtain ⟨n, C, tol, drw⟩ := S
  have hCC := h
  obtain ⟨h1, h2, h3, h4⟩ := h
  have h2' := h2
  obtain ⟨b0, b1, b2, b5, b3, b4⟩ := h2
  simp only at b1 b2 b3 b4 b5 h3 h4 h2'
  by_cases q : 0 ≤ t ∧ t ≤ 999
  · by_cases qe : tol = t
    · refine ⟨w, ?_, by simp only [opTol, q, qe, and_self, if_true]; exact qe ▸ hCC, Fr.rf⟩
      simp only [opTol, q, qe, and_self, if_true]
      refine sem_eq (Nat.le_of_ble_eq_true rfl) ?_
      show wp mX8_tolerance 0 [some (.ref b), some (.int t), none] [] _ _
      simp only [eX8_tolerance_0, eX8_tolerance_1, eX8_tolerance_2, eX8_tolerance_5, eX8_tolerance_8, eX8_tolerance_11, eX8_tolerance_12, eX8_tolerance_13, eX8_tolerance_14, eX8_tolerance_17, eX8_tolerance_20, eX8_tolerance_21, eX8_tolerance_22, eX8_tolerance_23, eX8_tolerance_26, eX8_tolerance_28, cont_some, tl_some, tl_none, csum_nil, csum_i, csum_r, csum_j, isc2_i, isc2_r, isc2_n, va_rf_s, vfn_ite, true_and, and_true, true_or, or_true, eq_self, Bool.false_eq_true, not_false_eq_true, not_true_eq_false, if_true, if_false, Nat.reduceAdd, Nat.reduceLeDiff, reduceIte, h1.1, h1.2.1, h1.2.2.1, h1.2.2.2.1, h1.2.2.2.2.1, h1.2.2.2.2.2.1, h1.2.2.2.2.2.2.1, h1.2.2.2.2.2.2.2.1, h1.2.2.2.2.2.2.2.2.1, h1.2.2.2.2.2.2.2.2.2.1, h1.2.2.2.2.2.2.2.2.2.2, b0.1, s_isIn, b2i_0, q, and_self, b3, qe]
    · have qe' : ¬ t = tol := fun z => qe z.symm
      obtain ⟨v, hv, pv, fv⟩ := s_keep h3 h2' (by omega)
      have hcv := h1.fr fv (by omega)
      have hsv := h2'.fr fv (by omega)
      have n2 : ¬ b + 1 + 1 = b + 1 := by omega
      have fu : Fr (b + 1) (b + 3) v (wrI v (b + 1) 2 t) := Fr.rf.wrI ⟨by omega, by omega⟩
      have hS : scIs (wrI v (b + 1) 2 t) (b + 1) (tolS (n, C, tol, drw) t) := by
        refine ⟨hsv.1, by rw [rdI_wrI, if_neg (by omega)]; exact hsv.2.1, b2, fun i hi => by rw [rdI_wrI, if_neg (by omega)]; exact hsv.2.2.2.1 i hi, by simp [rdI_wrI, tolS], by rw [rdI_wrI, if_neg (by omega)]; exact hsv.2.2.2.2.2⟩
      obtain ⟨r1, r2⟩ := hCC.deed pv fv fu hS
      refine ⟨_, ?_, by simp only [opTol, q, qe, and_self, if_true, if_false]; exact r1, r2⟩
      simp only [opTol, q, qe, and_self, if_true, if_false]
      have p0 : shp w (b + 3) = (2, 0) := by obtain ⟨ad, hp, -⟩ := h3; exact hp.1
      refine sem_eq (Nat.le_of_ble_eq_true rfl) ?_
      show wp mX8_tolerance 0 [some (.ref b), some (.int t), none] [] _ _
      simp only [eX8_tolerance_0, eX8_tolerance_1, eX8_tolerance_2, eX8_tolerance_5, eX8_tolerance_8, eX8_tolerance_11, eX8_tolerance_12, eX8_tolerance_13, eX8_tolerance_14, eX8_tolerance_17, eX8_tolerance_20, eX8_tolerance_21, eX8_tolerance_22, eX8_tolerance_23, eX8_tolerance_26, eX8_tolerance_28, eX8_tolerance_29, eX8_tolerance_30, eX8_tolerance_33, eX8_tolerance_34, eX8_tolerance_37, cont_some, tl_some, tl_none, csum_nil, csum_i, csum_r, csum_j, isc2_i, isc2_r, isc2_n, va_rf_s, vfn_ite, true_and, and_true, true_or, or_true, eq_self, Bool.false_eq_true, not_false_eq_true, not_true_eq_false, if_true, if_false, Nat.reduceAdd, Nat.reduceLeDiff, reduceIte, h1.1, h1.2.1, h1.2.2.1, h1.2.2.2.1, h1.2.2.2.2.1, h1.2.2.2.2.2.1, h1.2.2.2.2.2.2.1, h1.2.2.2.2.2.2.2.1, h1.2.2.2.2.2.2.2.2.1, h1.2.2.2.2.2.2.2.2.2.1, h1.2.2.2.2.2.2.2.2.2.2, b0.1, p0, s_isIn, b2i_0, q, and_self, b3, qe', hv]
      simp only [eX8_tolerance_40, eX8_tolerance_41, eX8_tolerance_44, eX8_tolerance_45, eX8_tolerance_48, eX8_tolerance_49, cont_some, tl_some, tl_none, csum_nil, csum_i, csum_r, csum_j, isc2_i, isc2_r, isc2_n, va_rf_s, vfn_ite, true_and, and_true, true_or, or_true, eq_self, Bool.false_eq_true, not_false_eq_true, not_true_eq_false, if_true, if_false, Nat.reduceAdd, Nat.reduceLeDiff, reduceIte, hcv.1, hcv.2.1, hcv.2.2.1, hcv.2.2.2.1, hcv.2.2.2.2.1, hcv.2.2.2.2.2.1, hcv.2.2.2.2.2.2.1, hcv.2.2.2.2.2.2.2.1, hcv.2.2.2.2.2.2.2.2.1, hcv.2.2.2.2.2.2.2.2.2.1, hcv.2.2.2.2.2.2.2.2.2.2, hsv.1.1]
  · refine ⟨w, ?_, by simp only [opTol, q, if_false]; exact hCC, Fr.rf⟩
    simp only [opTol, q, if_false]
    refine sem_eq (Nat.le_of_ble_eq_true rfl) ?_
    show wp mX8_tolerance 0 [some (.ref b), some (.int t), none] [] _ _
    simp only [eX8_tolerance_0, eX8_tolerance_1, eX8_tolerance_2, eX8_tolerance_5, eX8_tolerance_8, eX8_tolerance_11, eX8_tolerance_12, cont_some, tl_some, tl_none, csum_nil, csum_i, csum_r, csum_j, isc2_i, isc2_r, isc2_n, va_rf_s, vfn_ite, true_and, and_true, true_or, or_true, eq_self, Bool.false_eq_true, not_false_eq_true, not_true_eq_false, if_true, if_false, Nat.reduceAdd, Nat.reduceLeDiff, reduceIte, s_isIn, b2i_0, q]
theorem c_seed {w : Wd} {b : Nat} {c : Cst} {v : Int32} (h : CC w b c) : ∃ u, fX8_seed [.ref b, .int v] w = some (some (.int (opSeed c v).1), u) ∧ CC u b (opSeed c v).2 ∧ Fr b (b + 33) w u := by
  obtain ⟨S, m, P, i⟩ := c
  obtain ⟨n, C, tol, drw⟩ := S
  have hCC := h
  obtain ⟨h1, h2, h3, h4⟩ := h
  have h2' := h2
  obtain ⟨b0, b1, b2, b5, b3, b4⟩ := h2
  simp only at b1 b2 b3 b4 b5 h3 h4 h2'
  by_cases q : v < 0
  · refine ⟨w, ?_, by simp only [opSeed, q, if_true]; exact hCC, Fr.rf⟩
    simp only [opSeed, q, if_true]
    refine sem_eq (Nat.le_of_ble_eq_true rfl) ?_
    show wp mX8_seed 0 [some (.ref b), some (.int v), none] [] _ _
    simp only [eX8_seed_0, eX8_seed_1, eX8_seed_4, eX8_seed_5, cont_some, tl_some, tl_none, csum_nil, csum_i, csum_r, csum_j, isc2_i, isc2_r, isc2_n, va_rf_s, vfn_ite, true_and, and_true, true_or, or_true, eq_self, Bool.false_eq_true, not_false_eq_true, not_true_eq_false, if_true, if_false, Nat.reduceAdd, Nat.reduceLeDiff, reduceIte, q]
  · have fu : Fr (b + 1) (b + 3) w (wrI w (b + 1) 3 v) := Fr.rf.wrI ⟨by omega, by omega⟩
    refine ⟨wrI w (b + 1) 3 v, ?_, ?_, fu.wide (by omega) (by omega)⟩
    · simp only [opSeed, q, if_false]
      refine sem_eq (Nat.le_of_ble_eq_true rfl) ?_
      show wp mX8_seed 0 [some (.ref b), some (.int v), none] [] _ _
      simp only [eX8_seed_0, eX8_seed_1, eX8_seed_4, eX8_seed_5, eX8_seed_6, eX8_seed_7, eX8_seed_10, eX8_seed_13, eX8_seed_14, eX8_seed_15, eX8_seed_18, eX8_seed_19, eX8_seed_22, eX8_seed_23, cont_some, tl_some, tl_none, csum_nil, csum_i, csum_r, csum_j, isc2_i, isc2_r, isc2_n, va_rf_s, vfn_ite, true_and, and_true, true_or, or_true, eq_self, Bool.false_eq_true, not_false_eq_true, not_true_eq_false, if_true, if_false, Nat.reduceAdd, Nat.reduceLeDiff, reduceIte, h1.1, h1.2.1, h1.2.2.1, h1.2.2.2.1, h1.2.2.2.2.1, h1.2.2.2.2.2.1, h1.2.2.2.2.2.2.1, h1.2.2.2.2.2.2.2.1, h1.2.2.2.2.2.2.2.2.1, h1.2.2.2.2.2.2.2.2.2.1, h1.2.2.2.2.2.2.2.2.2.2, b0.1, b4, q]
    · simp only [opSeed, q, if_false]
      refine ⟨h1, ⟨b0, by rw [rdI_wrI, if_neg (by omega)]; exact b1, b2, fun i hi => by rw [rdI_wrI, if_neg (by omega)]; exact b5 i hi, by rw [rdI_wrI, if_neg (by omega)]; exact b3, by simp [rdI_wrI, drwS]⟩, h3.fr fu (by omega), h4.fr fu (by omega) (by omega)⟩
theorem c_point {w : Wd} {b : Nat} {c : Cst} {k a : Int32} (h : CC w b c) : fX8_point [.ref b, .int k, .int a] w = some (some (.int (opPoint c k a)), w) := by
  obtain ⟨S, m, P, i⟩ := c
  obtain ⟨n, C, tol, drw⟩ := S
  obtain ⟨h1, h2, h3, h4⟩ := h
  obtain ⟨b0, b1, b2, b5, b3, b4⟩ := h2
  simp only at b1 b2 b3 b4 b5 h3 h4
  have hip := s_clPoint (k := k) h1 b0 b1
  by_cases q : 0 ≤ k ∧ k ≤ nI n - 1
  · by_cases qa : 0 ≤ a ∧ a ≤ 2
    · obtain ⟨j, hj, rfl⟩ := (isPt_iff b2).mp q
      obtain ⟨l, hl, rfl⟩ := ax_iff.mp qa
      have kj := nI_clamp (show j < 2 ^ 31 by omega)
      have kl := nI_clamp (show l < 2 ^ 31 by omega)
      simp only [opPoint, q, qa, and_self, if_true, kj, kl]
      refine sem_eq (Nat.le_of_ble_eq_true rfl) ?_
      show wp mX8_point 0 [some (.ref b), some (.int (nI j)), some (.int (nI l))] [] _ _
      simp only [eX8_point_0, eX8_point_1, eX8_point_2, eX8_point_5, eX8_point_8, eX8_point_9, eX8_point_12, eX8_point_15, eX8_point_16, eX8_point_17, eX8_point_18, eX8_point_21, eX8_point_22, eX8_point_23, eX8_point_26, eX8_point_28, eX8_point_29, cont_some, tl_some, tl_none, csum_nil, csum_i, csum_r, csum_j, isc2_i, isc2_r, isc2_n, va_rf_s, vfn_ite, true_and, and_true, true_or, or_true, eq_self, Bool.false_eq_true, not_false_eq_true, not_true_eq_false, if_true, if_false, Nat.reduceAdd, Nat.reduceLeDiff, reduceIte, h1.1, h1.2.1, h1.2.2.1, h1.2.2.2.1, h1.2.2.2.2.1, h1.2.2.2.2.2.1, h1.2.2.2.2.2.2.1, h1.2.2.2.2.2.2.2.1, h1.2.2.2.2.2.2.2.2.1, h1.2.2.2.2.2.2.2.2.2.1, h1.2.2.2.2.2.2.2.2.2.2, b0.1, hip, s_isAxis, b2i_0, q, qa, and_self, s_coordinate (k := j) (j := l) b0 (by omega), b5 (3 * j + l) (by omega)]
    · simp only [opPoint, q, qa, and_false, if_false]
      refine sem_eq (Nat.le_of_ble_eq_true rfl) ?_
      show wp mX8_point 0 [some (.ref b), some (.int k), some (.int a)] [] _ _
      simp only [eX8_point_0, eX8_point_1, eX8_point_2, eX8_point_5, eX8_point_8, eX8_point_9, eX8_point_12, eX8_point_15, eX8_point_16, eX8_point_17, eX8_point_18, eX8_point_21, eX8_point_22, eX8_point_23, eX8_point_26, eX8_point_28, eX8_point_29, cont_some, tl_some, tl_none, csum_nil, csum_i, csum_r, csum_j, isc2_i, isc2_r, isc2_n, va_rf_s, vfn_ite, true_and, and_true, true_or, or_true, eq_self, Bool.false_eq_true, not_false_eq_true, not_true_eq_false, if_true, if_false, Nat.reduceAdd, Nat.reduceLeDiff, reduceIte, h1.1, h1.2.1, h1.2.2.1, h1.2.2.2.1, h1.2.2.2.2.1, h1.2.2.2.2.2.1, h1.2.2.2.2.2.2.1, h1.2.2.2.2.2.2.2.1, h1.2.2.2.2.2.2.2.2.1, h1.2.2.2.2.2.2.2.2.2.1, h1.2.2.2.2.2.2.2.2.2.2, hip, s_isAxis, b2i_0, q, qa, and_self]
  · simp only [opPoint, q, false_and, if_false]
    refine sem_eq (Nat.le_of_ble_eq_true rfl) ?_
    show wp mX8_point 0 [some (.ref b), some (.int k), some (.int a)] [] _ _
    simp only [eX8_point_0, eX8_point_1, eX8_point_2, eX8_point_5, eX8_point_8, eX8_point_9, eX8_point_12, eX8_point_15, eX8_point_16, eX8_point_17, eX8_point_18, eX8_point_21, eX8_point_22, eX8_point_23, eX8_point_26, eX8_point_28, eX8_point_29, cont_some, tl_some, tl_none, csum_nil, csum_i, csum_r, csum_j, isc2_i, isc2_r, isc2_n, va_rf_s, vfn_ite, true_and, and_true, true_or, or_true, eq_self, Bool.false_eq_true, not_false_eq_true, not_true_eq_false, if_true, if_false, Nat.reduceAdd, Nat.reduceLeDiff, reduceIte, h1.1, h1.2.1, h1.2.2.1, h1.2.2.2.1, h1.2.2.2.2.1, h1.2.2.2.2.2.1, h1.2.2.2.2.2.2.1, h1.2.2.2.2.2.2.2.1, h1.2.2.2.2.2.2.2.2.1, h1.2.2.2.2.2.2.2.2.2.1, h1.2.2.2.2.2.2.2.2.2.2, hip, b2i_0, q]
theorem c_move {w : Wd} {b : Nat} {c : Cst} {k a x : Int32} (h : CC w b c) : ∃ u, fX8_move [.ref b, .int k, .int a, .int x] w = some (some (.int (opMove c k a x).1), u) ∧ CC u b (opMove c k a x).2 ∧ Fr b (b + 33) w u := by
  obtain ⟨S, m, P, i⟩ := c
  obtain ⟨n, C, tol, drw⟩ := S
  have hCC := h
  obtain ⟨h1, h2, h3, h4⟩ := h
  have h2' := h2
  obtain ⟨b0, b1, b2, b5, b3, b4⟩ := h2
  simp only at b1 b2 b3 b4 b5 h3 h4 h2'
  have hip := s_clPoint (k := k) h1 b0 b1
  by_cases q : 0 ≤ k ∧ k ≤ nI n - 1
  · by_cases qa : 0 ≤ a ∧ a ≤ 2
    · by_cases qx : -15 ≤ x ∧ x ≤ 15
      · obtain ⟨j, hj, rfl⟩ := (isPt_iff b2).mp q
        have kj := nI_clamp (show j < 2 ^ 31 by omega)
        have hgo := s_isFree (a := a) (v := x) b0 b1 b2 hj
        rw [freeB_congr (C' := C) hj (fun i hi => b5 i hi)] at hgo
        by_cases qf : freeB C n j a x = true
        · obtain ⟨l, hl, rfl⟩ := ax_iff.mp qa
          have kl := nI_clamp (show l < 2 ^ 31 by omega)
          obtain ⟨v, hv, pv, fv⟩ := s_keep h3 h2' (by omega)
          have hcv := h1.fr fv (by omega)
          have hsv := h2'.fr fv (by omega)
          have hpl := s_place (k := j) (j := l) (v := x) hsv.1 (by omega)
          have n2 : ¬ b + 1 + 1 = b + 1 := by omega
          have fu : Fr (b + 1) (b + 3) v (wrI v (b + 1 + 1) (3 * j + l) x) := Fr.rf.wrI ⟨by omega, by omega⟩
          have hS : scIs (wrI v (b + 1 + 1) (3 * j + l) x) (b + 1) (mvS (n, C, tol, drw) j l x) := by
            refine ⟨hsv.1, by rw [rdI_wrI, if_neg (by omega)]; exact hsv.2.1, b2, fun i hi => ?_, by rw [rdI_wrI, if_neg (by omega)]; exact hsv.2.2.2.2.1, by rw [rdI_wrI, if_neg (by omega)]; exact hsv.2.2.2.2.2⟩
            simp only [mvS, rdI_wrI, true_and]
            by_cases z : i = 3 * j + l
            · rw [if_pos z, if_pos z]
            · rw [if_neg z, if_neg z]; exact hsv.2.2.2.1 i hi
          obtain ⟨r1, r2⟩ := hCC.deed pv fv fu hS
          refine ⟨_, ?_, by simp only [opMove, q, qa, qx, qf, and_self, if_true, kj, kl]; exact r1, r2⟩
          simp only [opMove, q, qa, qx, qf, and_self, if_true, kj, kl]
          have p0 : shp w (b + 3) = (2, 0) := by obtain ⟨ad, hp, -⟩ := h3; exact hp.1
          refine sem_eq (Nat.le_of_ble_eq_true rfl) ?_
          show wp mX8_move 0 [some (.ref b), some (.int (nI j)), some (.int (nI l)), some (.int x), none] [] _ _
          simp only [eX8_move_0, eX8_move_1, eX8_move_2, eX8_move_5, eX8_move_8, eX8_move_9, eX8_move_12, eX8_move_15, eX8_move_16, eX8_move_19, eX8_move_22, eX8_move_23, eX8_move_24, eX8_move_25, eX8_move_28, eX8_move_29, eX8_move_30, eX8_move_31, eX8_move_34, eX8_move_37, eX8_move_39, eX8_move_40, eX8_move_41, eX8_move_44, eX8_move_45, eX8_move_46, eX8_move_49, eX8_move_51, eX8_move_52, eX8_move_55, eX8_move_56, eX8_move_59, cont_some, tl_some, tl_none, csum_nil, csum_i, csum_r, csum_j, isc2_i, isc2_r, isc2_n, va_rf_s, vfn_ite, true_and, and_true, true_or, or_true, eq_self, Bool.false_eq_true, not_false_eq_true, not_true_eq_false, if_true, if_false, Nat.reduceAdd, Nat.reduceLeDiff, reduceIte, h1.1, h1.2.1, h1.2.2.1, h1.2.2.2.1, h1.2.2.2.2.1, h1.2.2.2.2.2.1, h1.2.2.2.2.2.2.1, h1.2.2.2.2.2.2.2.1, h1.2.2.2.2.2.2.2.2.1, h1.2.2.2.2.2.2.2.2.2.1, h1.2.2.2.2.2.2.2.2.2.2, b0.1, p0, hip, s_isAxis, s_isCoordinate, b2i_0, q, qa, qx, and_self, hgo, qf, s_coordinate (k := j) (j := l) b0 (by omega), b5 (3 * j + l) (by omega), hv]
          simp only [eX8_move_62, eX8_move_63, eX8_move_66, eX8_move_67, eX8_move_68, eX8_move_69, eX8_move_72, eX8_move_74, eX8_move_76, eX8_move_77, cont_some, tl_some, tl_none, csum_nil, csum_i, csum_r, csum_j, isc2_i, isc2_r, isc2_n, va_rf_s, vfn_ite, true_and, and_true, true_or, or_true, eq_self, Bool.false_eq_true, not_false_eq_true, not_true_eq_false, if_true, if_false, Nat.reduceAdd, Nat.reduceLeDiff, reduceIte, hcv.1, hcv.2.1, hcv.2.2.1, hcv.2.2.2.1, hcv.2.2.2.2.1, hcv.2.2.2.2.2.1, hcv.2.2.2.2.2.2.1, hcv.2.2.2.2.2.2.2.1, hcv.2.2.2.2.2.2.2.2.1, hcv.2.2.2.2.2.2.2.2.2.1, hcv.2.2.2.2.2.2.2.2.2.2, hsv.1.1, hpl]
        · refine ⟨w, ?_, by simp only [opMove, q, qa, qx, qf, and_self, if_true, Bool.false_eq_true, if_false, kj]; exact hCC, Fr.rf⟩
          simp only [opMove, q, qa, qx, qf, and_self, if_true, Bool.false_eq_true, if_false, kj]
          refine sem_eq (Nat.le_of_ble_eq_true rfl) ?_
          show wp mX8_move 0 [some (.ref b), some (.int (nI j)), some (.int a), some (.int x), none] [] _ _
          simp only [eX8_move_0, eX8_move_1, eX8_move_2, eX8_move_5, eX8_move_8, eX8_move_9, eX8_move_12, eX8_move_15, eX8_move_16, eX8_move_19, eX8_move_22, eX8_move_23, eX8_move_24, eX8_move_25, eX8_move_28, eX8_move_29, eX8_move_30, eX8_move_31, eX8_move_34, eX8_move_37, eX8_move_39, cont_some, tl_some, tl_none, csum_nil, csum_i, csum_r, csum_j, isc2_i, isc2_r, isc2_n, va_rf_s, vfn_ite, true_and, and_true, true_or, or_true, eq_self, Bool.false_eq_true, not_false_eq_true, not_true_eq_false, if_true, if_false, Nat.reduceAdd, Nat.reduceLeDiff, reduceIte, h1.1, h1.2.1, h1.2.2.1, h1.2.2.2.1, h1.2.2.2.2.1, h1.2.2.2.2.2.1, h1.2.2.2.2.2.2.1, h1.2.2.2.2.2.2.2.1, h1.2.2.2.2.2.2.2.2.1, h1.2.2.2.2.2.2.2.2.2.1, h1.2.2.2.2.2.2.2.2.2.2, b0.1, hip, s_isAxis, s_isCoordinate, b2i_0, q, qa, qx, and_self, hgo, qf]
      · refine ⟨w, ?_, by simp only [opMove, qx, and_false, if_false]; exact hCC, Fr.rf⟩
        simp only [opMove, qx, and_false, if_false]
        refine sem_eq (Nat.le_of_ble_eq_true rfl) ?_
        show wp mX8_move 0 [some (.ref b), some (.int k), some (.int a), some (.int x), none] [] _ _
        simp only [eX8_move_0, eX8_move_1, eX8_move_2, eX8_move_5, eX8_move_8, eX8_move_9, eX8_move_12, eX8_move_15, eX8_move_16, eX8_move_19, eX8_move_22, eX8_move_23, cont_some, tl_some, tl_none, csum_nil, csum_i, csum_r, csum_j, isc2_i, isc2_r, isc2_n, va_rf_s, vfn_ite, true_and, and_true, true_or, or_true, eq_self, Bool.false_eq_true, not_false_eq_true, not_true_eq_false, if_true, if_false, Nat.reduceAdd, Nat.reduceLeDiff, reduceIte, h1.1, h1.2.1, h1.2.2.1, h1.2.2.2.1, h1.2.2.2.2.1, h1.2.2.2.2.2.1, h1.2.2.2.2.2.2.1, h1.2.2.2.2.2.2.2.1, h1.2.2.2.2.2.2.2.2.1, h1.2.2.2.2.2.2.2.2.2.1, h1.2.2.2.2.2.2.2.2.2.2, hip, s_isAxis, s_isCoordinate, b2i_0, q, qa, qx, and_self]
    · refine ⟨w, ?_, by simp only [opMove, qa, false_and, and_false, if_false]; exact hCC, Fr.rf⟩
      simp only [opMove, qa, false_and, and_false, if_false]
      refine sem_eq (Nat.le_of_ble_eq_true rfl) ?_
      show wp mX8_move 0 [some (.ref b), some (.int k), some (.int a), some (.int x), none] [] _ _
      simp only [eX8_move_0, eX8_move_1, eX8_move_2, eX8_move_5, eX8_move_8, eX8_move_9, eX8_move_12, eX8_move_15, eX8_move_16, eX8_move_19, eX8_move_22, eX8_move_23, cont_some, tl_some, tl_none, csum_nil, csum_i, csum_r, csum_j, isc2_i, isc2_r, isc2_n, va_rf_s, vfn_ite, true_and, and_true, true_or, or_true, eq_self, Bool.false_eq_true, not_false_eq_true, not_true_eq_false, if_true, if_false, Nat.reduceAdd, Nat.reduceLeDiff, reduceIte, h1.1, h1.2.1, h1.2.2.1, h1.2.2.2.1, h1.2.2.2.2.1, h1.2.2.2.2.2.1, h1.2.2.2.2.2.2.1, h1.2.2.2.2.2.2.2.1, h1.2.2.2.2.2.2.2.2.1, h1.2.2.2.2.2.2.2.2.2.1, h1.2.2.2.2.2.2.2.2.2.2, hip, s_isAxis, b2i_0, q, qa, and_self]
  · refine ⟨w, ?_, by simp only [opMove, q, false_and, if_false]; exact hCC, Fr.rf⟩
    simp only [opMove, q, false_and, if_false]
    refine sem_eq (Nat.le_of_ble_eq_true rfl) ?_
    show wp mX8_move 0 [some (.ref b), some (.int k), some (.int a), some (.int x), none] [] _ _
    simp only [eX8_move_0, eX8_move_1, eX8_move_2, eX8_move_5, eX8_move_8, eX8_move_9, eX8_move_12, eX8_move_15, eX8_move_16, eX8_move_19, eX8_move_22, eX8_move_23, cont_some, tl_some, tl_none, csum_nil, csum_i, csum_r, csum_j, isc2_i, isc2_r, isc2_n, va_rf_s, vfn_ite, true_and, and_true, true_or, or_true, eq_self, Bool.false_eq_true, not_false_eq_true, not_true_eq_false, if_true, if_false, Nat.reduceAdd, Nat.reduceLeDiff, reduceIte, h1.1, h1.2.1, h1.2.2.1, h1.2.2.2.1, h1.2.2.2.2.1, h1.2.2.2.2.2.1, h1.2.2.2.2.2.2.1, h1.2.2.2.2.2.2.2.1, h1.2.2.2.2.2.2.2.2.1, h1.2.2.2.2.2.2.2.2.2.1, h1.2.2.2.2.2.2.2.2.2.2, hip, b2i_0, q]
theorem paIs.sh {w : Wd} {pa m : Nat} {P : Nat → Sst} (h : paIs w pa m P) : shp w pa = (2, 0) ∧ rdI w pa 1 = nI m ∧ m ≤ 6 := by
  obtain ⟨ad, hp, h1, h2, -⟩ := h
  exact ⟨hp.1, h1, h2⟩
theorem c_undo {w : Wd} {b : Nat} {c : Cst} (h : CC w b c) : ∃ u, fX8_undo [.ref b] w = some (some (.int (opUndo c).1), u) ∧ CC u b (opUndo c).2 ∧ Fr b (b + 33) w u := by
  obtain ⟨S, m, P, i⟩ := c
  have hCC := h
  obtain ⟨h1, h2, h3, h4⟩ := h
  simp only at h2 h3 h4
  obtain ⟨p0, p1, p2⟩ := h3.sh
  by_cases q : m = 0
  · subst q
    have e : nI 0 = 0 := rfl
    refine ⟨w, ?_, by simp only [opUndo, if_true]; exact hCC, Fr.rf⟩
    simp only [opUndo, if_true]
    refine sem_eq (Nat.le_of_ble_eq_true rfl) ?_
    show wp mX8_undo 0 [some (.ref b)] [] _ _
    simp only [eX8_undo_0, eX8_undo_1, eX8_undo_4, eX8_undo_7, eX8_undo_10, eX8_undo_12, cont_some, tl_some, tl_none, csum_nil, csum_i, csum_r, csum_j, isc2_i, isc2_r, isc2_n, va_rf_s, vfn_ite, true_and, and_true, true_or, or_true, eq_self, Bool.false_eq_true, not_false_eq_true, not_true_eq_false, if_true, if_false, Nat.reduceAdd, Nat.reduceLeDiff, reduceIte, h1.1, h1.2.1, h1.2.2.1, h1.2.2.2.1, h1.2.2.2.2.1, h1.2.2.2.2.2.1, h1.2.2.2.2.2.2.1, h1.2.2.2.2.2.2.2.1, h1.2.2.2.2.2.2.2.2.1, h1.2.2.2.2.2.2.2.2.2.1, h1.2.2.2.2.2.2.2.2.2.2, p0, p1, e]
  · obtain ⟨m', rfl⟩ : ∃ k, m = k + 1 := ⟨m - 1, by omega⟩
    have hne : ¬ nI (m' + 1) = 0 := nI_ne0 (by omega) (by omega)
    obtain ⟨u, v, hu, pu, su, f1, f2⟩ := s_bringBack (sc := b + 1) h3 h2.1 (by omega)
    have hcu := (h1.fr f1 (by omega)).fr f2 (by omega)
    obtain ⟨u0, u1, -⟩ := pu.sh
    refine ⟨u, ?_, ?_, (f1.wide (by omega) (by omega)).tr (f2.wide (by omega) (by omega))⟩
    · simp only [opUndo, Nat.add_one_ne_zero, if_false, Nat.add_sub_cancel]
      refine sem_eq (Nat.le_of_ble_eq_true rfl) ?_
      show wp mX8_undo 0 [some (.ref b)] [] _ _
      simp only [eX8_undo_0, eX8_undo_1, eX8_undo_4, eX8_undo_7, eX8_undo_10, eX8_undo_12, eX8_undo_13, eX8_undo_14, eX8_undo_17, eX8_undo_18, eX8_undo_21, cont_some, tl_some, tl_none, csum_nil, csum_i, csum_r, csum_j, isc2_i, isc2_r, isc2_n, va_rf_s, vfn_ite, true_and, and_true, true_or, or_true, eq_self, Bool.false_eq_true, not_false_eq_true, not_true_eq_false, if_true, if_false, Nat.reduceAdd, Nat.reduceLeDiff, reduceIte, h1.1, h1.2.1, h1.2.2.1, h1.2.2.2.1, h1.2.2.2.2.1, h1.2.2.2.2.2.1, h1.2.2.2.2.2.2.1, h1.2.2.2.2.2.2.2.1, h1.2.2.2.2.2.2.2.2.1, h1.2.2.2.2.2.2.2.2.2.1, h1.2.2.2.2.2.2.2.2.2.2, p0, p1, hne, hu]
      simp only [eX8_undo_24, eX8_undo_25, eX8_undo_28, eX8_undo_31, cont_some, tl_some, tl_none, csum_nil, csum_i, csum_r, csum_j, isc2_i, isc2_r, isc2_n, va_rf_s, vfn_ite, true_and, and_true, true_or, or_true, eq_self, Bool.false_eq_true, not_false_eq_true, not_true_eq_false, if_true, if_false, Nat.reduceAdd, Nat.reduceLeDiff, reduceIte, hcu.1, hcu.2.1, hcu.2.2.1, hcu.2.2.2.1, hcu.2.2.2.2.1, hcu.2.2.2.2.2.1, hcu.2.2.2.2.2.2.1, hcu.2.2.2.2.2.2.2.1, hcu.2.2.2.2.2.2.2.2.1, hcu.2.2.2.2.2.2.2.2.2.1, hcu.2.2.2.2.2.2.2.2.2.2, u0, u1]
    · simp only [opUndo, Nat.add_one_ne_zero, if_false, Nat.add_sub_cancel]
      exact ⟨hcu, su, pu, (h4.fr f1 (by omega) (by omega)).fr f2 (by omega) (by omega)⟩
theorem c_image {w : Wd} {b : Nat} {c : Cst} (h : CC w b c) : ∃ u, fX8_image [.ref b] w = some (some (.int (opImage c).1), u) ∧ CC u b (opImage c).2 ∧ Fr b (b + 33) w u := by
  obtain ⟨S, m, P, i⟩ := c
  obtain ⟨h1, h2, h3, h4⟩ := h
  simp only at h2 h3 h4
  have hk : isSc w (b + 17) ∧ ∃ m P, paIs w (b + 19) m P := by
    cases i with
    | none => exact ⟨h4.2.1, h4.2.2⟩
    | some t => obtain ⟨S', m', P'⟩ := t; exact ⟨h4.2.1.1, m', P', h4.2.2⟩
  obtain ⟨k1, m0, P0, k2⟩ := hk
  have f1 : Fr (b + 17) (b + 19) w (bcW w (b + 17) (b + 1)) := bcW_fr
  have hc1 := h1.fr f1 (by omega)
  obtain ⟨v, hv, pv, f2⟩ := s_paBecome (k2.fr f1 (by omega)) (h3.fr f1 (by omega)) (by omega)
  have hcv := hc1.fr f2 (by omega)
  have f12 : Fr (b + 17) (b + 33) w v := (f1.wide (by omega) (by omega)).tr (f2.wide (by omega) (by omega))
  have f3 : Fr b (b + 1) v (wrI v b 4 1) := Fr.rf.wrI ⟨by omega, by omega⟩
  refine ⟨wrI v b 4 1, ?_, ?_, (f12.wide (by omega) (by omega)).tr (f3.wide (by omega) (by omega))⟩
  · simp only [opImage]
    obtain ⟨p0, -⟩ := k2.sh
    have s1 := (k2.fr f1 (by omega)).sh.1
    refine sem_eq (Nat.le_of_ble_eq_true rfl) ?_
    show wp mX8_image 0 [some (.ref b)] [] _ _
    simp only [eX8_image_0, eX8_image_1, eX8_image_4, eX8_image_5, eX8_image_8, cont_some, tl_some, tl_none, csum_nil, csum_i, csum_r, csum_j, isc2_i, isc2_r, isc2_n, va_rf_s, vfn_ite, true_and, and_true, true_or, or_true, eq_self, Bool.false_eq_true, not_false_eq_true, not_true_eq_false, if_true, if_false, Nat.reduceAdd, Nat.reduceLeDiff, reduceIte, h1.1, h1.2.1, h1.2.2.1, h1.2.2.2.1, h1.2.2.2.2.1, h1.2.2.2.2.2.1, h1.2.2.2.2.2.2.1, h1.2.2.2.2.2.2.2.1, h1.2.2.2.2.2.2.2.2.1, h1.2.2.2.2.2.2.2.2.2.1, h1.2.2.2.2.2.2.2.2.2.2, k1.1, s_sc_become k1 h2.1]
    simp only [eX8_image_11, eX8_image_12, eX8_image_15, eX8_image_16, eX8_image_19, eX8_image_22, eX8_image_23, eX8_image_24, eX8_image_27, eX8_image_28, cont_some, tl_some, tl_none, csum_nil, csum_i, csum_r, csum_j, isc2_i, isc2_r, isc2_n, va_rf_s, vfn_ite, true_and, and_true, true_or, or_true, eq_self, Bool.false_eq_true, not_false_eq_true, not_true_eq_false, if_true, if_false, Nat.reduceAdd, Nat.reduceLeDiff, reduceIte, hc1.1, hc1.2.1, hc1.2.2.1, hc1.2.2.2.1, hc1.2.2.2.2.1, hc1.2.2.2.2.2.1, hc1.2.2.2.2.2.2.1, hc1.2.2.2.2.2.2.2.1, hc1.2.2.2.2.2.2.2.2.1, hc1.2.2.2.2.2.2.2.2.2.1, hc1.2.2.2.2.2.2.2.2.2.2, hcv.1, hcv.2.1, hcv.2.2.1, hcv.2.2.2.1, hcv.2.2.2.2.1, hcv.2.2.2.2.2.1, hcv.2.2.2.2.2.2.1, hcv.2.2.2.2.2.2.2.1, hcv.2.2.2.2.2.2.2.2.1, hcv.2.2.2.2.2.2.2.2.2.1, hcv.2.2.2.2.2.2.2.2.2.2, s1, hv]
  · simp only [opImage]
    refine ⟨hcv, (h2.fr f12 (by omega)).fr f3 (by omega), (h3.fr f12 (by omega)).fr f3 (by omega), by simp [rdI_wrI], ?_, pv.fr f3 (by omega)⟩
    exact ((bcW_is k1 h2).fr f2 (by omega)).fr f3 (by omega)
theorem c_restore {w : Wd} {b : Nat} {c : Cst} (h : CC w b c) : ∃ u, fX8_restore [.ref b] w = some (some (.int (opRestore c).1), u) ∧ CC u b (opRestore c).2 ∧ Fr b (b + 33) w u := by
  obtain ⟨S, m, P, i⟩ := c
  have hCC := h
  obtain ⟨h1, h2, h3, h4⟩ := h
  simp only at h2 h3 h4
  cases i with
  | none =>
    refine ⟨w, ?_, hCC, Fr.rf⟩
    have h0 := h4.1
    simp only [opRestore]
    refine sem_eq (Nat.le_of_ble_eq_true rfl) ?_
    show wp mX8_restore 0 [some (.ref b)] [] _ _
    simp only [eX8_restore_0, eX8_restore_1, eX8_restore_4, eX8_restore_7, eX8_restore_9, cont_some, tl_some, tl_none, csum_nil, csum_i, csum_r, csum_j, isc2_i, isc2_r, isc2_n, va_rf_s, vfn_ite, true_and, and_true, true_or, or_true, eq_self, Bool.false_eq_true, not_false_eq_true, not_true_eq_false, if_true, if_false, Nat.reduceAdd, Nat.reduceLeDiff, reduceIte, h1.1, h1.2.1, h1.2.2.1, h1.2.2.2.1, h1.2.2.2.2.1, h1.2.2.2.2.2.1, h1.2.2.2.2.2.2.1, h1.2.2.2.2.2.2.2.1, h1.2.2.2.2.2.2.2.2.1, h1.2.2.2.2.2.2.2.2.2.1, h1.2.2.2.2.2.2.2.2.2.2, h0]
  | some t =>
    obtain ⟨S', m', P'⟩ := t
    obtain ⟨g1, g2, g3⟩ := h4
    have k0 : ¬ (1 : Int32) = 0 := by decide
    have f1 : Fr (b + 1) (b + 3) w (bcW w (b + 1) (b + 17)) := bcW_fr
    have hc1 := h1.fr f1 (by omega)
    obtain ⟨v, hv, pv, f2⟩ := s_paBecome (h3.fr f1 (by omega)) (g3.fr f1 (by omega)) (by omega)
    have hcv := hc1.fr f2 (by omega)
    have s1 := (h3.fr f1 (by omega)).sh.1
    refine ⟨v, ?_, ?_, (f1.wide (by omega) (by omega)).tr (f2.wide (by omega) (by omega))⟩
    · simp only [opRestore]
      refine sem_eq (Nat.le_of_ble_eq_true rfl) ?_
      show wp mX8_restore 0 [some (.ref b)] [] _ _
      simp only [eX8_restore_0, eX8_restore_1, eX8_restore_4, eX8_restore_7, eX8_restore_9, eX8_restore_10, eX8_restore_11, eX8_restore_14, eX8_restore_15, eX8_restore_18, cont_some, tl_some, tl_none, csum_nil, csum_i, csum_r, csum_j, isc2_i, isc2_r, isc2_n, va_rf_s, vfn_ite, true_and, and_true, true_or, or_true, eq_self, Bool.false_eq_true, not_false_eq_true, not_true_eq_false, if_true, if_false, Nat.reduceAdd, Nat.reduceLeDiff, reduceIte, h1.1, h1.2.1, h1.2.2.1, h1.2.2.2.1, h1.2.2.2.2.1, h1.2.2.2.2.2.1, h1.2.2.2.2.2.2.1, h1.2.2.2.2.2.2.2.1, h1.2.2.2.2.2.2.2.2.1, h1.2.2.2.2.2.2.2.2.2.1, h1.2.2.2.2.2.2.2.2.2.2, g1, k0, h2.1.1, s_sc_become h2.1 g2.1]
      simp only [eX8_restore_21, eX8_restore_22, eX8_restore_25, eX8_restore_26, eX8_restore_29, eX8_restore_32, eX8_restore_33, cont_some, tl_some, tl_none, csum_nil, csum_i, csum_r, csum_j, isc2_i, isc2_r, isc2_n, va_rf_s, vfn_ite, true_and, and_true, true_or, or_true, eq_self, Bool.false_eq_true, not_false_eq_true, not_true_eq_false, if_true, if_false, Nat.reduceAdd, Nat.reduceLeDiff, reduceIte, hc1.1, hc1.2.1, hc1.2.2.1, hc1.2.2.2.1, hc1.2.2.2.2.1, hc1.2.2.2.2.2.1, hc1.2.2.2.2.2.2.1, hc1.2.2.2.2.2.2.2.1, hc1.2.2.2.2.2.2.2.2.1, hc1.2.2.2.2.2.2.2.2.2.1, hc1.2.2.2.2.2.2.2.2.2.2, s1, hv]
    · simp only [opRestore]
      refine ⟨hcv, (bcW_is h2.1 g2).fr f2 (by omega), pv, ?_, (g2.fr f1 (by omega)).fr f2 (by omega), (g3.fr f1 (by omega)).fr f2 (by omega)⟩
      rw [f2.I (by omega), f1.I (by omega)]; exact g1
