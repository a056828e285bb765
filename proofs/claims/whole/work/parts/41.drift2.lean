/-! the class's drift. A turn changes the scene alone; the past was kept ahead of it -/
def turnS (S : Sst) : Bool × Sst := ((turnC (S, 0, fun _ => S, none)).1, (turnC (S, 0, fun _ => S, none)).2.1)
theorem turnC_eq (c : Cst) : turnC c = ((turnS c.1).1, doC c (turnS c.1).2) := by
  unfold turnS turnC
  simp only
  split
  · rfl
  · split <;> rfl
theorem s_turn {w : Wd} {sc : Nat} {S : Sst} (h : scIs w sc S) : ∃ u, fX4_turn [.ref sc] w = some (some (.int (b2i ((turnS S).1 = true))), u) ∧ scIs u sc (turnS S).2 ∧ Fr sc (sc + 2) w u := by
  obtain ⟨n, C, tol, drw⟩ := S
  obtain ⟨b0, b1, b2, b5, b3, b4⟩ := h
  simp only at b1 b2 b3 b4 b5
  have z1 : ¬ (65536 : Int32) = 0 := by decide
  have z2 : ¬ (4 : Int32) = 0 := by decide
  have z3 : ¬ (3 : Int32) = 0 := by decide
  have z4 : ¬ (16 : Int32) = 0 := by decide
  have z5 : ¬ (31 : Int32) = 0 := by decide
  have n1 : ¬ sc + 1 = sc := by omega
  obtain ⟨D, hfold, hDn⟩ : ∃ D, (drw.toInt64 * 1103515245 + 12345 &&& 2147483647).toInt32 = D ∧ nxD drw = D := ⟨_, rfl, rfl⟩
  obtain ⟨x, hx⟩ : ∃ x, x = wrI w sc 3 D := ⟨_, rfl⟩
  have fx : Fr sc (sc + 2) w x := by rw [hx]; exact Fr.rf.wrI ⟨by omega, by omega⟩
  have hsx : isSc x sc := by rw [hx]; exact b0
  have x1 : rdI x sc 1 = nI n := by rw [hx, rdI_wrI, if_neg (by omega)]; exact b1
  have x2 : rdI x sc 2 = tol := by rw [hx, rdI_wrI, if_neg (by omega)]; exact b3
  have x3 : rdI x sc 3 = D := by rw [hx, rdI_wrI, if_pos ⟨rfl, rfl⟩]
  have x5 : ∀ i, i < 3 * n → rdI x (sc + 1) i = C i := fun i hi => by rw [hx, rdI_wrI, if_neg (by omega)]; exact b5 i hi
  have hSx : scIs x sc (drwS (n, C, tol, drw) D) := ⟨hsx, x1, b2, x5, x2, x3⟩
  by_cases q0 : n = 0
  · subst q0
    have hz : ¬ 0 < nI 0 := by decide
    refine ⟨x, ?_, by simp only [turnS, turnC, if_true, hDn, doC]; exact hSx, fx⟩
    simp only [turnS, turnC, if_true]
    refine sem_eq (Nat.le_of_ble_eq_true rfl) ?_
    show wp mX4_turn 0 [some (.ref sc), none, none, none, none] [] _ _
    simp only [eX4_turn_0, eX4_turn_1, eX4_turn_2, eX4_turn_5, eX4_turn_6, eX4_turn_9, eX4_turn_10, eX4_turn_13, eX4_turn_14, eX4_turn_17, eX4_turn_18, eX4_turn_19, cont_some, tl_some, tl_none, csum_nil, csum_i, csum_r, csum_j, isc2_i, isc2_r, isc2_n, va_rf_s, vfn_ite, true_and, and_true, true_or, or_true, eq_self, Bool.false_eq_true, not_false_eq_true, not_true_eq_false, if_true, if_false, Nat.reduceAdd, Nat.reduceLeDiff, reduceIte, b0.1, b4, hfold]
    rw [← hx]
    simp only [eX4_turn_22, eX4_turn_23, eX4_turn_26, eX4_turn_29, eX4_turn_30, cont_some, tl_some, tl_none, csum_nil, csum_i, csum_r, csum_j, isc2_i, isc2_r, isc2_n, va_rf_s, vfn_ite, true_and, and_true, true_or, or_true, eq_self, Bool.false_eq_true, not_false_eq_true, not_true_eq_false, if_true, if_false, Nat.reduceAdd, Nat.reduceLeDiff, reduceIte, hsx.1, x1, hz]
    simp [b2i]
  · obtain ⟨k, a, t, hk, ha, ht, ek, ea, et⟩ := turn_nums (d := drw) (n := n) (by omega) b2
    rw [hDn] at ek ea et
    have kk := nI_clamp (show k < 2 ^ 31 by omega)
    have ka := nI_clamp (show a < 2 ^ 31 by omega)
    have hnz : ¬ nI n = 0 := nI_ne0 (by omega) (by omega)
    have hpos : 0 < nI n := nI_lt (a := 0) (by omega) (by omega)
    have hgo := s_isFree (a := nI a) (v := nI t - 15) hsx x1 b2 hk
    rw [freeB_congr (C' := C) hk (fun i hi => x5 i hi)] at hgo
    have hpl := s_place (k := k) (j := a) (v := nI t - 15) hsx (by omega)
    by_cases qf : freeB C n k (nI a) (nI t - 15) = true
    · refine ⟨wrI x (sc + 1) (3 * k + a) (nI t - 15), ?_, ?_, fx.wrI ⟨by omega, by omega⟩⟩
      · simp only [turnS, turnC, q0, if_false, hDn, ek, ea, et, kk, ka, qf, if_true]
        refine sem_eq (Nat.le_of_ble_eq_true rfl) ?_
        show wp mX4_turn 0 [some (.ref sc), none, none, none, none] [] _ _
        simp only [eX4_turn_0, eX4_turn_1, eX4_turn_2, eX4_turn_5, eX4_turn_6, eX4_turn_9, eX4_turn_10, eX4_turn_13, eX4_turn_14, eX4_turn_17, eX4_turn_18, eX4_turn_19, cont_some, tl_some, tl_none, csum_nil, csum_i, csum_r, csum_j, isc2_i, isc2_r, isc2_n, va_rf_s, vfn_ite, true_and, and_true, true_or, or_true, eq_self, Bool.false_eq_true, not_false_eq_true, not_true_eq_false, if_true, if_false, Nat.reduceAdd, Nat.reduceLeDiff, reduceIte, b0.1, b4, hfold]
        rw [← hx]
        simp only [eX4_turn_22, eX4_turn_23, eX4_turn_26, eX4_turn_29, eX4_turn_30, eX4_turn_31, eX4_turn_32, eX4_turn_35, eX4_turn_37, eX4_turn_38, eX4_turn_39, eX4_turn_40, eX4_turn_41, eX4_turn_44, eX4_turn_45, eX4_turn_46, eX4_turn_47, eX4_turn_48, eX4_turn_49, eX4_turn_50, eX4_turn_51, eX4_turn_52, eX4_turn_53, eX4_turn_55, eX4_turn_56, eX4_turn_58, eX4_turn_59, eX4_turn_61, eX4_turn_62, eX4_turn_64, eX4_turn_65, eX4_turn_66, eX4_turn_67, eX4_turn_69, eX4_turn_72, eX4_turn_75, eX4_turn_76, eX4_turn_77, eX4_turn_78, eX4_turn_79, eX4_turn_80, eX4_turn_82, eX4_turn_85, eX4_turn_86, cont_some, tl_some, tl_none, csum_nil, csum_i, csum_r, csum_j, isc2_i, isc2_r, isc2_n, va_rf_s, vfn_ite, true_and, and_true, true_or, or_true, eq_self, Bool.false_eq_true, not_false_eq_true, not_true_eq_false, if_true, if_false, Nat.reduceAdd, Nat.reduceLeDiff, reduceIte, hsx.1, x1, x3, hpos, z1, z2, z3, z4, z5, hnz, ek, ea, et, hgo, qf, b2i_0, hpl]
        simp [b2i]
      · simp only [turnS, turnC, q0, if_false, hDn, ek, ea, et, kk, ka, qf, if_true, doC]
        refine ⟨hsx, by rw [rdI_wrI, if_neg (by omega)]; exact x1, b2, fun i hi => ?_, by rw [rdI_wrI, if_neg (by omega)]; exact x2, by rw [rdI_wrI, if_neg (by omega)]; exact x3⟩
        simp only [mvS, drwS, rdI_wrI, true_and]
        by_cases z : i = 3 * k + a
        · rw [if_pos z, if_pos z]
        · rw [if_neg z, if_neg z]; exact x5 i hi
    · refine ⟨x, ?_, by simp only [turnS, turnC, q0, if_false, hDn, ek, ea, et, kk, qf, Bool.false_eq_true, doC]; exact hSx, fx⟩
      simp only [turnS, turnC, q0, if_false, hDn, ek, ea, et, kk, qf, Bool.false_eq_true]
      refine sem_eq (Nat.le_of_ble_eq_true rfl) ?_
      show wp mX4_turn 0 [some (.ref sc), none, none, none, none] [] _ _
      simp only [eX4_turn_0, eX4_turn_1, eX4_turn_2, eX4_turn_5, eX4_turn_6, eX4_turn_9, eX4_turn_10, eX4_turn_13, eX4_turn_14, eX4_turn_17, eX4_turn_18, eX4_turn_19, cont_some, tl_some, tl_none, csum_nil, csum_i, csum_r, csum_j, isc2_i, isc2_r, isc2_n, va_rf_s, vfn_ite, true_and, and_true, true_or, or_true, eq_self, Bool.false_eq_true, not_false_eq_true, not_true_eq_false, if_true, if_false, Nat.reduceAdd, Nat.reduceLeDiff, reduceIte, b0.1, b4, hfold]
      rw [← hx]
      simp only [eX4_turn_22, eX4_turn_23, eX4_turn_26, eX4_turn_29, eX4_turn_30, eX4_turn_31, eX4_turn_32, eX4_turn_35, eX4_turn_37, eX4_turn_38, eX4_turn_39, eX4_turn_40, eX4_turn_41, eX4_turn_44, eX4_turn_45, eX4_turn_46, eX4_turn_47, eX4_turn_48, eX4_turn_49, eX4_turn_50, eX4_turn_51, eX4_turn_52, eX4_turn_53, eX4_turn_55, eX4_turn_56, eX4_turn_58, eX4_turn_59, eX4_turn_61, eX4_turn_62, eX4_turn_64, eX4_turn_65, eX4_turn_66, eX4_turn_67, eX4_turn_69, eX4_turn_72, eX4_turn_75, eX4_turn_76, cont_some, tl_some, tl_none, csum_nil, csum_i, csum_r, csum_j, isc2_i, isc2_r, isc2_n, va_rf_s, vfn_ite, true_and, and_true, true_or, or_true, eq_self, Bool.false_eq_true, not_false_eq_true, not_true_eq_false, if_true, if_false, Nat.reduceAdd, Nat.reduceLeDiff, reduceIte, hsx.1, x1, x3, hpos, z1, z2, z3, z4, z5, hnz, ek, ea, et, hgo, qf, b2i_0]
      simp [b2i]
theorem lo_cdrift {w0 : Wd} {b j : Nat} (hj : j ≤ 40) (r : Int32 × Cst) : ∀ (d k g : Nat) (w : Wd) (c : Cst), k + d = j → g ≤ k → CC w b c → Fr b (b + 33) w0 w → (nI (driftN d g c).1, (driftN d g c).2) = r →
    wp mX8_drift 16 [some (.ref b), some (.int (nI j)), some (.int (nI g)), some (.int (nI k))] [] w (fun r1 w1 => r1 = some (.int r.1) ∧ CC w1 b r.2 ∧ Fr b (b + 33) w0 w1) := by
  intro d
  induction d with
  | zero =>
    intro k g w c hk hg h hf hr
    have h1 : ¬ nI k < nI j := nI_nlt (by omega) (by omega)
    subst hr
    simp only [eX8_drift_16, eX8_drift_17, eX8_drift_18, eX8_drift_51, eX8_drift_52, cont_some, tl_some, tl_none, csum_nil, csum_i, csum_r, csum_j, isc2_i, isc2_r, isc2_n, va_rf_s, vfn_ite, true_and, and_true, true_or, or_true, eq_self, Bool.false_eq_true, not_false_eq_true, not_true_eq_false, if_true, if_false, Nat.reduceAdd, Nat.reduceLeDiff, reduceIte, h1, driftN]
    exact ⟨h, hf⟩
  | succ d ih =>
    intro k g w c hk hg h hf hr
    have h1 : nI k < nI j := nI_lt (by omega) (by omega)
    obtain ⟨g1, g2, g3, g4⟩ := h
    obtain ⟨v, hv, pv, fv⟩ := s_keep g3 g2 (by omega)
    have hcv := g1.fr fv (by omega)
    have hsv := g2.fr fv (by omega)
    obtain ⟨u, hu, su, fu⟩ := s_turn hsv
    have hcu := hcv.fr fu (by omega)
    obtain ⟨r1, r2⟩ := CC.deed (S' := (turnS c.1).2) ⟨g1, g2, g3, g4⟩ pv fv (fu.wide (by omega) (by omega)) su
    have et := turnC_eq c
    unfold driftN at hr
    rw [et] at hr
    simp only at hr
    have p0 := g3.sh.1
    simp only [eX8_drift_16, eX8_drift_17, eX8_drift_18, eX8_drift_21, eX8_drift_22, eX8_drift_25, eX8_drift_26, eX8_drift_29, cont_some, tl_some, tl_none, csum_nil, csum_i, csum_r, csum_j, isc2_i, isc2_r, isc2_n, va_rf_s, vfn_ite, true_and, and_true, true_or, or_true, eq_self, Bool.false_eq_true, not_false_eq_true, not_true_eq_false, if_true, if_false, Nat.reduceAdd, Nat.reduceLeDiff, reduceIte, h1, g1.1, g1.2.1, g1.2.2.1, g1.2.2.2.1, g1.2.2.2.2.1, g1.2.2.2.2.2.1, g1.2.2.2.2.2.2.1, g1.2.2.2.2.2.2.2.1, g1.2.2.2.2.2.2.2.2.1, g1.2.2.2.2.2.2.2.2.2.1, g1.2.2.2.2.2.2.2.2.2.2, p0, hv]
    simp only [eX8_drift_32, eX8_drift_33, eX8_drift_36, cont_some, tl_some, tl_none, csum_nil, csum_i, csum_r, csum_j, isc2_i, isc2_r, isc2_n, va_rf_s, vfn_ite, true_and, and_true, true_or, or_true, eq_self, Bool.false_eq_true, not_false_eq_true, not_true_eq_false, if_true, if_false, Nat.reduceAdd, Nat.reduceLeDiff, reduceIte, hcv.1, hcv.2.1, hcv.2.2.1, hcv.2.2.2.1, hcv.2.2.2.2.1, hcv.2.2.2.2.2.1, hcv.2.2.2.2.2.2.1, hcv.2.2.2.2.2.2.2.1, hcv.2.2.2.2.2.2.2.2.1, hcv.2.2.2.2.2.2.2.2.2.1, hcv.2.2.2.2.2.2.2.2.2.2, hsv.1.1, hu]
    by_cases q : (turnS c.1).1 = true
    · have k1 : ¬ b2i ((turnS c.1).1 = true) = 0 := by rw [b2i_t q]; decide
      rw [if_pos q] at hr
      simp only [eX8_drift_39, eX8_drift_42, eX8_drift_45, cont_some, tl_some, tl_none, csum_nil, csum_i, csum_r, csum_j, isc2_i, isc2_r, isc2_n, va_rf_s, vfn_ite, true_and, and_true, true_or, or_true, eq_self, Bool.false_eq_true, not_false_eq_true, not_true_eq_false, if_true, if_false, Nat.reduceAdd, Nat.reduceLeDiff, reduceIte, k1, nI_1]
      rw [eX8_drift_48]
      exact ih (k + 1) (g + 1) u _ (by omega) (by omega) r1 (hf.tr r2) hr
    · have k1 : b2i ((turnS c.1).1 = true) = 0 := b2i_f q
      rw [if_neg q] at hr
      simp only [eX8_drift_39, eX8_drift_42, eX8_drift_45, cont_some, tl_some, tl_none, csum_nil, csum_i, csum_r, csum_j, isc2_i, isc2_r, isc2_n, va_rf_s, vfn_ite, true_and, and_true, true_or, or_true, eq_self, Bool.false_eq_true, not_false_eq_true, not_true_eq_false, if_true, if_false, Nat.reduceAdd, Nat.reduceLeDiff, reduceIte, k1, nI_1]
      rw [eX8_drift_48]
      exact ih (k + 1) g u _ (by omega) (by omega) r1 (hf.tr r2) hr
theorem c_drift {w : Wd} {b : Nat} {c : Cst} {n : Int32} (h : CC w b c) : ∃ u, fX8_drift [.ref b, .int n] w = some (some (.int (opDrift c n).1), u) ∧ CC u b (opDrift c n).2 ∧ Fr b (b + 33) w u := by
  by_cases q : 1 ≤ n ∧ n ≤ 40
  · obtain ⟨j, hj, rfl⟩ := nI_of2 (M := 40) (n := 40) (by decide) (Int32.not_lt.mpr (Int32.le_trans (by decide) q.1)) q.2
    have kj := nI_clamp (show j < 2 ^ 31 by omega)
    have hh : wp mX8_drift 0 [some (.ref b), some (.int (nI j)), none, none] [] w (fun r1 w1 => r1 = some (.int (opDrift c (nI j)).1) ∧ CC w1 b (opDrift c (nI j)).2 ∧ Fr b (b + 33) w w1) := by
      simp only [eX8_drift_0, eX8_drift_1, eX8_drift_2, eX8_drift_4, eX8_drift_7, eX8_drift_10, eX8_drift_11, eX8_drift_12, eX8_drift_13, eX8_drift_14, eX8_drift_15, cont_some, tl_some, tl_none, csum_nil, csum_i, csum_r, csum_j, isc2_i, isc2_r, isc2_n, va_rf_s, vfn_ite, true_and, and_true, true_or, or_true, eq_self, Bool.false_eq_true, not_false_eq_true, not_true_eq_false, if_true, if_false, Nat.reduceAdd, Nat.reduceLeDiff, reduceIte, s_isIn, b2i_0, q, and_self]
      refine lo_cdrift hj (opDrift c (nI j)) j 0 0 w c (by omega) (by omega) h Fr.rf ?_
      simp only [opDrift, q, and_self, if_true, kj]
    obtain ⟨r, u, h1, rfl, h2⟩ := sem_wp (nL := 4) (as := [.ref b, .int (nI j)]) (Nat.le_of_ble_eq_true rfl) hh
    exact ⟨u, h1, h2⟩
  · refine ⟨w, ?_, by simp only [opDrift, q, if_false]; exact h, Fr.rf⟩
    simp only [opDrift, q, if_false]
    refine sem_eq (Nat.le_of_ble_eq_true rfl) ?_
    show wp mX8_drift 0 [some (.ref b), some (.int n), none, none] [] _ _
    simp only [eX8_drift_0, eX8_drift_1, eX8_drift_2, eX8_drift_4, eX8_drift_7, eX8_drift_10, eX8_drift_11, cont_some, tl_some, tl_none, csum_nil, csum_i, csum_r, csum_j, isc2_i, isc2_r, isc2_n, va_rf_s, vfn_ite, true_and, and_true, true_or, or_true, eq_self, Bool.false_eq_true, not_false_eq_true, not_true_eq_false, if_true, if_false, Nat.reduceAdd, Nat.reduceLeDiff, reduceIte, s_isIn, b2i_0, q]
