
theorem nC_30 : Int32.toNatClampNeg 30 = 30 := by decide
theorem nC_10 : Int32.toNatClampNeg 10 = 10 := by decide
theorem nC_11 : Int32.toNatClampNeg 11 = 11 := by decide
theorem nC_90 : Int32.toNatClampNeg 90 = 90 := by decide
theorem nC_1024 : Int32.toNatClampNeg 1024 = 1024 := by decide
theorem nC_4 : Int32.toNatClampNeg 4 = 4 := by decide
theorem nC_24 : Int32.toNatClampNeg 24 = 24 := by decide
theorem nC_6 : Int32.toNatClampNeg 6 = 6 := by decide
theorem nC_3 : Int32.toNatClampNeg 3 = 3 := by decide
theorem nC_135 : Int32.toNatClampNeg 135 = 135 := by decide
theorem nC_33 : Int32.toNatClampNeg 33 = 33 := by decide
theorem nC_198 : Int32.toNatClampNeg 198 = 198 := by decide
theorem nC_232 : Int32.toNatClampNeg 232 = 232 := by decide
theorem nC_96 : Int32.toNatClampNeg 96 = 96 := by decide
theorem nL_30 : (0 : Int32) ≤ 30 := by decide
theorem nL_10 : (0 : Int32) ≤ 10 := by decide
theorem nL_11 : (0 : Int32) ≤ 11 := by decide
theorem nL_90 : (0 : Int32) ≤ 90 := by decide
theorem nL_1024 : (0 : Int32) ≤ 1024 := by decide
theorem nL_4 : (0 : Int32) ≤ 4 := by decide
theorem nL_24 : (0 : Int32) ≤ 24 := by decide
theorem nL_6 : (0 : Int32) ≤ 6 := by decide
theorem nL_3 : (0 : Int32) ≤ 3 := by decide
theorem nL_135 : (0 : Int32) ≤ 135 := by decide
theorem nL_33 : (0 : Int32) ≤ 33 := by decide
theorem nL_198 : (0 : Int32) ≤ 198 := by decide
theorem nL_232 : (0 : Int32) ≤ 232 := by decide
theorem nL_96 : (0 : Int32) ≤ 96 := by decide
theorem nx_0 {a b : Nat} : (a = a + (b + 1)) = False := eq_false (by omega)
theorem nx_1 {a b : Nat} : (a + (b + 1) = a) = False := eq_false (by omega)
def cst0 : Sst := (0, fun _ => 0, 10, 1)
theorem s_X4_init {a : Nat} {w : Wd} (hs : shp w a = (4, 0)) (hn : nxt w = a + 1) : ∃ u, fX4_init [.ref a] w = some (none, u) ∧ Ea a 1 30 w u ∧ scIs u a cst0 := by
  have hh : wp mX4_init 0 [some (.ref a)] [] w (fun r u => r = none ∧ Ea a 1 30 w u ∧ scIs u a cst0) := by
    simp only [eX4_init_0, eX4_init_1, eX4_init_4, eX4_init_5, eX4_init_7, eX4_init_9, eX4_init_12, eX4_init_13, eX4_init_14, eX4_init_17, eX4_init_18, eX4_init_20, eX4_init_23, eX4_init_24, eX4_init_25, eX4_init_28, cont_some, tl_some, tl_none, csum_nil, csum_i, csum_r, csum_j, isc2_i, isc2_r, isc2_n, va_rf_s, vfn_ite, true_and, and_true, true_or, or_true, eq_self, Bool.false_eq_true, not_false_eq_true, not_true_eq_false, if_true, if_false, Nat.reduceAdd, Nat.reduceLeDiff, reduceIte, obj_eq, hs, nC_30, nL_30, nC_10, nL_10, nC_11, nL_11, nC_90, nL_90, nC_1024, nL_1024, nC_4, nL_4, nC_24, nL_24, nC_6, nL_6, nC_3, nL_3, nC_135, nL_135, nC_33, nL_33, nC_198, nL_198, nC_232, nL_232, nC_96, nL_96, hn, nxt_wrI, nxt_wrJ, nxt_wrR, nxt_mk1, shp_wrI, shp_wrJ, shp_wrR, shp_mk1, Nat.add_assoc, Nat.reduceEqDiff, nx_0, nx_1]
    refine ⟨((((Ea.refl.m1 (by omega)).wR (Nat.le_refl _)).wI (Nat.le_refl _)).wI (Nat.le_refl _)).wI (Nat.le_refl _), ?_⟩
    simp [scIs, isSc, cst0, nxt_wrI, nxt_wrJ, nxt_wrR, nxt_mk1, shp_wrI, shp_wrJ, shp_wrR, shp_mk1, rdI_wrI, rdI_wrJ, rdI_wrR, rdI_mk1, rdJ_wrI, rdJ_wrJ, rdJ_wrR, rdJ_mk1, rdR_wrI, rdR_wrJ, rdR_wrR, rdR_mk1, Nat.add_assoc, nx_0, nx_1, hs, hn]
    rfl
  obtain ⟨r, u, h1, rfl, h2, h3⟩ := sem_wp (nL := 1) (as := [.ref a]) (Nat.le_of_ble_eq_true rfl) hh
  exact ⟨u, h1, h2, h3⟩
theorem s_X6_init {a : Nat} {w : Wd} (hs : shp w a = (6, 0)) (hn : nxt w = a + 1) : ∃ u, fX6_init [.ref a] w = some (none, u) ∧ Ea a 3 30 w u ∧ isV u a := by
  have hh : wp mX6_init 0 [some (.ref a)] [] w (fun r u => r = none ∧ Ea a 3 30 w u ∧ isV u a) := by
    simp only [eX6_init_0, eX6_init_1, eX6_init_4, eX6_init_5, eX6_init_7, eX6_init_9, eX6_init_12, eX6_init_13, eX6_init_15, eX6_init_17, eX6_init_20, eX6_init_21, eX6_init_23, eX6_init_25, eX6_init_28, eX6_init_29, eX6_init_30, eX6_init_33, eX6_init_34, eX6_init_35, eX6_init_38, cont_some, tl_some, tl_none, csum_nil, csum_i, csum_r, csum_j, isc2_i, isc2_r, isc2_n, va_rf_s, vfn_ite, true_and, and_true, true_or, or_true, eq_self, Bool.false_eq_true, not_false_eq_true, not_true_eq_false, if_true, if_false, Nat.reduceAdd, Nat.reduceLeDiff, reduceIte, obj_eq, hs, nC_30, nL_30, nC_10, nL_10, nC_11, nL_11, nC_90, nL_90, nC_1024, nL_1024, nC_4, nL_4, nC_24, nL_24, nC_6, nL_6, nC_3, nL_3, nC_135, nL_135, nC_33, nL_33, nC_198, nL_198, nC_232, nL_232, nC_96, nL_96, hn, nxt_wrI, nxt_wrJ, nxt_wrR, nxt_mk1, shp_wrI, shp_wrJ, shp_wrR, shp_mk1, Nat.add_assoc, Nat.reduceEqDiff, nx_0, nx_1]
    refine ⟨(((((((Ea.refl.m1 (by omega)).wR (Nat.le_refl _)).m1 (by omega)).wR (Nat.le_refl _)).m1 (by omega)).wR (Nat.le_refl _)).wI (Nat.le_refl _)).wI (Nat.le_refl _), ?_⟩
    simp [isV, nxt_wrI, nxt_wrJ, nxt_wrR, nxt_mk1, shp_wrI, shp_wrJ, shp_wrR, shp_mk1, rdI_wrI, rdI_wrJ, rdI_wrR, rdI_mk1, rdJ_wrI, rdJ_wrJ, rdJ_wrR, rdJ_mk1, rdR_wrI, rdR_wrJ, rdR_wrR, rdR_mk1, Nat.add_assoc, nx_0, nx_1, hs, hn]
  obtain ⟨r, u, h1, rfl, h2, h3⟩ := sem_wp (nL := 1) (as := [.ref a]) (Nat.le_of_ble_eq_true rfl) hh
  exact ⟨u, h1, h2, h3⟩
theorem s_X1_init {a : Nat} {w : Wd} (hs : shp w a = (1, 0)) (hn : nxt w = a + 1) : ∃ u, fX1_init [.ref a] w = some (none, u) ∧ Ea a 2 1035 w u ∧ isO u a := by
  have hh : wp mX1_init 0 [some (.ref a)] [] w (fun r u => r = none ∧ Ea a 2 1035 w u ∧ isO u a) := by
    simp only [eX1_init_0, eX1_init_1, eX1_init_4, eX1_init_5, eX1_init_8, eX1_init_10, eX1_init_13, eX1_init_14, eX1_init_16, eX1_init_18, eX1_init_21, cont_some, tl_some, tl_none, csum_nil, csum_i, csum_r, csum_j, isc2_i, isc2_r, isc2_n, va_rf_s, vfn_ite, true_and, and_true, true_or, or_true, eq_self, Bool.false_eq_true, not_false_eq_true, not_true_eq_false, if_true, if_false, Nat.reduceAdd, Nat.reduceLeDiff, reduceIte, obj_eq, hs, nC_30, nL_30, nC_10, nL_10, nC_11, nL_11, nC_90, nL_90, nC_1024, nL_1024, nC_4, nL_4, nC_24, nL_24, nC_6, nL_6, nC_3, nL_3, nC_135, nL_135, nC_33, nL_33, nC_198, nL_198, nC_232, nL_232, nC_96, nL_96, hn, nxt_wrI, nxt_wrJ, nxt_wrR, nxt_mk1, shp_wrI, shp_wrJ, shp_wrR, shp_mk1, Nat.add_assoc, Nat.reduceEqDiff, nx_0, nx_1]
    refine ⟨((((Ea.refl.m1 (by omega)).wR (Nat.le_refl _)).m1 (by omega)).wR (Nat.le_refl _)), ?_⟩
    simp [isO, nxt_wrI, nxt_wrJ, nxt_wrR, nxt_mk1, shp_wrI, shp_wrJ, shp_wrR, shp_mk1, rdI_wrI, rdI_wrJ, rdI_wrR, rdI_mk1, rdJ_wrI, rdJ_wrJ, rdJ_wrR, rdJ_mk1, rdR_wrI, rdR_wrJ, rdR_wrR, rdR_mk1, Nat.add_assoc, nx_0, nx_1, hs, hn]
  obtain ⟨r, u, h1, rfl, h2, h3⟩ := sem_wp (nL := 1) (as := [.ref a]) (Nat.le_of_ble_eq_true rfl) hh
  exact ⟨u, h1, h2, h3⟩
theorem s_X5_init {a : Nat} {w : Wd} (hs : shp w a = (5, 0)) (hn : nxt w = a + 1) : ∃ u, fX5_init [.ref a] w = some (none, u) ∧ Ea a 2 120 w u ∧ CT u a (0, fun _ => 0) := by
  have hh : wp mX5_init 0 [some (.ref a)] [] w (fun r u => r = none ∧ Ea a 2 120 w u ∧ CT u a (0, fun _ => 0)) := by
    simp only [eX5_init_0, eX5_init_1, eX5_init_4, eX5_init_5, eX5_init_7, eX5_init_9, eX5_init_12, eX5_init_13, eX5_init_14, eX5_init_17, eX5_init_18, eX5_init_20, eX5_init_22, eX5_init_25, eX5_init_26, eX5_init_27, eX5_init_30, eX5_init_31, eX5_init_32, eX5_init_35, cont_some, tl_some, tl_none, csum_nil, csum_i, csum_r, csum_j, isc2_i, isc2_r, isc2_n, va_rf_s, vfn_ite, true_and, and_true, true_or, or_true, eq_self, Bool.false_eq_true, not_false_eq_true, not_true_eq_false, if_true, if_false, Nat.reduceAdd, Nat.reduceLeDiff, reduceIte, obj_eq, hs, nC_30, nL_30, nC_10, nL_10, nC_11, nL_11, nC_90, nL_90, nC_1024, nL_1024, nC_4, nL_4, nC_24, nL_24, nC_6, nL_6, nC_3, nL_3, nC_135, nL_135, nC_33, nL_33, nC_198, nL_198, nC_232, nL_232, nC_96, nL_96, hn, nxt_wrI, nxt_wrJ, nxt_wrR, nxt_mk1, shp_wrI, shp_wrJ, shp_wrR, shp_mk1, Nat.add_assoc, Nat.reduceEqDiff, nx_0, nx_1]
    refine ⟨((((((Ea.refl.m1 (by omega)).wR (Nat.le_refl _)).wI (Nat.le_refl _)).m1 (by omega)).wR (Nat.le_refl _)).wI (Nat.le_refl _)).wI (Nat.le_refl _), ?_⟩
    simp [CT, isTp, nxt_wrI, nxt_wrJ, nxt_wrR, nxt_mk1, shp_wrI, shp_wrJ, shp_wrR, shp_mk1, rdI_wrI, rdI_wrJ, rdI_wrR, rdI_mk1, rdJ_wrI, rdJ_wrJ, rdJ_wrR, rdJ_mk1, rdR_wrI, rdR_wrJ, rdR_wrR, rdR_mk1, Nat.add_assoc, nx_0, nx_1, hs, hn]
    rfl
  obtain ⟨r, u, h1, rfl, h2, h3⟩ := sem_wp (nL := 1) (as := [.ref a]) (Nat.le_of_ble_eq_true rfl) hh
  exact ⟨u, h1, h2, h3⟩
