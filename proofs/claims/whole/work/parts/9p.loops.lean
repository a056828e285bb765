
theorem isScS {w u : Wd} {s : Nat} (h : isSc w s) (h1 : Sc w u s) (h2 : Sc w u (s + 1)) : isSc u s := by
  unfold isSc
  simp only [h1.2.2.2, h2.2.2.2, h1.2.2.1]
  exact h
def pa0 (w : Wd) (pa n : Nat) : Prop := shp w pa = (2, 0) ∧ rdR w pa 0 = some (pa + 1) ∧ shp w (pa + 1) = (15, 6) ∧ rdI w pa 1 = 0 ∧ ∀ k, k < n → rdR w (pa + 1) k = some (pa + 2 + 2 * k) ∧ isSc w (pa + 2 + 2 * k)
theorem pa0.is {w : Wd} {pa : Nat} (h : pa0 w pa 6) (S : Nat → Sst) : paIs w pa 0 S := by
  obtain ⟨h1, h2, h3, h4, h5⟩ := h
  refine ⟨fun k => pa + 2 + 2 * k, ⟨h1, h2, h3, fun k hk => ⟨(h5 k hk).1, (h5 k hk).2, ?_, ?_⟩, fun i j hi hj hij => ?_⟩, h4, by omega, fun k hk => absurd hk (by omega)⟩
  all_goals (dsimp only; omega)
theorem l_X2_init {pa : Nat} {w0 : Wd} {Q : Option Value → Wd → Prop} (hQ : ∀ u, Ea pa 13 210 w0 u → pa0 u pa 6 → Q none u) : ∀ (d k : Nat) (w : Wd), k + d = 6 → pa0 w pa k → nxt w = pa + 2 + 2 * k → Ea pa (1 + 2 * k) (6 + 34 * k) w0 w → wp mX2_init 20 [some (.ref pa), some (.int (nI k))] [] w Q := by
  intro d
  induction d with
  | zero =>
    intro k w hk hp hn he
    have : k = 6 := by omega
    subst this
    have h6 : (nI 6 < (6 : Int32)) = False := eq_false (by decide)
    simp only [eX2_init_20, eX2_init_21, eX2_init_23, eX2_init_45, cont_some, tl_some, tl_none, csum_nil, csum_i, csum_r, csum_j, isc2_i, isc2_r, isc2_n, va_rf_s, vfn_ite, true_and, and_true, true_or, or_true, eq_self, Bool.false_eq_true, not_false_eq_true, not_true_eq_false, if_true, if_false, Nat.reduceAdd, Nat.reduceLeDiff, reduceIte, h6]
    exact hQ w he hp
  | succ d ih =>
    intro k w hk hp hn he
    have h6 : (nI k < (6 : Int32)) = True := eq_true (by rw [show (6 : Int32) = nI 6 from rfl]; exact (nI_ltj (by omega) (by omega)).mpr (by omega))
    obtain ⟨h1, h2, h3, h4, h5⟩ := hp
    have hs : shp (mk1 w 4 0 4) (nxt w) = (4, 0) := if_pos rfl
    obtain ⟨u, e, E, F⟩ := s_X4_init (a := nxt w) (w := mk1 w 4 0 4) hs rfl
    have E' : Ea (nxt w) 2 34 w u := (Ea.refl.m1 (Nat.le_refl _)).tr E (Nat.le_refl _)
    have hc : (nI k).toNatClampNeg = k := nI_clamp (by omega)
    have hi : inA (nI k) 6 = true := inA_nI (by omega) (by omega)
    have g : shp u (pa + 1) = (15, 6) := (E'.1 _ (by omega)).2.2.2.trans h3
    have gn : shp u (nxt w) = (4, 0) := F.1.1
    have e15 : elC 15 = 4 := rfl
    simp only [eX2_init_20, eX2_init_21, eX2_init_23, eX2_init_26, eX2_init_27, eX2_init_30, eX2_init_31, eX2_init_34, eX2_init_34i, eX2_init_35, eX2_init_38, eX2_init_39, cont_some, tl_some, tl_none, csum_nil, csum_i, csum_r, csum_j, isc2_i, isc2_r, isc2_n, va_rf_s, vfn_ite, true_and, and_true, true_or, or_true, eq_self, Bool.false_eq_true, not_false_eq_true, not_true_eq_false, if_true, if_false, Nat.reduceAdd, Nat.reduceLeDiff, reduceIte, h6, h1, h2, h3, hs, e, g, gn, hc, hi, e15]
    rw [show nI k + 1 = nI (k + 1) from nI_a k 1, eX2_init_42]
    refine ih (k + 1) _ (by omega) ?_ ?_ ?_
    · have q0 := E'.1 pa (by omega)
      refine ⟨by rw [shp_wrR, q0.2.2.2]; exact h1, ?_, by rw [shp_wrR]; exact g, by rw [rdI_wrR, q0.1]; exact h4, fun j hj => ?_⟩
      · rw [rdR_wrR, if_neg (by omega), q0.2.2.1]; exact h2
      · by_cases hjk : j = k
        · subst hjk
          rw [rdR_wrR, if_pos ⟨rfl, rfl⟩, hn]
          refine ⟨rfl, ?_⟩
          have := F.1
          rw [hn] at this
          exact isScS this (.wR (by omega)) (.wR (by omega))
        · obtain ⟨a1, a2⟩ := h5 j (by omega)
          rw [rdR_wrR, if_neg (by omega), (E'.1 _ (by omega)).2.2.1]
          exact ⟨a1, isScS a2 ((E'.1 _ (by omega)).tr (.wR (by omega))) ((E'.1 _ (by omega)).tr (.wR (by omega)))⟩
    · rw [nxt_wrR, E'.2.1]; omega
    · have := he.tr E' (by omega)
      rw [show 1 + 2 * (k + 1) = 1 + 2 * k + 2 by omega, show 6 + 34 * (k + 1) = 6 + 34 * k + 34 by omega]
      exact this.wR (by omega)
theorem s_X2_init {a : Nat} {w : Wd} (hs : shp w a = (2, 0)) (hn : nxt w = a + 1) : ∃ u, fX2_init [.ref a] w = some (none, u) ∧ Ea a 13 210 w u ∧ pa0 u a 6 := by
  have hh : wp mX2_init 0 [some (.ref a), none] [] w (fun r u => r = none ∧ Ea a 13 210 w u ∧ pa0 u a 6) := by
    simp only [eX2_init_0, eX2_init_1, eX2_init_4, eX2_init_5, eX2_init_7, eX2_init_10, eX2_init_13, eX2_init_14, eX2_init_15, eX2_init_18, eX2_init_19, cont_some, tl_some, tl_none, csum_nil, csum_i, csum_r, csum_j, isc2_i, isc2_r, isc2_n, va_rf_s, vfn_ite, true_and, and_true, true_or, or_true, eq_self, Bool.false_eq_true, not_false_eq_true, not_true_eq_false, if_true, if_false, Nat.reduceAdd, Nat.reduceLeDiff, reduceIte, obj_eq, hs, nC_30, nL_30, nC_10, nL_10, nC_11, nL_11, nC_90, nL_90, nC_1024, nL_1024, nC_4, nL_4, nC_24, nL_24, nC_6, nL_6, nC_3, nL_3, nC_135, nL_135, nC_33, nL_33, nC_198, nL_198, nC_232, nL_232, nC_96, nL_96, hn, nxt_wrI, nxt_wrJ, nxt_wrR, nxt_mk1, shp_wrI, shp_wrJ, shp_wrR, shp_mk1, Nat.add_assoc, Nat.reduceEqDiff, nx_0, nx_1]
    refine l_X2_init (fun u h1 h2 => ⟨rfl, h1, h2⟩) 6 0 _ rfl ?_ ?_ (((Ea.refl.m1 (by omega)).wR (Nat.le_refl _)).wI (Nat.le_refl _))
    · simp [pa0, nxt_wrI, nxt_wrJ, nxt_wrR, nxt_mk1, shp_wrI, shp_wrJ, shp_wrR, shp_mk1, rdI_wrI, rdI_wrJ, rdI_wrR, rdI_mk1, rdJ_wrI, rdJ_wrJ, rdJ_wrR, rdJ_mk1, rdR_wrI, rdR_wrJ, rdR_wrR, rdR_mk1, Nat.add_assoc, nx_0, nx_1, hs, hn]
    · simp [nxt_wrI, nxt_wrJ, nxt_wrR, nxt_mk1, shp_wrI, shp_wrJ, shp_wrR, shp_mk1, rdI_wrI, rdI_wrJ, rdI_wrR, rdI_mk1, rdJ_wrI, rdJ_wrJ, rdJ_wrR, rdJ_mk1, rdR_wrI, rdR_wrJ, rdR_wrR, rdR_mk1, Nat.add_assoc, nx_0, nx_1, hs, hn]
  obtain ⟨r, u, h1, rfl, h2, h3⟩ := sem_wp (nL := 2) (as := [.ref a]) (Nat.le_of_ble_eq_true rfl) hh
  exact ⟨u, h1, h2, h3⟩
theorem frIsS {w u : Wd} {q A B : Nat} (h : frIs w q A B) (s : Sc w u q) : frIs u q A B := by
  unfold frIs
  rw [s.2.2.2, s.2.1, s.2.1]
  exact h
def zb0 (w : Wd) (z j : Nat) : Prop := shp w z = (7, 0) ∧ rdR w z 1 = some (z + 1) ∧ rdR w z 3 = some (z + 2) ∧ rdR w z 6 = some (z + 3) ∧ rdR w z 7 = some (z + 4) ∧ rdR w z 8 = some (z + 5) ∧ rdR w z 9 = some (z + 6) ∧ rdR w z 10 = some (z + 7) ∧ shp w (z + 1) = (10, 30) ∧ shp w (z + 2) = (10, 135) ∧ shp w (z + 3) = (10, 3) ∧ shp w (z + 4) = (10, 3) ∧ shp w (z + 6) = (14, 10) ∧ shp w (z + 7) = (10, 10) ∧ rdI w z 0 = nI j ∧ rdI w z 2 = 0 ∧ rdI w z 5 = 0
def z0 (w : Wd) (z j n : Nat) : Prop := zb0 w z j ∧ frIs w (z + 5) 0 1 ∧ ∀ k, k < n → rdR w (z + 6) k = some (z + 8 + k) ∧ frIs w (z + 8 + k) 0 1
theorem zb0S {w u : Wd} {z j : Nat} (h : zb0 w z j) (s : ∀ c, z ≤ c → c < z + 8 → (∀ j, rdI u c j = rdI w c j) ∧ (∀ j, c = z → rdR u c j = rdR w c j) ∧ shp u c = shp w c) : zb0 u z j := by
  unfold zb0
  simp only [(s z (by omega) (by omega)).1, (s z (by omega) (by omega)).2.1 _ rfl, (s z (by omega) (by omega)).2.2, (s (z + 1) (by omega) (by omega)).2.2, (s (z + 2) (by omega) (by omega)).2.2, (s (z + 3) (by omega) (by omega)).2.2, (s (z + 4) (by omega) (by omega)).2.2, (s (z + 6) (by omega) (by omega)).2.2, (s (z + 7) (by omega) (by omega)).2.2]
  exact h
theorem l_X7_init {z j : Nat} {w0 : Wd} {a1 : Option Value} (ha1 : isc2 (some a1) = false) {Q : Option Value → Wd → Prop} (hQ : ∀ u, Ea z 17 213 w0 u → z0 u z j 10 → Q none u) : ∀ (d k : Nat) (w : Wd), k + d = 10 → z0 w z j k → nxt w = z + 8 + k → Ea z (7 + k) (193 + 2 * k) w0 w → wp mX7_init 85 [some (.ref z), a1, some (.int (nI k))] [] w Q := by
  intro d
  induction d with
  | zero =>
    intro k w hk hp hn he
    have : k = 10 := by omega
    subst this
    have h6 : (nI 10 < (10 : Int32)) = False := eq_false (by decide)
    simp only [eX7_init_85, eX7_init_86, eX7_init_88, eX7_init_110, cont_some, tl_some, tl_none, csum_nil, csum_i, csum_r, csum_j, isc2_i, isc2_r, isc2_n, va_rf_s, vfn_ite, true_and, and_true, true_or, or_true, eq_self, Bool.false_eq_true, not_false_eq_true, not_true_eq_false, if_true, if_false, Nat.reduceAdd, Nat.reduceLeDiff, reduceIte, h6]
    exact hQ w he hp
  | succ d ih =>
    intro k w hk hp hn he
    have h6 : (nI k < (10 : Int32)) = True := eq_true (by rw [show (10 : Int32) = nI 10 from rfl]; exact (nI_ltj (by omega) (by omega)).mpr (by omega))
    obtain ⟨hb, hw, h5⟩ := hp
    have hs : shp (mk1 w 0 0 2) (nxt w) = (0, 0) := if_pos rfl
    obtain ⟨u, e, E, F⟩ := s_X0_init (a := nxt w) (w := mk1 w 0 0 2) hs
    have E' : Ea (nxt w) 1 2 w u := (Ea.refl.m1 (Nat.le_refl _)).tr E (Nat.le_refl _)
    have hc : (nI k).toNatClampNeg = k := nI_clamp (by omega)
    have hi : inA (nI k) 10 = true := inA_nI (by omega) (by omega)
    have h1 := hb.1
    have h2 := hb.2.2.2.2.2.2.1
    have g : shp u (z + 6) = (14, 10) := (E'.1 _ (by omega)).2.2.2.trans hb.2.2.2.2.2.2.2.2.2.2.2.2.1
    have gn : shp u (nxt w) = (0, 0) := F.1
    have e15 : elC 14 = 0 := rfl
    simp only [eX7_init_85, eX7_init_86, eX7_init_88, eX7_init_91, eX7_init_92, eX7_init_95, eX7_init_96, eX7_init_99, eX7_init_99i, eX7_init_100, eX7_init_103, eX7_init_104, cont_some, tl_some, tl_none, csum_nil, csum_i, csum_r, csum_j, isc2_i, isc2_r, isc2_n, va_rf_s, vfn_ite, true_and, and_true, true_or, or_true, eq_self, Bool.false_eq_true, not_false_eq_true, not_true_eq_false, if_true, if_false, Nat.reduceAdd, Nat.reduceLeDiff, reduceIte, h6, h1, h2, hs, e, g, gn, hc, hi, e15, ha1]
    rw [show nI k + 1 = nI (k + 1) from nI_a k 1, eX7_init_107]
    refine ih (k + 1) _ (by omega) ⟨zb0S hb (fun c h7 h8 => ?_), frIsS hw ((E'.1 _ (by omega)).tr (.wR (by omega))), fun i hi => ?_⟩ ?_ ?_
    · have q := E'.1 c (by omega)
      exact ⟨q.1, fun i hc => by rw [rdR_wrR, if_neg (by omega)]; exact q.2.2.1 i, q.2.2.2⟩
    · by_cases hik : i = k
      · subst hik
        rw [rdR_wrR, if_pos ⟨rfl, rfl⟩, hn]
        refine ⟨rfl, ?_⟩
        have := F
        rw [hn] at this
        exact frIsS this (.wR (by omega))
      · obtain ⟨a1, a2⟩ := h5 i (by omega)
        rw [rdR_wrR, if_neg (by omega), (E'.1 _ (by omega)).2.2.1]
        exact ⟨a1, frIsS a2 ((E'.1 _ (by omega)).tr (.wR (by omega)))⟩
    · rw [nxt_wrR, E'.2.1]; omega
    · have := he.tr E' (by omega)
      rw [show 7 + (k + 1) = 7 + k + 1 by omega, show 193 + 2 * (k + 1) = 193 + 2 * k + 2 by omega]
      exact this.wR (by omega)
theorem s_X7_init {a j : Nat} {w : Wd} (hs : shp w a = (7, 0)) (hn : nxt w = a + 1) : ∃ u, fX7_init [.ref a, .int (nI j)] w = some (none, u) ∧ Ea a 17 213 w u ∧ z0 u a j 10 := by
  have hh : wp mX7_init 0 [some (.ref a), some (.int (nI j)), none] [] w (fun r u => r = none ∧ Ea a 17 213 w u ∧ z0 u a j 10) := by
    simp only [eX7_init_0, eX7_init_1, eX7_init_4, eX7_init_5, eX7_init_7, eX7_init_9, eX7_init_12, eX7_init_13, eX7_init_14, eX7_init_17, eX7_init_18, eX7_init_21, eX7_init_23, eX7_init_26, eX7_init_27, eX7_init_28, eX7_init_31, eX7_init_32, eX7_init_33, eX7_init_36, eX7_init_37, eX7_init_38, eX7_init_40, eX7_init_43, eX7_init_44, eX7_init_45, eX7_init_47, cont_some, tl_some, tl_none, csum_nil, csum_i, csum_r, csum_j, isc2_i, isc2_r, isc2_n, va_rf_s, vfn_ite, true_and, and_true, true_or, or_true, eq_self, Bool.false_eq_true, not_false_eq_true, not_true_eq_false, if_true, if_false, Nat.reduceAdd, Nat.reduceLeDiff, reduceIte, obj_eq, hs, nC_30, nL_30, nC_10, nL_10, nC_11, nL_11, nC_90, nL_90, nC_1024, nL_1024, nC_4, nL_4, nC_24, nL_24, nC_6, nL_6, nC_3, nL_3, nC_135, nL_135, nC_33, nL_33, nC_198, nL_198, nC_232, nL_232, nC_96, nL_96, hn, nxt_wrI, nxt_wrJ, nxt_wrR, nxt_mk1, shp_wrI, shp_wrJ, shp_wrR, shp_mk1, Nat.add_assoc, Nat.reduceEqDiff, nx_0, nx_1]
    generalize hw1 : wrR (mk1 _ _ _ _) _ _ _ = w1
    have k1 : Ea a 4 171 w w1 ∧ nxt w1 = a + 5 ∧ shp w1 a = (7, 0) ∧ rdR w1 a 1 = some (a + 1) ∧ rdR w1 a 3 = some (a + 2) ∧ rdR w1 a 6 = some (a + 3) ∧ rdR w1 a 7 = some (a + 4) ∧ shp w1 (a + 1) = (10, 30) ∧ shp w1 (a + 2) = (10, 135) ∧ shp w1 (a + 3) = (10, 3) ∧ shp w1 (a + 4) = (10, 3) ∧ rdI w1 a 2 = 0 ∧ rdI w1 a 5 = 0 := by
      subst hw1
      refine ⟨((((((((((Ea.refl.m1 (by omega)).wR (Nat.le_refl _)).wI (Nat.le_refl _)).m1 (by omega)).wR (Nat.le_refl _)).wI (Nat.le_refl _)).wI (Nat.le_refl _)).m1 (by omega)).wR (Nat.le_refl _)).m1 (by omega)).wR (Nat.le_refl _), ?_⟩
      simp [nxt_wrI, nxt_wrJ, nxt_wrR, nxt_mk1, shp_wrI, shp_wrJ, shp_wrR, shp_mk1, rdI_wrI, rdI_wrJ, rdI_wrR, rdI_mk1, rdJ_wrI, rdJ_wrJ, rdJ_wrR, rdJ_mk1, rdR_wrI, rdR_wrJ, rdR_wrR, rdR_mk1, Nat.add_assoc, nx_0, nx_1, hs, hn]
    obtain ⟨k1, n1, p1, p2, p3, p4, p5, p6, p7, p8, p9, p10, p11⟩ := k1
    have hs2 : shp (mk1 w1 0 0 2) (nxt w1) = (0, 0) := if_pos rfl
    obtain ⟨u, e, E, F⟩ := s_X0_init (a := nxt w1) (w := mk1 w1 0 0 2) hs2
    have E' : Ea (nxt w1) 1 2 w1 u := (Ea.refl.m1 (Nat.le_refl _)).tr E (Nat.le_refl _)
    have q0 := E'.1 a (by omega)
    have hu : shp u a = (7, 0) := q0.2.2.2.trans p1
    have nu : nxt u = a + 6 := by rw [E'.2.1]; omega
    rw [n1] at e hs2
    simp only [eX7_init_50, eX7_init_51, eX7_init_54, eX7_init_54i, eX7_init_55, eX7_init_58, eX7_init_61, eX7_init_62, eX7_init_64, eX7_init_67, eX7_init_70, eX7_init_71, eX7_init_73, eX7_init_75, eX7_init_78, eX7_init_79, eX7_init_80, eX7_init_83, eX7_init_84, cont_some, tl_some, tl_none, csum_nil, csum_i, csum_r, csum_j, isc2_i, isc2_r, isc2_n, va_rf_s, vfn_ite, true_and, and_true, true_or, or_true, eq_self, Bool.false_eq_true, not_false_eq_true, not_true_eq_false, if_true, if_false, Nat.reduceAdd, Nat.reduceLeDiff, reduceIte, hs2, e, hu, nu, n1, nC_30, nL_30, nC_10, nL_10, nC_11, nL_11, nC_90, nL_90, nC_1024, nL_1024, nC_4, nL_4, nC_24, nL_24, nC_6, nL_6, nC_3, nL_3, nC_135, nL_135, nC_33, nL_33, nC_198, nL_198, nC_232, nL_232, nC_96, nL_96, nxt_wrI, nxt_wrJ, nxt_wrR, nxt_mk1, shp_wrI, shp_wrJ, shp_wrR, shp_mk1, Nat.add_assoc, Nat.reduceEqDiff, nx_0, nx_1]
    refine l_X7_init (z := a) (j := j) (w0 := w) (a1 := some (.int (nI j))) (Q := fun r u => r = none ∧ Ea a 17 213 w u ∧ z0 u a j 10) rfl (fun u h1 h2 => ⟨rfl, h1, h2⟩) 10 0 _ rfl ?_ ?_ ?_
    · refine ⟨?_, ?_, fun k hk => absurd hk (by omega)⟩
      · unfold zb0
        have t1 := (E'.1 (a + 1) (by omega)).2.2.2.trans p6
        have t2 := (E'.1 (a + 2) (by omega)).2.2.2.trans p7
        have t3 := (E'.1 (a + 3) (by omega)).2.2.2.trans p8
        have t4 := (E'.1 (a + 4) (by omega)).2.2.2.trans p9
        simp [nxt_wrI, nxt_wrJ, nxt_wrR, nxt_mk1, shp_wrI, shp_wrJ, shp_wrR, shp_mk1, rdI_wrI, rdI_wrJ, rdI_wrR, rdI_mk1, rdJ_wrI, rdJ_wrJ, rdJ_wrR, rdJ_mk1, rdR_wrI, rdR_wrJ, rdR_wrR, rdR_mk1, Nat.add_assoc, nx_0, nx_1, hu, nu, t1, t2, t3, t4, q0.1, q0.2.2.1, p2, p3, p4, p5, p10, p11]
      · have := F
        rw [n1] at this
        refine frIsS this ?_
        exact (((((Sc.wR (by omega)).tr (.m1 (by rw [nxt_wrR, nu]; omega))).tr (.wR (by omega))).tr (.m1 (by simp only [nxt_wrR, nxt_mk1, nu]; omega))).tr (.wR (by omega))).tr (.wI (by omega))
    · simp [nxt_wrI, nxt_wrJ, nxt_wrR, nxt_mk1, shp_wrI, shp_wrJ, shp_wrR, shp_mk1, rdI_wrI, rdI_wrJ, rdI_wrR, rdI_mk1, rdJ_wrI, rdJ_wrJ, rdJ_wrR, rdJ_mk1, rdR_wrI, rdR_wrJ, rdR_wrR, rdR_mk1, Nat.add_assoc, nx_0, nx_1, nu]
    · exact (((((k1.tr E' (by omega)).wR (Nat.le_refl _)).m1 (by omega)).wR (Nat.le_refl _)).m1 (by omega)).wR (Nat.le_refl _) |>.wI (Nat.le_refl _)
  obtain ⟨r, u, h1, rfl, h2, h3⟩ := sem_wp (nL := 3) (as := [.ref a, .int (nI j)]) (Nat.le_of_ble_eq_true rfl) hh
  exact ⟨u, h1, h2, h3⟩
def sht0 : Sht := (fun _ => none, fun _ _ => 0)
theorem l_X3_init {a : Nat} {w0 : Wd} {Q : Option Value → Wd → Prop} (hQ : ∀ u, Ea a 7 108 w0 u → CS u a sht0 → Q none u) : ∀ (d k : Nat) (w : Wd), k + d = 4 → isRw w a → (∀ c i, rdJ w (a + 2 + c) i = 0) → (∀ i, i < k → rdI w (a + 6) i = -1) → Ea a 7 108 w0 w → wp mX3_init 31 [some (.ref a), some (.int (nI k))] [] w Q := by
  intro d
  induction d with
  | zero =>
    intro k w hk hp hj hm he
    have : k = 4 := by omega
    subst this
    have h6 : (nI 4 < (4 : Int32)) = False := eq_false (by decide)
    simp only [eX3_init_31, eX3_init_32, eX3_init_33, eX3_init_49, cont_some, tl_some, tl_none, csum_nil, csum_i, csum_r, csum_j, isc2_i, isc2_r, isc2_n, va_rf_s, vfn_ite, true_and, and_true, true_or, or_true, eq_self, Bool.false_eq_true, not_false_eq_true, not_true_eq_false, if_true, if_false, Nat.reduceAdd, Nat.reduceLeDiff, reduceIte, h6]
    exact hQ w he ⟨hp, fun k hk => ⟨hm k hk, fun i hi => hj k i⟩⟩
  | succ d ih =>
    intro k w hk hp hj hm he
    have h6 : (nI k < (4 : Int32)) = True := eq_true (by rw [show (4 : Int32) = nI 4 from rfl]; exact (nI_ltj (by omega) (by omega)).mpr (by omega))
    have hc : (nI k).toNatClampNeg = k := nI_clamp (by omega)
    have hi : inA (nI k) 4 = true := inA_nI (by omega) (by omega)
    simp only [eX3_init_31, eX3_init_32, eX3_init_33, eX3_init_36, eX3_init_37, eX3_init_40, eX3_init_41, eX3_init_42, eX3_init_43, cont_some, tl_some, tl_none, csum_nil, csum_i, csum_r, csum_j, isc2_i, isc2_r, isc2_n, va_rf_s, vfn_ite, true_and, and_true, true_or, or_true, eq_self, Bool.false_eq_true, not_false_eq_true, not_true_eq_false, if_true, if_false, Nat.reduceAdd, Nat.reduceLeDiff, reduceIte, h6, hp.1, hp.2.2.1, hp.2.2.2.2.2.1, hc, hi]
    rw [show nI k + 1 = nI (k + 1) from nI_a k 1, eX3_init_46]
    refine ih (k + 1) _ (by omega) ?_ (fun c i => by rw [rdJ_wrI]; exact hj c i) (fun i hi => ?_) (he.wI (by omega))
    · unfold isRw
      simp only [shp_wrI, rdR_wrI]
      exact hp
    · rw [rdI_wrI]
      by_cases hik : i = k
      · rw [if_pos ⟨rfl, hik⟩]
      · rw [if_neg (by omega)]; exact hm i (by omega)
theorem s_X3_init {a : Nat} {w : Wd} (hs : shp w a = (3, 0)) (hn : nxt w = a + 1) : ∃ u, fX3_init [.ref a] w = some (none, u) ∧ Ea a 7 108 w u ∧ CS u a sht0 := by
  have hh : wp mX3_init 0 [some (.ref a), none] [] w (fun r u => r = none ∧ Ea a 7 108 w u ∧ CS u a sht0) := by
    have q1 : (a + 1 < a) = False := eq_false (by omega)
    simp only [eX3_init_0, eX3_init_1, eX3_init_4, eX3_init_5, eX3_init_6, eX3_init_8, eX3_init_12, cont_some, tl_some, tl_none, csum_nil, csum_i, csum_r, csum_j, isc2_i, isc2_r, isc2_n, va_rf_s, vfn_ite, true_and, and_true, true_or, or_true, eq_self, Bool.false_eq_true, not_false_eq_true, not_true_eq_false, if_true, if_false, Nat.reduceAdd, Nat.reduceLeDiff, reduceIte, obj_eq, hs, nC_30, nL_30, nC_10, nL_10, nC_11, nL_11, nC_90, nL_90, nC_1024, nL_1024, nC_4, nL_4, nC_24, nL_24, nC_6, nL_6, nC_3, nL_3, nC_135, nL_135, nC_33, nL_33, nC_198, nL_198, nC_232, nL_232, nC_96, nL_96, hn, nxt_wrI, nxt_wrJ, nxt_wrR, nxt_mk1, shp_wrI, shp_wrJ, shp_wrR, shp_mk1, Nat.add_assoc, Nat.reduceEqDiff, nx_0, nx_1, shp_mk2, nxt_mk2, q1, false_and]
    generalize hw1 : wrR (mk2 _ _ _) _ _ _ = w1
    have k1 : Ea a 5 100 w w1 ∧ nxt w1 = a + 6 ∧ shp w1 a = (3, 0) ∧ rdR w1 a 0 = some (a + 1) ∧ shp w1 (a + 1) = (17, 4) ∧ (∀ k, k < 4 → rdR w1 (a + 1) k = some (a + 2 + k) ∧ shp w1 (a + 2 + k) = (11, 24)) ∧ ∀ c i, rdJ w1 (a + 2 + c) i = 0 := by
      subst hw1
      refine ⟨(Ea.refl.m2 (by omega)).wR (Nat.le_refl _), ?_, ?_, ?_, ?_, fun k hk => ⟨?_, ?_⟩, fun c i => ?_⟩
      · rw [nxt_wrR, nxt_mk2, hn]
      · rw [shp_wrR, shp_mk2, hn, if_neg (by omega), if_neg (by omega), hs]
      · rw [rdR_wrR, if_pos ⟨rfl, rfl⟩]
      · rw [shp_wrR, shp_mk2, hn, if_pos rfl]
      · rw [rdR_wrR, if_neg (by omega), rdR_mk2, hn, if_pos rfl, if_pos hk]
      · rw [shp_wrR, shp_mk2, hn, if_neg (by omega), if_pos (by omega)]
      · rw [rdJ_wrR, rdJ_mk2, if_pos (by omega)]
    obtain ⟨k1, n1, p1, p2, p3, p4, p5⟩ := k1
    simp only [eX3_init_15, eX3_init_16, eX3_init_17, eX3_init_19, eX3_init_22, eX3_init_23, eX3_init_24, eX3_init_26, eX3_init_29, eX3_init_30, cont_some, tl_some, tl_none, csum_nil, csum_i, csum_r, csum_j, isc2_i, isc2_r, isc2_n, va_rf_s, vfn_ite, true_and, and_true, true_or, or_true, eq_self, Bool.false_eq_true, not_false_eq_true, not_true_eq_false, if_true, if_false, Nat.reduceAdd, Nat.reduceLeDiff, reduceIte, p1, n1, nC_30, nL_30, nC_10, nL_10, nC_11, nL_11, nC_90, nL_90, nC_1024, nL_1024, nC_4, nL_4, nC_24, nL_24, nC_6, nL_6, nC_3, nL_3, nC_135, nL_135, nC_33, nL_33, nC_198, nL_198, nC_232, nL_232, nC_96, nL_96, nxt_wrI, nxt_wrJ, nxt_wrR, nxt_mk1, shp_wrI, shp_wrJ, shp_wrR, shp_mk1, Nat.add_assoc, Nat.reduceEqDiff, nx_0, nx_1]
    refine l_X3_init (a := a) (w0 := w) (Q := fun r u => r = none ∧ Ea a 7 108 w u ∧ CS u a sht0) (fun u h1 h2 => ⟨rfl, h1, h2⟩) 4 0 _ rfl ?_ (fun c i => ?_) (fun i hi => absurd hi (by omega)) ?_
    · refine ⟨?_, ?_, ?_, ?_, ?_, ?_, ?_, fun k hk => ⟨?_, ?_⟩⟩
      any_goals (simp [nxt_wrI, nxt_wrJ, nxt_wrR, nxt_mk1, shp_wrI, shp_wrJ, shp_wrR, shp_mk1, rdI_wrI, rdI_wrJ, rdI_wrR, rdI_mk1, rdJ_wrI, rdJ_wrJ, rdJ_wrR, rdJ_mk1, rdR_wrI, rdR_wrJ, rdR_wrR, rdR_mk1, Nat.add_assoc, nx_0, nx_1, n1, p1, p2, p3]; done)
      · rw [rdR_wrR, if_neg (by omega), rdR_mk1, nxt_wrR, nxt_mk1, n1, if_neg (by omega), rdR_wrR, if_neg (by omega), rdR_mk1, n1, if_neg (by omega)]
        exact (p4 k hk).1
      · rw [shp_wrR, shp_mk1, nxt_wrR, nxt_mk1, n1, if_neg (by omega), shp_wrR, shp_mk1, n1, if_neg (by omega)]
        exact (p4 k hk).2
    · rw [rdJ_wrR, rdJ_mk1]
      split
      · rfl
      · rw [rdJ_wrR, rdJ_mk1]
        split
        · rfl
        · exact p5 c i
    · exact (((k1.m1 (by omega)).wR (Nat.le_refl _)).m1 (by omega)).wR (Nat.le_refl _)
  obtain ⟨r, u, h1, rfl, h2, h3⟩ := sem_wp (nL := 2) (as := [.ref a]) (Nat.le_of_ble_eq_true rfl) hh
  exact ⟨u, h1, h2, h3⟩
