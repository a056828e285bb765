/-! read, by the class -/
theorem apW_D {w : Wd} {sc i : Nat} {D : Nat → Int32} {a d : Int32} (h : scIs w sc (i, D, a, d)) (hi : i < 10) : scIs (apW w sc i (D (3 * i)) (D (3 * i + 1)) (D (3 * i + 2))) sc (i + 1, D, a, d) ∧ Fr sc (sc + 2) w (apW w sc i (D (3 * i)) (D (3 * i + 1)) (D (3 * i + 2))) := by
  obtain ⟨h1, h2, h3, h4, h5, h6⟩ := h
  simp only at h2 h3 h4 h5 h6
  refine ⟨⟨h1, ?_, by simp only; omega, fun j hj => ?_, ?_, ?_⟩, ?_⟩
  · unfold apW; rw [rdI_wrI, if_pos ⟨rfl, rfl⟩]
  · simp only at hj ⊢
    unfold apW
    rw [rdI_wrI, if_neg (by omega), rdI_wrI]
    by_cases e2 : j = 3 * i + 2
    · rw [if_pos ⟨rfl, e2⟩, e2]
    · rw [if_neg (fun z => e2 z.2), rdI_wrI]
      by_cases e1 : j = 3 * i + 1
      · rw [if_pos ⟨rfl, e1⟩, e1]
      · rw [if_neg (fun z => e1 z.2), rdI_wrI]
        by_cases e0 : j = 3 * i
        · rw [if_pos ⟨rfl, e0⟩, e0]
        · rw [if_neg (fun z => e0 z.2)]; exact h4 j (by omega)
  · unfold apW; rw [rdI_wrI, if_neg (by omega), rdI_wrI, if_neg (by omega), rdI_wrI, if_neg (by omega), rdI_wrI, if_neg (by omega)]; exact h5
  · unfold apW; rw [rdI_wrI, if_neg (by omega), rdI_wrI, if_neg (by omega), rdI_wrI, if_neg (by omega), rdI_wrI, if_neg (by omega)]; exact h6
  · unfold apW
    exact (((Fr.rf.wrI ⟨by omega, by omega⟩).wrI ⟨by omega, by omega⟩).wrI ⟨by omega, by omega⟩).wrI ⟨by omega, by omega⟩
theorem isTp.fr {w u : Wd} {lo hi t : Nat} (h : isTp w t) (f : Fr lo hi w u) (hd : t < lo ∨ hi ≤ t) : isTp u t := by
  have e2 : ∀ j, rdR u t j = rdR w t j := fun j => f.R hd
  unfold isTp
  simp only [f.shp, e2]
  exact h
theorem CT.fr {w u : Wd} {lo hi t : Nat} {T : Tst} (h : CT w t T) (f : Fr lo hi w u) (hd : t + 2 ≤ lo ∨ hi ≤ t) : CT u t T := by
  obtain ⟨h1, h2, h3, h4⟩ := h
  exact ⟨h1.fr f (by omega), by rw [f.I (by omega)]; exact h2, h3, fun i hi => by rw [f.I (by omega)]; exact h4 i hi⟩
theorem lo_read {w0 : Wd} {b n : Nat} {D : Nat → Int32} {a d : Int32} {a1 : Option Value} (h1 : isc2 (some a1) = false) (hn : n ≤ 10) : ∀ (m i : Nat) (w : Wd), i + m = n → isCl w b → isTp w (b + 41) → rdI w (b + 41) 3 = nI n → (∀ j, j < 3 * n → rdI w (b + 41 + 2) j = D j) → scIs w (b + 1) (i, D, a, d) → Fr (b + 1) (b + 3) w0 w →
    wp mX8_read 46 [some (.ref b), a1, some (.int (nI i))] [] w (fun r u => r = some (.int (nI n)) ∧ scIs u (b + 1) (n, D, a, d) ∧ Fr (b + 1) (b + 3) w0 u) := by
  intro m
  induction m with
  | zero =>
    intro i w hi hc ht h3 hD hs hF
    have e : i = n := by omega
    subst e
    have l : ¬ nI i < nI i := Int32.lt_irrefl
    have hs1 : rdI w (b + 1) 1 = nI i := hs.2.1
    simp only [eX8_read_46, eX8_read_47, eX8_read_48, eX8_read_51, eX8_read_54, eX8_read_97, eX8_read_98, eX8_read_101, eX8_read_104, cont_some, tl_some, tl_none, csum_nil, csum_i, csum_r, csum_j, isc2_i, isc2_r, isc2_n, va_rf_s, vfn_ite, true_and, and_true, true_or, or_true, eq_self, Bool.false_eq_true, not_false_eq_true, not_true_eq_false, if_true, if_false, Nat.reduceAdd, Nat.reduceLeDiff, reduceIte, hc.1, hc.2.1, hc.2.2.1, hc.2.2.2.1, hc.2.2.2.2.1, hc.2.2.2.2.2.1, hc.2.2.2.2.2.2.1, hc.2.2.2.2.2.2.2.1, hc.2.2.2.2.2.2.2.2.1, hc.2.2.2.2.2.2.2.2.2.1, hc.2.2.2.2.2.2.2.2.2.2, ht.1, h3, l, hs.1.1, hs1]
    exact ⟨hs, hF⟩
  | succ m ih =>
    intro i w hi hc ht h3 hD hs hF
    have l : nI i < nI n := nI_lt (by omega) (by omega)
    have i10 : i < 10 := by omega
    have hs1 : rdI w (b + 1) 1 = nI i := hs.2.1
    obtain ⟨ap, fr⟩ := apW_D hs i10
    simp only [eX8_read_46, eX8_read_47, eX8_read_48, eX8_read_51, eX8_read_54, cont_some, tl_some, tl_none, csum_nil, csum_i, csum_r, csum_j, isc2_i, isc2_r, isc2_n, va_rf_s, vfn_ite, true_and, and_true, true_or, or_true, eq_self, Bool.false_eq_true, not_false_eq_true, not_true_eq_false, if_true, if_false, Nat.reduceAdd, Nat.reduceLeDiff, reduceIte, hc.1, hc.2.1, hc.2.2.1, hc.2.2.2.1, hc.2.2.2.2.1, hc.2.2.2.2.2.1, hc.2.2.2.2.2.2.1, hc.2.2.2.2.2.2.2.1, hc.2.2.2.2.2.2.2.2.1, hc.2.2.2.2.2.2.2.2.2.1, hc.2.2.2.2.2.2.2.2.2.2, ht.1, h3, l]
    simp only [eX8_read_57, eX8_read_58, eX8_read_61, eX8_read_62, eX8_read_65, eX8_read_66, eX8_read_67, eX8_read_70, eX8_read_71, eX8_read_74, eX8_read_75, eX8_read_76, eX8_read_79, eX8_read_80, eX8_read_83, eX8_read_84, eX8_read_85, eX8_read_88, eX8_read_91, cont_some, tl_some, tl_none, csum_nil, csum_i, csum_r, csum_j, isc2_i, isc2_r, isc2_n, va_rf_s, vfn_ite, true_and, and_true, true_or, or_true, eq_self, Bool.false_eq_true, not_false_eq_true, not_true_eq_false, if_true, if_false, Nat.reduceAdd, Nat.reduceLeDiff, reduceIte, hc.1, hc.2.1, hc.2.2.1, hc.2.2.2.1, hc.2.2.2.2.1, hc.2.2.2.2.2.1, hc.2.2.2.2.2.2.1, hc.2.2.2.2.2.2.2.1, hc.2.2.2.2.2.2.2.2.1, hc.2.2.2.2.2.2.2.2.2.1, hc.2.2.2.2.2.2.2.2.2.2, ht.1, hs.1.1, h1, s_number0 ht i10, s_number1 ht i10, s_number2 ht i10, hD (3 * i) (by omega), hD (3 * i + 1) (by omega), hD (3 * i + 2) (by omega), s_sc_append hs.1 hs1 i10, nI_1]
    rw [eX8_read_94]
    exact ih (i + 1) _ (by omega) (hc.fr fr (by omega)) (ht.fr fr (by omega)) (by rw [fr.I (by omega)]; exact h3) (fun j hj => by rw [fr.I (by omega)]; exact hD j hj) ap (hF.tr fr)
theorem c_read {w : Wd} {b : Nat} {c : Cst} {T : Tst} (hC : CC w b c) (hT : CT w (b + 41) T) : ∃ u v, fX8_read [.ref b] w = some (some (.int (opRead c T).1), u) ∧ CC u b (opRead c T).2 ∧ CT u (b + 41) (offT T) ∧ Fr (b + 41) (b + 44) w v ∧ Fr b (b + 33) v u := by
  have hc := hC.1
  have ht := hT.1
  obtain ⟨r, u1, hp, rfl, p1, p2, p3⟩ := s_parse hT
  obtain ⟨s1, s2, s3⟩ : simR (rdR0 T) (parF T 30 0 (rdI w (b + 41 + 2)) 0) := parF_congr 30 0 _ _ 0 (fun j hj => absurd hj (by omega))
  rw [← s1] at hp
  obtain ⟨v, hv⟩ : ∃ v, v = wrI u1 (b + 41) 1 0 := ⟨_, rfl⟩
  have fv : Fr (b + 41) (b + 41 + 3) w v := by rw [hv]; exact p2.wrI ⟨by omega, by omega⟩
  have vt : CT v (b + 41) (offT T) := by
    rw [hv]
    exact ⟨p1.1, by rw [rdI_wrI, if_pos ⟨rfl, rfl⟩]; rfl, Nat.zero_le _, fun i hi => absurd hi (Nat.not_lt_zero _)⟩
  have u1t := p1.1
  have hCv : CC v b c := hC.fr fv (by omega)
  by_cases q : (rdR0 T).1 = -1
  · obtain ⟨n, n1, n2, n3, n4⟩ := p3 (s1.symm.trans q)
    obtain ⟨v1, v2, v3, v4⟩ := hCv
    obtain ⟨u2, k1, k2, k3⟩ := s_keep v3 v2 (by omega)
    have n5 : (rdR0 T).2.1 / 3 = n := by rw [s2, n1]; omega
    have hop : opRead c T = (nI n, doC c (n, (rdR0 T).2.2, c.1.2.2.1, c.1.2.2.2)) := by unfold opRead; rw [if_pos q, n5]
    rw [hop]
    have c2 := v1.fr k3 (by omega)
    have t2 := vt.1.fr k3 (by omega)
    have sc2 := v2.fr k3 (by omega)
    have cl := s_sc_clear sc2.1
    obtain ⟨u3, hu3⟩ : ∃ u3, u3 = wrI u2 (b + 1) 1 0 := ⟨_, rfl⟩
    rw [← hu3] at cl
    have f3 : Fr (b + 1) (b + 3) u2 u3 := by rw [hu3]; exact Fr.rf.wrI ⟨by omega, by omega⟩
    have sc3 : scIs u3 (b + 1) (0, (rdR0 T).2.2, c.1.2.2.1, c.1.2.2.2) := by
      rw [hu3]
      refine ⟨sc2.1, by rw [rdI_wrI, if_pos ⟨rfl, rfl⟩]; rfl, Nat.zero_le _, fun i hi => absurd hi (Nat.not_lt_zero _), ?_, ?_⟩
      · rw [rdI_wrI, if_neg (by omega)]; exact sc2.2.2.2.2.1
      · rw [rdI_wrI, if_neg (by omega)]; exact sc2.2.2.2.2.2
    have hh : wp mX8_read 0 [some (.ref b), none, none] [] w (fun r u => r = some (.int (nI n)) ∧ scIs u (b + 1) (n, (rdR0 T).2.2, c.1.2.2.1, c.1.2.2.2) ∧ Fr (b + 1) (b + 3) u2 u) := by
      have hc1 : isCl u1 b := hc.fr p2 (by omega)
      rw [q] at hp
      simp only [eX8_read_0, eX8_read_1, eX8_read_4, eX8_read_7, eX8_read_8, eX8_read_9, eX8_read_12, eX8_read_13, eX8_read_16, eX8_read_17, eX8_read_18, cont_some, tl_some, tl_none, csum_nil, csum_i, csum_r, csum_j, isc2_i, isc2_r, isc2_n, va_rf_s, vfn_ite, true_and, and_true, true_or, or_true, eq_self, Bool.false_eq_true, not_false_eq_true, not_true_eq_false, if_true, if_false, Nat.reduceAdd, Nat.reduceLeDiff, reduceIte, hc.1, hc.2.1, hc.2.2.1, hc.2.2.2.1, hc.2.2.2.2.1, hc.2.2.2.2.2.1, hc.2.2.2.2.2.2.1, hc.2.2.2.2.2.2.2.1, hc.2.2.2.2.2.2.2.2.1, hc.2.2.2.2.2.2.2.2.2.1, hc.2.2.2.2.2.2.2.2.2.2, hc1.1, hc1.2.1, hc1.2.2.1, hc1.2.2.2.1, hc1.2.2.2.2.1, hc1.2.2.2.2.2.1, hc1.2.2.2.2.2.2.1, hc1.2.2.2.2.2.2.2.1, hc1.2.2.2.2.2.2.2.2.1, hc1.2.2.2.2.2.2.2.2.2.1, hc1.2.2.2.2.2.2.2.2.2.2, ht.1, hp, u1t.1]
      rw [← hv]
      simp only [eX8_read_26, eX8_read_27, eX8_read_30, eX8_read_31, eX8_read_34, eX8_read_37, eX8_read_38, eX8_read_41, eX8_read_44, eX8_read_45, cont_some, tl_some, tl_none, csum_nil, csum_i, csum_r, csum_j, isc2_i, isc2_r, isc2_n, va_rf_s, vfn_ite, true_and, and_true, true_or, or_true, eq_self, Bool.false_eq_true, not_false_eq_true, not_true_eq_false, if_true, if_false, Nat.reduceAdd, Nat.reduceLeDiff, reduceIte, v1.1, v1.2.1, v1.2.2.1, v1.2.2.2.1, v1.2.2.2.2.1, v1.2.2.2.2.2.1, v1.2.2.2.2.2.2.1, v1.2.2.2.2.2.2.2.1, v1.2.2.2.2.2.2.2.2.1, v1.2.2.2.2.2.2.2.2.2.1, v1.2.2.2.2.2.2.2.2.2.2, v3.sh, k1, c2.1, c2.2.1, c2.2.2.1, c2.2.2.2.1, c2.2.2.2.2.1, c2.2.2.2.2.2.1, c2.2.2.2.2.2.2.1, c2.2.2.2.2.2.2.2.1, c2.2.2.2.2.2.2.2.2.1, c2.2.2.2.2.2.2.2.2.2.1, c2.2.2.2.2.2.2.2.2.2.2, sc2.1.1, cl]
      refine lo_read rfl n2 n 0 u3 (by omega) (c2.fr f3 (by omega)) (t2.fr f3 (by omega)) ?_ (fun j hj => ?_) sc3 f3
      · rw [f3.I (by omega), k3.I (by omega), hv, rdI_wrI, if_neg (by omega)]; exact n3
      · rw [f3.I (by omega), k3.I (by omega), hv, rdI_wrI, if_neg (by omega), n4, s3 j (by rw [s2, n1]; omega)]
    obtain ⟨r, u, h1, rfl, h2, h3⟩ := sem_wp (nL := 3) (as := [.ref b]) (Nat.le_of_ble_eq_true rfl) hh
    obtain ⟨d1, d2⟩ := CC.deed (hC.fr fv (by omega)) k2 k3 h3 h2
    exact ⟨u, v, h1, d1, vt.fr d2 (by omega), fv, d2⟩
  · have hop : opRead c T = (-20 - (rdR0 T).1, c) := by unfold opRead; rw [if_neg q]
    rw [hop]
    refine ⟨v, v, ?_, hCv, vt, fv, Fr.rf⟩
    have hc1 : isCl u1 b := hc.fr p2 (by omega)
    refine sem_eq (Nat.le_of_ble_eq_true rfl) ?_
    show wp mX8_read 0 [some (.ref b), none, none] [] _ _
    simp only [eX8_read_0, eX8_read_1, eX8_read_4, eX8_read_7, eX8_read_8, eX8_read_9, eX8_read_12, eX8_read_13, eX8_read_16, eX8_read_17, eX8_read_18, eX8_read_21, eX8_read_23, eX8_read_24, eX8_read_25, cont_some, tl_some, tl_none, csum_nil, csum_i, csum_r, csum_j, isc2_i, isc2_r, isc2_n, va_rf_s, vfn_ite, true_and, and_true, true_or, or_true, eq_self, Bool.false_eq_true, not_false_eq_true, not_true_eq_false, if_true, if_false, Nat.reduceAdd, Nat.reduceLeDiff, reduceIte, hc.1, hc.2.1, hc.2.2.1, hc.2.2.2.1, hc.2.2.2.2.1, hc.2.2.2.2.2.1, hc.2.2.2.2.2.2.1, hc.2.2.2.2.2.2.2.1, hc.2.2.2.2.2.2.2.2.1, hc.2.2.2.2.2.2.2.2.2.1, hc.2.2.2.2.2.2.2.2.2.2, hc1.1, hc1.2.1, hc1.2.2.1, hc1.2.2.2.1, hc1.2.2.2.2.1, hc1.2.2.2.2.2.1, hc1.2.2.2.2.2.2.1, hc1.2.2.2.2.2.2.2.1, hc1.2.2.2.2.2.2.2.2.1, hc1.2.2.2.2.2.2.2.2.2.1, hc1.2.2.2.2.2.2.2.2.2.2, ht.1, hp, u1t.1, q]
    exact hv.symm
