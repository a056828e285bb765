/-! the best way -/
def zB (w : Wd) (z : Nat) (s : Option V3) : Prop := match s with
  | none => rdI w z 5 = 0
  | some e => rdI w z 5 = 1 ∧ zT w (z + 3) e
def Xb (z : Nat) : Nat → Nat → Prop := fun c j => c = z + 4 ∨ c = z + 3 ∨ (c = z ∧ j = 5)
theorem s_cp3 {z : Nat} {w : Wd} (h : isZ w z) : cpyFn [.ref (z + 4), .int 0, .ref (z + 3), .int 0, .int 3] w = some (none, cpI w (z + 4) 0 (z + 3) 0 3) :=
  s_cpyI (sp := 0) (dp := 0) (n := 3) (l1 := 3) (l2 := 3) h.2.2.2.2.2.2.2.2.2.2.2.1 h.2.2.2.2.2.2.2.2.2.2.1 (by omega) (by omega) (by omega) (by omega)
theorem cp3_is {z : Nat} {w : Wd} {d : V3} (h : zT w (z + 4) d) : zT (cpI w (z + 4) 0 (z + 3) 0 3) (z + 3) d := by
  obtain ⟨h1, h2, h3⟩ := h
  refine ⟨?_, ?_, ?_⟩
  · rw [rdI_cpI, if_pos (by omega)]; exact h1
  · rw [rdI_cpI, if_pos (by omega)]; exact h2
  · rw [rdI_cpI, if_pos (by omega)]; exact h3
theorem s_takeWay {z : Nat} {w : Wd} {t : V3} (h : isZ w z) (ht : in3 1800 t) (h0 : t ≠ (0, 0, 0)) (hT : zT w (z + 4) t) : ∃ u, fX7_takeWay [.ref z] w = some (none, u) ∧ zB u z (some (nrm t)) ∧ FrX (Xb z) w u := by
  have e := s_lower h ht h0 hT
  have f1 := trW_fx (w := w) (z := z) (d := nrm t)
  have h1 := h.fx f1
  have e2 := s_cp3 h1
  have f2 : FrX (Xb z) (trW w z (nrm t)) (cpI (trW w z (nrm t)) (z + 4) 0 (z + 3) 0 3) := FrX.rf.cpI (fun j _ _ => Or.inr (Or.inl rfl))
  have h2 := h1.fx f2
  refine ⟨wrI (cpI (trW w z (nrm t)) (z + 4) 0 (z + 3) 0 3) z 5 1, ?_, ⟨by rw [rdI_wrI, if_pos ⟨rfl, rfl⟩], ?_⟩, ((f1.wide (fun c j q => Or.inl q)).tr f2).wrI (Or.inr (Or.inr ⟨rfl, rfl⟩))⟩
  · refine sem_eq (Nat.le_of_ble_eq_true rfl) ?_
    show wp mX7_takeWay 0 [some (.ref z)] [] _ _
    simp only [eX7_takeWay_0, eX7_takeWay_1, cont_some, tl_some, tl_none, csum_nil, csum_i, csum_r, csum_j, isc2_i, isc2_r, isc2_n, va_rf_s, vfn_ite, true_and, and_true, true_or, or_true, eq_self, Bool.false_eq_true, not_false_eq_true, not_true_eq_false, if_true, if_false, Nat.reduceAdd, Nat.reduceLeDiff, reduceIte, h.1, e]
    simp only [eX7_takeWay_4, eX7_takeWay_5, eX7_takeWay_8, eX7_takeWay_9, eX7_takeWay_10, eX7_takeWay_13, eX7_takeWay_14, eX7_takeWay_15, cont_some, tl_some, tl_none, csum_nil, csum_i, csum_r, csum_j, isc2_i, isc2_r, isc2_n, va_rf_s, vfn_ite, true_and, and_true, true_or, or_true, eq_self, Bool.false_eq_true, not_false_eq_true, not_true_eq_false, if_true, if_false, Nat.reduceAdd, Nat.reduceLeDiff, reduceIte, h1.1, h1.2.2.2.1, h1.2.2.2.2.1, e2]
    simp only [eX7_takeWay_18, eX7_takeWay_19, eX7_takeWay_20, eX7_takeWay_23, cont_some, tl_some, tl_none, csum_nil, csum_i, csum_r, csum_j, isc2_i, isc2_r, isc2_n, va_rf_s, vfn_ite, true_and, and_true, true_or, or_true, eq_self, Bool.false_eq_true, not_false_eq_true, not_true_eq_false, if_true, if_false, Nat.reduceAdd, Nat.reduceLeDiff, reduceIte, h2.1]
  · have := cp3_is (trW_is (w := w) (z := z) (d := nrm t))
    exact this.fx (X := fun c j => c = z ∧ j = 5) (FrX.rf.wrI ⟨rfl, rfl⟩) (fun j q => by omega)
theorem iIlt {x y : Int} (hx : x.natAbs ≤ 1800) (hy : y.natAbs ≤ 1800) : iI x < iI y ↔ x < y := iI_lt (by omega) (by omega)
theorem s_takeFirst {z : Nat} {w : Wd} {t e : V3} (h : isZ w z) (ht : in3 1800 t) (h0 : t ≠ (0, 0, 0)) (hT : zT w (z + 4) t) (he : in3 1800 e) (hB : zB w z (some e)) : ∃ u, fX7_takeWayIfFirst [.ref z] w = some (none, u) ∧ zB u z (if lexl (nrm t) e then some (nrm t) else some e) ∧ FrX (Xb z) w u := by
  have el := s_lower h ht h0 hT
  obtain ⟨d, hd⟩ : ∃ d, d = nrm t := ⟨_, rfl⟩
  have hdi : in3 1800 d := by rw [hd]; exact in3_nrm ht
  rw [← hd] at el ⊢
  have f1 := trW_fx (w := w) (z := z) (d := d)
  have h1 := h.fx f1
  have e2 := s_cp3 h1
  obtain ⟨w1, hw1⟩ : ∃ w1, w1 = trW w z d := ⟨_, rfl⟩
  rw [← hw1] at el f1 h1 e2
  have T1 : zT w1 (z + 4) d := by rw [hw1]; exact trW_is
  have B1 : zT w1 (z + 3) e := hB.2.fx f1 (fun j q => by omega)
  have hb5 : rdI w1 z 5 = 1 := by rw [f1.1 z 5 (fun q => by omega)]; exact hB.1
  obtain ⟨w2, hw2⟩ : ∃ w2, w2 = cpI w1 (z + 4) 0 (z + 3) 0 3 := ⟨_, rfl⟩
  rw [← hw2] at e2
  have f2 : FrX (Xb z) w1 w2 := by rw [hw2]; exact FrX.rf.cpI (fun j _ _ => Or.inr (Or.inl rfl))
  have B2 : zB w2 z (some d) := ⟨by rw [hw2, rdI_cpI, if_neg (by omega)]; exact hb5, by rw [hw2]; exact cp3_is T1⟩
  obtain ⟨t0, t1, t2⟩ := T1
  obtain ⟨b0, b1, b2⟩ := B1
  have s4 : shp w1 (z + 4) = (10, 3) := h1.2.2.2.2.2.2.2.2.2.2.2.1
  have s3 : shp w1 (z + 3) = (10, 3) := h1.2.2.2.2.2.2.2.2.2.2.1
  have r7 : rdR w1 z 7 = some (z + 4) := h1.2.2.2.2.1
  have r6 : rdR w1 z 6 = some (z + 3) := h1.2.2.2.1
  have l0 : (0 : Int32) < 3 := by decide
  have l1 : (1 : Int32) < 3 := by decide
  have l2 : (2 : Int32) < 3 := by decide
  have l3 : ¬ (3 : Int32) < 3 := by decide
  have p1 : (0 : Int32) + 1 = 1 := by decide
  have p2 : (1 : Int32) + 1 = 2 := by decide
  have p3 : (2 : Int32) + 1 = 3 := by decide
  have c00 := iIlt he.1 hdi.1
  have c01 := iIlt hdi.1 he.1
  have c10 := iIlt he.2.1 hdi.2.1
  have c11 := iIlt hdi.2.1 he.2.1
  have c20 := iIlt he.2.2 hdi.2.2
  have c21 := iIlt hdi.2.2 he.2.2
  obtain ⟨v, hv⟩ : ∃ v, v = if lexl d e then w2 else w1 := ⟨_, rfl⟩
  have no : ¬ lexl d e → v = w1 := fun q => by rw [hv, if_neg q]
  have yes : lexl d e → v = w2 := fun q => by rw [hv, if_pos q]
  have cpy : ∀ a1 a2, lexl d e → wp mX7_takeWayIfFirst 42 [a1, a2] [] w1 (fun r u => r = none ∧ u = v) → True := fun _ _ _ _ => trivial
  have hh : wp mX7_takeWayIfFirst 0 [some (.ref z), none] [] w (fun r u => r = none ∧ u = v) := by
    simp only [eX7_takeWayIfFirst_0, eX7_takeWayIfFirst_1, eX7_takeWayIfFirst_4, eX7_takeWayIfFirst_5, cont_some, tl_some, tl_none, csum_nil, csum_i, csum_r, csum_j, isc2_i, isc2_r, isc2_n, va_rf_s, vfn_ite, true_and, and_true, true_or, or_true, eq_self, Bool.false_eq_true, not_false_eq_true, not_true_eq_false, if_true, if_false, Nat.reduceAdd, Nat.reduceLeDiff, reduceIte, h.1, el]
    simp only [eX7_takeWayIfFirst_6, eX7_takeWayIfFirst_7, eX7_takeWayIfFirst_8, eX7_takeWayIfFirst_11, eX7_takeWayIfFirst_12, eX7_takeWayIfFirst_15, eX7_takeWayIfFirst_16, eX7_takeWayIfFirst_17, eX7_takeWayIfFirst_18, eX7_takeWayIfFirst_21, eX7_takeWayIfFirst_22, eX7_takeWayIfFirst_23, cont_some, tl_some, tl_none, csum_nil, csum_i, csum_r, csum_j, isc2_i, isc2_r, isc2_n, va_rf_s, vfn_ite, true_and, and_true, true_or, or_true, eq_self, Bool.false_eq_true, not_false_eq_true, not_true_eq_false, if_true, if_false, Nat.reduceAdd, Nat.reduceLeDiff, reduceIte, l0, h1.1, r6, r7, s3, s4, in0_3, cl0, t0, b0, c00]
    by_cases q1 : e.1 < d.1
    · rw [if_pos q1]
      simp only [eX7_takeWayIfFirst_26, cont_some, tl_some, tl_none, csum_nil, csum_i, csum_r, csum_j, isc2_i, isc2_r, isc2_n, va_rf_s, vfn_ite, true_and, and_true, true_or, or_true, eq_self, Bool.false_eq_true, not_false_eq_true, not_true_eq_false, if_true, if_false, Nat.reduceAdd, Nat.reduceLeDiff, reduceIte]
      exact (no (by unfold lexl; omega)).symm
    · rw [if_neg q1]
      simp only [eX7_takeWayIfFirst_27, eX7_takeWayIfFirst_28, eX7_takeWayIfFirst_31, eX7_takeWayIfFirst_32, eX7_takeWayIfFirst_33, eX7_takeWayIfFirst_34, eX7_takeWayIfFirst_37, eX7_takeWayIfFirst_38, eX7_takeWayIfFirst_39, cont_some, tl_some, tl_none, csum_nil, csum_i, csum_r, csum_j, isc2_i, isc2_r, isc2_n, va_rf_s, vfn_ite, true_and, and_true, true_or, or_true, eq_self, Bool.false_eq_true, not_false_eq_true, not_true_eq_false, if_true, if_false, Nat.reduceAdd, Nat.reduceLeDiff, reduceIte, h1.1, r6, r7, s3, s4, in0_3, cl0, t0, b0, c01]
      by_cases q2 : d.1 < e.1
      · rw [if_pos q2]
        simp only [eX7_takeWayIfFirst_42, eX7_takeWayIfFirst_43, eX7_takeWayIfFirst_46, eX7_takeWayIfFirst_47, eX7_takeWayIfFirst_48, eX7_takeWayIfFirst_51, eX7_takeWayIfFirst_52, eX7_takeWayIfFirst_53, eX7_takeWayIfFirst_56, cont_some, tl_some, tl_none, csum_nil, csum_i, csum_r, csum_j, isc2_i, isc2_r, isc2_n, va_rf_s, vfn_ite, true_and, and_true, true_or, or_true, eq_self, Bool.false_eq_true, not_false_eq_true, not_true_eq_false, if_true, if_false, Nat.reduceAdd, Nat.reduceLeDiff, reduceIte, h1.1, r6, r7, e2]
        exact (yes (by unfold lexl; omega)).symm
      · rw [if_neg q2]
        simp only [eX7_takeWayIfFirst_57, cont_some, tl_some, tl_none, csum_nil, csum_i, csum_r, csum_j, isc2_i, isc2_r, isc2_n, va_rf_s, vfn_ite, true_and, and_true, true_or, or_true, eq_self, Bool.false_eq_true, not_false_eq_true, not_true_eq_false, if_true, if_false, Nat.reduceAdd, Nat.reduceLeDiff, reduceIte, p1]
        rw [eX7_takeWayIfFirst_60]
        simp only [eX7_takeWayIfFirst_6, eX7_takeWayIfFirst_7, eX7_takeWayIfFirst_8, eX7_takeWayIfFirst_11, eX7_takeWayIfFirst_12, eX7_takeWayIfFirst_15, eX7_takeWayIfFirst_16, eX7_takeWayIfFirst_17, eX7_takeWayIfFirst_18, eX7_takeWayIfFirst_21, eX7_takeWayIfFirst_22, eX7_takeWayIfFirst_23, cont_some, tl_some, tl_none, csum_nil, csum_i, csum_r, csum_j, isc2_i, isc2_r, isc2_n, va_rf_s, vfn_ite, true_and, and_true, true_or, or_true, eq_self, Bool.false_eq_true, not_false_eq_true, not_true_eq_false, if_true, if_false, Nat.reduceAdd, Nat.reduceLeDiff, reduceIte, l1, h1.1, r6, r7, s3, s4, in1_3, cl1, t1, b1, c10]
        by_cases q3 : e.2.1 < d.2.1
        · rw [if_pos q3]
          simp only [eX7_takeWayIfFirst_26, cont_some, tl_some, tl_none, csum_nil, csum_i, csum_r, csum_j, isc2_i, isc2_r, isc2_n, va_rf_s, vfn_ite, true_and, and_true, true_or, or_true, eq_self, Bool.false_eq_true, not_false_eq_true, not_true_eq_false, if_true, if_false, Nat.reduceAdd, Nat.reduceLeDiff, reduceIte]
          exact (no (by unfold lexl; omega)).symm
        · rw [if_neg q3]
          simp only [eX7_takeWayIfFirst_27, eX7_takeWayIfFirst_28, eX7_takeWayIfFirst_31, eX7_takeWayIfFirst_32, eX7_takeWayIfFirst_33, eX7_takeWayIfFirst_34, eX7_takeWayIfFirst_37, eX7_takeWayIfFirst_38, eX7_takeWayIfFirst_39, cont_some, tl_some, tl_none, csum_nil, csum_i, csum_r, csum_j, isc2_i, isc2_r, isc2_n, va_rf_s, vfn_ite, true_and, and_true, true_or, or_true, eq_self, Bool.false_eq_true, not_false_eq_true, not_true_eq_false, if_true, if_false, Nat.reduceAdd, Nat.reduceLeDiff, reduceIte, h1.1, r6, r7, s3, s4, in1_3, cl1, t1, b1, c11]
          by_cases q4 : d.2.1 < e.2.1
          · rw [if_pos q4]
            simp only [eX7_takeWayIfFirst_42, eX7_takeWayIfFirst_43, eX7_takeWayIfFirst_46, eX7_takeWayIfFirst_47, eX7_takeWayIfFirst_48, eX7_takeWayIfFirst_51, eX7_takeWayIfFirst_52, eX7_takeWayIfFirst_53, eX7_takeWayIfFirst_56, cont_some, tl_some, tl_none, csum_nil, csum_i, csum_r, csum_j, isc2_i, isc2_r, isc2_n, va_rf_s, vfn_ite, true_and, and_true, true_or, or_true, eq_self, Bool.false_eq_true, not_false_eq_true, not_true_eq_false, if_true, if_false, Nat.reduceAdd, Nat.reduceLeDiff, reduceIte, h1.1, r6, r7, e2]
            exact (yes (by unfold lexl; omega)).symm
          · rw [if_neg q4]
            simp only [eX7_takeWayIfFirst_57, cont_some, tl_some, tl_none, csum_nil, csum_i, csum_r, csum_j, isc2_i, isc2_r, isc2_n, va_rf_s, vfn_ite, true_and, and_true, true_or, or_true, eq_self, Bool.false_eq_true, not_false_eq_true, not_true_eq_false, if_true, if_false, Nat.reduceAdd, Nat.reduceLeDiff, reduceIte, p2]
            rw [eX7_takeWayIfFirst_60]
            simp only [eX7_takeWayIfFirst_6, eX7_takeWayIfFirst_7, eX7_takeWayIfFirst_8, eX7_takeWayIfFirst_11, eX7_takeWayIfFirst_12, eX7_takeWayIfFirst_15, eX7_takeWayIfFirst_16, eX7_takeWayIfFirst_17, eX7_takeWayIfFirst_18, eX7_takeWayIfFirst_21, eX7_takeWayIfFirst_22, eX7_takeWayIfFirst_23, cont_some, tl_some, tl_none, csum_nil, csum_i, csum_r, csum_j, isc2_i, isc2_r, isc2_n, va_rf_s, vfn_ite, true_and, and_true, true_or, or_true, eq_self, Bool.false_eq_true, not_false_eq_true, not_true_eq_false, if_true, if_false, Nat.reduceAdd, Nat.reduceLeDiff, reduceIte, l2, h1.1, r6, r7, s3, s4, in2_3, cl2, t2, b2, c20]
            by_cases q5 : e.2.2 < d.2.2
            · rw [if_pos q5]
              simp only [eX7_takeWayIfFirst_26, cont_some, tl_some, tl_none, csum_nil, csum_i, csum_r, csum_j, isc2_i, isc2_r, isc2_n, va_rf_s, vfn_ite, true_and, and_true, true_or, or_true, eq_self, Bool.false_eq_true, not_false_eq_true, not_true_eq_false, if_true, if_false, Nat.reduceAdd, Nat.reduceLeDiff, reduceIte]
              exact (no (by unfold lexl; omega)).symm
            · rw [if_neg q5]
              simp only [eX7_takeWayIfFirst_27, eX7_takeWayIfFirst_28, eX7_takeWayIfFirst_31, eX7_takeWayIfFirst_32, eX7_takeWayIfFirst_33, eX7_takeWayIfFirst_34, eX7_takeWayIfFirst_37, eX7_takeWayIfFirst_38, eX7_takeWayIfFirst_39, cont_some, tl_some, tl_none, csum_nil, csum_i, csum_r, csum_j, isc2_i, isc2_r, isc2_n, va_rf_s, vfn_ite, true_and, and_true, true_or, or_true, eq_self, Bool.false_eq_true, not_false_eq_true, not_true_eq_false, if_true, if_false, Nat.reduceAdd, Nat.reduceLeDiff, reduceIte, h1.1, r6, r7, s3, s4, in2_3, cl2, t2, b2, c21]
              by_cases q6 : d.2.2 < e.2.2
              · rw [if_pos q6]
                simp only [eX7_takeWayIfFirst_42, eX7_takeWayIfFirst_43, eX7_takeWayIfFirst_46, eX7_takeWayIfFirst_47, eX7_takeWayIfFirst_48, eX7_takeWayIfFirst_51, eX7_takeWayIfFirst_52, eX7_takeWayIfFirst_53, eX7_takeWayIfFirst_56, cont_some, tl_some, tl_none, csum_nil, csum_i, csum_r, csum_j, isc2_i, isc2_r, isc2_n, va_rf_s, vfn_ite, true_and, and_true, true_or, or_true, eq_self, Bool.false_eq_true, not_false_eq_true, not_true_eq_false, if_true, if_false, Nat.reduceAdd, Nat.reduceLeDiff, reduceIte, h1.1, r6, r7, e2]
                exact (yes (by unfold lexl; omega)).symm
              · rw [if_neg q6]
                simp only [eX7_takeWayIfFirst_57, cont_some, tl_some, tl_none, csum_nil, csum_i, csum_r, csum_j, isc2_i, isc2_r, isc2_n, va_rf_s, vfn_ite, true_and, and_true, true_or, or_true, eq_self, Bool.false_eq_true, not_false_eq_true, not_true_eq_false, if_true, if_false, Nat.reduceAdd, Nat.reduceLeDiff, reduceIte, p3]
                rw [eX7_takeWayIfFirst_60]
                simp only [eX7_takeWayIfFirst_6, eX7_takeWayIfFirst_7, eX7_takeWayIfFirst_8, eX7_takeWayIfFirst_63, cont_some, tl_some, tl_none, csum_nil, csum_i, csum_r, csum_j, isc2_i, isc2_r, isc2_n, va_rf_s, vfn_ite, true_and, and_true, true_or, or_true, eq_self, Bool.false_eq_true, not_false_eq_true, not_true_eq_false, if_true, if_false, Nat.reduceAdd, Nat.reduceLeDiff, reduceIte, l3]
                exact (no (by unfold lexl; omega)).symm
  obtain ⟨r, u, k1, rfl, rfl⟩ := sem_wp (nL := 2) (as := [.ref z]) (Nat.le_of_ble_eq_true rfl) hh
  refine ⟨_, k1, ?_, ?_⟩
  · by_cases q : lexl d e
    · rw [if_pos q, yes q]; exact B2
    · rw [if_neg q, no q]; exact ⟨hb5, b0, b1, b2⟩
  · by_cases q : lexl d e
    · rw [yes q]; exact (f1.wide (fun c j q => Or.inl q)).tr f2
    · rw [no q]; exact f1.wide (fun c j q => Or.inl q)
