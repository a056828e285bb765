/-! the class: scene, past, image -/
abbrev isCl (w : Wd) (b : Nat) : Prop := shp w b = (8, 0) ∧ rdR w b 0 = some (b + 1) ∧ rdR w b 1 = some (b + 3) ∧ rdR w b 2 = some (b + 17) ∧ rdR w b 3 = some (b + 19) ∧ rdR w b 5 = some (b + 33) ∧ rdR w b 6 = some (b + 37) ∧ rdR w b 7 = some (b + 38) ∧ rdR w b 8 = some (b + 41) ∧ rdR w b 9 = some (b + 44) ∧ rdR w b 10 = some (b + 52)
theorem isCl.fr {w u : Wd} {lo hi b : Nat} (h : isCl w b) (f : Fr lo hi w u) (hd : b < lo ∨ hi ≤ b) : isCl u b := by
  have e2 : ∀ j, rdR u b j = rdR w b j := fun j => f.R hd
  unfold isCl
  simp only [f.shp, e2]
  exact h
def clI (w : Wd) (b : Nat) (i : Img) : Prop := match i with
  | none => rdI w b 4 = 0 ∧ isSc w (b + 17) ∧ ∃ m P, paIs w (b + 19) m P
  | some (S, m, P) => rdI w b 4 = 1 ∧ scIs w (b + 17) S ∧ paIs w (b + 19) m P
theorem clI.fr {w u : Wd} {lo hi b : Nat} {i : Img} (h : clI w b i) (f : Fr lo hi w u) (h1 : b < lo) (h2 : hi ≤ b + 17 ∨ b + 33 ≤ lo) : clI u b i := by
  cases i with
  | none =>
    obtain ⟨g1, g2, m, P, g3⟩ := h
    exact ⟨by rw [f.I (Or.inl h1)]; exact g1, g2.fr f (by omega), m, P, g3.fr f (by omega)⟩
  | some t =>
    obtain ⟨S, m, P⟩ := t
    obtain ⟨g1, g2, g3⟩ := h
    exact ⟨by rw [f.I (Or.inl h1)]; exact g1, g2.fr f (by omega), g3.fr f (by omega)⟩
def CC (w : Wd) (b : Nat) (c : Cst) : Prop := isCl w b ∧ scIs w (b + 1) c.1 ∧ paIs w (b + 3) c.2.1 c.2.2.1 ∧ clI w b c.2.2.2
theorem CC.fr {w u : Wd} {lo hi b : Nat} {c : Cst} (h : CC w b c) (f : Fr lo hi w u) (hd : hi ≤ b ∨ b + 33 ≤ lo) : CC u b c := by
  obtain ⟨h1, h2, h3, h4⟩ := h
  refine ⟨h1.fr f (by omega), h2.fr f (by omega), h3.fr f (by omega), ?_⟩
  obtain ⟨S, m, P, i⟩ := c
  cases i with
  | none =>
    obtain ⟨g1, g2, m, P, g3⟩ := h4
    exact ⟨by rw [f.I (by omega)]; exact g1, g2.fr f (by omega), m, P, g3.fr f (by omega)⟩
  | some t =>
    obtain ⟨S', m', P'⟩ := t
    obtain ⟨g1, g2, g3⟩ := h4
    exact ⟨by rw [f.I (by omega)]; exact g1, g2.fr f (by omega), g3.fr f (by omega)⟩
/-- a scene kept, then changed -/
theorem CC.deed {w v u : Wd} {b : Nat} {c : Cst} {S' : Sst} (h : CC w b c) (hv : paIs v (b + 3) (pushM c.2.1) (pushS c.2.1 c.2.2.1 c.1)) (f1 : Fr (b + 3) (b + 17) w v) (f2 : Fr (b + 1) (b + 3) v u) (hS : scIs u (b + 1) S') : CC u b (doC c S') ∧ Fr b (b + 33) w u := by
  obtain ⟨h1, h2, h3, h4⟩ := h
  refine ⟨⟨(h1.fr f1 (by omega)).fr f2 (by omega), hS, hv.fr f2 (by omega), (h4.fr f1 (by omega) (by omega)).fr f2 (by omega) (by omega)⟩, (f1.wide (by omega) (by omega)).tr (f2.wide (by omega) (by omega))⟩
theorem s_clPoint {w : Wd} {b n : Nat} {k : Int32} (h : isCl w b) (hs : isSc w (b + 1)) (hn : rdI w (b + 1) 1 = nI n) : fX8_isPoint [.ref b, .int k] w = some (some (.int (b2i (0 ≤ k ∧ k ≤ nI n - 1))), w) := by
  refine sem_eq (Nat.le_of_ble_eq_true rfl) ?_
  show wp mX8_isPoint 0 [some (.ref b), some (.int k)] [] _ _
  simp only [eX8_isPoint_0, eX8_isPoint_1, eX8_isPoint_2, eX8_isPoint_3, eX8_isPoint_6, eX8_isPoint_9, eX8_isPoint_10, eX8_isPoint_11, eX8_isPoint_14, cont_some, tl_some, tl_none, csum_nil, csum_i, csum_r, csum_j, isc2_i, isc2_r, isc2_n, va_rf_s, vfn_ite, true_and, and_true, true_or, or_true, eq_self, Bool.false_eq_true, not_false_eq_true, not_true_eq_false, if_true, if_false, Nat.reduceAdd, Nat.reduceLeDiff, reduceIte, h.1, h.2.1, h.2.2.1, h.2.2.2.1, h.2.2.2.2.1, h.2.2.2.2.2.1, h.2.2.2.2.2.2.1, h.2.2.2.2.2.2.2.1, h.2.2.2.2.2.2.2.2.1, h.2.2.2.2.2.2.2.2.2.1, h.2.2.2.2.2.2.2.2.2.2, hs.1, hn, s_isIn, b2i_01]
theorem c_add {w : Wd} {b : Nat} {c : Cst} {x y z : Int32} (h : CC w b c) : ∃ u, fX8_add [.ref b, .int x, .int y, .int z] w = some (some (.int (opAdd c x y z).1), u) ∧ CC u b (opAdd c x y z).2 ∧ Fr b (b + 33) w u := by
  obtain ⟨S, m, P, i⟩ := c
  obtain ⟨n, C, tol, drw⟩ := S
  have hCC := h
  obtain ⟨h1, h2, h3, h4⟩ := h
  have h2' := h2
  obtain ⟨b0, b1, b2, b5, b3, b4⟩ := h2
  simp only at b1 b2 b3 b4 b5 h3 h4 h2'
  have hhas : hasF (rdI w (b + 1 + 1)) x y z n 0 = hasF C x y z n 0 := hasF_congr n 0 (fun i hi => b5 i (by omega))
  have hT := s_holds (x := x) (y := y) (z := z) b0 b1 b2
  rw [hhas] at hT
  by_cases qb : (-15 ≤ x ∧ x ≤ 15) ∧ (-15 ≤ y ∧ y ≤ 15) ∧ (-15 ≤ z ∧ z ≤ 15)
  · by_cases qh : hasF C x y z n 0 = true
    · refine ⟨w, ?_, by simp only [opAdd, qb, qh, and_self, if_true]; exact hCC, Fr.rf⟩
      simp only [opAdd, qb, qh, and_self, if_true]
      refine sem_eq (Nat.le_of_ble_eq_true rfl) ?_
      show wp mX8_add 0 [some (.ref b), some (.int x), some (.int y), some (.int z)] [] _ _
      simp only [eX8_add_0, eX8_add_1, eX8_add_4, eX8_add_7, eX8_add_8, eX8_add_11, eX8_add_14, eX8_add_15, eX8_add_18, eX8_add_21, eX8_add_22, eX8_add_23, eX8_add_24, eX8_add_27, eX8_add_28, eX8_add_29, eX8_add_30, eX8_add_33, eX8_add_36, eX8_add_38, cont_some, tl_some, tl_none, csum_nil, csum_i, csum_r, csum_j, isc2_i, isc2_r, isc2_n, va_rf_s, vfn_ite, true_and, and_true, true_or, or_true, eq_self, Bool.false_eq_true, not_false_eq_true, not_true_eq_false, if_true, if_false, Nat.reduceAdd, Nat.reduceLeDiff, reduceIte, h1.1, h1.2.1, h1.2.2.1, h1.2.2.2.1, h1.2.2.2.2.1, h1.2.2.2.2.2.1, h1.2.2.2.2.2.2.1, h1.2.2.2.2.2.2.2.1, h1.2.2.2.2.2.2.2.2.1, h1.2.2.2.2.2.2.2.2.2.1, h1.2.2.2.2.2.2.2.2.2.2, b0.1, s_isCoordinate, b2i_0, qb, and_self, hT, qh]
    · by_cases q10 : n = 10
      · subst q10
        refine ⟨w, ?_, by simp only [opAdd, qb, qh, and_self, if_true, if_false, Bool.false_eq_true]; exact hCC, Fr.rf⟩
        have e10 : ¬ nI 10 < 10 := by decide
        simp only [opAdd, qb, qh, and_self, if_true, if_false, Bool.false_eq_true]
        refine sem_eq (Nat.le_of_ble_eq_true rfl) ?_
        show wp mX8_add 0 [some (.ref b), some (.int x), some (.int y), some (.int z)] [] _ _
        simp only [eX8_add_0, eX8_add_1, eX8_add_4, eX8_add_7, eX8_add_8, eX8_add_11, eX8_add_14, eX8_add_15, eX8_add_18, eX8_add_21, eX8_add_22, eX8_add_23, eX8_add_24, eX8_add_27, eX8_add_28, eX8_add_29, eX8_add_30, eX8_add_33, eX8_add_36, eX8_add_38, eX8_add_39, eX8_add_40, eX8_add_43, eX8_add_46, eX8_add_48, eX8_add_51, eX8_add_53, cont_some, tl_some, tl_none, csum_nil, csum_i, csum_r, csum_j, isc2_i, isc2_r, isc2_n, va_rf_s, vfn_ite, true_and, and_true, true_or, or_true, eq_self, Bool.false_eq_true, not_false_eq_true, not_true_eq_false, if_true, if_false, Nat.reduceAdd, Nat.reduceLeDiff, reduceIte, h1.1, h1.2.1, h1.2.2.1, h1.2.2.2.1, h1.2.2.2.2.1, h1.2.2.2.2.2.1, h1.2.2.2.2.2.2.1, h1.2.2.2.2.2.2.2.1, h1.2.2.2.2.2.2.2.2.1, h1.2.2.2.2.2.2.2.2.2.1, h1.2.2.2.2.2.2.2.2.2.2, b0.1, s_isCoordinate, b2i_0, qb, and_self, hT, qh, b1, e10]
      · have hlt : nI n < 10 := nI_lt (b := 10) (by omega) (by decide)
        obtain ⟨v, hv, pv, fv⟩ := s_keep h3 h2' (by omega)
        have hcv := h1.fr fv (by omega)
        have hsv := h2'.fr fv (by omega)
        have hap := s_sc_append (x := x) (y := y) (z := z) hsv.1 hsv.2.1 (by simp only; omega)
        simp only at hap
        have n1 : ¬ b + 1 + 1 = b + 1 := by omega
        have fu : Fr (b + 1) (b + 3) v (apW v (b + 1) n x y z) := by
          unfold apW
          exact (((Fr.rf.wrI ⟨by omega, by omega⟩).wrI ⟨by omega, by omega⟩).wrI ⟨by omega, by omega⟩).wrI ⟨by omega, by omega⟩
        have gn : rdI (apW v (b + 1) n x y z) (b + 1) 1 = nI (n + 1) := by simp [apW, rdI_wrI]
        have hsu : isSc (apW v (b + 1) n x y z) (b + 1) := hsv.1
        have hcu := hcv.fr fu (by omega)
        have hS : scIs (apW v (b + 1) n x y z) (b + 1) (addS (n, C, tol, drw) x y z) := by
          refine ⟨hsu, gn, by simp only [addS]; omega, fun i hi => ?_, ?_, ?_⟩
          · simp only [addS] at hi ⊢
            simp only [apW, rdI_wrI, n1, false_and, if_false, true_and]
            by_cases z2 : i = 3 * n + 2
            · rw [if_pos z2, if_neg (by omega), if_neg (by omega), if_pos z2]
            · rw [if_neg z2]
              by_cases z1 : i = 3 * n + 1
              · rw [if_pos z1, if_neg (by omega), if_pos z1]
              · rw [if_neg z1]
                by_cases z0 : i = 3 * n
                · rw [if_pos z0, if_pos z0]
                · rw [if_neg z0, if_neg z0, if_neg z1, if_neg z2]
                  exact hsv.2.2.2.1 i (by simp only; omega)
          · have e : rdI (apW v (b + 1) n x y z) (b + 1) 2 = rdI v (b + 1) 2 := by simp [apW, rdI_wrI]
            rw [e]; exact hsv.2.2.2.2.1
          · have e : rdI (apW v (b + 1) n x y z) (b + 1) 3 = rdI v (b + 1) 3 := by simp [apW, rdI_wrI]
            rw [e]; exact hsv.2.2.2.2.2
        obtain ⟨r1, r2⟩ := hCC.deed pv fv fu hS
        refine ⟨_, ?_, by simp only [opAdd, qb, qh, q10, and_self, if_true, if_false, Bool.false_eq_true]; exact r1, r2⟩
        simp only [opAdd, qb, qh, q10, and_self, if_true, if_false, Bool.false_eq_true]
        have p0 : shp w (b + 3) = (2, 0) := by obtain ⟨ad, hp, -⟩ := h3; exact hp.1
        refine sem_eq (Nat.le_of_ble_eq_true rfl) ?_
        show wp mX8_add 0 [some (.ref b), some (.int x), some (.int y), some (.int z)] [] _ _
        simp only [eX8_add_0, eX8_add_1, eX8_add_4, eX8_add_7, eX8_add_8, eX8_add_11, eX8_add_14, eX8_add_15, eX8_add_18, eX8_add_21, eX8_add_22, eX8_add_23, eX8_add_24, eX8_add_27, eX8_add_28, eX8_add_29, eX8_add_30, eX8_add_33, eX8_add_36, eX8_add_38, eX8_add_39, eX8_add_40, eX8_add_43, eX8_add_46, eX8_add_48, eX8_add_51, eX8_add_53, eX8_add_54, eX8_add_55, eX8_add_58, eX8_add_59, eX8_add_62, cont_some, tl_some, tl_none, csum_nil, csum_i, csum_r, csum_j, isc2_i, isc2_r, isc2_n, va_rf_s, vfn_ite, true_and, and_true, true_or, or_true, eq_self, Bool.false_eq_true, not_false_eq_true, not_true_eq_false, if_true, if_false, Nat.reduceAdd, Nat.reduceLeDiff, reduceIte, h1.1, h1.2.1, h1.2.2.1, h1.2.2.2.1, h1.2.2.2.2.1, h1.2.2.2.2.2.1, h1.2.2.2.2.2.2.1, h1.2.2.2.2.2.2.2.1, h1.2.2.2.2.2.2.2.2.1, h1.2.2.2.2.2.2.2.2.2.1, h1.2.2.2.2.2.2.2.2.2.2, b0.1, p0, s_isCoordinate, b2i_0, qb, and_self, hT, qh, b1, hlt, hv]
        simp only [eX8_add_65, eX8_add_66, eX8_add_69, eX8_add_70, eX8_add_71, eX8_add_72, eX8_add_75, eX8_add_76, eX8_add_79, eX8_add_82, cont_some, tl_some, tl_none, csum_nil, csum_i, csum_r, csum_j, isc2_i, isc2_r, isc2_n, va_rf_s, vfn_ite, true_and, and_true, true_or, or_true, eq_self, Bool.false_eq_true, not_false_eq_true, not_true_eq_false, if_true, if_false, Nat.reduceAdd, Nat.reduceLeDiff, reduceIte, hcv.1, hcv.2.1, hcv.2.2.1, hcv.2.2.2.1, hcv.2.2.2.2.1, hcv.2.2.2.2.2.1, hcv.2.2.2.2.2.2.1, hcv.2.2.2.2.2.2.2.1, hcv.2.2.2.2.2.2.2.2.1, hcv.2.2.2.2.2.2.2.2.2.1, hcv.2.2.2.2.2.2.2.2.2.2, hcu.1, hcu.2.1, hcu.2.2.1, hcu.2.2.2.1, hcu.2.2.2.2.1, hcu.2.2.2.2.2.1, hcu.2.2.2.2.2.2.1, hcu.2.2.2.2.2.2.2.1, hcu.2.2.2.2.2.2.2.2.1, hcu.2.2.2.2.2.2.2.2.2.1, hcu.2.2.2.2.2.2.2.2.2.2, hsv.1.1, hsu.1, hap, gn]
  · refine ⟨w, ?_, by simp only [opAdd, qb, if_false]; exact hCC, Fr.rf⟩
    simp only [opAdd, qb, if_false]
    refine sem_eq (Nat.le_of_ble_eq_true rfl) ?_
    show wp mX8_add 0 [some (.ref b), some (.int x), some (.int y), some (.int z)] [] _ _
    simp only [eX8_add_0, eX8_add_1, eX8_add_4, eX8_add_7, eX8_add_8, eX8_add_11, eX8_add_14, eX8_add_15, eX8_add_18, eX8_add_21, eX8_add_22, cont_some, tl_some, tl_none, csum_nil, csum_i, csum_r, csum_j, isc2_i, isc2_r, isc2_n, va_rf_s, vfn_ite, true_and, and_true, true_or, or_true, eq_self, Bool.false_eq_true, not_false_eq_true, not_true_eq_false, if_true, if_false, Nat.reduceAdd, Nat.reduceLeDiff, reduceIte, s_isCoordinate, b2i_0]
    by_cases p1 : -15 ≤ x ∧ x ≤ 15
    · by_cases p2 : -15 ≤ y ∧ y ≤ 15
      · by_cases p3 : -15 ≤ z ∧ z ≤ 15
        · exact absurd ⟨p1, p2, p3⟩ qb
        · simp [p1, p2, p3]
      · simp [p1, p2]
    · simp [p1]
