/-! widths, ways taken -/
theorem s_square {x : Int32} {w : Wd} : fX7_square [.int x] w = some (some (.long (x.toInt64 * x.toInt64)), w) := by
  refine sem_eq (Nat.le_of_ble_eq_true rfl) ?_
  show wp mX7_square 0 [some (.int x)] [] _ _
  simp only [eX7_square_0, eX7_square_1, eX7_square_2, eX7_square_3, eX7_square_4, eX7_square_5, cont_some, tl_some, tl_none, csum_nil, csum_i, csum_r, csum_j, isc2_i, isc2_r, isc2_n, va_rf_s, vfn_ite, true_and, and_true, true_or, or_true, eq_self, Bool.false_eq_true, not_false_eq_true, not_true_eq_false, if_true, if_false, Nat.reduceAdd, Nat.reduceLeDiff, reduceIte]
theorem frW_fx {w : Wd} {q A B : Nat} : FrX (fun c _ => c = q) w (frW w q A B) := ((FrX.rf (X := fun (c _ : Nat) => c = q)).wrJ rfl).wrJ rfl
theorem frIs.fx {X : Nat → Nat → Prop} {w u : Wd} {q A B : Nat} (h : frIs w q A B) (f : FrX X w u) (hn : ∀ j, ¬ X q j) : frIs u q A B := by
  obtain ⟨h1, h2, h3⟩ := h
  exact ⟨by rw [f.sh]; exact h1, by rw [f.2.1 _ _ (hn 0)]; exact h2, by rw [f.2.1 _ _ (hn 1)]; exact h3⟩
def Xw (z : Nat) : Nat → Nat → Prop := fun c _ => c = z + 5 ∨ (z + 8 ≤ c ∧ c < z + 18)
theorem lo_widths {z A B : Nat} {w0 : Wd} (hA : A < 2 ^ 62) (hB : B < 2 ^ 50) (h0 : 0 < B) : ∀ (e k : Nat) (w : Wd), k + e = 10 → isZ w z → frIs w (z + 5) (A / Nat.gcd A B) (B / Nat.gcd A B) → (∀ i, i < k → frIs w (z + 8 + i) (A / Nat.gcd A B) (B / Nat.gcd A B)) → FrX (Xw z) w0 w →
    wp mX7_setAllWidths 12 [some (.ref z), some (.long (lN A)), none, some (.long (lN B)), none, some (.int (nI k))] [] w (fun r u => r = none ∧ frIs u (z + 5) (A / Nat.gcd A B) (B / Nat.gcd A B) ∧ (∀ i, i < 10 → frIs u (z + 8 + i) (A / Nat.gcd A B) (B / Nat.gcd A B)) ∧ FrX (Xw z) w0 u) := by
  have m14 : 14 ∈ [14, 15, 16, 17] := by decide
  intro e
  induction e with
  | zero =>
    intro k w hk h hw hi hF
    have e : k = 10 := by omega
    subst e
    have l : ¬ nI 10 < 10 := by decide
    simp only [eX7_setAllWidths_12, eX7_setAllWidths_14, eX7_setAllWidths_16, eX7_setAllWidths_37, cont_some, tl_some, tl_none, csum_nil, csum_i, csum_r, csum_j, isc2_i, isc2_r, isc2_n, va_rf_s, vfn_ite, true_and, and_true, true_or, or_true, eq_self, Bool.false_eq_true, not_false_eq_true, not_true_eq_false, if_true, if_false, Nat.reduceAdd, Nat.reduceLeDiff, reduceIte, l]
    exact ⟨hw, hi, hF⟩
  | succ e ih =>
    intro k w hk h hw hi hF
    have l : nI k < 10 := nI_lt (b := 10) (by omega) (by omega)
    obtain ⟨g1, g2⟩ := h.2.2.2.2.2.2.2.2.2.2.2.2.2.2.2 k (by omega)
    have hb := s_fr_become (w := w) (q := z + 8 + k) g2 hA hB h0
    have f := frW_fx (w := w) (q := z + 8 + k) (A := A) (B := B)
    simp only [eX7_setAllWidths_12, eX7_setAllWidths_14, eX7_setAllWidths_16, eX7_setAllWidths_19, eX7_setAllWidths_20, eX7_setAllWidths_23, eX7_setAllWidths_25, eX7_setAllWidths_26, eX7_setAllWidths_27, eX7_setAllWidths_28, eX7_setAllWidths_31, cont_some, tl_some, tl_none, csum_nil, csum_i, csum_r, csum_j, isc2_i, isc2_r, isc2_n, va_rf_s, vfn_ite, true_and, and_true, true_or, or_true, eq_self, Bool.false_eq_true, not_false_eq_true, not_true_eq_false, if_true, if_false, Nat.reduceAdd, Nat.reduceLeDiff, reduceIte, l, h.1, h.2.2.2.2.2.2.1, h.2.2.2.2.2.2.2.2.2.2.2.2.2.1, m14, inA_nI (show k < 10 by omega) (show 10 < 2147483648 by omega), nI_clamp (show k < 2 ^ 31 by omega), g1, g2, hb, nI_1]
    rw [eX7_setAllWidths_34]
    refine ih (k + 1) _ (by omega) (h.fx f) (hw.fx f (fun j q => by omega)) (fun i hi' => ?_) (hF.tr (f.wide (fun c j q => Or.inr (by omega))))
    by_cases e : i = k
    · rw [e]; exact frW_is g2
    · exact (hi i (by omega)).fx f (fun j q => by omega)
theorem s_widths {z A B : Nat} {w : Wd} (hA : A < 2 ^ 62) (hB : B < 2 ^ 50) (h0 : 0 < B) (h : isZ w z) : ∃ u, fX7_setAllWidths [.ref z, .long (lN A), .long (lN B)] w = some (none, u) ∧ frIs u (z + 5) (A / Nat.gcd A B) (B / Nat.gcd A B) ∧ (∀ i, i < 10 → frIs u (z + 8 + i) (A / Nat.gcd A B) (B / Nat.gcd A B)) ∧ FrX (Xw z) w u := by
  have hs : shp w (z + 5) = (0, 0) := h.2.2.2.2.2.2.2.2.2.2.2.2.1
  have hb := s_fr_become (w := w) (q := z + 5) hs hA hB h0
  have f := frW_fx (w := w) (q := z + 5) (A := A) (B := B)
  have hh : wp mX7_setAllWidths 0 [some (.ref z), some (.long (lN A)), none, some (.long (lN B)), none, none] [] w (fun r u => r = none ∧ frIs u (z + 5) (A / Nat.gcd A B) (B / Nat.gcd A B) ∧ (∀ i, i < 10 → frIs u (z + 8 + i) (A / Nat.gcd A B) (B / Nat.gcd A B)) ∧ FrX (Xw z) w u) := by
    simp only [eX7_setAllWidths_0, eX7_setAllWidths_1, eX7_setAllWidths_4, eX7_setAllWidths_5, eX7_setAllWidths_6, eX7_setAllWidths_9, eX7_setAllWidths_10, cont_some, tl_some, tl_none, csum_nil, csum_i, csum_r, csum_j, isc2_i, isc2_r, isc2_n, va_rf_s, vfn_ite, true_and, and_true, true_or, or_true, eq_self, Bool.false_eq_true, not_false_eq_true, not_true_eq_false, if_true, if_false, Nat.reduceAdd, Nat.reduceLeDiff, reduceIte, h.1, h.2.2.2.2.2.1, hs, hb]
    exact lo_widths hA hB h0 10 0 _ (by omega) (h.fx f) (frW_is hs) (fun i hi => absurd hi (by omega)) (f.wide (fun c j q => Or.inl q))
  obtain ⟨r, u, h1, rfl, h2, h3, h4⟩ := sem_wp (nL := 6) (as := [.ref z, .long (lN A), .long (lN B)]) (Nat.le_of_ble_eq_true rfl) hh
  exact ⟨u, h1, h2, h3, h4⟩
def zT (w : Wd) (v : Nat) (t : V3) : Prop := rdI w v 0 = iI t.1 ∧ rdI w v 1 = iI t.2.1 ∧ rdI w v 2 = iI t.2.2
theorem zT.fx {X : Nat → Nat → Prop} {w u : Wd} {v : Nat} {t : V3} (h : zT w v t) (f : FrX X w u) (hn : ∀ j, ¬ X v j) : zT u v t := by
  obtain ⟨h1, h2, h3⟩ := h
  exact ⟨by rw [f.1 _ _ (hn 0)]; exact h1, by rw [f.1 _ _ (hn 1)]; exact h2, by rw [f.1 _ _ (hn 2)]; exact h3⟩
theorem in0_3 : inA 0 3 = true := by decide
theorem in1_3 : inA 1 3 = true := by decide
theorem in2_3 : inA 2 3 = true := by decide
theorem cl0 : (0 : Int32).toNatClampNeg = 0 := by decide
theorem cl1 : (1 : Int32).toNatClampNeg = 1 := by decide
theorem cl2 : (2 : Int32).toNatClampNeg = 2 := by decide
theorem nI_lJ {a : Nat} (h : a < 2 ^ 31) : (nI a).toInt64 = lN a := by rw [nI_iI, iI_i2l (by omega), ← lN_jJ]
def trW (w : Wd) (z : Nat) (d : V3) : Wd := wrI (wrI (wrI w (z + 4) 0 (iI d.1)) (z + 4) 1 (iI d.2.1)) (z + 4) 2 (iI d.2.2)
theorem trW_is {w : Wd} {z : Nat} {d : V3} : zT (trW w z d) (z + 4) d := by
  unfold trW
  refine ⟨?_, ?_, ?_⟩ <;> simp [rdI_wrI]
theorem trW_fx {w : Wd} {z : Nat} {d : V3} : FrX (fun c _ => c = z + 4) w (trW w z d) := (((FrX.rf (X := fun (c _ : Nat) => c = z + 4)).wrI rfl).wrI rfl).wrI rfl
theorem s_lower {z : Nat} {w : Wd} {t : V3} (h : isZ w z) (ht : in3 1800 t) (h0 : t ≠ (0, 0, 0)) (hT : zT w (z + 4) t) : fX7_lowerTried [.ref z] w = some (none, trW w z (nrm t)) := by
  obtain ⟨t0, t1, t2⟩ := hT
  obtain ⟨b1, b2, b3⟩ := ht
  have s4 : shp w (z + 4) = (10, 3) := h.2.2.2.2.2.2.2.2.2.2.2.1
  have r7 : rdR w z 7 = some (z + 4) := h.2.2.2.2.1
  have gB := gN_le (t := t) ⟨b1, b2, b3⟩ (by omega)
  have gp : 0 < gN t := by have : gN t ≠ 0 := fun q => h0 (gN_0.mp q); omega
  have g2 : Nat.gcd t.2.1.natAbs t.2.2.natAbs ≤ 1800 := by
    by_cases q : t.2.1.natAbs = 0
    · rw [q, Nat.gcd_zero_left]; exact b3
    · exact Nat.le_trans (Nat.le_of_dvd (by omega) (Nat.gcd_dvd_left _ _)) b2
  have d1 := s_divisor (w := w) (a := t.2.1.natAbs) (b := t.2.2.natAbs) (by omega) (by omega)
  have d2 := s_divisor (w := w) (a := t.1.natAbs) (b := Nat.gcd t.2.1.natAbs t.2.2.natAbs) (by omega) (by omega)
  rw [← Nat.gcd_assoc] at d2
  have d2' : fX8_divisor [.long (lN t.1.natAbs), .long (lN (Nat.gcd t.2.1.natAbs t.2.2.natAbs))] w = some (some (.long (lN (gN t))), w) := d2
  have ep : (0 : Int64) < lN (gN t) := (pk_lLT (a := 0) (by omega) (by omega)).mpr gp
  have eg : (lN (gN t)).toInt32 = iI (gN t) := by rw [lN_jJ, jJ_l2i]
  have z0 : (0 : Int32) = iI 0 := rfl
  have a4 : iI t.1 = 0 ↔ t.1 = 0 := by rw [z0, iI_eq (by omega) (by omega)]
  have a5 : iI t.2.1 = 0 ↔ t.2.1 = 0 := by rw [z0, iI_eq (by omega) (by omega)]
  have lt_ : ∀ x : Int, x.natAbs ≤ 1800 → (iI x < 0 ↔ x < 0) := fun x hx => by rw [z0, iI_lt (by omega) (by omega)]
  have hg := gv_0 h0
  have hga := gv_abs t
  have gn0 : ¬ iI (gv t) = 0 := by rw [z0, iI_eq (by omega) (by omega)]; exact hg
  have dv : ∀ x : Int, x.natAbs ≤ 1800 → iI x / iI (gv t) = iI (x.tdiv (gv t)) := fun x hx => iI_div' (by omega) (by omega) (by omega)
  have l0 : (0 : Int32) < 3 := by decide
  have l1 : (1 : Int32) < 3 := by decide
  have l2 : (2 : Int32) < 3 := by decide
  have l3 : ¬ (3 : Int32) < 3 := by decide
  have p1 : (0 : Int32) + 1 = 1 := by decide
  have p2 : (1 : Int32) + 1 = 2 := by decide
  have p3 : (2 : Int32) + 1 = 3 := by decide
  have fin_ : ∀ a1 a2 a4, wp mX7_lowerTried 99 [some (.ref z), a1, a2, some (.int (iI (gv t))), some (.int a4), none] [] w (fun r u => r = none ∧ u = trW w z (nrm t)) := by
    intro a1 a2 a4
    simp only [eX7_lowerTried_99, eX7_lowerTried_100, eX7_lowerTried_102, eX7_lowerTried_104, eX7_lowerTried_105, eX7_lowerTried_108, eX7_lowerTried_109, eX7_lowerTried_112, eX7_lowerTried_114, eX7_lowerTried_115, eX7_lowerTried_118, eX7_lowerTried_120, eX7_lowerTried_121, eX7_lowerTried_122, eX7_lowerTried_123, eX7_lowerTried_124, cont_some, tl_some, tl_none, csum_nil, csum_i, csum_r, csum_j, isc2_i, isc2_r, isc2_n, va_rf_s, vfn_ite, true_and, and_true, true_or, or_true, eq_self, Bool.false_eq_true, not_false_eq_true, not_true_eq_false, if_true, if_false, Nat.reduceAdd, Nat.reduceLeDiff, reduceIte, l0, p1, h.1, r7, s4, in0_3, cl0, t0, gn0, dv _ b1]
    rw [eX7_lowerTried_127]
    have e1 : rdI (wrI w (z + 4) 0 (iI (t.1.tdiv (gv t)))) (z + 4) 1 = iI t.2.1 := by rw [rdI_wrI, if_neg (by omega)]; exact t1
    simp only [eX7_lowerTried_102, eX7_lowerTried_104, eX7_lowerTried_105, eX7_lowerTried_108, eX7_lowerTried_109, eX7_lowerTried_112, eX7_lowerTried_114, eX7_lowerTried_115, eX7_lowerTried_118, eX7_lowerTried_120, eX7_lowerTried_121, eX7_lowerTried_122, eX7_lowerTried_123, eX7_lowerTried_124, cont_some, tl_some, tl_none, csum_nil, csum_i, csum_r, csum_j, isc2_i, isc2_r, isc2_n, va_rf_s, vfn_ite, true_and, and_true, true_or, or_true, eq_self, Bool.false_eq_true, not_false_eq_true, not_true_eq_false, if_true, if_false, Nat.reduceAdd, Nat.reduceLeDiff, reduceIte, l1, p2, h.1, r7, s4, in1_3, cl1, e1, gn0, dv _ b2, shp_wrI, rdR_wrI]
    rw [eX7_lowerTried_127]
    have e2 : rdI (wrI (wrI w (z + 4) 0 (iI (t.1.tdiv (gv t)))) (z + 4) 1 (iI (t.2.1.tdiv (gv t)))) (z + 4) 2 = iI t.2.2 := by rw [rdI_wrI, if_neg (by omega), rdI_wrI, if_neg (by omega)]; exact t2
    simp only [eX7_lowerTried_102, eX7_lowerTried_104, eX7_lowerTried_105, eX7_lowerTried_108, eX7_lowerTried_109, eX7_lowerTried_112, eX7_lowerTried_114, eX7_lowerTried_115, eX7_lowerTried_118, eX7_lowerTried_120, eX7_lowerTried_121, eX7_lowerTried_122, eX7_lowerTried_123, eX7_lowerTried_124, cont_some, tl_some, tl_none, csum_nil, csum_i, csum_r, csum_j, isc2_i, isc2_r, isc2_n, va_rf_s, vfn_ite, true_and, and_true, true_or, or_true, eq_self, Bool.false_eq_true, not_false_eq_true, not_true_eq_false, if_true, if_false, Nat.reduceAdd, Nat.reduceLeDiff, reduceIte, l2, p3, h.1, r7, s4, in2_3, cl2, e2, gn0, dv _ b3, shp_wrI, rdR_wrI]
    rw [eX7_lowerTried_127]
    simp only [eX7_lowerTried_102, eX7_lowerTried_104, eX7_lowerTried_105, eX7_lowerTried_130, cont_some, tl_some, tl_none, csum_nil, csum_i, csum_r, csum_j, isc2_i, isc2_r, isc2_n, va_rf_s, vfn_ite, true_and, and_true, true_or, or_true, eq_self, Bool.false_eq_true, not_false_eq_true, not_true_eq_false, if_true, if_false, Nat.reduceAdd, Nat.reduceLeDiff, reduceIte, l3]
    rfl
  have sgn : ∀ x : Int, x.natAbs ≤ 1800 → (x < 0 ↔ neg t) → wp mX7_lowerTried 89 [some (.ref z), some (.long (lN (gN t))), none, some (.int (iI (gN t))), none, none] [.int (iI x)] w (fun r u => r = none ∧ u = trW w z (nrm t)) := by
    intro x hx hn
    simp only [eX7_lowerTried_89, eX7_lowerTried_91, eX7_lowerTried_93, cont_some, tl_some, tl_none, csum_nil, csum_i, csum_r, csum_j, isc2_i, isc2_r, isc2_n, va_rf_s, vfn_ite, true_and, and_true, true_or, or_true, eq_self, Bool.false_eq_true, not_false_eq_true, not_true_eq_false, if_true, if_false, Nat.reduceAdd, Nat.reduceLeDiff, reduceIte, lt_ x hx]
    by_cases q : x < 0
    · have e : gv t = -(gN t : Int) := if_pos (hn.mp q)
      rw [if_pos q]
      have := fin_ (some (.long (lN (gN t)))) none (iI x)
      rw [e] at this
      simp only [eX7_lowerTried_96, eX7_lowerTried_97, eX7_lowerTried_98, cont_some, tl_some, tl_none, csum_nil, csum_i, csum_r, csum_j, isc2_i, isc2_r, isc2_n, va_rf_s, vfn_ite, true_and, and_true, true_or, or_true, eq_self, Bool.false_eq_true, not_false_eq_true, not_true_eq_false, if_true, if_false, Nat.reduceAdd, Nat.reduceLeDiff, reduceIte, iI_neg]
      exact this
    · have e : gv t = (gN t : Int) := if_neg (fun y => q (hn.mpr y))
      rw [if_neg q]
      have := fin_ (some (.long (lN (gN t)))) none (iI x)
      rw [e] at this
      exact this
  refine sem_eq (Nat.le_of_ble_eq_true rfl) ?_
  show wp mX7_lowerTried 0 [some (.ref z), none, none, none, none, none] [] _ _
  simp only [eX7_lowerTried_0, eX7_lowerTried_1, eX7_lowerTried_4, eX7_lowerTried_5, eX7_lowerTried_6, eX7_lowerTried_9, eX7_lowerTried_10, eX7_lowerTried_11, eX7_lowerTried_14, eX7_lowerTried_15, eX7_lowerTried_16, eX7_lowerTried_19, eX7_lowerTried_20, eX7_lowerTried_21, eX7_lowerTried_24, eX7_lowerTried_25, eX7_lowerTried_26, eX7_lowerTried_29, eX7_lowerTried_30, eX7_lowerTried_33, eX7_lowerTried_36, eX7_lowerTried_37, eX7_lowerTried_38, eX7_lowerTried_39, eX7_lowerTried_40, cont_some, tl_some, tl_none, csum_nil, csum_i, csum_r, csum_j, isc2_i, isc2_r, isc2_n, va_rf_s, vfn_ite, true_and, and_true, true_or, or_true, eq_self, Bool.false_eq_true, not_false_eq_true, not_true_eq_false, if_true, if_false, Nat.reduceAdd, Nat.reduceLeDiff, reduceIte, h.1, r7, s4, in0_3, in1_3, in2_3, cl0, cl1, cl2, t0, t1, t2, s_mabs, abs_I (show t.1.natAbs ≤ 2000 by omega), abs_I (show t.2.1.natAbs ≤ 2000 by omega), abs_I (show t.2.2.natAbs ≤ 2000 by omega), nI_lJ (show t.1.natAbs < 2 ^ 31 by omega), nI_lJ (show t.2.1.natAbs < 2 ^ 31 by omega), nI_lJ (show t.2.2.natAbs < 2 ^ 31 by omega), d1, d2', lgc_gt, ep]
  simp only [eX7_lowerTried_44, eX7_lowerTried_45, eX7_lowerTried_46, eX7_lowerTried_47, eX7_lowerTried_48, eX7_lowerTried_51, eX7_lowerTried_52, eX7_lowerTried_53, cont_some, tl_some, tl_none, csum_nil, csum_i, csum_r, csum_j, isc2_i, isc2_r, isc2_n, va_rf_s, vfn_ite, true_and, and_true, true_or, or_true, eq_self, Bool.false_eq_true, not_false_eq_true, not_true_eq_false, if_true, if_false, Nat.reduceAdd, Nat.reduceLeDiff, reduceIte, h.1, r7, s4, in0_3, cl0, t0, eg, a4]
  by_cases q1 : t.1 = 0
  · rw [if_pos q1]
    simp only [eX7_lowerTried_65, eX7_lowerTried_66, eX7_lowerTried_69, eX7_lowerTried_70, eX7_lowerTried_71, cont_some, tl_some, tl_none, csum_nil, csum_i, csum_r, csum_j, isc2_i, isc2_r, isc2_n, va_rf_s, vfn_ite, true_and, and_true, true_or, or_true, eq_self, Bool.false_eq_true, not_false_eq_true, not_true_eq_false, if_true, if_false, Nat.reduceAdd, Nat.reduceLeDiff, reduceIte, h.1, r7, s4, in1_3, cl1, t1, a5]
    by_cases q2 : t.2.1 = 0
    · rw [if_pos q2]
      simp only [eX7_lowerTried_83, eX7_lowerTried_84, eX7_lowerTried_87, eX7_lowerTried_88, cont_some, tl_some, tl_none, csum_nil, csum_i, csum_r, csum_j, isc2_i, isc2_r, isc2_n, va_rf_s, vfn_ite, true_and, and_true, true_or, or_true, eq_self, Bool.false_eq_true, not_false_eq_true, not_true_eq_false, if_true, if_false, Nat.reduceAdd, Nat.reduceLeDiff, reduceIte, h.1, r7, s4, in2_3, cl2, t2]
      exact sgn t.2.2 b3 (by unfold neg; omega)
    · rw [if_neg q2]
      simp only [eX7_lowerTried_74, eX7_lowerTried_75, eX7_lowerTried_78, eX7_lowerTried_79, eX7_lowerTried_80, cont_some, tl_some, tl_none, csum_nil, csum_i, csum_r, csum_j, isc2_i, isc2_r, isc2_n, va_rf_s, vfn_ite, true_and, and_true, true_or, or_true, eq_self, Bool.false_eq_true, not_false_eq_true, not_true_eq_false, if_true, if_false, Nat.reduceAdd, Nat.reduceLeDiff, reduceIte, h.1, r7, s4, in1_3, cl1, t1]
      exact sgn t.2.1 b2 (by unfold neg; omega)
  · rw [if_neg q1]
    simp only [eX7_lowerTried_56, eX7_lowerTried_57, eX7_lowerTried_60, eX7_lowerTried_61, eX7_lowerTried_62, cont_some, tl_some, tl_none, csum_nil, csum_i, csum_r, csum_j, isc2_i, isc2_r, isc2_n, va_rf_s, vfn_ite, true_and, and_true, true_or, or_true, eq_self, Bool.false_eq_true, not_false_eq_true, not_true_eq_false, if_true, if_false, Nat.reduceAdd, Nat.reduceLeDiff, reduceIte, h.1, r7, s4, in0_3, cl0, t0]
    exact sgn t.1 b1 (by unfold neg; omega)
