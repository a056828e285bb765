/-! measured along a way -/
section
variable {z k : Nat} {w : Wd} {x : Int} {s : Ls} {ls6 : Option Value}
theorem lo_ms1 {a1 a2 a3 a4 : Option Value} {Q : Option Value → Wd → Prop} {f : Nat → Int} (h : isZ w z) (h1 : rdI w z 11 = iI s.1) (h2 : rdI w z 12 = iI s.2.1) (h3 : f k < s.1 ∨ rdI w z 13 = nI s.2.2) (ho : okL s) (hb : (f k).natAbs ≤ 81000)
    (hQ : ∀ u, rdI u z 11 = iI (lsS f k s).1 → rdI u z 12 = iI (lsS f k s).2.1 → rdI u z 13 = nI (lsS f k s).2.2 → FrX (fun c j => c = z ∧ 11 ≤ j ∧ j ≤ 13) w u → wp mX7_measure 147 [some (.ref z), a1, a2, a3, a4, some (.int (nI k)), ls6, some (.int (iI (f k)))] [] u Q) :
    wp mX7_measure 100 [some (.ref z), a1, a2, a3, a4, some (.int (nI k)), ls6, some (.int (iI (f k)))] [] w Q := by
  have z7 : ¬ (z = z + 7) := by omega
  obtain ⟨o1, o2⟩ := ho
  have c1 : iI (f k) < iI s.1 ↔ f k < s.1 := iI_lt (by omega) (by omega)
  have c2 : iI (f k) < iI s.2.1 ↔ f k < s.2.1 := iI_lt (by omega) (by omega)
  simp only [eX7_measure_100, eX7_measure_102, eX7_measure_103, eX7_measure_106, cont_some, tl_some, tl_none, csum_nil, csum_i, csum_r, csum_j, isc2_i, isc2_r, isc2_n, va_rf_s, vfn_ite, true_and, and_true, true_or, or_true, eq_self, Bool.false_eq_true, not_false_eq_true, not_true_eq_false, if_true, if_false, Nat.reduceAdd, Nat.reduceLeDiff, reduceIte, h.1, h1, c1]
  unfold lsS at hQ
  by_cases q : f k < s.1
  · rw [if_pos q] at hQ ⊢
    simp only [eX7_measure_109, eX7_measure_110, eX7_measure_111, eX7_measure_114, eX7_measure_117, eX7_measure_118, eX7_measure_120, eX7_measure_123, eX7_measure_124, eX7_measure_126, eX7_measure_129, cont_some, tl_some, tl_none, csum_nil, csum_i, csum_r, csum_j, isc2_i, isc2_r, isc2_n, va_rf_s, vfn_ite, true_and, and_true, true_or, or_true, eq_self, Bool.false_eq_true, not_false_eq_true, not_true_eq_false, if_true, if_false, Nat.reduceAdd, Nat.reduceLeDiff, reduceIte, h.1, h1, shp_wrI]
    refine hQ _ ?_ ?_ ?_ (((FrX.rf.wrI ⟨rfl, by omega, by omega⟩).wrI ⟨rfl, by omega, by omega⟩).wrI ⟨rfl, by omega, by omega⟩) <;> simp [rdI_wrI]
  · rw [if_neg q] at hQ ⊢
    have h3' : rdI w z 13 = nI s.2.2 := h3.resolve_left q
    simp only [eX7_measure_132, eX7_measure_134, eX7_measure_135, eX7_measure_138, cont_some, tl_some, tl_none, csum_nil, csum_i, csum_r, csum_j, isc2_i, isc2_r, isc2_n, va_rf_s, vfn_ite, true_and, and_true, true_or, or_true, eq_self, Bool.false_eq_true, not_false_eq_true, not_true_eq_false, if_true, if_false, Nat.reduceAdd, Nat.reduceLeDiff, reduceIte, h.1, h2, c2]
    by_cases q2 : f k < s.2.1
    · rw [if_pos q2] at hQ ⊢
      simp only [eX7_measure_141, eX7_measure_142, eX7_measure_144, cont_some, tl_some, tl_none, csum_nil, csum_i, csum_r, csum_j, isc2_i, isc2_r, isc2_n, va_rf_s, vfn_ite, true_and, and_true, true_or, or_true, eq_self, Bool.false_eq_true, not_false_eq_true, not_true_eq_false, if_true, if_false, Nat.reduceAdd, Nat.reduceLeDiff, reduceIte, h.1]
      refine hQ _ ?_ ?_ ?_ (FrX.rf.wrI ⟨rfl, by omega, by omega⟩) <;> simp [rdI_wrI, h1, h3']
    · rw [if_neg q2] at hQ ⊢
      exact hQ _ h1 h2 h3' FrX.rf
theorem lo_ms2 {a1 a2 a3 a4 : Option Value} {Q : Option Value → Wd → Prop} {f : Nat → Int} (h : isZ w z) (h1 : rdI w z 14 = iI (-s.1)) (h2 : rdI w z 15 = iI (-s.2.1)) (h3 : f k < s.1 ∨ rdI w z 16 = nI s.2.2) (ho : okL s) (hb : (f k).natAbs ≤ 81000)
    (hQ : ∀ u, rdI u z 14 = iI (-(lsS f k s).1) → rdI u z 15 = iI (-(lsS f k s).2.1) → rdI u z 16 = nI (lsS f k s).2.2 → FrX (fun c j => c = z ∧ 14 ≤ j ∧ j ≤ 16) w u → wp mX7_measure 194 [some (.ref z), a1, a2, a3, a4, some (.int (nI k)), ls6, some (.int (iI (-f k)))] [] u Q) :
    wp mX7_measure 147 [some (.ref z), a1, a2, a3, a4, some (.int (nI k)), ls6, some (.int (iI (-f k)))] [] w Q := by
  obtain ⟨o1, o2⟩ := ho
  have c1 : iI (-s.1) < iI (-f k) ↔ f k < s.1 := by rw [iI_lt (by omega) (by omega)]; omega
  have c2 : iI (-s.2.1) < iI (-f k) ↔ f k < s.2.1 := by rw [iI_lt (by omega) (by omega)]; omega
  simp only [eX7_measure_147, eX7_measure_149, eX7_measure_150, eX7_measure_153, cont_some, tl_some, tl_none, csum_nil, csum_i, csum_r, csum_j, isc2_i, isc2_r, isc2_n, va_rf_s, vfn_ite, true_and, and_true, true_or, or_true, eq_self, Bool.false_eq_true, not_false_eq_true, not_true_eq_false, if_true, if_false, Nat.reduceAdd, Nat.reduceLeDiff, reduceIte, h.1, h1, c1]
  unfold lsS at hQ
  by_cases q : f k < s.1
  · rw [if_pos q] at hQ ⊢
    simp only [eX7_measure_156, eX7_measure_157, eX7_measure_158, eX7_measure_161, eX7_measure_164, eX7_measure_165, eX7_measure_167, eX7_measure_170, eX7_measure_171, eX7_measure_173, eX7_measure_176, cont_some, tl_some, tl_none, csum_nil, csum_i, csum_r, csum_j, isc2_i, isc2_r, isc2_n, va_rf_s, vfn_ite, true_and, and_true, true_or, or_true, eq_self, Bool.false_eq_true, not_false_eq_true, not_true_eq_false, if_true, if_false, Nat.reduceAdd, Nat.reduceLeDiff, reduceIte, h.1, h1, shp_wrI]
    refine hQ _ ?_ ?_ ?_ (((FrX.rf.wrI ⟨rfl, by omega, by omega⟩).wrI ⟨rfl, by omega, by omega⟩).wrI ⟨rfl, by omega, by omega⟩) <;> simp [rdI_wrI]
  · rw [if_neg q] at hQ ⊢
    have h3' : rdI w z 16 = nI s.2.2 := h3.resolve_left q
    simp only [eX7_measure_179, eX7_measure_181, eX7_measure_182, eX7_measure_185, cont_some, tl_some, tl_none, csum_nil, csum_i, csum_r, csum_j, isc2_i, isc2_r, isc2_n, va_rf_s, vfn_ite, true_and, and_true, true_or, or_true, eq_self, Bool.false_eq_true, not_false_eq_true, not_true_eq_false, if_true, if_false, Nat.reduceAdd, Nat.reduceLeDiff, reduceIte, h.1, h2, c2]
    by_cases q2 : f k < s.2.1
    · rw [if_pos q2] at hQ ⊢
      simp only [eX7_measure_188, eX7_measure_189, eX7_measure_191, cont_some, tl_some, tl_none, csum_nil, csum_i, csum_r, csum_j, isc2_i, isc2_r, isc2_n, va_rf_s, vfn_ite, true_and, and_true, true_or, or_true, eq_self, Bool.false_eq_true, not_false_eq_true, not_true_eq_false, if_true, if_false, Nat.reduceAdd, Nat.reduceLeDiff, reduceIte, h.1]
      refine hQ _ ?_ ?_ ?_ (FrX.rf.wrI ⟨rfl, by omega, by omega⟩) <;> simp [rdI_wrI, h1, h3']
    · rw [if_neg q2] at hQ ⊢
      exact hQ _ h1 h2 h3' FrX.rf
end
theorem lsI_first {f : Nat → Int} {k : Nat} {s : Ls} {P : Prop} (h : lsI f k s) (hb : f k < 1000000) (hp : 0 < k → P) : f k < s.1 ∨ P := by
  rcases h with ⟨h0, h1, -⟩ | ⟨h1, -⟩
  · exact Or.inl (by omega)
  · exact Or.inr (hp (by omega))
theorem lo_measure {z n v : Nat} {C : Nat → Int32} {d : V3} {w0 : Wd} (hb : bdC n C) (hd : in3 1800 d) : ∀ (e k : Nat) (w : Wd) (s g : Ls) (a6 a7 : Option Value), k + e = n → isZ w z → zP w z n C → zM w z k s g → okL s → okL g → lsI (dP C d) k s → lsI (fun i => -dP C d i) k g → (∀ i, i < k → rdI w (z + 7) i = iI (dP C d i)) → FrX (Xm z) w0 w →
    wp mX7_measure 40 [some (.ref z), some (.ref v), some (.int (iI d.1)), some (.int (iI d.2.1)), some (.int (iI d.2.2)), some (.int (nI k)), a6, a7] [] w (fun r u => r = none ∧ zM u z n (lsF (dP C d) e k s) (lsF (fun i => -dP C d i) e k g) ∧ (∀ i, i < n → rdI u (z + 7) i = iI (dP C d i)) ∧ FrX (Xm z) w0 u) := by
  intro e
  induction e with
  | zero =>
    intro k w s g a6 a7 hk h hP hM o1 o2 i1 i2 hal hF
    have e : k = n := by omega
    subst e
    have l : ¬ nI k < nI k := Int32.lt_irrefl
    simp only [eX7_measure_40, eX7_measure_42, eX7_measure_43, eX7_measure_46, eX7_measure_200, cont_some, tl_some, tl_none, csum_nil, csum_i, csum_r, csum_j, isc2_i, isc2_r, isc2_n, va_rf_s, vfn_ite, true_and, and_true, true_or, or_true, eq_self, Bool.false_eq_true, not_false_eq_true, not_true_eq_false, if_true, if_false, Nat.reduceAdd, Nat.reduceLeDiff, reduceIte, h.1, hP.1, l]
    exact ⟨hM, hal, hF⟩
  | succ e ih =>
    intro k w s g a6 a7 hk h hP hM o1 o2 i1 i2 hal hF
    have h10 := hP.2.1
    have l : nI k < nI n := nI_lt (by omega) (by omega)
    have f0 : rdI w (z + 1) (3 * k) = iI (ptZ C k).1 := by rw [hP.2.2 _ (by omega)]; exact iU C _
    have f1 : rdI w (z + 1) (3 * k + 1) = iI (ptZ C k).2.1 := by rw [hP.2.2 _ (by omega)]; exact iU C _
    have f2 : rdI w (z + 1) (3 * k + 2) = iI (ptZ C k).2.2 := by rw [hP.2.2 _ (by omega)]; exact iU C _
    have hkb := dP_b hb (show k < n by omega) hd
    have far : iI d.1 * iI (ptZ C k).1 + iI d.2.1 * iI (ptZ C k).2.1 + iI d.2.2 * iI (ptZ C k).2.2 = iI (dP C d k) := by rw [iI_mul, iI_mul, iI_mul, iI_add, iI_add]; rfl
    simp only [eX7_measure_40, eX7_measure_42, eX7_measure_43, eX7_measure_46, cont_some, tl_some, tl_none, csum_nil, csum_i, csum_r, csum_j, isc2_i, isc2_r, isc2_n, va_rf_s, vfn_ite, true_and, and_true, true_or, or_true, eq_self, Bool.false_eq_true, not_false_eq_true, not_true_eq_false, if_true, if_false, Nat.reduceAdd, Nat.reduceLeDiff, reduceIte, h.1, hP.1, l]
    simp only [eX7_measure_49, eX7_measure_51, eX7_measure_52, eX7_measure_53, eX7_measure_55, eX7_measure_56, eX7_measure_57, eX7_measure_60, eX7_measure_62, eX7_measure_63, eX7_measure_64, eX7_measure_65, eX7_measure_66, eX7_measure_69, eX7_measure_71, eX7_measure_72, eX7_measure_73, eX7_measure_74, eX7_measure_75, eX7_measure_76, eX7_measure_78, eX7_measure_79, eX7_measure_82, eX7_measure_84, eX7_measure_85, eX7_measure_86, eX7_measure_87, eX7_measure_88, eX7_measure_89, eX7_measure_91, eX7_measure_92, eX7_measure_95, eX7_measure_97, eX7_measure_99, cont_some, tl_some, tl_none, csum_nil, csum_i, csum_r, csum_j, isc2_i, isc2_r, isc2_n, va_rf_s, vfn_ite, true_and, and_true, true_or, or_true, eq_self, Bool.false_eq_true, not_false_eq_true, not_true_eq_false, if_true, if_false, Nat.reduceAdd, Nat.reduceLeDiff, reduceIte, h.1, h.2.1, h.2.2.2.2.2.2.2.1, h.2.2.2.2.2.2.2.2.1, h.2.2.2.2.2.2.2.2.2.2.2.2.2.2.1, nI_m3, nI_p1, nI_p2, nI_a, inA_nI (show 3 * k < 30 by omega) (show 30 < 2147483648 by omega), inA_nI (show 3 * k + 1 < 30 by omega) (show 30 < 2147483648 by omega), inA_nI (show 3 * k + 2 < 30 by omega) (show 30 < 2147483648 by omega), nI_clamp (show 3 * k < 2 ^ 31 by omega), nI_clamp (show 3 * k + 1 < 2 ^ 31 by omega), nI_clamp (show 3 * k + 2 < 2 ^ 31 by omega), f0, f1, f2, far, inA_nI (show k < 10 by omega) (show 10 < 2147483648 by omega), nI_clamp (show k < 2 ^ 31 by omega)]
    obtain ⟨w1, hw1⟩ : ∃ w1, w1 = wrI w (z + 7) k (iI (dP C d k)) := ⟨_, rfl⟩
    rw [← hw1]
    have F1 : FrX (fun c _ => c = z + 7) w w1 := by rw [hw1]; exact FrX.rf.wrI rfl
    have n7 : ∀ j, ¬ (fun c (_ : Nat) => c = z + 7) z j := fun j q => by simp only at q; omega
    have E1 : ∀ j, rdI w1 z j = rdI w z j := fun j => F1.1 z j (n7 j)
    have hz1 := h.fx F1
    have hal1 : ∀ i, i < k + 1 → rdI w1 (z + 7) i = iI (dP C d i) := fun i hi => by
      rw [hw1, rdI_wrI]
      by_cases e : i = k
      · rw [if_pos ⟨rfl, e⟩, e]
      · rw [if_neg (fun q => e q.2)]; exact hal i (by omega)
    obtain ⟨m1, m2, m3, m4, m5, m6⟩ := hM
    refine lo_ms1 (f := dP C d) hz1 (by rw [E1]; exact m1) (by rw [E1]; exact m2) (lsI_first i1 (by omega) (fun y => by rw [E1]; exact m3 y)) o1 hkb (fun w2 p1 p2 p3 F2 => ?_)
    have nn : ∀ j, 14 ≤ j → ¬ (fun c (j : Nat) => c = z ∧ 11 ≤ j ∧ j ≤ 13) z j := fun j hj q => by simp only at q; omega
    have E2 : ∀ j, 14 ≤ j → rdI w2 z j = rdI w1 z j := fun j hj => F2.1 z j (nn j hj)
    have hz2 := hz1.fx F2
    have tw : iI (dP C d k) = iI (- (fun i => -dP C d i) k) := by simp only [Int.neg_neg]
    rw [tw]
    refine lo_ms2 (f := fun i => -dP C d i) hz2 (by rw [E2 14 (by omega), E1]; exact m4) (by rw [E2 15 (by omega), E1]; exact m5) (lsI_first i2 (by omega) (fun y => by rw [E2 16 (by omega), E1]; exact m6 y)) o2 (by omega) (fun w3 q1 q2 q3 F3 => ?_)
    have F123 : FrX (Xm z) w w3 := ((F1.wide (fun c j y => Or.inr y)).tr (F2.wide (fun c j y => Or.inl (by omega)))).tr (F3.wide (fun c j y => Or.inl (by omega)))
    have nn3 : ∀ j, j ≤ 13 → ¬ (fun c (j : Nat) => c = z ∧ 14 ≤ j ∧ j ≤ 16) z j := fun j hj q => by simp only at q; omega
    have E3 : ∀ j, j ≤ 13 → rdI w3 z j = rdI w2 z j := fun j hj => F3.1 z j (nn3 j hj)
    have xz : ¬ Xm z z 2 := fun y => by unfold Xm at y; omega
    have xz1 : ∀ i, ¬ Xm z (z + 1) i := fun i y => by unfold Xm at y; omega
    simp only [eX7_measure_194, cont_some, tl_some, tl_none, csum_nil, csum_i, csum_r, csum_j, isc2_i, isc2_r, isc2_n, va_rf_s, vfn_ite, true_and, and_true, true_or, or_true, eq_self, Bool.false_eq_true, not_false_eq_true, not_true_eq_false, if_true, if_false, Nat.reduceAdd, Nat.reduceLeDiff, reduceIte, nI_1]
    rw [eX7_measure_197]
    refine ih (k + 1) w3 _ _ _ _ (by omega) (hz2.fx F3) (hP.fx F123 xz xz1) ⟨by rw [E3 11 (by omega)]; exact p1, by rw [E3 12 (by omega)]; exact p2, fun _ => by rw [E3 13 (by omega)]; exact p3, q1, q2, fun _ => q3⟩ (okL_step o1 hkb) (okL_step o2 (by omega)) (ls_step i1 (by omega)) (ls_step i2 (by omega)) (fun i hi => ?_) (hF.tr F123)
    rw [F3.1 (z + 7) i (fun q => by have := q.1; omega), F2.1 (z + 7) i (fun q => by have := q.1; omega)]
    exact hal1 i hi
def lsA (n : Nat) (f : Nat → Int) : Ls := lsF f n 0 (1000000, 1000000, 0)
theorem s_measure {z n v : Nat} {C : Nat → Int32} {d : V3} {w : Wd} (hb : bdC n C) (hd : in3 1800 d) (h : isZ w z) (hP : zP w z n C) (hv : v = z + 3 ∨ v = z + 4) (v0 : rdI w v 0 = iI d.1) (v1 : rdI w v 1 = iI d.2.1) (v2 : rdI w v 2 = iI d.2.2) :
    ∃ u, fX7_measure [.ref z, .ref v] w = some (none, u) ∧ zM u z n (lsA n (dP C d)) (lsA n (fun i => -dP C d i)) ∧ (∀ i, i < n → rdI u (z + 7) i = iI (dP C d i)) ∧ FrX (Xm z) w u := by
  have sv : shp w v = (10, 3) := by
    rcases hv with rfl | rfl
    · exact h.2.2.2.2.2.2.2.2.2.2.1
    · exact h.2.2.2.2.2.2.2.2.2.2.2.1
  have a0 : inA 0 3 = true := by decide
  have a1 : inA 1 3 = true := by decide
  have a2 : inA 2 3 = true := by decide
  have k0 : (0 : Int32).toNatClampNeg = 0 := by decide
  have k1 : (1 : Int32).toNatClampNeg = 1 := by decide
  have k2 : (2 : Int32).toNatClampNeg = 2 := by decide
  obtain ⟨u0, hu0⟩ : ∃ u0, u0 = wrI (wrI (wrI (wrI w z 11 1000000) z 12 1000000) z 14 (-1000000)) z 15 (-1000000) := ⟨_, rfl⟩
  have F0 : FrX (Xm z) w u0 := by
    rw [hu0]
    exact (((FrX.rf.wrI (Or.inl ⟨rfl, by omega, by omega⟩)).wrI (Or.inl ⟨rfl, by omega, by omega⟩)).wrI (Or.inl ⟨rfl, by omega, by omega⟩)).wrI (Or.inl ⟨rfl, by omega, by omega⟩)
  have hM0 : zM u0 z 0 (1000000, 1000000, 0) (1000000, 1000000, 0) := by
    rw [hu0]
    refine ⟨?_, ?_, fun y => absurd y (by omega), ?_, ?_, fun y => absurd y (by omega)⟩ <;> simp [rdI_wrI] <;> decide
  have xz : ¬ Xm z z 2 := fun y => by unfold Xm at y; omega
  have xz1 : ∀ i, ¬ Xm z (z + 1) i := fun i y => by unfold Xm at y; omega
  have hh : wp mX7_measure 0 [some (.ref z), some (.ref v), none, none, none, none, none, none] [] w (fun r u => r = none ∧ zM u z n (lsA n (dP C d)) (lsA n (fun i => -dP C d i)) ∧ (∀ i, i < n → rdI u (z + 7) i = iI (dP C d i)) ∧ FrX (Xm z) w u) := by
    simp only [eX7_measure_0, eX7_measure_1, eX7_measure_2, eX7_measure_3, eX7_measure_4, eX7_measure_5, eX7_measure_6, eX7_measure_7, eX7_measure_8, eX7_measure_9, eX7_measure_10, eX7_measure_11, eX7_measure_13, eX7_measure_14, eX7_measure_16, eX7_measure_19, eX7_measure_20, eX7_measure_22, eX7_measure_25, eX7_measure_26, eX7_measure_28, eX7_measure_31, eX7_measure_32, eX7_measure_34, eX7_measure_37, eX7_measure_38, cont_some, tl_some, tl_none, csum_nil, csum_i, csum_r, csum_j, isc2_i, isc2_r, isc2_n, va_rf_s, vfn_ite, true_and, and_true, true_or, or_true, eq_self, Bool.false_eq_true, not_false_eq_true, not_true_eq_false, if_true, if_false, Nat.reduceAdd, Nat.reduceLeDiff, reduceIte, sv, a0, a1, a2, k0, k1, k2, v0, v1, v2, h.1, shp_wrI]
    rw [← hu0]
    exact lo_measure hb hd n 0 u0 _ _ _ _ (by omega) (h.fx F0) (hP.fx F0 xz xz1) hM0 ⟨by decide, by decide⟩ ⟨by decide, by decide⟩ (Or.inl ⟨rfl, rfl, rfl⟩) (Or.inl ⟨rfl, rfl, rfl⟩) (fun i hi => absurd hi (by omega)) F0
  obtain ⟨r, u, h1, rfl, h2, h3, h4⟩ := sem_wp (nL := 8) (as := [.ref z, .ref v]) (Nat.le_of_ble_eq_true rfl) hh
  exact ⟨u, h1, h2, h3, h4⟩
