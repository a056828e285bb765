theorem wdA_b {n m j : Nat} {C : Nat → Int32} {d : V3} (hb : bdC n C) (hd : in3 1800 d) : (wdA n m (qZ j C) d).natAbs ≤ 26244000000 := by
  have h := rgN_b (m := m) (Q := qZ j C) (d := d) (fun i hi => dq_b hb hi hd)
  have := mulB h h
  unfold wdA; omega
theorem dt_bb {d : V3} (hd : in3 1800 d) : (dt d d).natAbs ≤ 9720000 := dt_b hd hd
theorem m_meets {w : Wd} {o n j m : Nat} {C : Nat → Int32} {d : V3} {s : Option V3} (h : MB w o n C) (hb : bdC n C) (hj : j < 4) (hd : in3 1800 d) (hm : m < 2 ^ 31) (hs : mjI w o (wdA n m (qZ j C)) s) : ∃ u, fX9_meets [.ref o, .int (nI j), .int (nI m), .int (iI d.1), .int (iI d.2.1), .int (iI d.2.2)] w = some (none, u) ∧ mjI u o (wdA n m (qZ j C)) (stD (wdA n m (qZ j C)) d s) ∧ FrX (Xj o) w u := by
  have hmd := h.1
  have e1 : jJ (hiO (mmF m (qZ j C) d n 0 none)) - jJ (loO (mmF m (qZ j C) d n 0 none)) = jJ (rgN n m (qZ j C) d) := by
    rw [jJ_sub, ← rgO_e]; rfl
  obtain ⟨A, hA⟩ : ∃ A, A = wdA n m (qZ j C) := ⟨_, rfl⟩
  have e2 : jJ (rgN n m (qZ j C) d) * jJ (rgN n m (qZ j C) d) = jJ (A d) := by rw [jJ_mul, hA]; rfl
  have e3 : jJ d.1 * jJ d.1 + jJ d.2.1 * jJ d.2.1 + jJ d.2.2 * jJ d.2.2 = jJ (dt d d) := by rw [jJ_mul, jJ_mul, jJ_mul, jJ_add, jJ_add]; rfl
  have f1 := iI_i2l (r32_of hd.1 (by omega))
  have f2 := iI_i2l (r32_of hd.2.1 (by omega))
  have f3 := iI_i2l (r32_of hd.2.2 (by omega))
  have bA : (A d).natAbs ≤ 26244000000 := by rw [hA]; exact wdA_b hb hd
  have bD := dt_bb hd
  rw [← hA] at hs ⊢
  have n01 : ∀ x : Int32, (1 : Int32) = 0 ∨ (1 : Int32) = 1 := fun _ => Or.inr rfl
  obtain ⟨u, hu⟩ : ∃ u, u = wrI (wrI (wrI (wrJ (wrJ (wrI w o 11 1) o 12 (jJ (A d))) o 13 (jJ (dt d d))) o 14 (iI d.1)) o 15 (iI d.2.1)) o 16 (iI d.2.2) := ⟨_, rfl⟩
  have hju : mjI u o A (some d) := by
    rw [hu]
    refine ⟨hd, ?_, ?_, ?_, ?_, ?_, ?_⟩ <;> simp [rdI_wrI, rdI_wrJ, rdJ_wrI, rdJ_wrJ]
  have hF : FrX (Xj o) w u := by
    rw [hu]
    exact (((((FrX.rf.wrI ⟨rfl, by omega, by omega⟩).wrJ ⟨rfl, by omega, by omega⟩).wrJ ⟨rfl, by omega, by omega⟩).wrI ⟨rfl, by omega, by omega⟩).wrI ⟨rfl, by omega, by omega⟩).wrI ⟨rfl, by omega, by omega⟩
  have take : ∀ {Q : Option Value → Wd → Prop} {a1 a2 a6 a7 a8 a9 a10 a15 a16 a17 a18 : Option Value}, Q none u → wp mX9_meets 189 [some (.ref o), a1, a2, some (.int (iI d.1)), some (.int (iI d.2.1)), some (.int (iI d.2.2)), a6, a7, a8, a9, a10, some (.long (jJ (A d))), none, some (.long (jJ (dt d d))), none, a15, a16, a17, a18] [] w Q := by
    intro Q a1 a2 a6 a7 a8 a9 a10 a15 a16 a17 a18 hQ
    simp only [eX9_meets_189, eX9_meets_190, eX9_meets_191, eX9_meets_194, eX9_meets_195, eX9_meets_197, eX9_meets_200, eX9_meets_201, eX9_meets_203, eX9_meets_206, eX9_meets_207, eX9_meets_208, eX9_meets_211, eX9_meets_212, eX9_meets_214, eX9_meets_217, eX9_meets_218, eX9_meets_220, eX9_meets_223, cont_some, tl_some, tl_none, csum_nil, csum_i, csum_r, csum_j, isc2_i, isc2_r, isc2_n, va_rf_s, vfn_ite, true_and, and_true, true_or, or_true, eq_self, Bool.false_eq_true, not_false_eq_true, not_true_eq_false, if_true, if_false, Nat.reduceAdd, Nat.reduceLeDiff, reduceIte, hmd.1, hmd.2.1, hmd.2.2.1, hmd.2.2.2.1, hmd.2.2.2.2.1, hmd.2.2.2.2.2.1, hmd.2.2.2.2.2.2.1, hmd.2.2.2.2.2.2.2.1, hmd.2.2.2.2.2.2.2.2.1, hmd.2.2.2.2.2.2.2.2.2.1, hmd.2.2.2.2.2.2.2.2.2.2.1, hmd.2.2.2.2.2.2.2.2.2.2.2.1, hmd.2.2.2.2.2.2.2.2.2.2.2.2.1, hmd.2.2.2.2.2.2.2.2.2.2.2.2.2.1, hmd.2.2.2.2.2.2.2.2.2.2.2.2.2.2.1, hmd.2.2.2.2.2.2.2.2.2.2.2.2.2.2.2.1, hmd.2.2.2.2.2.2.2.2.2.2.2.2.2.2.2.2.1, hmd.2.2.2.2.2.2.2.2.2.2.2.2.2.2.2.2.2.1, hmd.2.2.2.2.2.2.2.2.2.2.2.2.2.2.2.2.2.2.1, hmd.2.2.2.2.2.2.2.2.2.2.2.2.2.2.2.2.2.2.2.1, hmd.2.2.2.2.2.2.2.2.2.2.2.2.2.2.2.2.2.2.2.2.1, hmd.2.2.2.2.2.2.2.2.2.2.2.2.2.2.2.2.2.2.2.2.2.1, hmd.2.2.2.2.2.2.2.2.2.2.2.2.2.2.2.2.2.2.2.2.2.2.1, hmd.2.2.2.2.2.2.2.2.2.2.2.2.2.2.2.2.2.2.2.2.2.2.2.1, hmd.2.2.2.2.2.2.2.2.2.2.2.2.2.2.2.2.2.2.2.2.2.2.2.2, shp_wrI, shp_wrJ]
    rw [← hu]
    exact hQ
  cases s with
  | none =>
    obtain ⟨s1, s2, s3⟩ := hs
    have hh : wp mX9_meets 0 [some (.ref o), some (.int (nI j)), some (.int (nI m)), some (.int (iI d.1)), some (.int (iI d.2.1)), some (.int (iI d.2.2)), none, none, none, none, none, none, none, none, none, none, none, none, none] [] w (fun r v => r = none ∧ v = u) := by
      simp only [eX9_meets_0, eX9_meets_1, eX9_meets_3, eX9_meets_4, eX9_meets_6, eX9_meets_7, eX9_meets_9, eX9_meets_10, cont_some, tl_some, tl_none, csum_nil, csum_i, csum_r, csum_j, isc2_i, isc2_r, isc2_n, va_rf_s, vfn_ite, true_and, and_true, true_or, or_true, eq_self, Bool.false_eq_true, not_false_eq_true, not_true_eq_false, if_true, if_false, Nat.reduceAdd, Nat.reduceLeDiff, reduceIte]
      refine lo_mm h hb hj hd hm n 0 none _ _ (by omega) ⟨by simp [loO], by simp [hiO]⟩ (fun a12 a13 => ?_)
      simp only [eX9_meets_100, eX9_meets_102, eX9_meets_104, eX9_meets_105, eX9_meets_107, eX9_meets_109, eX9_meets_110, eX9_meets_111, eX9_meets_113, eX9_meets_114, eX9_meets_115, eX9_meets_116, eX9_meets_117, eX9_meets_118, eX9_meets_120, eX9_meets_121, eX9_meets_123, eX9_meets_124, eX9_meets_125, eX9_meets_126, eX9_meets_128, eX9_meets_129, eX9_meets_131, eX9_meets_132, eX9_meets_133, eX9_meets_134, eX9_meets_136, eX9_meets_138, eX9_meets_139, eX9_meets_142, eX9_meets_143, eX9_meets_145, eX9_meets_146, eX9_meets_149, eX9_meets_151, eX9_meets_152, eX9_meets_154, eX9_meets_155, eX9_meets_158, cont_some, tl_some, tl_none, csum_nil, csum_i, csum_r, csum_j, isc2_i, isc2_r, isc2_n, va_rf_s, vfn_ite, true_and, and_true, true_or, or_true, eq_self, Bool.false_eq_true, not_false_eq_true, not_true_eq_false, if_true, if_false, Nat.reduceAdd, Nat.reduceLeDiff, reduceIte, e1, e2, f1, f2, f3, e3, hmd.1, hmd.2.1, hmd.2.2.1, hmd.2.2.2.1, hmd.2.2.2.2.1, hmd.2.2.2.2.2.1, hmd.2.2.2.2.2.2.1, hmd.2.2.2.2.2.2.2.1, hmd.2.2.2.2.2.2.2.2.1, hmd.2.2.2.2.2.2.2.2.2.1, hmd.2.2.2.2.2.2.2.2.2.2.1, hmd.2.2.2.2.2.2.2.2.2.2.2.1, hmd.2.2.2.2.2.2.2.2.2.2.2.2.1, hmd.2.2.2.2.2.2.2.2.2.2.2.2.2.1, hmd.2.2.2.2.2.2.2.2.2.2.2.2.2.2.1, hmd.2.2.2.2.2.2.2.2.2.2.2.2.2.2.2.1, hmd.2.2.2.2.2.2.2.2.2.2.2.2.2.2.2.2.1, hmd.2.2.2.2.2.2.2.2.2.2.2.2.2.2.2.2.2.1, hmd.2.2.2.2.2.2.2.2.2.2.2.2.2.2.2.2.2.2.1, hmd.2.2.2.2.2.2.2.2.2.2.2.2.2.2.2.2.2.2.2.1, hmd.2.2.2.2.2.2.2.2.2.2.2.2.2.2.2.2.2.2.2.2.1, hmd.2.2.2.2.2.2.2.2.2.2.2.2.2.2.2.2.2.2.2.2.2.1, hmd.2.2.2.2.2.2.2.2.2.2.2.2.2.2.2.2.2.2.2.2.2.2.1, hmd.2.2.2.2.2.2.2.2.2.2.2.2.2.2.2.2.2.2.2.2.2.2.2.1, hmd.2.2.2.2.2.2.2.2.2.2.2.2.2.2.2.2.2.2.2.2.2.2.2.2, s1, s2, s3]
      exact take ⟨rfl, rfl⟩
    obtain ⟨r, v, h1, rfl, rfl⟩ := sem_wp (nL := 19) (as := [.ref o, .int (nI j), .int (nI m), .int (iI d.1), .int (iI d.2.1), .int (iI d.2.2)]) (Nat.le_of_ble_eq_true rfl) hh
    exact ⟨_, h1, hju, hF⟩
  | some e =>
    obtain ⟨s0, s1, s2, s3, s4, s5, s6⟩ := hs
    have bE := dt_bb s0
    have bAe : (A e).natAbs ≤ 26244000000 := by rw [hA]; exact wdA_b hb s0
    have m1 := mulB bA bE
    have m2 := mulB bAe bD
    have cl : jJ (A d * dt e e) < jJ (A e * dt d d) ↔ A d * dt e e < A e * dt d d := jJ_lt (by omega) (by omega)
    have ce : jJ (A d * dt e e) = jJ (A e * dt d d) ↔ A d * dt e e = A e * dt d d := jJ_eq (by omega) (by omega)
    have hE1 : jJ (A d) * jJ (dt e e) = jJ (A d * dt e e) := jJ_mul _ _
    have hE2 : jJ (A e) * jJ (dt d d) = jJ (A e * dt d d) := jJ_mul _ _
    have hf := m_isFirst hmd hd s0 s4 s5 s6
    have keep : mjI w o A (some e) := ⟨s0, s1, s2, s3, s4, s5, s6⟩
    have fin_ : ∃ v, (v = if btr A d e then u else w) := ⟨_, rfl⟩
    obtain ⟨v, hv⟩ := fin_
    have hh : wp mX9_meets 0 [some (.ref o), some (.int (nI j)), some (.int (nI m)), some (.int (iI d.1)), some (.int (iI d.2.1)), some (.int (iI d.2.2)), none, none, none, none, none, none, none, none, none, none, none, none, none] [] w (fun r v' => r = none ∧ v' = v) := by
      simp only [eX9_meets_0, eX9_meets_1, eX9_meets_3, eX9_meets_4, eX9_meets_6, eX9_meets_7, eX9_meets_9, eX9_meets_10, cont_some, tl_some, tl_none, csum_nil, csum_i, csum_r, csum_j, isc2_i, isc2_r, isc2_n, va_rf_s, vfn_ite, true_and, and_true, true_or, or_true, eq_self, Bool.false_eq_true, not_false_eq_true, not_true_eq_false, if_true, if_false, Nat.reduceAdd, Nat.reduceLeDiff, reduceIte]
      refine lo_mm h hb hj hd hm n 0 none _ _ (by omega) ⟨by simp [loO], by simp [hiO]⟩ (fun a12 a13 => ?_)
      simp only [eX9_meets_100, eX9_meets_102, eX9_meets_104, eX9_meets_105, eX9_meets_107, eX9_meets_109, eX9_meets_110, eX9_meets_111, eX9_meets_113, eX9_meets_114, eX9_meets_115, eX9_meets_116, eX9_meets_117, eX9_meets_118, eX9_meets_120, eX9_meets_121, eX9_meets_123, eX9_meets_124, eX9_meets_125, eX9_meets_126, eX9_meets_128, eX9_meets_129, eX9_meets_131, eX9_meets_132, eX9_meets_133, eX9_meets_134, eX9_meets_136, eX9_meets_138, eX9_meets_139, eX9_meets_142, eX9_meets_143, eX9_meets_145, eX9_meets_146, eX9_meets_149, eX9_meets_151, eX9_meets_152, eX9_meets_154, eX9_meets_155, eX9_meets_158, eX9_meets_161, eX9_meets_163, eX9_meets_165, eX9_meets_166, cont_some, tl_some, tl_none, csum_nil, csum_i, csum_r, csum_j, isc2_i, isc2_r, isc2_n, va_rf_s, vfn_ite, true_and, and_true, true_or, or_true, eq_self, Bool.false_eq_true, not_false_eq_true, not_true_eq_false, if_true, if_false, Nat.reduceAdd, Nat.reduceLeDiff, reduceIte, e1, e2, f1, f2, f3, e3, hmd.1, hmd.2.1, hmd.2.2.1, hmd.2.2.2.1, hmd.2.2.2.2.1, hmd.2.2.2.2.2.1, hmd.2.2.2.2.2.2.1, hmd.2.2.2.2.2.2.2.1, hmd.2.2.2.2.2.2.2.2.1, hmd.2.2.2.2.2.2.2.2.2.1, hmd.2.2.2.2.2.2.2.2.2.2.1, hmd.2.2.2.2.2.2.2.2.2.2.2.1, hmd.2.2.2.2.2.2.2.2.2.2.2.2.1, hmd.2.2.2.2.2.2.2.2.2.2.2.2.2.1, hmd.2.2.2.2.2.2.2.2.2.2.2.2.2.2.1, hmd.2.2.2.2.2.2.2.2.2.2.2.2.2.2.2.1, hmd.2.2.2.2.2.2.2.2.2.2.2.2.2.2.2.2.1, hmd.2.2.2.2.2.2.2.2.2.2.2.2.2.2.2.2.2.1, hmd.2.2.2.2.2.2.2.2.2.2.2.2.2.2.2.2.2.2.1, hmd.2.2.2.2.2.2.2.2.2.2.2.2.2.2.2.2.2.2.2.1, hmd.2.2.2.2.2.2.2.2.2.2.2.2.2.2.2.2.2.2.2.2.1, hmd.2.2.2.2.2.2.2.2.2.2.2.2.2.2.2.2.2.2.2.2.2.1, hmd.2.2.2.2.2.2.2.2.2.2.2.2.2.2.2.2.2.2.2.2.2.2.1, hmd.2.2.2.2.2.2.2.2.2.2.2.2.2.2.2.2.2.2.2.2.2.2.2.1, hmd.2.2.2.2.2.2.2.2.2.2.2.2.2.2.2.2.2.2.2.2.2.2.2.2, s1, s2, s3, i10', hE1, hE2, lgc_lt, cl]
      by_cases q1 : A d * dt e e < A e * dt d d
      · rw [if_pos q1]
        rw [if_pos (Or.inl q1)] at hv
        rw [hv]
        exact take ⟨rfl, rfl⟩
      · rw [if_neg q1]
        simp only [eX9_meets_169, eX9_meets_171, eX9_meets_173, eX9_meets_174, cont_some, tl_some, tl_none, csum_nil, csum_i, csum_r, csum_j, isc2_i, isc2_r, isc2_n, va_rf_s, vfn_ite, true_and, and_true, true_or, or_true, eq_self, Bool.false_eq_true, not_false_eq_true, not_true_eq_false, if_true, if_false, Nat.reduceAdd, Nat.reduceLeDiff, reduceIte, lgc_0, ce]
        by_cases q2 : A d * dt e e = A e * dt d d
        · rw [if_pos q2]
          simp only [eX9_meets_177, eX9_meets_178, eX9_meets_179, eX9_meets_181, eX9_meets_183, eX9_meets_186, cont_some, tl_some, tl_none, csum_nil, csum_i, csum_r, csum_j, isc2_i, isc2_r, isc2_n, va_rf_s, vfn_ite, true_and, and_true, true_or, or_true, eq_self, Bool.false_eq_true, not_false_eq_true, not_true_eq_false, if_true, if_false, Nat.reduceAdd, Nat.reduceLeDiff, reduceIte, hmd.1, hmd.2.1, hmd.2.2.1, hmd.2.2.2.1, hmd.2.2.2.2.1, hmd.2.2.2.2.2.1, hmd.2.2.2.2.2.2.1, hmd.2.2.2.2.2.2.2.1, hmd.2.2.2.2.2.2.2.2.1, hmd.2.2.2.2.2.2.2.2.2.1, hmd.2.2.2.2.2.2.2.2.2.2.1, hmd.2.2.2.2.2.2.2.2.2.2.2.1, hmd.2.2.2.2.2.2.2.2.2.2.2.2.1, hmd.2.2.2.2.2.2.2.2.2.2.2.2.2.1, hmd.2.2.2.2.2.2.2.2.2.2.2.2.2.2.1, hmd.2.2.2.2.2.2.2.2.2.2.2.2.2.2.2.1, hmd.2.2.2.2.2.2.2.2.2.2.2.2.2.2.2.2.1, hmd.2.2.2.2.2.2.2.2.2.2.2.2.2.2.2.2.2.1, hmd.2.2.2.2.2.2.2.2.2.2.2.2.2.2.2.2.2.2.1, hmd.2.2.2.2.2.2.2.2.2.2.2.2.2.2.2.2.2.2.2.1, hmd.2.2.2.2.2.2.2.2.2.2.2.2.2.2.2.2.2.2.2.2.1, hmd.2.2.2.2.2.2.2.2.2.2.2.2.2.2.2.2.2.2.2.2.2.1, hmd.2.2.2.2.2.2.2.2.2.2.2.2.2.2.2.2.2.2.2.2.2.2.1, hmd.2.2.2.2.2.2.2.2.2.2.2.2.2.2.2.2.2.2.2.2.2.2.2.1, hmd.2.2.2.2.2.2.2.2.2.2.2.2.2.2.2.2.2.2.2.2.2.2.2.2, hf, b2i_0]
          by_cases q3 : lexl d e
          · rw [if_neg (fun z => z q3)]
            rw [if_pos (Or.inr ⟨q2, q3⟩)] at hv
            rw [hv]
            exact take ⟨rfl, rfl⟩
          · rw [if_pos q3]
            rw [if_neg (fun z => z.elim q1 (fun y => q3 y.2))] at hv
            simp only [eX9_meets_223, cont_some, tl_some, tl_none, csum_nil, csum_i, csum_r, csum_j, isc2_i, isc2_r, isc2_n, va_rf_s, vfn_ite, true_and, and_true, true_or, or_true, eq_self, Bool.false_eq_true, not_false_eq_true, not_true_eq_false, if_true, if_false, Nat.reduceAdd, Nat.reduceLeDiff, reduceIte]
            exact hv.symm
        · rw [if_neg q2]
          rw [if_neg (fun z => z.elim q1 (fun y => q2 y.1))] at hv
          simp only [eX9_meets_223, cont_some, tl_some, tl_none, csum_nil, csum_i, csum_r, csum_j, isc2_i, isc2_r, isc2_n, va_rf_s, vfn_ite, true_and, and_true, true_or, or_true, eq_self, Bool.false_eq_true, not_false_eq_true, not_true_eq_false, if_true, if_false, Nat.reduceAdd, Nat.reduceLeDiff, reduceIte]
          exact hv.symm
    obtain ⟨r, v', h1, rfl, rfl⟩ := sem_wp (nL := 19) (as := [.ref o, .int (nI j), .int (nI m), .int (iI d.1), .int (iI d.2.1), .int (iI d.2.2)]) (Nat.le_of_ble_eq_true rfl) hh
    refine ⟨_, h1, ?_, ?_⟩
    · show mjI v' o A (if btr A d e then some d else some e)
      by_cases q : btr A d e
      · rw [if_pos q] at hv ⊢; rw [hv]; exact hju
      · rw [if_neg q] at hv ⊢; rw [hv]; exact keep
    · by_cases q : btr A d e
      · rw [if_pos q] at hv; rw [hv]; exact hF
      · rw [if_neg q] at hv; rw [hv]; exact FrX.rf
/-- a way, brought to least terms, is tried -/
def stW (A : V3 → Int) (t : V3) (s : Option V3) : Option V3 := if t = (0, 0, 0) then s else stD A (nrm t) s
theorem gN_le {t : V3} {B : Nat} (h : in3 B t) (hB : 0 < B) : gN t ≤ B := by
  by_cases q : t = (0, 0, 0)
  · rw [gN_0.mpr q]; omega
  · obtain ⟨h1, h2, h3⟩ := h
    by_cases z1 : t.1 = 0
    · by_cases z2 : t.2.1 = 0
      · have z3 : t.2.2 ≠ 0 := fun z => q (V3x z1 z2 z)
        have := Nat.le_of_dvd (show 0 < t.2.2.natAbs by omega) (Int.ofNat_dvd_left.mp (gN_3 t))
        omega
      · have := Nat.le_of_dvd (show 0 < t.2.1.natAbs by omega) (Int.ofNat_dvd_left.mp (gN_2 t))
        omega
    · have := Nat.le_of_dvd (show 0 < t.1.natAbs by omega) (Int.ofNat_dvd_left.mp (gN_1 t))
      omega
theorem iI_div' {a b : Int} (ha : r32 a) (hb : r32 b) (hm : a ≠ -2147483648) : iI a / iI b = iI (a.tdiv b) := by
  have h := Int32.toInt_div_of_ne_left (iI a) (iI b) (fun q => hm (by
    have := congrArg Int32.toInt q
    rw [iI_toInt ha] at this
    exact this))
  rw [iI_toInt ha, iI_toInt hb] at h
  rw [← h]
  exact (Int32.ofInt_toInt _).symm
theorem m_tries {w : Wd} {o n j m : Nat} {C : Nat → Int32} {t : V3} {s : Option V3} (h : MB w o n C) (hb : bdC n C) (hj : j < 4) (ht : in3 1800 t) (hm : m < 2 ^ 31) (hs : mjI w o (wdA n m (qZ j C)) s) : ∃ u, fX9_tries [.ref o, .int (nI j), .int (nI m), .int (iI t.1), .int (iI t.2.1), .int (iI t.2.2)] w = some (none, u) ∧ mjI u o (wdA n m (qZ j C)) (stW (wdA n m (qZ j C)) t s) ∧ FrX (Xj o) w u := by
  have hmd := h.1
  have f1 := iI_i2l (r32_of ht.1 (by omega))
  have f2 := iI_i2l (r32_of ht.2.1 (by omega))
  have f3 := iI_i2l (r32_of ht.2.2 (by omega))
  obtain ⟨b1, b2, b3⟩ := ht
  have c1 := s_common (w := w) (a := t.1) (b := t.2.1) (by omega) (by omega) (by omega) (by omega)
  have gl : Nat.gcd t.1.natAbs t.2.1.natAbs ≤ 1800 := by
    by_cases z : t.1.natAbs = 0
    · rw [z, Nat.gcd_zero_left]; exact b2
    · exact Nat.le_trans (Nat.le_of_dvd (by omega) (Nat.gcd_dvd_left _ _)) b1
  have c2 := s_common (w := w) (a := (Nat.gcd t.1.natAbs t.2.1.natAbs : Nat)) (b := t.2.2) (by omega) (by omega) (by omega) (by omega)
  rw [← lN_jJ, Int.natAbs_natCast] at c2
  have eg : (lN (Nat.gcd (Nat.gcd t.1.natAbs t.2.1.natAbs) t.2.2.natAbs)).toInt32 = iI (gN t) := by
    rw [lN_jJ, jJ_l2i]; rfl
  have gB := gN_le (t := t) ⟨b1, b2, b3⟩ (by omega)
  have z0 : (0 : Int32) = iI 0 := rfl
  have g0 : 0 < iI (gN t) ↔ 0 < gN t := by rw [z0, iI_lt (by omega) (by omega)]; omega
  have a1 : iI t.1 < 0 ↔ t.1 < 0 := by rw [z0, iI_lt (by omega) (by omega)]
  have a2 : iI t.2.1 < 0 ↔ t.2.1 < 0 := by rw [z0, iI_lt (by omega) (by omega)]
  have a3 : iI t.2.2 < 0 ↔ t.2.2 < 0 := by rw [z0, iI_lt (by omega) (by omega)]
  have a4 : iI t.1 = 0 ↔ t.1 = 0 := by rw [z0, iI_eq (by omega) (by omega)]
  have a5 : iI t.2.1 = 0 ↔ t.2.1 = 0 := by rw [z0, iI_eq (by omega) (by omega)]
  have beg : ∀ {Q : Option Value → Wd → Prop}, (gN t = 0 → Q none w) → (0 < gN t → wp mX9_tries 22 [some (.ref o), some (.int (nI j)), some (.int (nI m)), some (.int (iI t.1)), some (.int (iI t.2.1)), some (.int (iI t.2.2)), some (.int (iI (gN t))), none] [] w Q) → wp mX9_tries 0 [some (.ref o), some (.int (nI j)), some (.int (nI m)), some (.int (iI t.1)), some (.int (iI t.2.1)), some (.int (iI t.2.2)), none, none] [] w Q := by
    intro Q hN hY
    simp only [eX9_tries_0, eX9_tries_1, eX9_tries_2, eX9_tries_4, eX9_tries_5, eX9_tries_8, eX9_tries_10, eX9_tries_11, eX9_tries_14, eX9_tries_15, eX9_tries_17, eX9_tries_19, cont_some, tl_some, tl_none, csum_nil, csum_i, csum_r, csum_j, isc2_i, isc2_r, isc2_n, va_rf_s, vfn_ite, true_and, and_true, true_or, or_true, eq_self, Bool.false_eq_true, not_false_eq_true, not_true_eq_false, if_true, if_false, Nat.reduceAdd, Nat.reduceLeDiff, reduceIte, f1, f2, f3, c1, c2, eg, g0]
    by_cases z : 0 < gN t
    · rw [if_pos z]; exact hY z
    · rw [if_neg z]
      simp only [eX9_tries_87, cont_some, tl_some, tl_none, csum_nil, csum_i, csum_r, csum_j, isc2_i, isc2_r, isc2_n, va_rf_s, vfn_ite, true_and, and_true, true_or, or_true, eq_self, Bool.false_eq_true, not_false_eq_true, not_true_eq_false, if_true, if_false, Nat.reduceAdd, Nat.reduceLeDiff, reduceIte]
      exact hN (by omega)
  by_cases q : t = (0, 0, 0)
  · refine ⟨w, ?_, by unfold stW; rw [if_pos q]; exact hs, FrX.rf⟩
    refine sem_eq (Nat.le_of_ble_eq_true rfl) ?_
    show wp mX9_tries 0 [some (.ref o), some (.int (nI j)), some (.int (nI m)), some (.int (iI t.1)), some (.int (iI t.2.1)), some (.int (iI t.2.2)), none, none] [] _ _
    exact beg (fun _ => ⟨rfl, rfl⟩) (fun z => absurd (gN_0.mpr q) (by omega))
  · have gp : 0 < gN t := by have : gN t ≠ 0 := fun z => q (gN_0.mp z); omega
    have hg := gv_0 q
    have hga := gv_abs t
    obtain ⟨u, h1, h2, h3⟩ := m_meets h hb hj (in3_nrm (t := t) ⟨b1, b2, b3⟩) hm hs
    refine ⟨u, ?_, by unfold stW; rw [if_neg q]; exact h2, h3⟩
    refine sem_eq (Nat.le_of_ble_eq_true rfl) ?_
    show wp mX9_tries 0 [some (.ref o), some (.int (nI j)), some (.int (nI m)), some (.int (iI t.1)), some (.int (iI t.2.1)), some (.int (iI t.2.2)), none, none] [] _ _
    refine beg (fun z => absurd z (by omega)) (fun _ => ?_)
    have gn0 : ¬ iI (gv t) = 0 := by rw [z0, iI_eq (by omega) (by omega)]; exact hg
    have dv : ∀ x : Int, x.natAbs ≤ 1800 → gv t ∣ x → iI x / iI (gv t) = iI (x.tdiv (gv t)) := fun x hx hdv => by
      exact iI_div' (by omega) (by omega) (by omega)
    have h1' : fX9_meets [.ref o, .int (nI j), .int (nI m), .int (iI (t.1.tdiv (gv t))), .int (iI (t.2.1.tdiv (gv t))), .int (iI (t.2.2.tdiv (gv t)))] w = some (none, u) := h1
    have fin_ : ∀ a7, wp mX9_tries 67 [some (.ref o), some (.int (nI j)), some (.int (nI m)), some (.int (iI t.1)), some (.int (iI t.2.1)), some (.int (iI t.2.2)), some (.int (iI (gv t))), some (.int a7)] [] w (fun r1 w1 => r1 = none ∧ w1 = u) := by
      intro a7
      simp only [eX9_tries_67, eX9_tries_68, eX9_tries_69, eX9_tries_70, eX9_tries_71, eX9_tries_73, eX9_tries_74, eX9_tries_76, eX9_tries_78, eX9_tries_79, eX9_tries_81, eX9_tries_83, eX9_tries_84, eX9_tries_87, cont_some, tl_some, tl_none, csum_nil, csum_i, csum_r, csum_j, isc2_i, isc2_r, isc2_n, va_rf_s, vfn_ite, true_and, and_true, true_or, or_true, eq_self, Bool.false_eq_true, not_false_eq_true, not_true_eq_false, if_true, if_false, Nat.reduceAdd, Nat.reduceLeDiff, reduceIte, hmd.1, hmd.2.1, hmd.2.2.1, hmd.2.2.2.1, hmd.2.2.2.2.1, hmd.2.2.2.2.2.1, hmd.2.2.2.2.2.2.1, hmd.2.2.2.2.2.2.2.1, hmd.2.2.2.2.2.2.2.2.1, hmd.2.2.2.2.2.2.2.2.2.1, hmd.2.2.2.2.2.2.2.2.2.2.1, hmd.2.2.2.2.2.2.2.2.2.2.2.1, hmd.2.2.2.2.2.2.2.2.2.2.2.2.1, hmd.2.2.2.2.2.2.2.2.2.2.2.2.2.1, hmd.2.2.2.2.2.2.2.2.2.2.2.2.2.2.1, hmd.2.2.2.2.2.2.2.2.2.2.2.2.2.2.2.1, hmd.2.2.2.2.2.2.2.2.2.2.2.2.2.2.2.2.1, hmd.2.2.2.2.2.2.2.2.2.2.2.2.2.2.2.2.2.1, hmd.2.2.2.2.2.2.2.2.2.2.2.2.2.2.2.2.2.2.1, hmd.2.2.2.2.2.2.2.2.2.2.2.2.2.2.2.2.2.2.2.1, hmd.2.2.2.2.2.2.2.2.2.2.2.2.2.2.2.2.2.2.2.2.1, hmd.2.2.2.2.2.2.2.2.2.2.2.2.2.2.2.2.2.2.2.2.2.1, hmd.2.2.2.2.2.2.2.2.2.2.2.2.2.2.2.2.2.2.2.2.2.2.1, hmd.2.2.2.2.2.2.2.2.2.2.2.2.2.2.2.2.2.2.2.2.2.2.2.1, hmd.2.2.2.2.2.2.2.2.2.2.2.2.2.2.2.2.2.2.2.2.2.2.2.2, gn0, dv _ b1 (gv_dvd (gN_1 t)), dv _ b2 (gv_dvd (gN_2 t)), dv _ b3 (gv_dvd (gN_3 t)), h1']
    have yes : neg t → wp mX9_tries 45 [some (.ref o), some (.int (nI j)), some (.int (nI m)), some (.int (iI t.1)), some (.int (iI t.2.1)), some (.int (iI t.2.2)), some (.int (iI (gN t))), none] [] w (fun r1 w1 => r1 = none ∧ w1 = u) := by
      intro hn
      have e : gv t = -(gN t : Int) := if_pos hn
      have := fin_ 1
      rw [e] at this
      simp only [eX9_tries_45, eX9_tries_46, eX9_tries_49, eX9_tries_50, eX9_tries_52, eX9_tries_54, eX9_tries_57, eX9_tries_59, eX9_tries_60, eX9_tries_63, eX9_tries_65, cont_some, tl_some, tl_none, csum_nil, csum_i, csum_r, csum_j, isc2_i, isc2_r, isc2_n, va_rf_s, vfn_ite, true_and, and_true, true_or, or_true, eq_self, Bool.false_eq_true, not_false_eq_true, not_true_eq_false, if_true, if_false, Nat.reduceAdd, Nat.reduceLeDiff, reduceIte, i10', iI_neg]
      exact this
    have no : ¬ neg t → wp mX9_tries 49 [some (.ref o), some (.int (nI j)), some (.int (nI m)), some (.int (iI t.1)), some (.int (iI t.2.1)), some (.int (iI t.2.2)), some (.int (iI (gN t))), none] [] w (fun r1 w1 => r1 = none ∧ w1 = u) := by
      intro hn
      have e : gv t = (gN t : Int) := if_neg hn
      have := fin_ 0
      rw [e] at this
      simp only [eX9_tries_49, eX9_tries_50, eX9_tries_52, eX9_tries_54, eX9_tries_57, eX9_tries_59, eX9_tries_60, eX9_tries_63, eX9_tries_65, cont_some, tl_some, tl_none, csum_nil, csum_i, csum_r, csum_j, isc2_i, isc2_r, isc2_n, va_rf_s, vfn_ite, true_and, and_true, true_or, or_true, eq_self, Bool.false_eq_true, not_false_eq_true, not_true_eq_false, if_true, if_false, Nat.reduceAdd, Nat.reduceLeDiff, reduceIte]
      exact this
    simp only [eX9_tries_22, eX9_tries_23, cont_some, tl_some, tl_none, csum_nil, csum_i, csum_r, csum_j, isc2_i, isc2_r, isc2_n, va_rf_s, vfn_ite, true_and, and_true, true_or, or_true, eq_self, Bool.false_eq_true, not_false_eq_true, not_true_eq_false, if_true, if_false, Nat.reduceAdd, Nat.reduceLeDiff, reduceIte, a1]
    by_cases q1 : t.1 < 0
    · rw [if_pos q1]; exact yes (Or.inl q1)
    · rw [if_neg q1]
      simp only [eX9_tries_26, eX9_tries_27, cont_some, tl_some, tl_none, csum_nil, csum_i, csum_r, csum_j, isc2_i, isc2_r, isc2_n, va_rf_s, vfn_ite, true_and, and_true, true_or, or_true, eq_self, Bool.false_eq_true, not_false_eq_true, not_true_eq_false, if_true, if_false, Nat.reduceAdd, Nat.reduceLeDiff, reduceIte, a4]
      by_cases q2 : t.1 = 0
      · rw [if_pos q2]
        simp only [eX9_tries_30, eX9_tries_32, cont_some, tl_some, tl_none, csum_nil, csum_i, csum_r, csum_j, isc2_i, isc2_r, isc2_n, va_rf_s, vfn_ite, true_and, and_true, true_or, or_true, eq_self, Bool.false_eq_true, not_false_eq_true, not_true_eq_false, if_true, if_false, Nat.reduceAdd, Nat.reduceLeDiff, reduceIte, a2]
        by_cases q3 : t.2.1 < 0
        · rw [if_pos q3]; exact yes (Or.inr ⟨q2, Or.inl q3⟩)
        · rw [if_neg q3]
          simp only [eX9_tries_35, eX9_tries_37, cont_some, tl_some, tl_none, csum_nil, csum_i, csum_r, csum_j, isc2_i, isc2_r, isc2_n, va_rf_s, vfn_ite, true_and, and_true, true_or, or_true, eq_self, Bool.false_eq_true, not_false_eq_true, not_true_eq_false, if_true, if_false, Nat.reduceAdd, Nat.reduceLeDiff, reduceIte, a5]
          by_cases q4 : t.2.1 = 0
          · rw [if_pos q4]
            simp only [eX9_tries_40, eX9_tries_42, cont_some, tl_some, tl_none, csum_nil, csum_i, csum_r, csum_j, isc2_i, isc2_r, isc2_n, va_rf_s, vfn_ite, true_and, and_true, true_or, or_true, eq_self, Bool.false_eq_true, not_false_eq_true, not_true_eq_false, if_true, if_false, Nat.reduceAdd, Nat.reduceLeDiff, reduceIte, a3]
            by_cases q5 : t.2.2 < 0
            · rw [if_pos q5]; exact yes (Or.inr ⟨q2, Or.inr ⟨q4, q5⟩⟩)
            · rw [if_neg q5]; exact no (fun z => by unfold neg at z; omega)
          · rw [if_neg q4]; exact no (fun z => by unfold neg at z; omega)
      · rw [if_neg q2]; exact no (fun z => by unfold neg at z; omega)
