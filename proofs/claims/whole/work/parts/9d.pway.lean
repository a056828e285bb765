/-! way, without: both sides -/
theorem two {x : Int32} (h : 0 ≤ x ∧ x ≤ 1) : x = nI 0 ∨ x = nI 1 := by
  obtain ⟨i, hi, rfl⟩ := nI_of2 (M := 1) (n := 1) (by decide) (Int32.not_lt.mpr h.1) h.2
  have : i = 0 ∨ i = 1 := by omega
  rcases this with rfl | rfl
  · exact Or.inl rfl
  · exact Or.inr rfl
theorem p_way {w w' : Wd} {b o : Nat} {c : Cst} {x k : Int32} (hb : bdS c.1) (hC : CC w b c) (hZ : ZZ w b) (hM : MC w' o c) : ∃ r u u', fX8_way [.ref b, .int x, .int k] w = some (some (.int r), u) ∧ fX9_way [.ref o, .int x, .int k] w' = some (some (.int r), u') ∧ ZZ u b ∧ Fr (b + 53) (b + 125) w u ∧ FrX (Xj o) w' u' := by
  have hc := hC.1
  have hm := hM.1
  by_cases q : 0 ≤ x ∧ x ≤ 3
  · have q0 := q
    obtain ⟨j, hj, rfl⟩ := sh_iff.mp q
    obtain ⟨top, htop⟩ : ∃ top : Nat, top = if j = 3 then 2 else 1 := ⟨_, rfl⟩
    have ht2 : top ≤ 2 := by rw [htop]; split <;> omega
    by_cases qk : 0 ≤ k ∧ k ≤ nI top
    · obtain ⟨v, s1, s2, s3, s4⟩ := c_surv hj hC hZ hb
      obtain ⟨z, hz⟩ : ∃ z, z = b + 53 + 18 * j := ⟨_, rfl⟩
      have hz0 : rdR w (b + 37) j = some z := by rw [hz]; exact (hZ.2 j hj).1
      rw [← hz] at s1 s2
      have m16 : 16 ∈ [14, 15, 16, 17] := by decide
      obtain ⟨n, hn⟩ : ∃ n, n = c.1.1 := ⟨_, rfl⟩
      obtain ⟨C, hCd⟩ : ∃ C, C = cN c.1.1 c.1.2.1 := ⟨_, rfl⟩
      have hbC : bdC n C := by rw [hn, hCd]; exact cN_bd hb
      have hMB : MB w' o n C := by rw [hn, hCd]; exact hM.mb.cn
      rw [← hCd, ← hn] at s2
      have hzs : shp w z = (7, 0) := by
        obtain ⟨-, n', C', g⟩ := hZ.2 j hj
        rw [hz]; exact g.1.1
      obtain ⟨so, hso⟩ : ∃ so, so = sfo (wdP n C) (cdP j (LN n C)) := ⟨_, rfl⟩
      have cbeg : ∀ {Q : Option Value → Wd → Prop}, wp mX8_way 42 [some (.ref b), some (.int (nI j)), some (.int k), some (.ref z)] [] v Q → wp mX8_way 0 [some (.ref b), some (.int (nI j)), some (.int k), none] [] w Q := by
        intro Q hQ
        simp only [eX8_way_0, eX8_way_1, eX8_way_4, eX8_way_7, eX8_way_8, eX8_way_9, eX8_way_10, eX8_way_11, cont_some, tl_some, tl_none, csum_nil, csum_i, csum_r, csum_j, isc2_i, isc2_r, isc2_n, va_rf_s, vfn_ite, true_and, and_true, true_or, or_true, eq_self, Bool.false_eq_true, not_false_eq_true, not_true_eq_false, if_true, if_false, Nat.reduceAdd, Nat.reduceLeDiff, reduceIte, s_isJudge, b2i_0, q0, and_self]
        by_cases q3 : j = 3
        · rw [if_pos q3] at htop
          have e3 : nI j = 3 := by rw [q3]; rfl
          have qk' : 0 ≤ k ∧ k ≤ 2 := by rw [htop] at qk; exact qk
          have e3' : (nI j = 3) = True := eq_true e3
          simp only [eX8_way_14, eX8_way_15, eX8_way_18, eX8_way_19, eX8_way_22, eX8_way_25, eX8_way_26, eX8_way_27, eX8_way_28, eX8_way_31, eX8_way_32, eX8_way_33, eX8_way_34, eX8_way_35, eX8_way_36, eX8_way_39, cont_some, tl_some, tl_none, csum_nil, csum_i, csum_r, csum_j, isc2_i, isc2_r, isc2_n, va_rf_s, vfn_ite, true_and, and_true, true_or, or_true, eq_self, Bool.false_eq_true, not_false_eq_true, not_true_eq_false, if_true, if_false, Nat.reduceAdd, Nat.reduceLeDiff, reduceIte, e3', s_isIn, b2i_0, qk', and_self, hc.1, hc.2.1, hc.2.2.1, hc.2.2.2.1, hc.2.2.2.2.1, hc.2.2.2.2.2.1, hc.2.2.2.2.2.2.1, hc.2.2.2.2.2.2.2.1, hc.2.2.2.2.2.2.2.2.1, hc.2.2.2.2.2.2.2.2.2.1, hc.2.2.2.2.2.2.2.2.2.2, hZ.1, m16, inA_nI hj (show 4 < 2147483648 by omega), nI_clamp (show j < 2 ^ 31 by omega), hz0, hzs, s1]
          exact hQ
        · rw [if_neg q3] at htop
          have e3' : (nI j = 3) = False := eq_false (fun y => q3 ((nI_eq (b := 3) (by omega) (by omega)).mp y))
          have qk' : 0 ≤ k ∧ k ≤ 1 := by rw [htop] at qk; exact qk
          simp only [eX8_way_14, eX8_way_15, eX8_way_18, eX8_way_19, eX8_way_22, eX8_way_25, eX8_way_26, eX8_way_27, eX8_way_28, eX8_way_31, eX8_way_32, eX8_way_33, eX8_way_34, eX8_way_35, eX8_way_36, eX8_way_39, cont_some, tl_some, tl_none, csum_nil, csum_i, csum_r, csum_j, isc2_i, isc2_r, isc2_n, va_rf_s, vfn_ite, true_and, and_true, true_or, or_true, eq_self, Bool.false_eq_true, not_false_eq_true, not_true_eq_false, if_true, if_false, Nat.reduceAdd, Nat.reduceLeDiff, reduceIte, e3', s_isIn, b2i_0, qk', and_self, hc.1, hc.2.1, hc.2.2.1, hc.2.2.2.1, hc.2.2.2.2.1, hc.2.2.2.2.2.1, hc.2.2.2.2.2.2.1, hc.2.2.2.2.2.2.2.1, hc.2.2.2.2.2.2.2.2.1, hc.2.2.2.2.2.2.2.2.2.1, hc.2.2.2.2.2.2.2.2.2.2, hZ.1, m16, inA_nI hj (show 4 < 2147483648 by omega), nI_clamp (show j < 2 ^ 31 by omega), hz0, hzs, s1]
          exact hQ
      have zsv : shp v z = (7, 0) := s2.1.1
      obtain ⟨u1, m1, -, -, m4, m5, m6, m7⟩ := m_all hMB hbC hj
      have hMu := hMB.frX m7
      have hmu := hMu.1
      have mbeg : ∀ {Q : Option Value → Wd → Prop}, wp mX9_way 44 [some (.ref o), some (.int (nI j)), some (.int k)] [] u1 Q → wp mX9_way 0 [some (.ref o), some (.int (nI j)), some (.int k)] [] w' Q := by
        intro Q hQ
        simp only [eX9_way_0, eX9_way_1, eX9_way_2, eX9_way_3, eX9_way_6, eX9_way_9, eX9_way_12, eX9_way_13, eX9_way_14, eX9_way_15, eX9_way_16, eX9_way_17, cont_some, tl_some, tl_none, csum_nil, csum_i, csum_r, csum_j, isc2_i, isc2_r, isc2_n, va_rf_s, vfn_ite, true_and, and_true, true_or, or_true, eq_self, Bool.false_eq_true, not_false_eq_true, not_true_eq_false, if_true, if_false, Nat.reduceAdd, Nat.reduceLeDiff, reduceIte, in03, b2i_0, q0, and_self]
        by_cases q3 : j = 3
        · rw [if_pos q3] at htop
          have e3' : (nI j = 3) = True := eq_true (by rw [q3]; rfl)
          have qk' : 0 ≤ k ∧ k ≤ 2 := by rw [htop] at qk; exact qk
          simp only [eX9_way_20, eX9_way_23, eX9_way_26, eX9_way_27, eX9_way_30, eX9_way_33, eX9_way_34, eX9_way_35, eX9_way_36, eX9_way_37, eX9_way_38, eX9_way_41, cont_some, tl_some, tl_none, csum_nil, csum_i, csum_r, csum_j, isc2_i, isc2_r, isc2_n, va_rf_s, vfn_ite, true_and, and_true, true_or, or_true, eq_self, Bool.false_eq_true, not_false_eq_true, not_true_eq_false, if_true, if_false, Nat.reduceAdd, Nat.reduceLeDiff, reduceIte, e3', in02, b2i_0, qk', and_self, hm.1, hm.2.1, hm.2.2.1, hm.2.2.2.1, hm.2.2.2.2.1, hm.2.2.2.2.2.1, hm.2.2.2.2.2.2.1, hm.2.2.2.2.2.2.2.1, hm.2.2.2.2.2.2.2.2.1, hm.2.2.2.2.2.2.2.2.2.1, hm.2.2.2.2.2.2.2.2.2.2.1, hm.2.2.2.2.2.2.2.2.2.2.2.1, hm.2.2.2.2.2.2.2.2.2.2.2.2.1, hm.2.2.2.2.2.2.2.2.2.2.2.2.2.1, hm.2.2.2.2.2.2.2.2.2.2.2.2.2.2.1, hm.2.2.2.2.2.2.2.2.2.2.2.2.2.2.2.1, hm.2.2.2.2.2.2.2.2.2.2.2.2.2.2.2.2.1, hm.2.2.2.2.2.2.2.2.2.2.2.2.2.2.2.2.2.1, hm.2.2.2.2.2.2.2.2.2.2.2.2.2.2.2.2.2.2.1, hm.2.2.2.2.2.2.2.2.2.2.2.2.2.2.2.2.2.2.2.1, hm.2.2.2.2.2.2.2.2.2.2.2.2.2.2.2.2.2.2.2.2.1, hm.2.2.2.2.2.2.2.2.2.2.2.2.2.2.2.2.2.2.2.2.2.1, hm.2.2.2.2.2.2.2.2.2.2.2.2.2.2.2.2.2.2.2.2.2.2.1, hm.2.2.2.2.2.2.2.2.2.2.2.2.2.2.2.2.2.2.2.2.2.2.2.1, hm.2.2.2.2.2.2.2.2.2.2.2.2.2.2.2.2.2.2.2.2.2.2.2.2, m_every hMB, m1]
          exact hQ
        · rw [if_neg q3] at htop
          have e3' : (nI j = 3) = False := eq_false (fun y => q3 ((nI_eq (b := 3) (by omega) (by omega)).mp y))
          have qk' : 0 ≤ k ∧ k ≤ 1 := by rw [htop] at qk; exact qk
          simp only [eX9_way_20, eX9_way_23, eX9_way_26, eX9_way_27, eX9_way_30, eX9_way_33, eX9_way_34, eX9_way_35, eX9_way_36, eX9_way_37, eX9_way_38, eX9_way_41, cont_some, tl_some, tl_none, csum_nil, csum_i, csum_r, csum_j, isc2_i, isc2_r, isc2_n, va_rf_s, vfn_ite, true_and, and_true, true_or, or_true, eq_self, Bool.false_eq_true, not_false_eq_true, not_true_eq_false, if_true, if_false, Nat.reduceAdd, Nat.reduceLeDiff, reduceIte, e3', in01, b2i_0, qk', and_self, hm.1, hm.2.1, hm.2.2.1, hm.2.2.2.1, hm.2.2.2.2.1, hm.2.2.2.2.2.1, hm.2.2.2.2.2.2.1, hm.2.2.2.2.2.2.2.1, hm.2.2.2.2.2.2.2.2.1, hm.2.2.2.2.2.2.2.2.2.1, hm.2.2.2.2.2.2.2.2.2.2.1, hm.2.2.2.2.2.2.2.2.2.2.2.1, hm.2.2.2.2.2.2.2.2.2.2.2.2.1, hm.2.2.2.2.2.2.2.2.2.2.2.2.2.1, hm.2.2.2.2.2.2.2.2.2.2.2.2.2.2.1, hm.2.2.2.2.2.2.2.2.2.2.2.2.2.2.2.1, hm.2.2.2.2.2.2.2.2.2.2.2.2.2.2.2.2.1, hm.2.2.2.2.2.2.2.2.2.2.2.2.2.2.2.2.2.1, hm.2.2.2.2.2.2.2.2.2.2.2.2.2.2.2.2.2.2.1, hm.2.2.2.2.2.2.2.2.2.2.2.2.2.2.2.2.2.2.2.1, hm.2.2.2.2.2.2.2.2.2.2.2.2.2.2.2.2.2.2.2.2.1, hm.2.2.2.2.2.2.2.2.2.2.2.2.2.2.2.2.2.2.2.2.2.1, hm.2.2.2.2.2.2.2.2.2.2.2.2.2.2.2.2.2.2.2.2.2.2.1, hm.2.2.2.2.2.2.2.2.2.2.2.2.2.2.2.2.2.2.2.2.2.2.2.1, hm.2.2.2.2.2.2.2.2.2.2.2.2.2.2.2.2.2.2.2.2.2.2.2.2, m_every hMB, m1]
          exact hQ
      have hB := s2.2.2.2.2.2.1
      rw [← hso] at m4 hB
      obtain ⟨i, hi, hki⟩ : ∃ i, i ≤ top ∧ k = nI i := nI_of2 (M := nI top) (n := top) (nI_toInt (by omega)) (Int32.not_lt.mpr qk.1) qk.2
      subst hki
      cases es : so with
      | none =>
        rw [es] at m4 hB
        have h5 : rdI v z 5 = 0 := hB
        have h11 : rdI u1 o 11 = 0 := m4.2.2
        refine ⟨-4, v, u1, ?_, ?_, s3, s4, m7⟩
        · refine sem_eq (Nat.le_of_ble_eq_true rfl) ?_
          show wp mX8_way 0 [some (.ref b), some (.int (nI j)), some (.int (nI i)), none] [] _ _
          refine cbeg ?_
          simp only [eX8_way_42, eX8_way_43, eX8_way_46, eX8_way_49, eX8_way_51, cont_some, tl_some, tl_none, csum_nil, csum_i, csum_r, csum_j, isc2_i, isc2_r, isc2_n, va_rf_s, vfn_ite, true_and, and_true, true_or, or_true, eq_self, Bool.false_eq_true, not_false_eq_true, not_true_eq_false, if_true, if_false, Nat.reduceAdd, Nat.reduceLeDiff, reduceIte, zsv, h5]
        · refine sem_eq (Nat.le_of_ble_eq_true rfl) ?_
          show wp mX9_way 0 [some (.ref o), some (.int (nI j)), some (.int (nI i))] [] _ _
          refine mbeg ?_
          simp only [eX9_way_44, eX9_way_45, eX9_way_48, eX9_way_51, eX9_way_53, eX9_way_87, cont_some, tl_some, tl_none, csum_nil, csum_i, csum_r, csum_j, isc2_i, isc2_r, isc2_n, va_rf_s, vfn_ite, true_and, and_true, true_or, or_true, eq_self, Bool.false_eq_true, not_false_eq_true, not_true_eq_false, if_true, if_false, Nat.reduceAdd, Nat.reduceLeDiff, reduceIte, hmu.1, hmu.2.1, hmu.2.2.1, hmu.2.2.2.1, hmu.2.2.2.2.1, hmu.2.2.2.2.2.1, hmu.2.2.2.2.2.2.1, hmu.2.2.2.2.2.2.2.1, hmu.2.2.2.2.2.2.2.2.1, hmu.2.2.2.2.2.2.2.2.2.1, hmu.2.2.2.2.2.2.2.2.2.2.1, hmu.2.2.2.2.2.2.2.2.2.2.2.1, hmu.2.2.2.2.2.2.2.2.2.2.2.2.1, hmu.2.2.2.2.2.2.2.2.2.2.2.2.2.1, hmu.2.2.2.2.2.2.2.2.2.2.2.2.2.2.1, hmu.2.2.2.2.2.2.2.2.2.2.2.2.2.2.2.1, hmu.2.2.2.2.2.2.2.2.2.2.2.2.2.2.2.2.1, hmu.2.2.2.2.2.2.2.2.2.2.2.2.2.2.2.2.2.1, hmu.2.2.2.2.2.2.2.2.2.2.2.2.2.2.2.2.2.2.1, hmu.2.2.2.2.2.2.2.2.2.2.2.2.2.2.2.2.2.2.2.1, hmu.2.2.2.2.2.2.2.2.2.2.2.2.2.2.2.2.2.2.2.2.1, hmu.2.2.2.2.2.2.2.2.2.2.2.2.2.2.2.2.2.2.2.2.2.1, hmu.2.2.2.2.2.2.2.2.2.2.2.2.2.2.2.2.2.2.2.2.2.2.1, hmu.2.2.2.2.2.2.2.2.2.2.2.2.2.2.2.2.2.2.2.2.2.2.2.1, hmu.2.2.2.2.2.2.2.2.2.2.2.2.2.2.2.2.2.2.2.2.2.2.2.2, h11]
      | some e =>
        rw [es] at m4 hB
        have h5 : rdI v z 5 = 1 := hB.1
        obtain ⟨-, -, g1, g2, g3, g4⟩ := m4
        have hik : i < 2 ∨ (i = 2 ∧ j = 3) := by
          by_cases q3 : j = 3
          · rw [if_pos q3] at htop; omega
          · rw [if_neg q3] at htop; omega
        have hnum := s_znum (k := i) s2.1 s2.2.1 hj hB.2 hik
        refine ⟨iI (numA j (some e) i) + 2000, v, u1, ?_, ?_, s3, s4, m7⟩
        · refine sem_eq (Nat.le_of_ble_eq_true rfl) ?_
          show wp mX8_way 0 [some (.ref b), some (.int (nI j)), some (.int (nI i)), none] [] _ _
          refine cbeg ?_
          simp only [eX8_way_42, eX8_way_43, eX8_way_46, eX8_way_49, eX8_way_51, eX8_way_52, eX8_way_53, eX8_way_54, eX8_way_57, eX8_way_60, eX8_way_61, cont_some, tl_some, tl_none, csum_nil, csum_i, csum_r, csum_j, isc2_i, isc2_r, isc2_n, va_rf_s, vfn_ite, true_and, and_true, true_or, or_true, eq_self, Bool.false_eq_true, not_false_eq_true, not_true_eq_false, if_true, if_false, Nat.reduceAdd, Nat.reduceLeDiff, reduceIte, zsv, h5, i10', hnum]
        · refine sem_eq (Nat.le_of_ble_eq_true rfl) ?_
          show wp mX9_way 0 [some (.ref o), some (.int (nI j)), some (.int (nI i))] [] _ _
          refine mbeg ?_
          have comm : ∀ x : Int32, (2000 : Int32) + x = x + 2000 := fun x => Int32.add_comm _ _
          have hi3 : i = 0 ∨ i = 1 ∨ i = 2 := by omega
          rcases hi3 with rfl | rfl | rfl
          · simp only [eX9_way_44, eX9_way_45, eX9_way_48, eX9_way_51, eX9_way_53, eX9_way_56, eX9_way_59, eX9_way_60, eX9_way_63, eX9_way_64, eX9_way_67, eX9_way_70, eX9_way_71, eX9_way_72, eX9_way_75, eX9_way_76, eX9_way_79, eX9_way_82, eX9_way_83, eX9_way_86, eX9_way_87, cont_some, tl_some, tl_none, csum_nil, csum_i, csum_r, csum_j, isc2_i, isc2_r, isc2_n, va_rf_s, vfn_ite, true_and, and_true, true_or, or_true, eq_self, Bool.false_eq_true, not_false_eq_true, not_true_eq_false, if_true, if_false, Nat.reduceAdd, Nat.reduceLeDiff, reduceIte, hmu.1, hmu.2.1, hmu.2.2.1, hmu.2.2.2.1, hmu.2.2.2.2.1, hmu.2.2.2.2.2.1, hmu.2.2.2.2.2.2.1, hmu.2.2.2.2.2.2.2.1, hmu.2.2.2.2.2.2.2.2.1, hmu.2.2.2.2.2.2.2.2.2.1, hmu.2.2.2.2.2.2.2.2.2.2.1, hmu.2.2.2.2.2.2.2.2.2.2.2.1, hmu.2.2.2.2.2.2.2.2.2.2.2.2.1, hmu.2.2.2.2.2.2.2.2.2.2.2.2.2.1, hmu.2.2.2.2.2.2.2.2.2.2.2.2.2.2.1, hmu.2.2.2.2.2.2.2.2.2.2.2.2.2.2.2.1, hmu.2.2.2.2.2.2.2.2.2.2.2.2.2.2.2.2.1, hmu.2.2.2.2.2.2.2.2.2.2.2.2.2.2.2.2.2.1, hmu.2.2.2.2.2.2.2.2.2.2.2.2.2.2.2.2.2.2.1, hmu.2.2.2.2.2.2.2.2.2.2.2.2.2.2.2.2.2.2.2.1, hmu.2.2.2.2.2.2.2.2.2.2.2.2.2.2.2.2.2.2.2.2.1, hmu.2.2.2.2.2.2.2.2.2.2.2.2.2.2.2.2.2.2.2.2.2.1, hmu.2.2.2.2.2.2.2.2.2.2.2.2.2.2.2.2.2.2.2.2.2.2.1, hmu.2.2.2.2.2.2.2.2.2.2.2.2.2.2.2.2.2.2.2.2.2.2.2.1, hmu.2.2.2.2.2.2.2.2.2.2.2.2.2.2.2.2.2.2.2.2.2.2.2.2, g1, i10', nI0, g2, comm]; rfl
          · simp only [eX9_way_44, eX9_way_45, eX9_way_48, eX9_way_51, eX9_way_53, eX9_way_56, eX9_way_59, eX9_way_60, eX9_way_63, eX9_way_64, eX9_way_67, eX9_way_70, eX9_way_71, eX9_way_72, eX9_way_75, eX9_way_76, eX9_way_79, eX9_way_82, eX9_way_83, eX9_way_86, eX9_way_87, cont_some, tl_some, tl_none, csum_nil, csum_i, csum_r, csum_j, isc2_i, isc2_r, isc2_n, va_rf_s, vfn_ite, true_and, and_true, true_or, or_true, eq_self, Bool.false_eq_true, not_false_eq_true, not_true_eq_false, if_true, if_false, Nat.reduceAdd, Nat.reduceLeDiff, reduceIte, hmu.1, hmu.2.1, hmu.2.2.1, hmu.2.2.2.1, hmu.2.2.2.2.1, hmu.2.2.2.2.2.1, hmu.2.2.2.2.2.2.1, hmu.2.2.2.2.2.2.2.1, hmu.2.2.2.2.2.2.2.2.1, hmu.2.2.2.2.2.2.2.2.2.1, hmu.2.2.2.2.2.2.2.2.2.2.1, hmu.2.2.2.2.2.2.2.2.2.2.2.1, hmu.2.2.2.2.2.2.2.2.2.2.2.2.1, hmu.2.2.2.2.2.2.2.2.2.2.2.2.2.1, hmu.2.2.2.2.2.2.2.2.2.2.2.2.2.2.1, hmu.2.2.2.2.2.2.2.2.2.2.2.2.2.2.2.1, hmu.2.2.2.2.2.2.2.2.2.2.2.2.2.2.2.2.1, hmu.2.2.2.2.2.2.2.2.2.2.2.2.2.2.2.2.2.1, hmu.2.2.2.2.2.2.2.2.2.2.2.2.2.2.2.2.2.2.1, hmu.2.2.2.2.2.2.2.2.2.2.2.2.2.2.2.2.2.2.2.1, hmu.2.2.2.2.2.2.2.2.2.2.2.2.2.2.2.2.2.2.2.2.1, hmu.2.2.2.2.2.2.2.2.2.2.2.2.2.2.2.2.2.2.2.2.2.1, hmu.2.2.2.2.2.2.2.2.2.2.2.2.2.2.2.2.2.2.2.2.2.2.1, hmu.2.2.2.2.2.2.2.2.2.2.2.2.2.2.2.2.2.2.2.2.2.2.2.1, hmu.2.2.2.2.2.2.2.2.2.2.2.2.2.2.2.2.2.2.2.2.2.2.2.2, g1, i10', nI1, g3, comm]; rfl
          · simp only [eX9_way_44, eX9_way_45, eX9_way_48, eX9_way_51, eX9_way_53, eX9_way_56, eX9_way_59, eX9_way_60, eX9_way_63, eX9_way_64, eX9_way_67, eX9_way_70, eX9_way_71, eX9_way_72, eX9_way_75, eX9_way_76, eX9_way_79, eX9_way_82, eX9_way_83, eX9_way_86, eX9_way_87, cont_some, tl_some, tl_none, csum_nil, csum_i, csum_r, csum_j, isc2_i, isc2_r, isc2_n, va_rf_s, vfn_ite, true_and, and_true, true_or, or_true, eq_self, Bool.false_eq_true, not_false_eq_true, not_true_eq_false, if_true, if_false, Nat.reduceAdd, Nat.reduceLeDiff, reduceIte, hmu.1, hmu.2.1, hmu.2.2.1, hmu.2.2.2.1, hmu.2.2.2.2.1, hmu.2.2.2.2.2.1, hmu.2.2.2.2.2.2.1, hmu.2.2.2.2.2.2.2.1, hmu.2.2.2.2.2.2.2.2.1, hmu.2.2.2.2.2.2.2.2.2.1, hmu.2.2.2.2.2.2.2.2.2.2.1, hmu.2.2.2.2.2.2.2.2.2.2.2.1, hmu.2.2.2.2.2.2.2.2.2.2.2.2.1, hmu.2.2.2.2.2.2.2.2.2.2.2.2.2.1, hmu.2.2.2.2.2.2.2.2.2.2.2.2.2.2.1, hmu.2.2.2.2.2.2.2.2.2.2.2.2.2.2.2.1, hmu.2.2.2.2.2.2.2.2.2.2.2.2.2.2.2.2.1, hmu.2.2.2.2.2.2.2.2.2.2.2.2.2.2.2.2.2.1, hmu.2.2.2.2.2.2.2.2.2.2.2.2.2.2.2.2.2.2.1, hmu.2.2.2.2.2.2.2.2.2.2.2.2.2.2.2.2.2.2.2.1, hmu.2.2.2.2.2.2.2.2.2.2.2.2.2.2.2.2.2.2.2.2.1, hmu.2.2.2.2.2.2.2.2.2.2.2.2.2.2.2.2.2.2.2.2.2.1, hmu.2.2.2.2.2.2.2.2.2.2.2.2.2.2.2.2.2.2.2.2.2.2.1, hmu.2.2.2.2.2.2.2.2.2.2.2.2.2.2.2.2.2.2.2.2.2.2.2.1, hmu.2.2.2.2.2.2.2.2.2.2.2.2.2.2.2.2.2.2.2.2.2.2.2.2, g1, i10', nI2, i20, i21, g4, comm]; rfl
    · refine ⟨-1, w, w', ?_, ?_, hZ, Fr.rf, FrX.rf⟩
      · refine sem_eq (Nat.le_of_ble_eq_true rfl) ?_
        show wp mX8_way 0 [some (.ref b), some (.int (nI j)), some (.int k), none] [] _ _
        simp only [eX8_way_0, eX8_way_1, eX8_way_4, eX8_way_7, eX8_way_8, eX8_way_9, eX8_way_10, eX8_way_11, cont_some, tl_some, tl_none, csum_nil, csum_i, csum_r, csum_j, isc2_i, isc2_r, isc2_n, va_rf_s, vfn_ite, true_and, and_true, true_or, or_true, eq_self, Bool.false_eq_true, not_false_eq_true, not_true_eq_false, if_true, if_false, Nat.reduceAdd, Nat.reduceLeDiff, reduceIte, s_isJudge, b2i_0, q0, and_self]
        by_cases q3 : j = 3
        · rw [if_pos q3] at htop
          have e3' : (nI j = 3) = True := eq_true (by rw [q3]; rfl)
          have qk' : ¬ (0 ≤ k ∧ k ≤ 2) := by rw [htop] at qk; exact qk
          simp only [eX8_way_14, eX8_way_15, eX8_way_18, eX8_way_19, eX8_way_22, eX8_way_25, eX8_way_26, cont_some, tl_some, tl_none, csum_nil, csum_i, csum_r, csum_j, isc2_i, isc2_r, isc2_n, va_rf_s, vfn_ite, true_and, and_true, true_or, or_true, eq_self, Bool.false_eq_true, not_false_eq_true, not_true_eq_false, if_true, if_false, Nat.reduceAdd, Nat.reduceLeDiff, reduceIte, e3', s_isIn, b2i_0, qk']
        · rw [if_neg q3] at htop
          have e3' : (nI j = 3) = False := eq_false (fun y => q3 ((nI_eq (b := 3) (by omega) (by omega)).mp y))
          have qk' : ¬ (0 ≤ k ∧ k ≤ 1) := by rw [htop] at qk; exact qk
          simp only [eX8_way_14, eX8_way_15, eX8_way_18, eX8_way_19, eX8_way_22, eX8_way_25, eX8_way_26, cont_some, tl_some, tl_none, csum_nil, csum_i, csum_r, csum_j, isc2_i, isc2_r, isc2_n, va_rf_s, vfn_ite, true_and, and_true, true_or, or_true, eq_self, Bool.false_eq_true, not_false_eq_true, not_true_eq_false, if_true, if_false, Nat.reduceAdd, Nat.reduceLeDiff, reduceIte, e3', s_isIn, b2i_0, qk']
      · refine sem_eq (Nat.le_of_ble_eq_true rfl) ?_
        show wp mX9_way 0 [some (.ref o), some (.int (nI j)), some (.int k)] [] _ _
        simp only [eX9_way_0, eX9_way_1, eX9_way_2, eX9_way_3, eX9_way_6, eX9_way_9, eX9_way_12, eX9_way_13, eX9_way_14, eX9_way_15, eX9_way_16, eX9_way_17, cont_some, tl_some, tl_none, csum_nil, csum_i, csum_r, csum_j, isc2_i, isc2_r, isc2_n, va_rf_s, vfn_ite, true_and, and_true, true_or, or_true, eq_self, Bool.false_eq_true, not_false_eq_true, not_true_eq_false, if_true, if_false, Nat.reduceAdd, Nat.reduceLeDiff, reduceIte, in03, b2i_0, q0, and_self]
        by_cases q3 : j = 3
        · rw [if_pos q3] at htop
          have e3' : (nI j = 3) = True := eq_true (by rw [q3]; rfl)
          have qk' : ¬ (0 ≤ k ∧ k ≤ 2) := by rw [htop] at qk; exact qk
          simp only [eX9_way_20, eX9_way_23, eX9_way_26, eX9_way_27, eX9_way_30, eX9_way_33, eX9_way_34, cont_some, tl_some, tl_none, csum_nil, csum_i, csum_r, csum_j, isc2_i, isc2_r, isc2_n, va_rf_s, vfn_ite, true_and, and_true, true_or, or_true, eq_self, Bool.false_eq_true, not_false_eq_true, not_true_eq_false, if_true, if_false, Nat.reduceAdd, Nat.reduceLeDiff, reduceIte, e3', in02, b2i_0, qk']
        · rw [if_neg q3] at htop
          have e3' : (nI j = 3) = False := eq_false (fun y => q3 ((nI_eq (b := 3) (by omega) (by omega)).mp y))
          have qk' : ¬ (0 ≤ k ∧ k ≤ 1) := by rw [htop] at qk; exact qk
          simp only [eX9_way_20, eX9_way_23, eX9_way_26, eX9_way_27, eX9_way_30, eX9_way_33, eX9_way_34, cont_some, tl_some, tl_none, csum_nil, csum_i, csum_r, csum_j, isc2_i, isc2_r, isc2_n, va_rf_s, vfn_ite, true_and, and_true, true_or, or_true, eq_self, Bool.false_eq_true, not_false_eq_true, not_true_eq_false, if_true, if_false, Nat.reduceAdd, Nat.reduceLeDiff, reduceIte, e3', in01, b2i_0, qk']
  · refine ⟨-1, w, w', ?_, ?_, hZ, Fr.rf, FrX.rf⟩
    · refine sem_eq (Nat.le_of_ble_eq_true rfl) ?_
      show wp mX8_way 0 [some (.ref b), some (.int x), some (.int k), none] [] _ _
      simp only [eX8_way_0, eX8_way_1, eX8_way_4, eX8_way_7, eX8_way_8, eX8_way_9, eX8_way_10, eX8_way_11, eX8_way_14, eX8_way_15, eX8_way_18, eX8_way_19, eX8_way_22, eX8_way_25, eX8_way_26, cont_some, tl_some, tl_none, csum_nil, csum_i, csum_r, csum_j, isc2_i, isc2_r, isc2_n, va_rf_s, vfn_ite, true_and, and_true, true_or, or_true, eq_self, Bool.false_eq_true, not_false_eq_true, not_true_eq_false, if_true, if_false, Nat.reduceAdd, Nat.reduceLeDiff, reduceIte, s_isJudge, b2i_0, q]
    · refine sem_eq (Nat.le_of_ble_eq_true rfl) ?_
      show wp mX9_way 0 [some (.ref o), some (.int x), some (.int k)] [] _ _
      simp only [eX9_way_0, eX9_way_1, eX9_way_2, eX9_way_3, eX9_way_6, eX9_way_9, eX9_way_12, eX9_way_13, eX9_way_14, eX9_way_15, eX9_way_16, eX9_way_17, eX9_way_20, eX9_way_23, eX9_way_26, eX9_way_27, eX9_way_30, eX9_way_33, eX9_way_34, cont_some, tl_some, tl_none, csum_nil, csum_i, csum_r, csum_j, isc2_i, isc2_r, isc2_n, va_rf_s, vfn_ite, true_and, and_true, true_or, or_true, eq_self, Bool.false_eq_true, not_false_eq_true, not_true_eq_false, if_true, if_false, Nat.reduceAdd, Nat.reduceLeDiff, reduceIte, in03, b2i_0, q]
theorem p_without {w w' : Wd} {b o : Nat} {c : Cst} {x k y : Int32} (hb : bdS c.1) (hC : CC w b c) (hZ : ZZ w b) (hM : MC w' o c) : ∃ r u u', fX8_without [.ref b, .int x, .int k, .int y] w = some (some (.long r), u) ∧ fX9_without [.ref o, .int x, .int k, .int y] w' = some (some (.long r), u') ∧ ZZ u b ∧ Fr (b + 53) (b + 125) w u ∧ FrX (Xj o) w' u' := by
  have hc := hC.1
  have hm := hM.1
  have hcp := s_clPoint (k := k) hc hC.2.1.1 hC.2.1.2.1
  have hmp := s_mdPoint (k := k) hm hM.2.1.1
  by_cases q : 0 ≤ x ∧ x ≤ 3
  · by_cases qk : 0 ≤ k ∧ k ≤ nI c.1.1 - 1
    · by_cases qy : 0 ≤ y ∧ y ≤ 1
      · have q0 := q
        have qk0 := qk
        obtain ⟨j, hj, rfl⟩ := sh_iff.mp q
        obtain ⟨v, s1, s2, s3, s4⟩ := c_surv hj hC hZ hb
        obtain ⟨z, hz⟩ : ∃ z, z = b + 53 + 18 * j := ⟨_, rfl⟩
        have hz0 : rdR w (b + 37) j = some z := by rw [hz]; exact (hZ.2 j hj).1
        rw [← hz] at s1 s2
        have m16 : 16 ∈ [14, 15, 16, 17] := by decide
        have m14 : 14 ∈ [14, 15, 16, 17] := by decide
        obtain ⟨n, hn⟩ : ∃ n, n = c.1.1 := ⟨_, rfl⟩
        obtain ⟨C, hCd⟩ : ∃ C, C = cN c.1.1 c.1.2.1 := ⟨_, rfl⟩
        have hbC : bdC n C := by rw [hn, hCd]; exact cN_bd hb
        have hMB : MB w' o n C := by rw [hn, hCd]; exact hM.mb.cn
        rw [← hCd, ← hn] at s2
        rw [← hn] at qk qk0 hcp hmp
        have h10 := hMB.2.2.1
        have hp := pw_lt h10
        obtain ⟨i, hi, rfl⟩ : ∃ i, i < n ∧ k = nI i := by
          have k1 := Int32.le_iff_toInt_le.mp qk.1
          have k2 := Int32.le_iff_toInt_le.mp qk.2
          have e1 : (nI n - 1).toInt = (n : Int) - 1 := by
            rw [nI_iI, show (1 : Int32) = iI 1 from rfl, iI_sub, iI_toInt ⟨by omega, by omega⟩]
          have e0 : (0 : Int32).toInt = 0 := by decide
          refine ⟨k.toInt.toNat, by omega, ?_⟩
          rw [nI_iI, show ((k.toInt.toNat : Nat) : Int) = k.toInt by omega]
          exact (Int32.ofInt_toInt k).symm
        have hzs : shp w z = (7, 0) := by
          obtain ⟨-, n', C', g⟩ := hZ.2 j hj
          rw [hz]; exact g.1.1
        obtain ⟨ww, g1, g2⟩ := s2.2.2.2.2.2.2.2.2
        have hwo := wo_eq hj h10 hbC hi g2
        have hfr := g1 i (by omega)
        obtain ⟨z1, z2⟩ := s2.1.2.2.2.2.2.2.2.2.2.2.2.2.2.2.2 i (by omega)
        have hmn : ∀ i', i' < 10 → bt (2 ^ n - 1 - 2 ^ i) i' → i' < n := fun i' hi' hb' => ((btW n h10 i hi i' hi').mp hb').1
        obtain ⟨u', m1, m2, m3⟩ := m_judges hMB hbC hj (show 2 ^ n - 1 - 2 ^ i < 2 ^ 31 from Nat.lt_of_le_of_lt (Nat.sub_le _ _) (Nat.lt_of_le_of_lt (Nat.sub_le _ _) (by omega))) hmn
        have hmu := m3.md hm
        refine ⟨lN (if y = 0 then (ww i).1 else (ww i).2), v, u', ?_, ?_, s3, s4, m3⟩
        · refine sem_eq (Nat.le_of_ble_eq_true rfl) ?_
          show wp mX8_without 0 [some (.ref b), some (.int (nI j)), some (.int (nI i)), some (.int y), none] [] _ _
          simp only [eX8_without_0, eX8_without_1, eX8_without_4, eX8_without_7, eX8_without_8, eX8_without_9, eX8_without_12, eX8_without_15, eX8_without_16, eX8_without_17, eX8_without_18, eX8_without_21, eX8_without_24, eX8_without_27, eX8_without_28, eX8_without_29, eX8_without_32, eX8_without_33, eX8_without_34, eX8_without_36, eX8_without_38, eX8_without_39, eX8_without_42, cont_some, tl_some, tl_none, csum_nil, csum_i, csum_r, csum_j, isc2_i, isc2_r, isc2_n, va_rf_s, vfn_ite, true_and, and_true, true_or, or_true, eq_self, Bool.false_eq_true, not_false_eq_true, not_true_eq_false, if_true, if_false, Nat.reduceAdd, Nat.reduceLeDiff, reduceIte, s_isJudge, s_isIn, b2i_0, q0, qy, qk0, hcp, and_self, hc.1, hc.2.1, hc.2.2.1, hc.2.2.2.1, hc.2.2.2.2.1, hc.2.2.2.2.2.1, hc.2.2.2.2.2.2.1, hc.2.2.2.2.2.2.2.1, hc.2.2.2.2.2.2.2.2.1, hc.2.2.2.2.2.2.2.2.2.1, hc.2.2.2.2.2.2.2.2.2.2, hZ.1, m16, inA_nI hj (show 4 < 2147483648 by omega), nI_clamp (show j < 2 ^ 31 by omega), hz0, hzs, s1]
          simp only [eX8_without_45, eX8_without_47, eX8_without_50, eX8_without_51, eX8_without_52, eX8_without_53, eX8_without_56, cont_some, tl_some, tl_none, csum_nil, csum_i, csum_r, csum_j, isc2_i, isc2_r, isc2_n, va_rf_s, vfn_ite, true_and, and_true, true_or, or_true, eq_self, Bool.false_eq_true, not_false_eq_true, not_true_eq_false, if_true, if_false, Nat.reduceAdd, Nat.reduceLeDiff, reduceIte, s2.1.1, s2.1.2.2.2.2.2.2.1, s2.1.2.2.2.2.2.2.2.2.2.2.2.2.2.1, m14, inA_nI (show i < 10 by omega) (show 10 < 2147483648 by omega), nI_clamp (show i < 2 ^ 31 by omega), z1, z2, s_fr_part hfr]
        · have r1 : rdJ u' o 12 = lN (ww i).1 := by rw [hwo]; exact m2.1
          have r2 : rdJ u' o 13 = lN (ww i).2 := by rw [hwo]; exact m2.2.1
          refine sem_eq (Nat.le_of_ble_eq_true rfl) ?_
          show wp mX9_without 0 [some (.ref o), some (.int (nI j)), some (.int (nI i)), some (.int y)] [] _ _
          simp only [eX9_without_0, eX9_without_1, eX9_without_2, eX9_without_3, eX9_without_6, eX9_without_9, eX9_without_12, eX9_without_13, eX9_without_14, eX9_without_17, eX9_without_20, eX9_without_21, eX9_without_22, eX9_without_23, eX9_without_24, eX9_without_27, eX9_without_30, eX9_without_33, eX9_without_34, eX9_without_35, eX9_without_36, eX9_without_37, eX9_without_40, eX9_without_41, eX9_without_42, eX9_without_43, eX9_without_44, eX9_without_45, eX9_without_46, cont_some, tl_some, tl_none, csum_nil, csum_i, csum_r, csum_j, isc2_i, isc2_r, isc2_n, va_rf_s, vfn_ite, true_and, and_true, true_or, or_true, eq_self, Bool.false_eq_true, not_false_eq_true, not_true_eq_false, if_true, if_false, Nat.reduceAdd, Nat.reduceLeDiff, reduceIte, in03, in01, b2i_0, q0, qy, qk0, hmp, and_self, hm.1, hm.2.1, hm.2.2.1, hm.2.2.2.1, hm.2.2.2.2.1, hm.2.2.2.2.2.1, hm.2.2.2.2.2.2.1, hm.2.2.2.2.2.2.2.1, hm.2.2.2.2.2.2.2.2.1, hm.2.2.2.2.2.2.2.2.2.1, hm.2.2.2.2.2.2.2.2.2.2.1, hm.2.2.2.2.2.2.2.2.2.2.2.1, hm.2.2.2.2.2.2.2.2.2.2.2.2.1, hm.2.2.2.2.2.2.2.2.2.2.2.2.2.1, hm.2.2.2.2.2.2.2.2.2.2.2.2.2.2.1, hm.2.2.2.2.2.2.2.2.2.2.2.2.2.2.2.1, hm.2.2.2.2.2.2.2.2.2.2.2.2.2.2.2.2.1, hm.2.2.2.2.2.2.2.2.2.2.2.2.2.2.2.2.2.1, hm.2.2.2.2.2.2.2.2.2.2.2.2.2.2.2.2.2.2.1, hm.2.2.2.2.2.2.2.2.2.2.2.2.2.2.2.2.2.2.2.1, hm.2.2.2.2.2.2.2.2.2.2.2.2.2.2.2.2.2.2.2.2.1, hm.2.2.2.2.2.2.2.2.2.2.2.2.2.2.2.2.2.2.2.2.2.1, hm.2.2.2.2.2.2.2.2.2.2.2.2.2.2.2.2.2.2.2.2.2.2.1, hm.2.2.2.2.2.2.2.2.2.2.2.2.2.2.2.2.2.2.2.2.2.2.2.1, hm.2.2.2.2.2.2.2.2.2.2.2.2.2.2.2.2.2.2.2.2.2.2.2.2, m_every hMB, wtN n h10 i hi, m1]
          simp only [eX9_without_49, eX9_without_50, cont_some, tl_some, tl_none, csum_nil, csum_i, csum_r, csum_j, isc2_i, isc2_r, isc2_n, va_rf_s, vfn_ite, true_and, and_true, true_or, or_true, eq_self, Bool.false_eq_true, not_false_eq_true, not_true_eq_false, if_true, if_false, Nat.reduceAdd, Nat.reduceLeDiff, reduceIte]
          by_cases y0 : y = 0
          · simp only [y0, not_true_eq_false, if_false, if_true]
            simp only [eX9_without_53, eX9_without_54, eX9_without_57, eX9_without_60, eX9_without_61, eX9_without_64, cont_some, tl_some, tl_none, csum_nil, csum_i, csum_r, csum_j, isc2_i, isc2_r, isc2_n, va_rf_s, vfn_ite, true_and, and_true, true_or, or_true, eq_self, Bool.false_eq_true, not_false_eq_true, not_true_eq_false, if_true, if_false, Nat.reduceAdd, Nat.reduceLeDiff, reduceIte, hmu.1, hmu.2.1, hmu.2.2.1, hmu.2.2.2.1, hmu.2.2.2.2.1, hmu.2.2.2.2.2.1, hmu.2.2.2.2.2.2.1, hmu.2.2.2.2.2.2.2.1, hmu.2.2.2.2.2.2.2.2.1, hmu.2.2.2.2.2.2.2.2.2.1, hmu.2.2.2.2.2.2.2.2.2.2.1, hmu.2.2.2.2.2.2.2.2.2.2.2.1, hmu.2.2.2.2.2.2.2.2.2.2.2.2.1, hmu.2.2.2.2.2.2.2.2.2.2.2.2.2.1, hmu.2.2.2.2.2.2.2.2.2.2.2.2.2.2.1, hmu.2.2.2.2.2.2.2.2.2.2.2.2.2.2.2.1, hmu.2.2.2.2.2.2.2.2.2.2.2.2.2.2.2.2.1, hmu.2.2.2.2.2.2.2.2.2.2.2.2.2.2.2.2.2.1, hmu.2.2.2.2.2.2.2.2.2.2.2.2.2.2.2.2.2.2.1, hmu.2.2.2.2.2.2.2.2.2.2.2.2.2.2.2.2.2.2.2.1, hmu.2.2.2.2.2.2.2.2.2.2.2.2.2.2.2.2.2.2.2.2.1, hmu.2.2.2.2.2.2.2.2.2.2.2.2.2.2.2.2.2.2.2.2.2.1, hmu.2.2.2.2.2.2.2.2.2.2.2.2.2.2.2.2.2.2.2.2.2.2.1, hmu.2.2.2.2.2.2.2.2.2.2.2.2.2.2.2.2.2.2.2.2.2.2.2.1, hmu.2.2.2.2.2.2.2.2.2.2.2.2.2.2.2.2.2.2.2.2.2.2.2.2, r1]
          · simp only [y0, not_false_eq_true, if_false, if_true]
            simp only [eX9_without_60, eX9_without_61, eX9_without_64, cont_some, tl_some, tl_none, csum_nil, csum_i, csum_r, csum_j, isc2_i, isc2_r, isc2_n, va_rf_s, vfn_ite, true_and, and_true, true_or, or_true, eq_self, Bool.false_eq_true, not_false_eq_true, not_true_eq_false, if_true, if_false, Nat.reduceAdd, Nat.reduceLeDiff, reduceIte, hmu.1, hmu.2.1, hmu.2.2.1, hmu.2.2.2.1, hmu.2.2.2.2.1, hmu.2.2.2.2.2.1, hmu.2.2.2.2.2.2.1, hmu.2.2.2.2.2.2.2.1, hmu.2.2.2.2.2.2.2.2.1, hmu.2.2.2.2.2.2.2.2.2.1, hmu.2.2.2.2.2.2.2.2.2.2.1, hmu.2.2.2.2.2.2.2.2.2.2.2.1, hmu.2.2.2.2.2.2.2.2.2.2.2.2.1, hmu.2.2.2.2.2.2.2.2.2.2.2.2.2.1, hmu.2.2.2.2.2.2.2.2.2.2.2.2.2.2.1, hmu.2.2.2.2.2.2.2.2.2.2.2.2.2.2.2.1, hmu.2.2.2.2.2.2.2.2.2.2.2.2.2.2.2.2.1, hmu.2.2.2.2.2.2.2.2.2.2.2.2.2.2.2.2.2.1, hmu.2.2.2.2.2.2.2.2.2.2.2.2.2.2.2.2.2.2.1, hmu.2.2.2.2.2.2.2.2.2.2.2.2.2.2.2.2.2.2.2.1, hmu.2.2.2.2.2.2.2.2.2.2.2.2.2.2.2.2.2.2.2.2.1, hmu.2.2.2.2.2.2.2.2.2.2.2.2.2.2.2.2.2.2.2.2.2.1, hmu.2.2.2.2.2.2.2.2.2.2.2.2.2.2.2.2.2.2.2.2.2.2.1, hmu.2.2.2.2.2.2.2.2.2.2.2.2.2.2.2.2.2.2.2.2.2.2.2.1, hmu.2.2.2.2.2.2.2.2.2.2.2.2.2.2.2.2.2.2.2.2.2.2.2.2, r2]
      · refine ⟨-1, w, w', ?_, ?_, hZ, Fr.rf, FrX.rf⟩
        · refine sem_eq (Nat.le_of_ble_eq_true rfl) ?_
          show wp mX8_without 0 [some (.ref b), some (.int x), some (.int k), some (.int y), none] [] _ _
          simp only [eX8_without_0, eX8_without_1, eX8_without_4, eX8_without_7, eX8_without_8, eX8_without_9, eX8_without_12, eX8_without_15, eX8_without_16, eX8_without_17, eX8_without_18, eX8_without_21, eX8_without_24, eX8_without_27, cont_some, tl_some, tl_none, csum_nil, csum_i, csum_r, csum_j, isc2_i, isc2_r, isc2_n, va_rf_s, vfn_ite, true_and, and_true, true_or, or_true, eq_self, Bool.false_eq_true, not_false_eq_true, not_true_eq_false, if_true, if_false, Nat.reduceAdd, Nat.reduceLeDiff, reduceIte, s_isJudge, s_isIn, b2i_0, q, qk, qy, hcp, and_self, hc.1]
        · refine sem_eq (Nat.le_of_ble_eq_true rfl) ?_
          show wp mX9_without 0 [some (.ref o), some (.int x), some (.int k), some (.int y)] [] _ _
          simp only [eX9_without_0, eX9_without_1, eX9_without_2, eX9_without_3, eX9_without_6, eX9_without_9, eX9_without_12, eX9_without_13, eX9_without_14, eX9_without_17, eX9_without_20, eX9_without_21, eX9_without_22, eX9_without_23, eX9_without_24, eX9_without_27, eX9_without_30, eX9_without_33, cont_some, tl_some, tl_none, csum_nil, csum_i, csum_r, csum_j, isc2_i, isc2_r, isc2_n, va_rf_s, vfn_ite, true_and, and_true, true_or, or_true, eq_self, Bool.false_eq_true, not_false_eq_true, not_true_eq_false, if_true, if_false, Nat.reduceAdd, Nat.reduceLeDiff, reduceIte, in03, in01, b2i_0, q, qk, qy, hmp, and_self, hm.1]
    · refine ⟨-1, w, w', ?_, ?_, hZ, Fr.rf, FrX.rf⟩
      · refine sem_eq (Nat.le_of_ble_eq_true rfl) ?_
        show wp mX8_without 0 [some (.ref b), some (.int x), some (.int k), some (.int y), none] [] _ _
        simp only [eX8_without_0, eX8_without_1, eX8_without_4, eX8_without_7, eX8_without_8, eX8_without_9, eX8_without_12, eX8_without_15, eX8_without_16, eX8_without_17, eX8_without_18, eX8_without_21, eX8_without_24, eX8_without_27, cont_some, tl_some, tl_none, csum_nil, csum_i, csum_r, csum_j, isc2_i, isc2_r, isc2_n, va_rf_s, vfn_ite, true_and, and_true, true_or, or_true, eq_self, Bool.false_eq_true, not_false_eq_true, not_true_eq_false, if_true, if_false, Nat.reduceAdd, Nat.reduceLeDiff, reduceIte, s_isJudge, b2i_0, q, qk, hcp, and_self, hc.1]
      · refine sem_eq (Nat.le_of_ble_eq_true rfl) ?_
        show wp mX9_without 0 [some (.ref o), some (.int x), some (.int k), some (.int y)] [] _ _
        simp only [eX9_without_0, eX9_without_1, eX9_without_2, eX9_without_3, eX9_without_6, eX9_without_9, eX9_without_12, eX9_without_13, eX9_without_14, eX9_without_17, eX9_without_20, eX9_without_21, eX9_without_22, eX9_without_23, eX9_without_24, eX9_without_27, eX9_without_30, eX9_without_33, cont_some, tl_some, tl_none, csum_nil, csum_i, csum_r, csum_j, isc2_i, isc2_r, isc2_n, va_rf_s, vfn_ite, true_and, and_true, true_or, or_true, eq_self, Bool.false_eq_true, not_false_eq_true, not_true_eq_false, if_true, if_false, Nat.reduceAdd, Nat.reduceLeDiff, reduceIte, in03, b2i_0, q, qk, hmp, and_self, hm.1]
  · refine ⟨-1, w, w', ?_, ?_, hZ, Fr.rf, FrX.rf⟩
    · refine sem_eq (Nat.le_of_ble_eq_true rfl) ?_
      show wp mX8_without 0 [some (.ref b), some (.int x), some (.int k), some (.int y), none] [] _ _
      simp only [eX8_without_0, eX8_without_1, eX8_without_4, eX8_without_7, eX8_without_8, eX8_without_9, eX8_without_12, eX8_without_15, eX8_without_16, eX8_without_17, eX8_without_18, eX8_without_21, eX8_without_24, eX8_without_27, cont_some, tl_some, tl_none, csum_nil, csum_i, csum_r, csum_j, isc2_i, isc2_r, isc2_n, va_rf_s, vfn_ite, true_and, and_true, true_or, or_true, eq_self, Bool.false_eq_true, not_false_eq_true, not_true_eq_false, if_true, if_false, Nat.reduceAdd, Nat.reduceLeDiff, reduceIte, s_isJudge, b2i_0, q]
    · refine sem_eq (Nat.le_of_ble_eq_true rfl) ?_
      show wp mX9_without 0 [some (.ref o), some (.int x), some (.int k), some (.int y)] [] _ _
      simp only [eX9_without_0, eX9_without_1, eX9_without_2, eX9_without_3, eX9_without_6, eX9_without_9, eX9_without_12, eX9_without_13, eX9_without_14, eX9_without_17, eX9_without_20, eX9_without_21, eX9_without_22, eX9_without_23, eX9_without_24, eX9_without_27, eX9_without_30, eX9_without_33, cont_some, tl_some, tl_none, csum_nil, csum_i, csum_r, csum_j, isc2_i, isc2_r, isc2_n, va_rf_s, vfn_ite, true_and, and_true, true_or, or_true, eq_self, Bool.false_eq_true, not_false_eq_true, not_true_eq_false, if_true, if_false, Nat.reduceAdd, Nat.reduceLeDiff, reduceIte, in03, b2i_0, q]
