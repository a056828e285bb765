/-! hull -/
/-- the bounds -/
def bdS (S : Sst) : Prop := (∀ i, i < 3 * S.1 → -15 ≤ S.2.1 i ∧ S.2.1 i ≤ 15) ∧ 0 ≤ S.2.2.1 ∧ S.2.2.1 ≤ 999
theorem abs15 {x : Int32} (h : -15 ≤ x ∧ x ≤ 15) : x.toInt.natAbs ≤ 15 := by
  have h1 := Int32.le_iff_toInt_le.mp h.1
  have h2 := Int32.le_iff_toInt_le.mp h.2
  have e1 : (-15 : Int32).toInt = -15 := by decide
  have e2 : (15 : Int32).toInt = 15 := by decide
  omega
theorem bd_in {S : Sst} {a : Nat} (h : bdS S) : inZ S.1 (uZ (uOf S a)) (uZ (vOf S a)) := fun i hi => by
  have u2 := axU_le (a := a)
  have v2 := axV_le (a := a)
  exact ⟨abs15 (h.1 _ (by omega)), abs15 (h.1 _ (by omega))⟩
theorem c_wrapAlong {w : Wd} {b a L : Nat} {c : Cst} {O : Nat → Nat} (hC : CC w b c) (hV : isV w (b + 33)) (hb : bdS c.1) (ha : a < 3) (hu : huL (uOf c.1 a) (vOf c.1 a) c.1.1 O L) : ∃ u, fX8_wrapAlong [.ref b, .int (nI a)] w = some (none, u) ∧ vIs u (b + 33) c.1.1 (uOf c.1 a) (vOf c.1 a) ∧ hIs u (b + 33) L O ∧ Fr (b + 33) (b + 37) w u := by
  have hc := hC.1
  have hs := hC.2.1
  obtain ⟨x, h1, h2, h3⟩ := s_look (v := b + 33) ha (by omega) hs hV
  obtain ⟨u, g1, g2, g3, g4⟩ := s_wrap (bd_in hb) hu h2
  have hcx := hc.fr h3 (by omega)
  refine ⟨u, ?_, g2, g3, (h3.wide (by omega) (by omega)).tr (g4.wide (by omega) (by omega))⟩
  refine sem_eq (Nat.le_of_ble_eq_true rfl) ?_
  show wp mX8_wrapAlong 0 [some (.ref b), some (.int (nI a))] [] _ _
  simp only [eX8_wrapAlong_0, eX8_wrapAlong_1, eX8_wrapAlong_4, eX8_wrapAlong_5, eX8_wrapAlong_8, eX8_wrapAlong_9, cont_some, tl_some, tl_none, csum_nil, csum_i, csum_r, csum_j, isc2_i, isc2_r, isc2_n, va_rf_s, vfn_ite, true_and, and_true, true_or, or_true, eq_self, Bool.false_eq_true, not_false_eq_true, not_true_eq_false, if_true, if_false, Nat.reduceAdd, Nat.reduceLeDiff, reduceIte, hc.1, hc.2.1, hc.2.2.1, hc.2.2.2.1, hc.2.2.2.2.1, hc.2.2.2.2.2.1, hc.2.2.2.2.2.2.1, hc.2.2.2.2.2.2.2.1, hc.2.2.2.2.2.2.2.2.1, hc.2.2.2.2.2.2.2.2.2.1, hc.2.2.2.2.2.2.2.2.2.2, hV.1, h1]
  simp only [eX8_wrapAlong_12, eX8_wrapAlong_13, eX8_wrapAlong_16, eX8_wrapAlong_19, cont_some, tl_some, tl_none, csum_nil, csum_i, csum_r, csum_j, isc2_i, isc2_r, isc2_n, va_rf_s, vfn_ite, true_and, and_true, true_or, or_true, eq_self, Bool.false_eq_true, not_false_eq_true, not_true_eq_false, if_true, if_false, Nat.reduceAdd, Nat.reduceLeDiff, reduceIte, hcx.1, hcx.2.1, hcx.2.2.1, hcx.2.2.2.1, hcx.2.2.2.2.1, hcx.2.2.2.2.2.1, hcx.2.2.2.2.2.2.1, hcx.2.2.2.2.2.2.2.1, hcx.2.2.2.2.2.2.2.2.1, hcx.2.2.2.2.2.2.2.2.2.1, hcx.2.2.2.2.2.2.2.2.2.2, h2.1.1, g1]
def hulA (O : Nat → Nat) (L : Nat) (k : Int32) : Int32 := if k < nI L then nI (O k.toNatClampNeg) else -4
theorem k_in {k : Int32} {L m : Nat} (hk : ¬ k < 0) (hl : k < nI L) (hL : L ≤ m) (hm : m ≤ 96) : inA k m = true ∧ k.toNatClampNeg < L := by
  have h1 : ¬ k.toInt < 0 := fun z => hk (lt0.mpr z)
  have h2 := Int32.lt_iff_toInt_lt.mp hl
  rw [nI_T (by omega)] at h2
  refine ⟨inA_iff.mpr ⟨by omega, by omega⟩, ?_⟩
  show k.toInt.toNat < L
  omega
theorem p_hull {w w' : Wd} {b o : Nat} {c : Cst} {x k : Int32} (hb : bdS c.1) (hC : CC w b c) (hV : isV w (b + 33)) (hM : MC w' o c) : ∃ r u u', fX8_hull [.ref b, .int x, .int k] w = some (some (.int r), u) ∧ fX9_hull [.ref o, .int x, .int k] w' = some (some (.int r), u') ∧ Fr (b + 33) (b + 37) w u ∧ isV u (b + 33) ∧ FrX (Xv o) w' u' := by
  have hc := hC.1
  have hm := hM.1
  by_cases q : 0 ≤ x ∧ x ≤ 2
  · by_cases qk : k < 0
    · refine ⟨-1, w, w', ?_, ?_, Fr.rf, hV, FrX.rf⟩
      · refine sem_eq (Nat.le_of_ble_eq_true rfl) ?_
        show wp mX8_hull 0 [some (.ref b), some (.int x), some (.int k)] [] _ _
        simp only [eX8_hull_0, eX8_hull_1, eX8_hull_4, eX8_hull_7, eX8_hull_8, eX8_hull_11, eX8_hull_12, cont_some, tl_some, tl_none, csum_nil, csum_i, csum_r, csum_j, isc2_i, isc2_r, isc2_n, va_rf_s, vfn_ite, true_and, and_true, true_or, or_true, eq_self, Bool.false_eq_true, not_false_eq_true, not_true_eq_false, if_true, if_false, Nat.reduceAdd, Nat.reduceLeDiff, reduceIte, s_isAxis, b2i_0, q, and_self, qk]
      · refine sem_eq (Nat.le_of_ble_eq_true rfl) ?_
        show wp mX9_hull 0 [some (.ref o), some (.int x), some (.int k)] [] _ _
        simp only [eX9_hull_0, eX9_hull_1, eX9_hull_2, eX9_hull_3, eX9_hull_6, eX9_hull_9, eX9_hull_12, eX9_hull_13, eX9_hull_16, eX9_hull_17, cont_some, tl_some, tl_none, csum_nil, csum_i, csum_r, csum_j, isc2_i, isc2_r, isc2_n, va_rf_s, vfn_ite, true_and, and_true, true_or, or_true, eq_self, Bool.false_eq_true, not_false_eq_true, not_true_eq_false, if_true, if_false, Nat.reduceAdd, Nat.reduceLeDiff, reduceIte, in02, b2i_0, q, and_self, qk]
    · have q0 := q
      obtain ⟨a, ha, rfl⟩ := ax_iff.mp q
      obtain ⟨O, L, hu⟩ := hu_ex (bd_in (a := a) hb)
      obtain ⟨l1, l2⟩ := hu.lt (bd_in (a := a) hb)
      have h10 := hC.2.1.2.2.1
      obtain ⟨u, h1, h2, h3, h4⟩ := c_wrapAlong hC hV hb ha hu
      obtain ⟨x', g1, g2, g3⟩ := m_sees ha hm hM.2.1
      have hmx := g3.md hm
      obtain ⟨u', g4, g5, g6, g7⟩ := m_round (bd_in hb) hu hmx g2
      have hmu := g7.md hmx
      have hcu := hc.fr h4 (by omega)
      refine ⟨hulA O L k, u, u', ?_, ?_, h4, h2.1, g3.tr g7⟩
      · refine sem_eq (Nat.le_of_ble_eq_true rfl) ?_
        show wp mX8_hull 0 [some (.ref b), some (.int (nI a)), some (.int k)] [] _ _
        simp only [eX8_hull_0, eX8_hull_1, eX8_hull_4, eX8_hull_7, eX8_hull_8, eX8_hull_11, eX8_hull_12, eX8_hull_13, eX8_hull_14, eX8_hull_15, cont_some, tl_some, tl_none, csum_nil, csum_i, csum_r, csum_j, isc2_i, isc2_r, isc2_n, va_rf_s, vfn_ite, true_and, and_true, true_or, or_true, eq_self, Bool.false_eq_true, not_false_eq_true, not_true_eq_false, if_true, if_false, Nat.reduceAdd, Nat.reduceLeDiff, reduceIte, s_isAxis, b2i_0, q0, and_self, qk, hc.1, hc.2.1, hc.2.2.1, hc.2.2.2.1, hc.2.2.2.2.1, hc.2.2.2.2.2.1, hc.2.2.2.2.2.2.1, hc.2.2.2.2.2.2.2.1, hc.2.2.2.2.2.2.2.2.1, hc.2.2.2.2.2.2.2.2.2.1, hc.2.2.2.2.2.2.2.2.2.2, h1]
        simp only [eX8_hull_18, eX8_hull_19, eX8_hull_20, eX8_hull_23, eX8_hull_26, cont_some, tl_some, tl_none, csum_nil, csum_i, csum_r, csum_j, isc2_i, isc2_r, isc2_n, va_rf_s, vfn_ite, true_and, and_true, true_or, or_true, eq_self, Bool.false_eq_true, not_false_eq_true, not_true_eq_false, if_true, if_false, Nat.reduceAdd, Nat.reduceLeDiff, reduceIte, hcu.1, hcu.2.1, hcu.2.2.1, hcu.2.2.2.1, hcu.2.2.2.2.1, hcu.2.2.2.2.2.1, hcu.2.2.2.2.2.2.1, hcu.2.2.2.2.2.2.2.1, hcu.2.2.2.2.2.2.2.2.1, hcu.2.2.2.2.2.2.2.2.2.1, hcu.2.2.2.2.2.2.2.2.2.2, h2.1.1, h3.1]
        unfold hulA
        by_cases z : k < nI L
        · obtain ⟨z1, z2⟩ := k_in qk z (show L ≤ 10 by omega) (by omega)
          simp only [eX8_hull_29, eX8_hull_30, eX8_hull_33, eX8_hull_36, eX8_hull_37, eX8_hull_38, eX8_hull_41, eX8_hull_43, cont_some, tl_some, tl_none, csum_nil, csum_i, csum_r, csum_j, isc2_i, isc2_r, isc2_n, va_rf_s, vfn_ite, true_and, and_true, true_or, or_true, eq_self, Bool.false_eq_true, not_false_eq_true, not_true_eq_false, if_true, if_false, Nat.reduceAdd, Nat.reduceLeDiff, reduceIte, hcu.1, hcu.2.1, hcu.2.2.1, hcu.2.2.2.1, hcu.2.2.2.2.1, hcu.2.2.2.2.2.1, hcu.2.2.2.2.2.2.1, hcu.2.2.2.2.2.2.2.1, hcu.2.2.2.2.2.2.2.2.1, hcu.2.2.2.2.2.2.2.2.2.1, hcu.2.2.2.2.2.2.2.2.2.2, h2.1.1, h2.1.2.2.2.1, h2.1.2.2.2.2.2.2, z, z1, h3.2 _ z2]
        · simp only [eX8_hull_29, eX8_hull_30, eX8_hull_33, eX8_hull_36, eX8_hull_37, eX8_hull_38, eX8_hull_41, eX8_hull_43, cont_some, tl_some, tl_none, csum_nil, csum_i, csum_r, csum_j, isc2_i, isc2_r, isc2_n, va_rf_s, vfn_ite, true_and, and_true, true_or, or_true, eq_self, Bool.false_eq_true, not_false_eq_true, not_true_eq_false, if_true, if_false, Nat.reduceAdd, Nat.reduceLeDiff, reduceIte, z]
      · refine sem_eq (Nat.le_of_ble_eq_true rfl) ?_
        show wp mX9_hull 0 [some (.ref o), some (.int (nI a)), some (.int k)] [] _ _
        simp only [eX9_hull_0, eX9_hull_1, eX9_hull_2, eX9_hull_3, eX9_hull_6, eX9_hull_9, eX9_hull_12, eX9_hull_13, eX9_hull_16, eX9_hull_17, eX9_hull_18, eX9_hull_19, eX9_hull_20, cont_some, tl_some, tl_none, csum_nil, csum_i, csum_r, csum_j, isc2_i, isc2_r, isc2_n, va_rf_s, vfn_ite, true_and, and_true, true_or, or_true, eq_self, Bool.false_eq_true, not_false_eq_true, not_true_eq_false, if_true, if_false, Nat.reduceAdd, Nat.reduceLeDiff, reduceIte, in02, b2i_0, q0, and_self, qk, hm.1, hm.2.1, hm.2.2.1, hm.2.2.2.1, hm.2.2.2.2.1, hm.2.2.2.2.2.1, hm.2.2.2.2.2.2.1, hm.2.2.2.2.2.2.2.1, hm.2.2.2.2.2.2.2.2.1, hm.2.2.2.2.2.2.2.2.2.1, hm.2.2.2.2.2.2.2.2.2.2.1, hm.2.2.2.2.2.2.2.2.2.2.2.1, hm.2.2.2.2.2.2.2.2.2.2.2.2.1, hm.2.2.2.2.2.2.2.2.2.2.2.2.2.1, hm.2.2.2.2.2.2.2.2.2.2.2.2.2.2.1, hm.2.2.2.2.2.2.2.2.2.2.2.2.2.2.2.1, hm.2.2.2.2.2.2.2.2.2.2.2.2.2.2.2.2.1, hm.2.2.2.2.2.2.2.2.2.2.2.2.2.2.2.2.2.1, hm.2.2.2.2.2.2.2.2.2.2.2.2.2.2.2.2.2.2.1, hm.2.2.2.2.2.2.2.2.2.2.2.2.2.2.2.2.2.2.2.1, hm.2.2.2.2.2.2.2.2.2.2.2.2.2.2.2.2.2.2.2.2.1, hm.2.2.2.2.2.2.2.2.2.2.2.2.2.2.2.2.2.2.2.2.2.1, hm.2.2.2.2.2.2.2.2.2.2.2.2.2.2.2.2.2.2.2.2.2.2.1, hm.2.2.2.2.2.2.2.2.2.2.2.2.2.2.2.2.2.2.2.2.2.2.2.1, hm.2.2.2.2.2.2.2.2.2.2.2.2.2.2.2.2.2.2.2.2.2.2.2.2, g1]
        simp only [eX9_hull_23, eX9_hull_24, cont_some, tl_some, tl_none, csum_nil, csum_i, csum_r, csum_j, isc2_i, isc2_r, isc2_n, va_rf_s, vfn_ite, true_and, and_true, true_or, or_true, eq_self, Bool.false_eq_true, not_false_eq_true, not_true_eq_false, if_true, if_false, Nat.reduceAdd, Nat.reduceLeDiff, reduceIte, hmx.1, hmx.2.1, hmx.2.2.1, hmx.2.2.2.1, hmx.2.2.2.2.1, hmx.2.2.2.2.2.1, hmx.2.2.2.2.2.2.1, hmx.2.2.2.2.2.2.2.1, hmx.2.2.2.2.2.2.2.2.1, hmx.2.2.2.2.2.2.2.2.2.1, hmx.2.2.2.2.2.2.2.2.2.2.1, hmx.2.2.2.2.2.2.2.2.2.2.2.1, hmx.2.2.2.2.2.2.2.2.2.2.2.2.1, hmx.2.2.2.2.2.2.2.2.2.2.2.2.2.1, hmx.2.2.2.2.2.2.2.2.2.2.2.2.2.2.1, hmx.2.2.2.2.2.2.2.2.2.2.2.2.2.2.2.1, hmx.2.2.2.2.2.2.2.2.2.2.2.2.2.2.2.2.1, hmx.2.2.2.2.2.2.2.2.2.2.2.2.2.2.2.2.2.1, hmx.2.2.2.2.2.2.2.2.2.2.2.2.2.2.2.2.2.2.1, hmx.2.2.2.2.2.2.2.2.2.2.2.2.2.2.2.2.2.2.2.1, hmx.2.2.2.2.2.2.2.2.2.2.2.2.2.2.2.2.2.2.2.2.1, hmx.2.2.2.2.2.2.2.2.2.2.2.2.2.2.2.2.2.2.2.2.2.1, hmx.2.2.2.2.2.2.2.2.2.2.2.2.2.2.2.2.2.2.2.2.2.2.1, hmx.2.2.2.2.2.2.2.2.2.2.2.2.2.2.2.2.2.2.2.2.2.2.2.1, hmx.2.2.2.2.2.2.2.2.2.2.2.2.2.2.2.2.2.2.2.2.2.2.2.2, g4]
        simp only [eX9_hull_27, eX9_hull_28, eX9_hull_29, eX9_hull_32, cont_some, tl_some, tl_none, csum_nil, csum_i, csum_r, csum_j, isc2_i, isc2_r, isc2_n, va_rf_s, vfn_ite, true_and, and_true, true_or, or_true, eq_self, Bool.false_eq_true, not_false_eq_true, not_true_eq_false, if_true, if_false, Nat.reduceAdd, Nat.reduceLeDiff, reduceIte, hmu.1, hmu.2.1, hmu.2.2.1, hmu.2.2.2.1, hmu.2.2.2.2.1, hmu.2.2.2.2.2.1, hmu.2.2.2.2.2.2.1, hmu.2.2.2.2.2.2.2.1, hmu.2.2.2.2.2.2.2.2.1, hmu.2.2.2.2.2.2.2.2.2.1, hmu.2.2.2.2.2.2.2.2.2.2.1, hmu.2.2.2.2.2.2.2.2.2.2.2.1, hmu.2.2.2.2.2.2.2.2.2.2.2.2.1, hmu.2.2.2.2.2.2.2.2.2.2.2.2.2.1, hmu.2.2.2.2.2.2.2.2.2.2.2.2.2.2.1, hmu.2.2.2.2.2.2.2.2.2.2.2.2.2.2.2.1, hmu.2.2.2.2.2.2.2.2.2.2.2.2.2.2.2.2.1, hmu.2.2.2.2.2.2.2.2.2.2.2.2.2.2.2.2.2.1, hmu.2.2.2.2.2.2.2.2.2.2.2.2.2.2.2.2.2.2.1, hmu.2.2.2.2.2.2.2.2.2.2.2.2.2.2.2.2.2.2.2.1, hmu.2.2.2.2.2.2.2.2.2.2.2.2.2.2.2.2.2.2.2.2.1, hmu.2.2.2.2.2.2.2.2.2.2.2.2.2.2.2.2.2.2.2.2.2.1, hmu.2.2.2.2.2.2.2.2.2.2.2.2.2.2.2.2.2.2.2.2.2.2.1, hmu.2.2.2.2.2.2.2.2.2.2.2.2.2.2.2.2.2.2.2.2.2.2.2.1, hmu.2.2.2.2.2.2.2.2.2.2.2.2.2.2.2.2.2.2.2.2.2.2.2.2, g6.1]
        unfold hulA
        by_cases z : k < nI L
        · obtain ⟨z1, z2⟩ := k_in qk z (show L ≤ 11 by omega) (by omega)
          simp only [eX9_hull_35, eX9_hull_36, eX9_hull_39, eX9_hull_40, eX9_hull_41, eX9_hull_44, eX9_hull_46, cont_some, tl_some, tl_none, csum_nil, csum_i, csum_r, csum_j, isc2_i, isc2_r, isc2_n, va_rf_s, vfn_ite, true_and, and_true, true_or, or_true, eq_self, Bool.false_eq_true, not_false_eq_true, not_true_eq_false, if_true, if_false, Nat.reduceAdd, Nat.reduceLeDiff, reduceIte, hmu.1, hmu.2.1, hmu.2.2.1, hmu.2.2.2.1, hmu.2.2.2.2.1, hmu.2.2.2.2.2.1, hmu.2.2.2.2.2.2.1, hmu.2.2.2.2.2.2.2.1, hmu.2.2.2.2.2.2.2.2.1, hmu.2.2.2.2.2.2.2.2.2.1, hmu.2.2.2.2.2.2.2.2.2.2.1, hmu.2.2.2.2.2.2.2.2.2.2.2.1, hmu.2.2.2.2.2.2.2.2.2.2.2.2.1, hmu.2.2.2.2.2.2.2.2.2.2.2.2.2.1, hmu.2.2.2.2.2.2.2.2.2.2.2.2.2.2.1, hmu.2.2.2.2.2.2.2.2.2.2.2.2.2.2.2.1, hmu.2.2.2.2.2.2.2.2.2.2.2.2.2.2.2.2.1, hmu.2.2.2.2.2.2.2.2.2.2.2.2.2.2.2.2.2.1, hmu.2.2.2.2.2.2.2.2.2.2.2.2.2.2.2.2.2.2.1, hmu.2.2.2.2.2.2.2.2.2.2.2.2.2.2.2.2.2.2.2.1, hmu.2.2.2.2.2.2.2.2.2.2.2.2.2.2.2.2.2.2.2.2.1, hmu.2.2.2.2.2.2.2.2.2.2.2.2.2.2.2.2.2.2.2.2.2.1, hmu.2.2.2.2.2.2.2.2.2.2.2.2.2.2.2.2.2.2.2.2.2.2.1, hmu.2.2.2.2.2.2.2.2.2.2.2.2.2.2.2.2.2.2.2.2.2.2.2.1, hmu.2.2.2.2.2.2.2.2.2.2.2.2.2.2.2.2.2.2.2.2.2.2.2.2, z, z1, g6.2 _ z2]
        · simp only [eX9_hull_35, eX9_hull_36, eX9_hull_39, eX9_hull_40, eX9_hull_41, eX9_hull_44, eX9_hull_46, cont_some, tl_some, tl_none, csum_nil, csum_i, csum_r, csum_j, isc2_i, isc2_r, isc2_n, va_rf_s, vfn_ite, true_and, and_true, true_or, or_true, eq_self, Bool.false_eq_true, not_false_eq_true, not_true_eq_false, if_true, if_false, Nat.reduceAdd, Nat.reduceLeDiff, reduceIte, z]
  · refine ⟨-1, w, w', ?_, ?_, Fr.rf, hV, FrX.rf⟩
    · refine sem_eq (Nat.le_of_ble_eq_true rfl) ?_
      show wp mX8_hull 0 [some (.ref b), some (.int x), some (.int k)] [] _ _
      simp only [eX8_hull_0, eX8_hull_1, eX8_hull_4, eX8_hull_7, eX8_hull_8, eX8_hull_11, eX8_hull_12, cont_some, tl_some, tl_none, csum_nil, csum_i, csum_r, csum_j, isc2_i, isc2_r, isc2_n, va_rf_s, vfn_ite, true_and, and_true, true_or, or_true, eq_self, Bool.false_eq_true, not_false_eq_true, not_true_eq_false, if_true, if_false, Nat.reduceAdd, Nat.reduceLeDiff, reduceIte, s_isAxis, b2i_0, q]
    · refine sem_eq (Nat.le_of_ble_eq_true rfl) ?_
      show wp mX9_hull 0 [some (.ref o), some (.int x), some (.int k)] [] _ _
      simp only [eX9_hull_0, eX9_hull_1, eX9_hull_2, eX9_hull_3, eX9_hull_6, eX9_hull_9, eX9_hull_12, eX9_hull_13, eX9_hull_16, eX9_hull_17, cont_some, tl_some, tl_none, csum_nil, csum_i, csum_r, csum_j, isc2_i, isc2_r, isc2_n, va_rf_s, vfn_ite, true_and, and_true, true_or, or_true, eq_self, Bool.false_eq_true, not_false_eq_true, not_true_eq_false, if_true, if_false, Nat.reduceAdd, Nat.reduceLeDiff, reduceIte, in02, b2i_0, q]
