def Xs (o : Nat) : Nat → Nat → Prop := fun c _ => o + 5 ≤ c ∧ c < o + 9
theorem FrX.Rw {X : Nat → Nat → Prop} {w u : Wd} {r : Nat} (h : FrX X w u) (hm : isRw w r) : isRw u r := by
  have e1 : ∀ c, shp u c = shp w c := fun c => by unfold shp; rw [h.2.2]
  have e2 : ∀ c j, rdR u c j = rdR w c j := fun c j => by unfold rdR; rw [h.2.2]
  unfold isRw
  simp only [e1, e2]
  exact hm
theorem nI_p24 : (24 : Int32) = nI 24 := rfl
theorem lo_msheet {w0 : Wd} {o k : Nat} {a2 : Option Value} {n : Int32} (hk : k < 4) : ∀ (d i : Nat) (w : Wd), i + d = 24 → isMd w o → (∀ j, j < i → rdJ w (o + 7) (24 * k + j) = 0) → (∀ c j, rdI w c j = rdI w0 c j) → (∀ c j, ¬ (c = o + 7 ∧ 24 * k ≤ j ∧ j < 24 * k + 24) → rdJ w c j = rdJ w0 c j) → FrX (Xs o) w0 w →
    wp mX9_sheet 46 [some (.ref o), some (.int (nI k)), a2, some (.int n), some (.int (nI i))] [] w (fun r1 w1 => r1 = some (.int n) ∧ isMd w1 o ∧ (∀ j, j < 24 → rdJ w1 (o + 7) (24 * k + j) = 0) ∧ (∀ c j, rdI w1 c j = rdI w0 c j) ∧ (∀ c j, ¬ (c = o + 7 ∧ 24 * k ≤ j ∧ j < 24 * k + 24) → rdJ w1 c j = rdJ w0 c j) ∧ FrX (Xs o) w0 w1) := by
  intro d
  induction d with
  | zero =>
    intro i w hi hr hz hI hJ hF
    have e : i = 24 := by omega
    subst e
    have h1 : ¬ nI 24 < 24 := by decide
    simp only [eX9_sheet_46, eX9_sheet_48, eX9_sheet_50, eX9_sheet_72, eX9_sheet_73, cont_some, tl_some, tl_none, csum_nil, csum_i, csum_r, csum_j, isc2_i, isc2_r, isc2_n, va_rf_s, vfn_ite, true_and, and_true, true_or, or_true, eq_self, Bool.false_eq_true, not_false_eq_true, not_true_eq_false, if_true, if_false, Nat.reduceAdd, Nat.reduceLeDiff, reduceIte, h1]
    exact ⟨hr, hz, hI, hJ, hF⟩
  | succ d ih =>
    intro i w hi hr hz hI hJ hF
    have h1 : nI i < 24 := nI_lt (b := 24) (by omega) (by decide)
    simp only [eX9_sheet_46, eX9_sheet_48, eX9_sheet_50, cont_some, tl_some, tl_none, csum_nil, csum_i, csum_r, csum_j, isc2_i, isc2_r, isc2_n, va_rf_s, vfn_ite, true_and, and_true, true_or, or_true, eq_self, Bool.false_eq_true, not_false_eq_true, not_true_eq_false, if_true, if_false, Nat.reduceAdd, Nat.reduceLeDiff, reduceIte, h1]
    simp only [eX9_sheet_53, eX9_sheet_54, eX9_sheet_57, eX9_sheet_59, eX9_sheet_60, eX9_sheet_61, eX9_sheet_63, eX9_sheet_64, eX9_sheet_65, eX9_sheet_66, cont_some, tl_some, tl_none, csum_nil, csum_i, csum_r, csum_j, isc2_i, isc2_r, isc2_n, va_rf_s, vfn_ite, true_and, and_true, true_or, or_true, eq_self, Bool.false_eq_true, not_false_eq_true, not_true_eq_false, if_true, if_false, Nat.reduceAdd, Nat.reduceLeDiff, reduceIte, hr.1, hr.2.1, hr.2.2.1, hr.2.2.2.1, hr.2.2.2.2.1, hr.2.2.2.2.2.1, hr.2.2.2.2.2.2.1, hr.2.2.2.2.2.2.2.1, hr.2.2.2.2.2.2.2.2.1, hr.2.2.2.2.2.2.2.2.2.1, hr.2.2.2.2.2.2.2.2.2.2.1, hr.2.2.2.2.2.2.2.2.2.2.2.1, hr.2.2.2.2.2.2.2.2.2.2.2.2.1, hr.2.2.2.2.2.2.2.2.2.2.2.2.2.1, hr.2.2.2.2.2.2.2.2.2.2.2.2.2.2.1, hr.2.2.2.2.2.2.2.2.2.2.2.2.2.2.2.1, hr.2.2.2.2.2.2.2.2.2.2.2.2.2.2.2.2.1, hr.2.2.2.2.2.2.2.2.2.2.2.2.2.2.2.2.2.1, hr.2.2.2.2.2.2.2.2.2.2.2.2.2.2.2.2.2.2.1, hr.2.2.2.2.2.2.2.2.2.2.2.2.2.2.2.2.2.2.2.1, hr.2.2.2.2.2.2.2.2.2.2.2.2.2.2.2.2.2.2.2.2.1, hr.2.2.2.2.2.2.2.2.2.2.2.2.2.2.2.2.2.2.2.2.2.1, hr.2.2.2.2.2.2.2.2.2.2.2.2.2.2.2.2.2.2.2.2.2.2.1, hr.2.2.2.2.2.2.2.2.2.2.2.2.2.2.2.2.2.2.2.2.2.2.2.1, hr.2.2.2.2.2.2.2.2.2.2.2.2.2.2.2.2.2.2.2.2.2.2.2.2, nI_p24, pk_mul, nI_a, inA_nI (show 24 * k + i < 96 by omega) (by omega), nI_clamp (show 24 * k + i < 2 ^ 31 by omega), nI_1]
    rw [eX9_sheet_69]
    refine ih (i + 1) _ (by omega) hr (fun j hj => ?_) hI (fun c j hc => ?_) (hF.wrJ ⟨by omega, by omega⟩)
    · rw [rdJ_wrJ]
      split
      · rfl
      · exact hz j (by omega)
    · rw [rdJ_wrJ, if_neg (fun z => hc ⟨z.1, by omega, by omega⟩)]; exact hJ c j hc
theorem m_sheet {w : Wd} {o : Nat} {h : Sht} {s l n : Int32} (hS : MS w o h) : ∃ u, fX9_sheet [.ref o, .int s, .int l, .int n] w = some (some (.int (opSheet h s l n).1), u) ∧ MS u o (opSheet h s l n).2 ∧ FrX (Xs o) w u := by
  obtain ⟨hr, hk⟩ := hS
  by_cases q1 : 0 ≤ s ∧ s ≤ 3
  · by_cases q2 : 0 ≤ l ∧ l ≤ 3
    · by_cases q3 : 24 < n
      · refine ⟨w, ?_, by simp only [opSheet, q3, not_true_eq_false, and_false, if_false]; exact ⟨hr, hk⟩, FrX.rf⟩
        simp only [opSheet, q3, not_true_eq_false, and_false, if_false]
        refine sem_eq (Nat.le_of_ble_eq_true rfl) ?_
        show wp mX9_sheet 0 [some (.ref o), some (.int s), some (.int l), some (.int n), none] [] _ _
        simp only [eX9_sheet_0, eX9_sheet_1, eX9_sheet_4, eX9_sheet_7, eX9_sheet_8, eX9_sheet_11, eX9_sheet_14, eX9_sheet_15, eX9_sheet_17, eX9_sheet_20, eX9_sheet_21, cont_some, tl_some, tl_none, csum_nil, csum_i, csum_r, csum_j, isc2_i, isc2_r, isc2_n, va_rf_s, vfn_ite, true_and, and_true, true_or, or_true, eq_self, Bool.false_eq_true, not_false_eq_true, not_true_eq_false, if_true, if_false, Nat.reduceAdd, Nat.reduceLeDiff, reduceIte, m_isSheet, m_isLane, b2i_0, q1, q2, and_self, q3]
      · by_cases q4 : n < 0
        · refine ⟨w, ?_, by simp only [opSheet, q1, q2, q3, q4, not_false_eq_true, and_self, if_true]; exact ⟨hr, hk⟩, FrX.rf⟩
          simp only [opSheet, q1, q2, q3, q4, not_false_eq_true, and_self, if_true]
          refine sem_eq (Nat.le_of_ble_eq_true rfl) ?_
          show wp mX9_sheet 0 [some (.ref o), some (.int s), some (.int l), some (.int n), none] [] _ _
          simp only [eX9_sheet_0, eX9_sheet_1, eX9_sheet_4, eX9_sheet_7, eX9_sheet_8, eX9_sheet_11, eX9_sheet_14, eX9_sheet_15, eX9_sheet_17, eX9_sheet_20, eX9_sheet_21, eX9_sheet_22, eX9_sheet_23, eX9_sheet_26, eX9_sheet_28, cont_some, tl_some, tl_none, csum_nil, csum_i, csum_r, csum_j, isc2_i, isc2_r, isc2_n, va_rf_s, vfn_ite, true_and, and_true, true_or, or_true, eq_self, Bool.false_eq_true, not_false_eq_true, not_true_eq_false, if_true, if_false, Nat.reduceAdd, Nat.reduceLeDiff, reduceIte, m_isSheet, m_isLane, b2i_0, q1, q2, and_self, q3, q4]
        · obtain ⟨k, hk4, rfl⟩ := sh_iff.mp q1
          obtain ⟨l', hl4, rfl⟩ := sh_iff.mp q2
          obtain ⟨m, hm, rfl⟩ := nI_of2 (M := 24) (n := 24) (by decide) q4 (Int32.not_lt.mp q3)
          have ck := nI_clamp (show k < 2 ^ 31 by omega)
          have cl := nI_clamp (show l' < 2 ^ 31 by omega)
          have cm := nI_clamp (show m < 2 ^ 31 by omega)
          obtain ⟨v, hv⟩ : ∃ v, v = wrI (wrI w (o + 5) k (nI l')) (o + 6) k (nI m) := ⟨_, rfl⟩
          have hrv : isMd v o := by rw [hv]; exact hr
          have fv : FrX (Xs o) w v := by rw [hv]; exact (FrX.rf.wrI ⟨by omega, by omega⟩).wrI ⟨by omega, by omega⟩
          have hh : wp mX9_sheet 0 [some (.ref o), some (.int (nI k)), some (.int (nI l')), some (.int (nI m)), none] [] w (fun r1 w1 => r1 = some (.int (nI m)) ∧ isMd w1 o ∧ (∀ j, j < 24 → rdJ w1 (o + 7) (24 * k + j) = 0) ∧ (∀ c j, rdI w1 c j = rdI v c j) ∧ (∀ c j, ¬ (c = o + 7 ∧ 24 * k ≤ j ∧ j < 24 * k + 24) → rdJ w1 c j = rdJ v c j) ∧ FrX (Xs o) v w1) := by
            simp only [eX9_sheet_0, eX9_sheet_1, eX9_sheet_4, eX9_sheet_7, eX9_sheet_8, eX9_sheet_11, eX9_sheet_14, eX9_sheet_15, eX9_sheet_17, eX9_sheet_20, eX9_sheet_21, eX9_sheet_22, eX9_sheet_23, eX9_sheet_26, eX9_sheet_28, eX9_sheet_29, eX9_sheet_30, eX9_sheet_33, eX9_sheet_34, eX9_sheet_35, eX9_sheet_36, eX9_sheet_37, eX9_sheet_40, eX9_sheet_41, eX9_sheet_42, eX9_sheet_43, eX9_sheet_44, cont_some, tl_some, tl_none, csum_nil, csum_i, csum_r, csum_j, isc2_i, isc2_r, isc2_n, va_rf_s, vfn_ite, true_and, and_true, true_or, or_true, eq_self, Bool.false_eq_true, not_false_eq_true, not_true_eq_false, if_true, if_false, Nat.reduceAdd, Nat.reduceLeDiff, reduceIte, hr.1, hr.2.1, hr.2.2.1, hr.2.2.2.1, hr.2.2.2.2.1, hr.2.2.2.2.2.1, hr.2.2.2.2.2.2.1, hr.2.2.2.2.2.2.2.1, hr.2.2.2.2.2.2.2.2.1, hr.2.2.2.2.2.2.2.2.2.1, hr.2.2.2.2.2.2.2.2.2.2.1, hr.2.2.2.2.2.2.2.2.2.2.2.1, hr.2.2.2.2.2.2.2.2.2.2.2.2.1, hr.2.2.2.2.2.2.2.2.2.2.2.2.2.1, hr.2.2.2.2.2.2.2.2.2.2.2.2.2.2.1, hr.2.2.2.2.2.2.2.2.2.2.2.2.2.2.2.1, hr.2.2.2.2.2.2.2.2.2.2.2.2.2.2.2.2.1, hr.2.2.2.2.2.2.2.2.2.2.2.2.2.2.2.2.2.1, hr.2.2.2.2.2.2.2.2.2.2.2.2.2.2.2.2.2.2.1, hr.2.2.2.2.2.2.2.2.2.2.2.2.2.2.2.2.2.2.2.1, hr.2.2.2.2.2.2.2.2.2.2.2.2.2.2.2.2.2.2.2.2.1, hr.2.2.2.2.2.2.2.2.2.2.2.2.2.2.2.2.2.2.2.2.2.1, hr.2.2.2.2.2.2.2.2.2.2.2.2.2.2.2.2.2.2.2.2.2.2.1, hr.2.2.2.2.2.2.2.2.2.2.2.2.2.2.2.2.2.2.2.2.2.2.2.1, hr.2.2.2.2.2.2.2.2.2.2.2.2.2.2.2.2.2.2.2.2.2.2.2.2, m_isSheet, m_isLane, b2i_0, q1, q2, and_self, q3, q4, inA_nI hk4 (by omega), ck, shp_wrI, rdR_wrI]
            rw [← hv]
            exact lo_msheet hk4 24 0 v (by omega) hrv (fun j hj => absurd hj (by omega)) (fun _ _ => rfl) (fun _ _ _ => rfl) FrX.rf
          obtain ⟨r, u, h1, rfl, u1, u2, u3, u4, u5⟩ := sem_wp (nL := 5) (as := [.ref o, .int (nI k), .int (nI l'), .int (nI m)]) (Nat.le_of_ble_eq_true rfl) hh
          have hS' : (opSheet h (nI k) (nI l') (nI m)) = (nI m, (fun j => if j = k then some (l', m) else h.1 j, fun j i => if j = k then 0 else h.2 j i)) := by
            simp only [opSheet, q1, q2, q3, q4, not_false_eq_true, and_self, if_true, if_false, ck, cl, cm]
          rw [hS']
          refine ⟨u, h1, ⟨u1, fun j hj => ?_⟩, fv.tr u5⟩
          by_cases e : j = k
          · subst e
            unfold MSk
            simp only [if_true]
            refine ⟨⟨hl4, hm, ?_, ?_⟩, u2⟩
            · rw [u3, hv, rdI_wrI, if_neg (by omega), rdI_wrI, if_pos ⟨rfl, rfl⟩]
            · rw [u3, hv, rdI_wrI, if_pos ⟨rfl, rfl⟩]
          · refine (hk j hj).fr (by simp [e]) (fun i _ => by simp [e]) ?_ ?_ (fun i _ => ?_)
            · rw [u3, hv, rdI_wrI, if_neg (by omega), rdI_wrI, if_neg (by omega)]
            · rw [u3, hv, rdI_wrI, if_neg (by omega), rdI_wrI, if_neg (by omega)]
            · rw [u4 _ _ (by omega), hv]; rfl
    · refine ⟨w, ?_, by simp only [opSheet, q2, and_false, false_and, if_false]; exact ⟨hr, hk⟩, FrX.rf⟩
      simp only [opSheet, q2, and_false, false_and, if_false]
      refine sem_eq (Nat.le_of_ble_eq_true rfl) ?_
      show wp mX9_sheet 0 [some (.ref o), some (.int s), some (.int l), some (.int n), none] [] _ _
      simp only [eX9_sheet_0, eX9_sheet_1, eX9_sheet_4, eX9_sheet_7, eX9_sheet_8, eX9_sheet_11, eX9_sheet_14, eX9_sheet_15, eX9_sheet_17, eX9_sheet_20, eX9_sheet_21, cont_some, tl_some, tl_none, csum_nil, csum_i, csum_r, csum_j, isc2_i, isc2_r, isc2_n, va_rf_s, vfn_ite, true_and, and_true, true_or, or_true, eq_self, Bool.false_eq_true, not_false_eq_true, not_true_eq_false, if_true, if_false, Nat.reduceAdd, Nat.reduceLeDiff, reduceIte, m_isSheet, m_isLane, b2i_0, q1, q2, and_self]
  · refine ⟨w, ?_, by simp only [opSheet, q1, false_and, if_false]; exact ⟨hr, hk⟩, FrX.rf⟩
    simp only [opSheet, q1, false_and, if_false]
    refine sem_eq (Nat.le_of_ble_eq_true rfl) ?_
    show wp mX9_sheet 0 [some (.ref o), some (.int s), some (.int l), some (.int n), none] [] _ _
    simp only [eX9_sheet_0, eX9_sheet_1, eX9_sheet_4, eX9_sheet_7, eX9_sheet_8, eX9_sheet_11, eX9_sheet_14, eX9_sheet_15, eX9_sheet_17, eX9_sheet_20, eX9_sheet_21, cont_some, tl_some, tl_none, csum_nil, csum_i, csum_r, csum_j, isc2_i, isc2_r, isc2_n, va_rf_s, vfn_ite, true_and, and_true, true_or, or_true, eq_self, Bool.false_eq_true, not_false_eq_true, not_true_eq_false, if_true, if_false, Nat.reduceAdd, Nat.reduceLeDiff, reduceIte, m_isSheet, b2i_0, q1]
theorem nI_lm1 {l : Nat} (h : l < 4) : ¬ nI l = -1 := by
  have : l = 0 ∨ l = 1 ∨ l = 2 ∨ l = 3 := by omega
  rcases this with rfl | rfl | rfl | rfl <;> decide
theorem c_drop {w : Wd} {b : Nat} {h : Sht} {s : Int32} (hc : isCl w b) (hS : CS w (b + 44) h) : ∃ u, fX8_drop [.ref b, .int s] w = some (some (.int (opDrop h s).1), u) ∧ CS u (b + 44) (opDrop h s).2 ∧ Fr (b + 44) (b + 52) w u := by
  obtain ⟨hr, hk⟩ := hS
  by_cases q1 : 0 ≤ s ∧ s ≤ 3
  · obtain ⟨k, hk4, rfl⟩ := sh_iff.mp q1
    have ck := nI_clamp (show k < 2 ^ 31 by omega)
    have i4 := inA_nI hk4 (show 4 < 2147483648 by omega)
    have hck := (hk k hk4).1
    cases hi : h.1 k with
    | none =>
      rw [hi] at hck
      refine ⟨w, ?_, by simp only [opDrop, q1, and_self, if_true, ck, hi]; exact ⟨hr, hk⟩, Fr.rf⟩
      simp only [opDrop, q1, and_self, if_true, ck, hi]
      refine sem_eq (Nat.le_of_ble_eq_true rfl) ?_
      show wp mX8_drop 0 [some (.ref b), some (.int (nI k))] [] _ _
      simp only [eX8_drop_0, eX8_drop_1, eX8_drop_4, eX8_drop_7, eX8_drop_8, eX8_drop_9, eX8_drop_10, eX8_drop_13, eX8_drop_16, eX8_drop_17, eX8_drop_18, eX8_drop_19, eX8_drop_22, eX8_drop_24, cont_some, tl_some, tl_none, csum_nil, csum_i, csum_r, csum_j, isc2_i, isc2_r, isc2_n, va_rf_s, vfn_ite, true_and, and_true, true_or, or_true, eq_self, Bool.false_eq_true, not_false_eq_true, not_true_eq_false, if_true, if_false, Nat.reduceAdd, Nat.reduceLeDiff, reduceIte, hc.1, hc.2.1, hc.2.2.1, hc.2.2.2.1, hc.2.2.2.2.1, hc.2.2.2.2.2.1, hc.2.2.2.2.2.2.1, hc.2.2.2.2.2.2.2.1, hc.2.2.2.2.2.2.2.2.1, hc.2.2.2.2.2.2.2.2.2.1, hc.2.2.2.2.2.2.2.2.2.2, hr.1, hr.2.1, hr.2.2.1, hr.2.2.2.1, hr.2.2.2.2.1, hr.2.2.2.2.2.1, hr.2.2.2.2.2.2.1, s_isSheet, b2i_0, q1, and_self, i4, ck, hck]
    | some t =>
      obtain ⟨l, n⟩ := t
      rw [hi] at hck
      obtain ⟨g1, g2, g3, g4⟩ := hck
      have hm1 := nI_lm1 g1
      have e0 : opDrop h (nI k) = (nI n, (fun j => if j = k then none else h.1 j, h.2)) := by simp only [opDrop, q1, and_self, if_true, ck, hi]
      rw [e0]
      have g4' : rdI (wrI w (b + 44 + 6) k (-1)) (b + 44 + 7) k = nI n := by rw [rdI_wrI, if_neg (by omega)]; exact g4
      refine ⟨wrI w (b + 44 + 6) k (-1), ?_, ⟨hr, fun j hj => ?_⟩, Fr.rf.wrI ⟨by omega, by omega⟩⟩
      · refine sem_eq (Nat.le_of_ble_eq_true rfl) ?_
        show wp mX8_drop 0 [some (.ref b), some (.int (nI k))] [] _ _
        simp only [eX8_drop_0, eX8_drop_1, eX8_drop_4, eX8_drop_7, eX8_drop_8, eX8_drop_9, eX8_drop_10, eX8_drop_13, eX8_drop_16, eX8_drop_17, eX8_drop_18, eX8_drop_19, eX8_drop_22, eX8_drop_24, eX8_drop_25, eX8_drop_26, eX8_drop_29, eX8_drop_32, eX8_drop_33, eX8_drop_34, eX8_drop_35, eX8_drop_36, eX8_drop_39, eX8_drop_42, eX8_drop_43, eX8_drop_44, cont_some, tl_some, tl_none, csum_nil, csum_i, csum_r, csum_j, isc2_i, isc2_r, isc2_n, va_rf_s, vfn_ite, true_and, and_true, true_or, or_true, eq_self, Bool.false_eq_true, not_false_eq_true, not_true_eq_false, if_true, if_false, Nat.reduceAdd, Nat.reduceLeDiff, reduceIte, hc.1, hc.2.1, hc.2.2.1, hc.2.2.2.1, hc.2.2.2.2.1, hc.2.2.2.2.2.1, hc.2.2.2.2.2.2.1, hc.2.2.2.2.2.2.2.1, hc.2.2.2.2.2.2.2.2.1, hc.2.2.2.2.2.2.2.2.2.1, hc.2.2.2.2.2.2.2.2.2.2, hr.1, hr.2.1, hr.2.2.1, hr.2.2.2.1, hr.2.2.2.2.1, hr.2.2.2.2.2.1, hr.2.2.2.2.2.2.1, s_isSheet, b2i_0, q1, and_self, i4, ck, g3, hm1, shp_wrI, rdR_wrI, g4']
      · by_cases e : j = k
        · subst e
          exact ⟨by simp [rdI_wrI], fun i hi => (hk j hj).2 i hi⟩
        · exact (hk j hj).fr (by simp [e]) (fun i _ => rfl) (by rw [rdI_wrI, if_neg (by omega)]) (by rw [rdI_wrI, if_neg (by omega)]) (fun i _ => rfl)
  · refine ⟨w, ?_, by simp only [opDrop, q1, if_false]; exact ⟨hr, hk⟩, Fr.rf⟩
    simp only [opDrop, q1, if_false]
    refine sem_eq (Nat.le_of_ble_eq_true rfl) ?_
    show wp mX8_drop 0 [some (.ref b), some (.int s)] [] _ _
    simp only [eX8_drop_0, eX8_drop_1, eX8_drop_4, eX8_drop_7, eX8_drop_8, cont_some, tl_some, tl_none, csum_nil, csum_i, csum_r, csum_j, isc2_i, isc2_r, isc2_n, va_rf_s, vfn_ite, true_and, and_true, true_or, or_true, eq_self, Bool.false_eq_true, not_false_eq_true, not_true_eq_false, if_true, if_false, Nat.reduceAdd, Nat.reduceLeDiff, reduceIte, s_isSheet, b2i_0, q1]
theorem m_drop {w : Wd} {o : Nat} {h : Sht} {s : Int32} (hS : MS w o h) : ∃ u, fX9_drop [.ref o, .int s] w = some (some (.int (opDrop h s).1), u) ∧ MS u o (opDrop h s).2 ∧ FrX (Xs o) w u := by
  obtain ⟨hr, hk⟩ := hS
  by_cases q1 : 0 ≤ s ∧ s ≤ 3
  · obtain ⟨k, hk4, rfl⟩ := sh_iff.mp q1
    have ck := nI_clamp (show k < 2 ^ 31 by omega)
    have i4 := inA_nI hk4 (show 4 < 2147483648 by omega)
    have hck := (hk k hk4).1
    have fu : FrX (Xs o) w (wrI w (o + 6) k (-4)) := FrX.rf.wrI ⟨by omega, by omega⟩
    cases hi : h.1 k with
    | none =>
      rw [hi] at hck
      have e0 : opDrop h (nI k) = (-11, h) := by simp only [opDrop, q1, and_self, if_true, ck, hi]
      rw [e0]
      refine ⟨wrI w (o + 6) k (-4), ?_, ⟨hr, fun j hj => ?_⟩, fu⟩
      · refine sem_eq (Nat.le_of_ble_eq_true rfl) ?_
        show wp mX9_drop 0 [some (.ref o), some (.int (nI k)), none] [] _ _
        simp only [eX9_drop_0, eX9_drop_1, eX9_drop_4, eX9_drop_7, eX9_drop_8, eX9_drop_9, eX9_drop_10, eX9_drop_13, eX9_drop_14, eX9_drop_15, eX9_drop_16, eX9_drop_17, eX9_drop_20, eX9_drop_21, eX9_drop_23, eX9_drop_24, eX9_drop_25, eX9_drop_27, eX9_drop_30, eX9_drop_32, eX9_drop_35, eX9_drop_36, cont_some, tl_some, tl_none, csum_nil, csum_i, csum_r, csum_j, isc2_i, isc2_r, isc2_n, va_rf_s, vfn_ite, true_and, and_true, true_or, or_true, eq_self, Bool.false_eq_true, not_false_eq_true, not_true_eq_false, if_true, if_false, Nat.reduceAdd, Nat.reduceLeDiff, reduceIte, hr.1, hr.2.1, hr.2.2.1, hr.2.2.2.1, hr.2.2.2.2.1, hr.2.2.2.2.2.1, hr.2.2.2.2.2.2.1, hr.2.2.2.2.2.2.2.1, hr.2.2.2.2.2.2.2.2.1, hr.2.2.2.2.2.2.2.2.2.1, hr.2.2.2.2.2.2.2.2.2.2.1, hr.2.2.2.2.2.2.2.2.2.2.2.1, hr.2.2.2.2.2.2.2.2.2.2.2.2.1, hr.2.2.2.2.2.2.2.2.2.2.2.2.2.1, hr.2.2.2.2.2.2.2.2.2.2.2.2.2.2.1, hr.2.2.2.2.2.2.2.2.2.2.2.2.2.2.2.1, hr.2.2.2.2.2.2.2.2.2.2.2.2.2.2.2.2.1, hr.2.2.2.2.2.2.2.2.2.2.2.2.2.2.2.2.2.1, hr.2.2.2.2.2.2.2.2.2.2.2.2.2.2.2.2.2.2.1, hr.2.2.2.2.2.2.2.2.2.2.2.2.2.2.2.2.2.2.2.1, hr.2.2.2.2.2.2.2.2.2.2.2.2.2.2.2.2.2.2.2.2.1, hr.2.2.2.2.2.2.2.2.2.2.2.2.2.2.2.2.2.2.2.2.2.1, hr.2.2.2.2.2.2.2.2.2.2.2.2.2.2.2.2.2.2.2.2.2.2.1, hr.2.2.2.2.2.2.2.2.2.2.2.2.2.2.2.2.2.2.2.2.2.2.2.1, hr.2.2.2.2.2.2.2.2.2.2.2.2.2.2.2.2.2.2.2.2.2.2.2.2, m_isSheet, b2i_0, q1, and_self, i4, ck, hck]
      · refine (hk j hj).fr rfl (fun i _ => rfl) (by rw [rdI_wrI, if_neg (by omega)]) ?_ (fun i _ => rfl)
        rw [rdI_wrI]
        split
        · rename_i z; rw [z.2]; exact hck.symm
        · rfl
    | some t =>
      obtain ⟨l, n⟩ := t
      rw [hi] at hck
      obtain ⟨g1, g2, g3, g4⟩ := hck
      have hm4 := nI_m4 g2
      have e0 : opDrop h (nI k) = (nI n, (fun j => if j = k then none else h.1 j, h.2)) := by simp only [opDrop, q1, and_self, if_true, ck, hi]
      rw [e0]
      refine ⟨wrI w (o + 6) k (-4), ?_, ⟨hr, fun j hj => ?_⟩, fu⟩
      · refine sem_eq (Nat.le_of_ble_eq_true rfl) ?_
        show wp mX9_drop 0 [some (.ref o), some (.int (nI k)), none] [] _ _
        simp only [eX9_drop_0, eX9_drop_1, eX9_drop_4, eX9_drop_7, eX9_drop_8, eX9_drop_9, eX9_drop_10, eX9_drop_13, eX9_drop_14, eX9_drop_15, eX9_drop_16, eX9_drop_17, eX9_drop_20, eX9_drop_21, eX9_drop_23, eX9_drop_24, eX9_drop_25, eX9_drop_27, eX9_drop_30, eX9_drop_32, eX9_drop_35, eX9_drop_36, cont_some, tl_some, tl_none, csum_nil, csum_i, csum_r, csum_j, isc2_i, isc2_r, isc2_n, va_rf_s, vfn_ite, true_and, and_true, true_or, or_true, eq_self, Bool.false_eq_true, not_false_eq_true, not_true_eq_false, if_true, if_false, Nat.reduceAdd, Nat.reduceLeDiff, reduceIte, hr.1, hr.2.1, hr.2.2.1, hr.2.2.2.1, hr.2.2.2.2.1, hr.2.2.2.2.2.1, hr.2.2.2.2.2.2.1, hr.2.2.2.2.2.2.2.1, hr.2.2.2.2.2.2.2.2.1, hr.2.2.2.2.2.2.2.2.2.1, hr.2.2.2.2.2.2.2.2.2.2.1, hr.2.2.2.2.2.2.2.2.2.2.2.1, hr.2.2.2.2.2.2.2.2.2.2.2.2.1, hr.2.2.2.2.2.2.2.2.2.2.2.2.2.1, hr.2.2.2.2.2.2.2.2.2.2.2.2.2.2.1, hr.2.2.2.2.2.2.2.2.2.2.2.2.2.2.2.1, hr.2.2.2.2.2.2.2.2.2.2.2.2.2.2.2.2.1, hr.2.2.2.2.2.2.2.2.2.2.2.2.2.2.2.2.2.1, hr.2.2.2.2.2.2.2.2.2.2.2.2.2.2.2.2.2.2.1, hr.2.2.2.2.2.2.2.2.2.2.2.2.2.2.2.2.2.2.2.1, hr.2.2.2.2.2.2.2.2.2.2.2.2.2.2.2.2.2.2.2.2.1, hr.2.2.2.2.2.2.2.2.2.2.2.2.2.2.2.2.2.2.2.2.2.1, hr.2.2.2.2.2.2.2.2.2.2.2.2.2.2.2.2.2.2.2.2.2.2.1, hr.2.2.2.2.2.2.2.2.2.2.2.2.2.2.2.2.2.2.2.2.2.2.2.1, hr.2.2.2.2.2.2.2.2.2.2.2.2.2.2.2.2.2.2.2.2.2.2.2.2, m_isSheet, b2i_0, q1, and_self, i4, ck, g4, hm4]
      · by_cases e : j = k
        · subst e
          exact ⟨by simp [rdI_wrI], fun i hi => (hk j hj).2 i hi⟩
        · exact (hk j hj).fr (by simp [e]) (fun i _ => rfl) (by rw [rdI_wrI, if_neg (by omega)]) (by rw [rdI_wrI, if_neg (by omega)]) (fun i _ => rfl)
  · refine ⟨w, ?_, by simp only [opDrop, q1, if_false]; exact ⟨hr, hk⟩, FrX.rf⟩
    simp only [opDrop, q1, if_false]
    refine sem_eq (Nat.le_of_ble_eq_true rfl) ?_
    show wp mX9_drop 0 [some (.ref o), some (.int s), none] [] _ _
    simp only [eX9_drop_0, eX9_drop_1, eX9_drop_4, eX9_drop_7, eX9_drop_8, cont_some, tl_some, tl_none, csum_nil, csum_i, csum_r, csum_j, isc2_i, isc2_r, isc2_n, va_rf_s, vfn_ite, true_and, and_true, true_or, or_true, eq_self, Bool.false_eq_true, not_false_eq_true, not_true_eq_false, if_true, if_false, Nat.reduceAdd, Nat.reduceLeDiff, reduceIte, m_isSheet, b2i_0, q1]
/-! item: both answer as one relation says -/
def setI (h : Sht) (k i : Nat) (v : Int64) : Sht := (h.1, fun k' i' => if k' = k ∧ i' = i then v else h.2 k' i')
def rItem (h : Sht) (s l i : Int32) (v : Int64) (x : Int32) (h' : Sht) : Prop := (∃ y, refu h s l i 1 y ∧ y ≠ 0 ∧ x = y ∧ h' = h) ∨ (refu h s l i 1 0 ∧ x = 1 ∧ h' = setI h s.toNatClampNeg i.toNatClampNeg (lowJ l v))
theorem refu_fun {h : Sht} {s l i n x y : Int32} (hx : refu h s l i n x) (hy : refu h s l i n y) : x = y := by
  rcases hx with ⟨a, e⟩ | ⟨k, hk, rfl, hl, hx⟩
  · rcases hy with ⟨a', e'⟩ | ⟨k, hk, rfl, hl, hy⟩
    · rw [e, e']
    · exfalso
      rcases a with a | a
      · exact a (sh_iff.mpr ⟨k, hk, rfl⟩)
      · exact a hl
  · rcases hy with ⟨a', e'⟩ | ⟨k', hk', ek, hl', hy⟩
    · exfalso
      rcases a' with a | a
      · exact a (sh_iff.mpr ⟨k, hk, rfl⟩)
      · exact a hl
    · have : k = k' := (nI_eq (by omega) (by omega)).mp ek
      subst this
      rcases hx with ⟨h1, e1⟩ | ⟨l1, n1, h1, hx⟩ <;> rcases hy with ⟨h2, e2⟩ | ⟨l2, n2, h2, hy⟩
      · rw [e1, e2]
      · rw [h1] at h2; cases h2
      · rw [h1] at h2; cases h2
      · rw [h1] at h2
        cases h2
        rcases hx with ⟨a1, e1⟩ | ⟨a1, a2, e1⟩ | ⟨a1, a2, e1⟩ <;> rcases hy with ⟨b1, e2⟩ | ⟨b1, b2, e2⟩ | ⟨b1, b2, e2⟩ <;> first | exact absurd b1 a1 | exact absurd a1 b1 | exact absurd b2 a2 | exact absurd a2 b2 | (rw [e1, e2]; done)
theorem rItem_fun {h h1 h2 : Sht} {s l i x y : Int32} {v : Int64} (a : rItem h s l i v x h1) (c : rItem h s l i v y h2) : x = y ∧ h1 = h2 := by
  rcases a with ⟨z, a1, a2, rfl, rfl⟩ | ⟨a1, rfl, rfl⟩ <;> rcases c with ⟨z', c1, c2, rfl, rfl⟩ | ⟨c1, rfl, rfl⟩
  · exact ⟨refu_fun a1 c1, rfl⟩
  · exact absurd (refu_fun a1 c1) a2
  · exact absurd (refu_fun c1 a1) c2
  · exact ⟨rfl, rfl⟩
theorem okIx_1 {len : Nat} {i : Int32} (h24 : len ≤ 24) : okIx len i 1 ↔ ∃ j, j < len ∧ i = nI j := by
  unfold okIx
  have e : (1 : Int32).toInt = 1 := by decide
  rw [e]
  constructor
  · rintro ⟨h1, -, h3⟩
    refine ⟨i.toInt.toNat, by omega, ?_⟩
    rw [nI_iI]
    have : ((i.toInt.toNat : Nat) : Int) = i.toInt := by omega
    rw [this]
    exact (Int32.ofInt_toInt i).symm
  · rintro ⟨j, hj, rfl⟩
    rw [nI_T (by omega)]
    omega
theorem c_item {w : Wd} {b : Nat} {h : Sht} {s l i : Int32} {v : Int64} (hc : isCl w b) (hS : CS w (b + 44) h) : ∃ u x h', fX8_item [.ref b, .int s, .int l, .int i, .long v] w = some (some (.int x), u) ∧ rItem h s l i v x h' ∧ CS u (b + 44) h' ∧ Fr (b + 44) (b + 52) w u := by
  obtain ⟨y, hy, hr⟩ := s_refusal (s := s) (l := l) (i := i) (n := 1) hS
  have hrw := hS.1
  by_cases q : y = 0
  · subst q
    have hr0 := hr
    rcases hr with ⟨-, e⟩ | ⟨k, hk4, rfl, hl, ⟨-, e⟩ | ⟨l', len, hi, ⟨-, e⟩ | ⟨-, -, e⟩ | ⟨rfl, hok, -⟩⟩⟩
    · exact absurd e (by decide)
    · exact absurd e (by decide)
    · exact absurd e (by decide)
    · exact absurd e (by decide)
    · have hck := (hS.2 k hk4).1
      rw [hi] at hck
      obtain ⟨g1, g2, g3, g4⟩ := hck
      obtain ⟨j, hj, rfl⟩ := (okIx_1 g2).mp hok
      have ck := nI_clamp (show k < 2 ^ 31 by omega)
      have cj := nI_clamp (show j < 2 ^ 31 by omega)
      have m17 : 17 ∈ [14, 15, 16, 17] := by decide
      obtain ⟨e1, e2⟩ := hrw.2.2.2.2.2.2.2 k hk4
      refine ⟨wrJ w (b + 44 + 2 + k) j (lowJ (nI l') v), 1, _, ?_, Or.inr ⟨hr0, rfl, rfl⟩, ⟨hrw, fun k' hk' => ?_⟩, Fr.rf.wrJ ⟨by omega, by omega⟩⟩
      · refine sem_eq (Nat.le_of_ble_eq_true rfl) ?_
        show wp mX8_item 0 [some (.ref b), some (.int (nI k)), some (.int (nI l')), some (.int (nI j)), some (.long v), none, none] [] _ _
        simp only [eX8_item_0, eX8_item_1, eX8_item_4, eX8_item_5, eX8_item_6, eX8_item_7, eX8_item_8, eX8_item_11, eX8_item_13, eX8_item_15, eX8_item_18, eX8_item_20, eX8_item_21, eX8_item_22, eX8_item_25, eX8_item_28, eX8_item_29, eX8_item_30, eX8_item_31, eX8_item_32, eX8_item_34, eX8_item_37, eX8_item_38, eX8_item_39, cont_some, tl_some, tl_none, csum_nil, csum_i, csum_r, csum_j, isc2_i, isc2_r, isc2_n, va_rf_s, vfn_ite, true_and, and_true, true_or, or_true, eq_self, Bool.false_eq_true, not_false_eq_true, not_true_eq_false, if_true, if_false, Nat.reduceAdd, Nat.reduceLeDiff, reduceIte, hc.1, hc.2.1, hc.2.2.1, hc.2.2.2.1, hc.2.2.2.2.1, hc.2.2.2.2.2.1, hc.2.2.2.2.2.2.1, hc.2.2.2.2.2.2.2.1, hc.2.2.2.2.2.2.2.2.1, hc.2.2.2.2.2.2.2.2.2.1, hc.2.2.2.2.2.2.2.2.2.2, hrw.1, hrw.2.1, hrw.2.2.2.2.1, hy, inA_nI hk4 (by omega), ck, m17, e1, e2, inA_nI (show j < 24 by omega) (by omega), cj, s_lowest]
      · rw [ck, cj]
        refine ⟨by have := (hS.2 k' hk').1; exact this, fun i' hi' => ?_⟩
        simp only [setI, rdJ_wrJ]
        by_cases z : k' = k ∧ i' = j
        · rw [if_pos z, if_pos (by omega)]
        · rw [if_neg z, if_neg (by omega)]; exact (hS.2 k' hk').2 i' hi'
  · refine ⟨w, y, h, ?_, Or.inl ⟨y, hr, q, rfl, rfl⟩, hS, Fr.rf⟩
    refine sem_eq (Nat.le_of_ble_eq_true rfl) ?_
    show wp mX8_item 0 [some (.ref b), some (.int s), some (.int l), some (.int i), some (.long v), none, none] [] _ _
    simp only [eX8_item_0, eX8_item_1, eX8_item_4, eX8_item_5, eX8_item_6, eX8_item_7, eX8_item_8, eX8_item_11, eX8_item_13, eX8_item_15, eX8_item_18, eX8_item_20, cont_some, tl_some, tl_none, csum_nil, csum_i, csum_r, csum_j, isc2_i, isc2_r, isc2_n, va_rf_s, vfn_ite, true_and, and_true, true_or, or_true, eq_self, Bool.false_eq_true, not_false_eq_true, not_true_eq_false, if_true, if_false, Nat.reduceAdd, Nat.reduceLeDiff, reduceIte, hc.1, hc.2.1, hc.2.2.1, hc.2.2.2.1, hc.2.2.2.2.1, hc.2.2.2.2.2.1, hc.2.2.2.2.2.2.1, hc.2.2.2.2.2.2.2.1, hc.2.2.2.2.2.2.2.2.1, hc.2.2.2.2.2.2.2.2.2.1, hc.2.2.2.2.2.2.2.2.2.2, hrw.1, hy, q]
theorem m_item {w : Wd} {o : Nat} {h : Sht} {s l i : Int32} {v : Int64} (hS : MS w o h) : ∃ u x h', fX9_item [.ref o, .int s, .int l, .int i, .long v] w = some (some (.int x), u) ∧ rItem h s l i v x h' ∧ MS u o h' ∧ FrX (Xs o) w u := by
  obtain ⟨y, hy, hr⟩ := m_lacks (s := s) (l := l) hS
  have hmd := hS.1
  have low : ∀ z : Int32, z < 0 → refu h s l i 1 z → y = z → ∃ u x h', fX9_item [.ref o, .int s, .int l, .int i, .long v] w = some (some (.int x), u) ∧ rItem h s l i v x h' ∧ MS u o h' ∧ FrX (Xs o) w u := by
    intro z hz hrf hyz
    subst hyz
    refine ⟨w, y, h, ?_, Or.inl ⟨y, hrf, fun e => by subst e; exact absurd hz (by decide), rfl, rfl⟩, hS, FrX.rf⟩
    refine sem_eq (Nat.le_of_ble_eq_true rfl) ?_
    show wp mX9_item 0 [some (.ref o), some (.int s), some (.int l), some (.int i), some (.long v), none, none] [] _ _
    simp only [eX9_item_0, eX9_item_1, eX9_item_2, eX9_item_3, eX9_item_6, eX9_item_8, eX9_item_10, eX9_item_13, eX9_item_15, cont_some, tl_some, tl_none, csum_nil, csum_i, csum_r, csum_j, isc2_i, isc2_r, isc2_n, va_rf_s, vfn_ite, true_and, and_true, true_or, or_true, eq_self, Bool.false_eq_true, not_false_eq_true, not_true_eq_false, if_true, if_false, Nat.reduceAdd, Nat.reduceLeDiff, reduceIte, hmd.1, hmd.2.1, hmd.2.2.1, hmd.2.2.2.1, hmd.2.2.2.2.1, hmd.2.2.2.2.2.1, hmd.2.2.2.2.2.2.1, hmd.2.2.2.2.2.2.2.1, hmd.2.2.2.2.2.2.2.2.1, hmd.2.2.2.2.2.2.2.2.2.1, hmd.2.2.2.2.2.2.2.2.2.2.1, hmd.2.2.2.2.2.2.2.2.2.2.2.1, hmd.2.2.2.2.2.2.2.2.2.2.2.2.1, hmd.2.2.2.2.2.2.2.2.2.2.2.2.2.1, hmd.2.2.2.2.2.2.2.2.2.2.2.2.2.2.1, hmd.2.2.2.2.2.2.2.2.2.2.2.2.2.2.2.1, hmd.2.2.2.2.2.2.2.2.2.2.2.2.2.2.2.2.1, hmd.2.2.2.2.2.2.2.2.2.2.2.2.2.2.2.2.2.1, hmd.2.2.2.2.2.2.2.2.2.2.2.2.2.2.2.2.2.2.1, hmd.2.2.2.2.2.2.2.2.2.2.2.2.2.2.2.2.2.2.2.1, hmd.2.2.2.2.2.2.2.2.2.2.2.2.2.2.2.2.2.2.2.2.1, hmd.2.2.2.2.2.2.2.2.2.2.2.2.2.2.2.2.2.2.2.2.2.1, hmd.2.2.2.2.2.2.2.2.2.2.2.2.2.2.2.2.2.2.2.2.2.2.1, hmd.2.2.2.2.2.2.2.2.2.2.2.2.2.2.2.2.2.2.2.2.2.2.2.1, hmd.2.2.2.2.2.2.2.2.2.2.2.2.2.2.2.2.2.2.2.2.2.2.2.2, hy, hz]
  rcases hr with ⟨a, e⟩ | ⟨k, hk4, rfl, hl, ⟨a, e⟩ | ⟨l', len, hi, ⟨a, e⟩ | ⟨rfl, e⟩⟩⟩
  · exact low (-1) (by decide) (Or.inl ⟨a, rfl⟩) e
  · exact low (-11) (by decide) (Or.inr ⟨k, hk4, rfl, hl, Or.inl ⟨a, rfl⟩⟩) e
  · exact low (-12) (by decide) (Or.inr ⟨k, hk4, rfl, hl, Or.inr ⟨l', len, hi, Or.inl ⟨a, rfl⟩⟩⟩) e
  · subst e
    have hck := (hS.2 k hk4).1
    rw [hi] at hck
    obtain ⟨g1, g2, g3, g4⟩ := hck
    have ck := nI_clamp (show k < 2 ^ 31 by omega)
    have i4 := inA_nI hk4 (show 4 < 2147483648 by omega)
    have z0 : ¬ (0 : Int32) < 0 := by decide
    have hin : fX9_in [.long i.toInt64, .long 0, .long (nI len - 1).toInt64] w = some (some (.int (b2i (0 ≤ i ∧ i ≤ nI len - 1))), w) := s_inI (by decide) rfl
    have hiff : (0 ≤ i ∧ i ≤ nI len - 1) ↔ okIx len i 1 := by
      rw [okIx_1 g2]
      constructor
      · rintro ⟨h1, h2⟩
        obtain ⟨j, hj, rfl⟩ := nI_of (Int32.not_lt.mpr h1)
        refine ⟨j, ?_, rfl⟩
        cases len with
        | zero =>
          have : nI 0 - 1 = -1 := by decide
          rw [this] at h2
          exact absurd (Int32.le_trans h1 h2) (by decide)
        | succ n =>
          rw [nI_pred] at h2
          have := (nI_leI hj (by omega)).mp h2
          omega
      · rintro ⟨j, hj, rfl⟩
        obtain ⟨n, rfl⟩ : ∃ m, len = m + 1 := ⟨len - 1, by omega⟩
        rw [nI_pred]
        exact ⟨nI_pos' (by omega), nI_le (by omega) (by omega)⟩
    by_cases q : okIx len i 1
    · obtain ⟨j, hj, rfl⟩ := (okIx_1 g2).mp q
      have cj := nI_clamp (show j < 2 ^ 31 by omega)
      have q' := hiff.mpr q
      refine ⟨wrJ w (o + 7) (24 * k + j) (lowJ (nI l') v), 1, _, ?_, Or.inr ⟨Or.inr ⟨k, hk4, rfl, hl, Or.inr ⟨l', len, hi, Or.inr (Or.inr ⟨rfl, q, rfl⟩)⟩⟩, rfl, rfl⟩, ⟨hmd, fun k' hk' => ?_⟩, FrX.rf.wrJ ⟨by omega, by omega⟩⟩
      · refine sem_eq (Nat.le_of_ble_eq_true rfl) ?_
        show wp mX9_item 0 [some (.ref o), some (.int (nI k)), some (.int (nI l')), some (.int (nI j)), some (.long v), none, none] [] _ _
        simp only [eX9_item_0, eX9_item_1, eX9_item_2, eX9_item_3, eX9_item_6, eX9_item_8, eX9_item_10, eX9_item_13, eX9_item_15, eX9_item_16, eX9_item_17, eX9_item_18, eX9_item_19, eX9_item_20, eX9_item_23, eX9_item_24, eX9_item_25, eX9_item_26, eX9_item_27, eX9_item_28, eX9_item_31, cont_some, tl_some, tl_none, csum_nil, csum_i, csum_r, csum_j, isc2_i, isc2_r, isc2_n, va_rf_s, vfn_ite, true_and, and_true, true_or, or_true, eq_self, Bool.false_eq_true, not_false_eq_true, not_true_eq_false, if_true, if_false, Nat.reduceAdd, Nat.reduceLeDiff, reduceIte, hmd.1, hmd.2.1, hmd.2.2.1, hmd.2.2.2.1, hmd.2.2.2.2.1, hmd.2.2.2.2.2.1, hmd.2.2.2.2.2.2.1, hmd.2.2.2.2.2.2.2.1, hmd.2.2.2.2.2.2.2.2.1, hmd.2.2.2.2.2.2.2.2.2.1, hmd.2.2.2.2.2.2.2.2.2.2.1, hmd.2.2.2.2.2.2.2.2.2.2.2.1, hmd.2.2.2.2.2.2.2.2.2.2.2.2.1, hmd.2.2.2.2.2.2.2.2.2.2.2.2.2.1, hmd.2.2.2.2.2.2.2.2.2.2.2.2.2.2.1, hmd.2.2.2.2.2.2.2.2.2.2.2.2.2.2.2.1, hmd.2.2.2.2.2.2.2.2.2.2.2.2.2.2.2.2.1, hmd.2.2.2.2.2.2.2.2.2.2.2.2.2.2.2.2.2.1, hmd.2.2.2.2.2.2.2.2.2.2.2.2.2.2.2.2.2.2.1, hmd.2.2.2.2.2.2.2.2.2.2.2.2.2.2.2.2.2.2.2.1, hmd.2.2.2.2.2.2.2.2.2.2.2.2.2.2.2.2.2.2.2.2.1, hmd.2.2.2.2.2.2.2.2.2.2.2.2.2.2.2.2.2.2.2.2.2.1, hmd.2.2.2.2.2.2.2.2.2.2.2.2.2.2.2.2.2.2.2.2.2.2.1, hmd.2.2.2.2.2.2.2.2.2.2.2.2.2.2.2.2.2.2.2.2.2.2.2.1, hmd.2.2.2.2.2.2.2.2.2.2.2.2.2.2.2.2.2.2.2.2.2.2.2.2, hy, z0, i4, ck, g4, hin, b2i_0, q', and_self]
        simp only [eX9_item_37, eX9_item_38, eX9_item_41, eX9_item_43, eX9_item_44, eX9_item_45, eX9_item_46, eX9_item_47, eX9_item_48, eX9_item_50, eX9_item_53, eX9_item_54, eX9_item_55, cont_some, tl_some, tl_none, csum_nil, csum_i, csum_r, csum_j, isc2_i, isc2_r, isc2_n, va_rf_s, vfn_ite, true_and, and_true, true_or, or_true, eq_self, Bool.false_eq_true, not_false_eq_true, not_true_eq_false, if_true, if_false, Nat.reduceAdd, Nat.reduceLeDiff, reduceIte, hmd.1, hmd.2.1, hmd.2.2.1, hmd.2.2.2.1, hmd.2.2.2.2.1, hmd.2.2.2.2.2.1, hmd.2.2.2.2.2.2.1, hmd.2.2.2.2.2.2.2.1, hmd.2.2.2.2.2.2.2.2.1, hmd.2.2.2.2.2.2.2.2.2.1, hmd.2.2.2.2.2.2.2.2.2.2.1, hmd.2.2.2.2.2.2.2.2.2.2.2.1, hmd.2.2.2.2.2.2.2.2.2.2.2.2.1, hmd.2.2.2.2.2.2.2.2.2.2.2.2.2.1, hmd.2.2.2.2.2.2.2.2.2.2.2.2.2.2.1, hmd.2.2.2.2.2.2.2.2.2.2.2.2.2.2.2.1, hmd.2.2.2.2.2.2.2.2.2.2.2.2.2.2.2.2.1, hmd.2.2.2.2.2.2.2.2.2.2.2.2.2.2.2.2.2.1, hmd.2.2.2.2.2.2.2.2.2.2.2.2.2.2.2.2.2.2.1, hmd.2.2.2.2.2.2.2.2.2.2.2.2.2.2.2.2.2.2.2.1, hmd.2.2.2.2.2.2.2.2.2.2.2.2.2.2.2.2.2.2.2.2.1, hmd.2.2.2.2.2.2.2.2.2.2.2.2.2.2.2.2.2.2.2.2.2.1, hmd.2.2.2.2.2.2.2.2.2.2.2.2.2.2.2.2.2.2.2.2.2.2.1, hmd.2.2.2.2.2.2.2.2.2.2.2.2.2.2.2.2.2.2.2.2.2.2.2.1, hmd.2.2.2.2.2.2.2.2.2.2.2.2.2.2.2.2.2.2.2.2.2.2.2.2, nI_p24, pk_mul, nI_a, s_kept, inA_nI (show 24 * k + j < 96 by omega) (by omega), nI_clamp (show 24 * k + j < 2 ^ 31 by omega)]
      · rw [ck, cj]
        refine ⟨by have := (hS.2 k' hk').1; exact this, fun i' hi' => ?_⟩
        simp only [setI, rdJ_wrJ]
        by_cases z : k' = k ∧ i' = j
        · rw [if_pos (show True ∧ 24 * k' + i' = 24 * k + j from ⟨trivial, by omega⟩), if_pos z]
        · rw [if_neg (show ¬ (True ∧ 24 * k' + i' = 24 * k + j) by omega), if_neg z]; exact (hS.2 k' hk').2 i' hi'
    · have q' : ¬ (0 ≤ i ∧ i ≤ nI len - 1) := fun z => q (hiff.mp z)
      refine ⟨w, -13, h, ?_, Or.inl ⟨-13, Or.inr ⟨k, hk4, rfl, hl, Or.inr ⟨l', len, hi, Or.inr (Or.inl ⟨rfl, q, rfl⟩)⟩⟩, by decide, rfl, rfl⟩, hS, FrX.rf⟩
      refine sem_eq (Nat.le_of_ble_eq_true rfl) ?_
      show wp mX9_item 0 [some (.ref o), some (.int (nI k)), some (.int (nI l')), some (.int i), some (.long v), none, none] [] _ _
      simp only [eX9_item_0, eX9_item_1, eX9_item_2, eX9_item_3, eX9_item_6, eX9_item_8, eX9_item_10, eX9_item_13, eX9_item_15, eX9_item_16, eX9_item_17, eX9_item_18, eX9_item_19, eX9_item_20, eX9_item_23, eX9_item_24, eX9_item_25, eX9_item_26, eX9_item_27, eX9_item_28, eX9_item_31, eX9_item_34, eX9_item_36, cont_some, tl_some, tl_none, csum_nil, csum_i, csum_r, csum_j, isc2_i, isc2_r, isc2_n, va_rf_s, vfn_ite, true_and, and_true, true_or, or_true, eq_self, Bool.false_eq_true, not_false_eq_true, not_true_eq_false, if_true, if_false, Nat.reduceAdd, Nat.reduceLeDiff, reduceIte, hmd.1, hmd.2.1, hmd.2.2.1, hmd.2.2.2.1, hmd.2.2.2.2.1, hmd.2.2.2.2.2.1, hmd.2.2.2.2.2.2.1, hmd.2.2.2.2.2.2.2.1, hmd.2.2.2.2.2.2.2.2.1, hmd.2.2.2.2.2.2.2.2.2.1, hmd.2.2.2.2.2.2.2.2.2.2.1, hmd.2.2.2.2.2.2.2.2.2.2.2.1, hmd.2.2.2.2.2.2.2.2.2.2.2.2.1, hmd.2.2.2.2.2.2.2.2.2.2.2.2.2.1, hmd.2.2.2.2.2.2.2.2.2.2.2.2.2.2.1, hmd.2.2.2.2.2.2.2.2.2.2.2.2.2.2.2.1, hmd.2.2.2.2.2.2.2.2.2.2.2.2.2.2.2.2.1, hmd.2.2.2.2.2.2.2.2.2.2.2.2.2.2.2.2.2.1, hmd.2.2.2.2.2.2.2.2.2.2.2.2.2.2.2.2.2.2.1, hmd.2.2.2.2.2.2.2.2.2.2.2.2.2.2.2.2.2.2.2.1, hmd.2.2.2.2.2.2.2.2.2.2.2.2.2.2.2.2.2.2.2.2.1, hmd.2.2.2.2.2.2.2.2.2.2.2.2.2.2.2.2.2.2.2.2.2.1, hmd.2.2.2.2.2.2.2.2.2.2.2.2.2.2.2.2.2.2.2.2.2.2.1, hmd.2.2.2.2.2.2.2.2.2.2.2.2.2.2.2.2.2.2.2.2.2.2.2.1, hmd.2.2.2.2.2.2.2.2.2.2.2.2.2.2.2.2.2.2.2.2.2.2.2.2, hy, z0, i4, ck, g4, hin, b2i_0, q']
