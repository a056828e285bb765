theorem nI_ltj {a b : Nat} (ha : a < 2 ^ 31) (hb : b < 2 ^ 31) : nI a < nI b ↔ a < b := by
  rw [Int32.lt_iff_toInt_lt, nI_toInt ha, nI_toInt hb]
  omega
def edE (L : Nat) : Nat := if L < 2 then 0 else if L = 2 then 1 else L
theorem ed_ref {L : Nat} (h : L ≤ 10) : ∃ r : Int32, (if nI L < 3 then nI L - 1 else nI L) = r ∧ ∀ k : Nat, k < 2 ^ 31 → (nI k < r ↔ k < edE L) := by
  refine ⟨_, rfl, fun k hk => ?_⟩
  unfold edE
  have hc : L = 0 ∨ L = 1 ∨ L = 2 ∨ 3 ≤ L := by omega
  rcases hc with rfl | rfl | rfl | h3
  · have e : (if nI 0 < 3 then nI 0 - 1 else nI 0) = (-1 : Int32) := by decide
    rw [e, if_pos (by omega)]
    have : ¬ nI k < -1 := fun z => by
      have := Int32.lt_iff_toInt_lt.mp z
      rw [nI_toInt hk] at this
      have e1 : (-1 : Int32).toInt = -1 := by decide
      omega
    exact ⟨fun z => absurd z this, fun z => absurd z (by omega)⟩
  · have e : (if nI 1 < 3 then nI 1 - 1 else nI 1) = nI 0 := by decide
    rw [e, if_pos (by omega)]
    exact ⟨fun z => absurd z (nI_nlt (by omega) (by omega)), fun z => absurd z (by omega)⟩
  · have e : (if nI 2 < 3 then nI 2 - 1 else nI 2) = nI 1 := by decide
    rw [e, if_neg (by omega), if_pos rfl]
    exact nI_ltj (by omega) (by omega)
  · have e : ¬ nI L < 3 := nI_nlt (b := 3) (by omega) (by omega)
    rw [if_neg e, if_neg (by omega), if_neg (by omega)]
    exact nI_ltj (by omega) (by omega)
theorem p_edge {w w' : Wd} {b o A B : Nat} {c : Cst} {x k z : Int32} (hb : bdS c.1) (hC : CC w b c) (hV : isV w (b + 33)) (hF : frIs w (b + 52) A B) (hM : MC w' o c) : ∃ r u u' A' B', fX8_edge [.ref b, .int x, .int k, .int z] w = some (some (.int r), u) ∧ fX9_edge [.ref o, .int x, .int k, .int z] w' = some (some (.int r), u') ∧ (∃ v, Fr (b + 33) (b + 37) w v ∧ Fr (b + 52) (b + 53) v u) ∧ frIs u (b + 52) A' B' ∧ isV u (b + 33) ∧ FrX (Xv o) w' u' := by
  have hc := hC.1
  have hm := hM.1
  by_cases q : 0 ≤ x ∧ x ≤ 2
  · by_cases qk : k < 0
    · refine ⟨-1, w, w', A, B, ?_, ?_, ⟨w, Fr.rf, Fr.rf⟩, hF, hV, FrX.rf⟩
      · refine sem_eq (Nat.le_of_ble_eq_true rfl) ?_
        show wp mX8_edge 0 [some (.ref b), some (.int x), some (.int k), some (.int z), none, none, none, none, none] [] _ _
        simp only [eX8_edge_0, eX8_edge_1, eX8_edge_4, eX8_edge_7, eX8_edge_8, eX8_edge_11, eX8_edge_12, eX8_edge_13, eX8_edge_14, eX8_edge_17, eX8_edge_20, eX8_edge_21, cont_some, tl_some, tl_none, csum_nil, csum_i, csum_r, csum_j, isc2_i, isc2_r, isc2_n, va_rf_s, vfn_ite, true_and, and_true, true_or, or_true, eq_self, Bool.false_eq_true, not_false_eq_true, not_true_eq_false, if_true, if_false, Nat.reduceAdd, Nat.reduceLeDiff, reduceIte, s_isAxis, b2i_0, q, and_self, qk]
      · refine sem_eq (Nat.le_of_ble_eq_true rfl) ?_
        show wp mX9_edge 0 [some (.ref o), some (.int x), some (.int k), some (.int z), none, none, none, none, none, none, none, none] [] _ _
        simp only [eX9_edge_0, eX9_edge_1, eX9_edge_2, eX9_edge_3, eX9_edge_6, eX9_edge_9, eX9_edge_12, eX9_edge_13, eX9_edge_16, eX9_edge_17, eX9_edge_18, eX9_edge_19, eX9_edge_22, eX9_edge_25, eX9_edge_28, eX9_edge_29, cont_some, tl_some, tl_none, csum_nil, csum_i, csum_r, csum_j, isc2_i, isc2_r, isc2_n, va_rf_s, vfn_ite, true_and, and_true, true_or, or_true, eq_self, Bool.false_eq_true, not_false_eq_true, not_true_eq_false, if_true, if_false, Nat.reduceAdd, Nat.reduceLeDiff, reduceIte, in02, b2i_0, q, and_self, qk]
    · by_cases qz : 0 ≤ z ∧ z ≤ 2
      · have q0 := q
        obtain ⟨a, ha, rfl⟩ := ax_iff.mp q
        obtain ⟨j, hj, rfl⟩ := nI_of qk
        have hin := bd_in (a := a) hb
        obtain ⟨O, L, hu⟩ := hu_ex hin
        obtain ⟨l1, l2⟩ := hu.lt hin
        have h10 := hC.2.1.2.2.1
        obtain ⟨u, h1, h2, h3, h4⟩ := c_wrapAlong hC hV hb ha hu
        obtain ⟨x', g1, g2, g3⟩ := m_sees ha hm hM.2.1
        have hmx := g3.md hm
        obtain ⟨u', g4, g5, g6, g7⟩ := m_round hin hu hmx g2
        have hmu := g7.md hmx
        have hcu := hc.fr h4 (by omega)
        have hFu := hF.fr h4 (by omega)
        have eE := s_edges h2.1 h3.1 (by omega)
        obtain ⟨r', er, hr'⟩ := ed_ref (show L ≤ 10 by omega)
        have hbeg : ∀ {Q : Option Value → Wd → Prop}, wp mX9_edge 60 [some (.ref o), some (.int (nI a)), some (.int (nI j)), some (.int z), none, none, none, none, none, none, none, none] [.int r'] u' Q → wp mX9_edge 0 [some (.ref o), some (.int (nI a)), some (.int (nI j)), some (.int z), none, none, none, none, none, none, none, none] [] w' Q := by
          intro Q hQ
          simp only [eX9_edge_0, eX9_edge_1, eX9_edge_2, eX9_edge_3, eX9_edge_6, eX9_edge_9, eX9_edge_12, eX9_edge_13, eX9_edge_16, eX9_edge_17, eX9_edge_18, eX9_edge_19, eX9_edge_22, eX9_edge_25, eX9_edge_28, eX9_edge_29, eX9_edge_30, eX9_edge_31, eX9_edge_32, cont_some, tl_some, tl_none, csum_nil, csum_i, csum_r, csum_j, isc2_i, isc2_r, isc2_n, va_rf_s, vfn_ite, true_and, and_true, true_or, or_true, eq_self, Bool.false_eq_true, not_false_eq_true, not_true_eq_false, if_true, if_false, Nat.reduceAdd, Nat.reduceLeDiff, reduceIte, in02, b2i_0, q0, and_self, qk, qz, hm.1, hm.2.1, hm.2.2.1, hm.2.2.2.1, hm.2.2.2.2.1, hm.2.2.2.2.2.1, hm.2.2.2.2.2.2.1, hm.2.2.2.2.2.2.2.1, hm.2.2.2.2.2.2.2.2.1, hm.2.2.2.2.2.2.2.2.2.1, hm.2.2.2.2.2.2.2.2.2.2.1, hm.2.2.2.2.2.2.2.2.2.2.2.1, hm.2.2.2.2.2.2.2.2.2.2.2.2.1, hm.2.2.2.2.2.2.2.2.2.2.2.2.2.1, hm.2.2.2.2.2.2.2.2.2.2.2.2.2.2.1, hm.2.2.2.2.2.2.2.2.2.2.2.2.2.2.2.1, hm.2.2.2.2.2.2.2.2.2.2.2.2.2.2.2.2.1, hm.2.2.2.2.2.2.2.2.2.2.2.2.2.2.2.2.2.1, hm.2.2.2.2.2.2.2.2.2.2.2.2.2.2.2.2.2.2.1, hm.2.2.2.2.2.2.2.2.2.2.2.2.2.2.2.2.2.2.2.1, hm.2.2.2.2.2.2.2.2.2.2.2.2.2.2.2.2.2.2.2.2.1, hm.2.2.2.2.2.2.2.2.2.2.2.2.2.2.2.2.2.2.2.2.2.1, hm.2.2.2.2.2.2.2.2.2.2.2.2.2.2.2.2.2.2.2.2.2.2.1, hm.2.2.2.2.2.2.2.2.2.2.2.2.2.2.2.2.2.2.2.2.2.2.2.1, hm.2.2.2.2.2.2.2.2.2.2.2.2.2.2.2.2.2.2.2.2.2.2.2.2, g1]
          simp only [eX9_edge_35, eX9_edge_36, cont_some, tl_some, tl_none, csum_nil, csum_i, csum_r, csum_j, isc2_i, isc2_r, isc2_n, va_rf_s, vfn_ite, true_and, and_true, true_or, or_true, eq_self, Bool.false_eq_true, not_false_eq_true, not_true_eq_false, if_true, if_false, Nat.reduceAdd, Nat.reduceLeDiff, reduceIte, hmx.1, hmx.2.1, hmx.2.2.1, hmx.2.2.2.1, hmx.2.2.2.2.1, hmx.2.2.2.2.2.1, hmx.2.2.2.2.2.2.1, hmx.2.2.2.2.2.2.2.1, hmx.2.2.2.2.2.2.2.2.1, hmx.2.2.2.2.2.2.2.2.2.1, hmx.2.2.2.2.2.2.2.2.2.2.1, hmx.2.2.2.2.2.2.2.2.2.2.2.1, hmx.2.2.2.2.2.2.2.2.2.2.2.2.1, hmx.2.2.2.2.2.2.2.2.2.2.2.2.2.1, hmx.2.2.2.2.2.2.2.2.2.2.2.2.2.2.1, hmx.2.2.2.2.2.2.2.2.2.2.2.2.2.2.2.1, hmx.2.2.2.2.2.2.2.2.2.2.2.2.2.2.2.2.1, hmx.2.2.2.2.2.2.2.2.2.2.2.2.2.2.2.2.2.1, hmx.2.2.2.2.2.2.2.2.2.2.2.2.2.2.2.2.2.2.1, hmx.2.2.2.2.2.2.2.2.2.2.2.2.2.2.2.2.2.2.2.1, hmx.2.2.2.2.2.2.2.2.2.2.2.2.2.2.2.2.2.2.2.2.1, hmx.2.2.2.2.2.2.2.2.2.2.2.2.2.2.2.2.2.2.2.2.2.1, hmx.2.2.2.2.2.2.2.2.2.2.2.2.2.2.2.2.2.2.2.2.2.2.1, hmx.2.2.2.2.2.2.2.2.2.2.2.2.2.2.2.2.2.2.2.2.2.2.2.1, hmx.2.2.2.2.2.2.2.2.2.2.2.2.2.2.2.2.2.2.2.2.2.2.2.2, g4]
          simp only [eX9_edge_39, eX9_edge_40, eX9_edge_43, eX9_edge_44, cont_some, tl_some, tl_none, csum_nil, csum_i, csum_r, csum_j, isc2_i, isc2_r, isc2_n, va_rf_s, vfn_ite, true_and, and_true, true_or, or_true, eq_self, Bool.false_eq_true, not_false_eq_true, not_true_eq_false, if_true, if_false, Nat.reduceAdd, Nat.reduceLeDiff, reduceIte, hmu.1, hmu.2.1, hmu.2.2.1, hmu.2.2.2.1, hmu.2.2.2.2.1, hmu.2.2.2.2.2.1, hmu.2.2.2.2.2.2.1, hmu.2.2.2.2.2.2.2.1, hmu.2.2.2.2.2.2.2.2.1, hmu.2.2.2.2.2.2.2.2.2.1, hmu.2.2.2.2.2.2.2.2.2.2.1, hmu.2.2.2.2.2.2.2.2.2.2.2.1, hmu.2.2.2.2.2.2.2.2.2.2.2.2.1, hmu.2.2.2.2.2.2.2.2.2.2.2.2.2.1, hmu.2.2.2.2.2.2.2.2.2.2.2.2.2.2.1, hmu.2.2.2.2.2.2.2.2.2.2.2.2.2.2.2.1, hmu.2.2.2.2.2.2.2.2.2.2.2.2.2.2.2.2.1, hmu.2.2.2.2.2.2.2.2.2.2.2.2.2.2.2.2.2.1, hmu.2.2.2.2.2.2.2.2.2.2.2.2.2.2.2.2.2.2.1, hmu.2.2.2.2.2.2.2.2.2.2.2.2.2.2.2.2.2.2.2.1, hmu.2.2.2.2.2.2.2.2.2.2.2.2.2.2.2.2.2.2.2.2.1, hmu.2.2.2.2.2.2.2.2.2.2.2.2.2.2.2.2.2.2.2.2.2.1, hmu.2.2.2.2.2.2.2.2.2.2.2.2.2.2.2.2.2.2.2.2.2.2.1, hmu.2.2.2.2.2.2.2.2.2.2.2.2.2.2.2.2.2.2.2.2.2.2.2.1, hmu.2.2.2.2.2.2.2.2.2.2.2.2.2.2.2.2.2.2.2.2.2.2.2.2, g6.1]
          by_cases y : nI L < 3
          · rw [if_pos y] at er ⊢
            rw [← er] at hQ
            simp only [eX9_edge_47, eX9_edge_48, eX9_edge_51, eX9_edge_52, eX9_edge_53, cont_some, tl_some, tl_none, csum_nil, csum_i, csum_r, csum_j, isc2_i, isc2_r, isc2_n, va_rf_s, vfn_ite, true_and, and_true, true_or, or_true, eq_self, Bool.false_eq_true, not_false_eq_true, not_true_eq_false, if_true, if_false, Nat.reduceAdd, Nat.reduceLeDiff, reduceIte, hmu.1, hmu.2.1, hmu.2.2.1, hmu.2.2.2.1, hmu.2.2.2.2.1, hmu.2.2.2.2.2.1, hmu.2.2.2.2.2.2.1, hmu.2.2.2.2.2.2.2.1, hmu.2.2.2.2.2.2.2.2.1, hmu.2.2.2.2.2.2.2.2.2.1, hmu.2.2.2.2.2.2.2.2.2.2.1, hmu.2.2.2.2.2.2.2.2.2.2.2.1, hmu.2.2.2.2.2.2.2.2.2.2.2.2.1, hmu.2.2.2.2.2.2.2.2.2.2.2.2.2.1, hmu.2.2.2.2.2.2.2.2.2.2.2.2.2.2.1, hmu.2.2.2.2.2.2.2.2.2.2.2.2.2.2.2.1, hmu.2.2.2.2.2.2.2.2.2.2.2.2.2.2.2.2.1, hmu.2.2.2.2.2.2.2.2.2.2.2.2.2.2.2.2.2.1, hmu.2.2.2.2.2.2.2.2.2.2.2.2.2.2.2.2.2.2.1, hmu.2.2.2.2.2.2.2.2.2.2.2.2.2.2.2.2.2.2.2.1, hmu.2.2.2.2.2.2.2.2.2.2.2.2.2.2.2.2.2.2.2.2.1, hmu.2.2.2.2.2.2.2.2.2.2.2.2.2.2.2.2.2.2.2.2.2.1, hmu.2.2.2.2.2.2.2.2.2.2.2.2.2.2.2.2.2.2.2.2.2.2.1, hmu.2.2.2.2.2.2.2.2.2.2.2.2.2.2.2.2.2.2.2.2.2.2.2.1, hmu.2.2.2.2.2.2.2.2.2.2.2.2.2.2.2.2.2.2.2.2.2.2.2.2, g6.1]
            exact hQ
          · rw [if_neg y] at er ⊢
            rw [← er] at hQ
            simp only [eX9_edge_56, cont_some, tl_some, tl_none, csum_nil, csum_i, csum_r, csum_j, isc2_i, isc2_r, isc2_n, va_rf_s, vfn_ite, true_and, and_true, true_or, or_true, eq_self, Bool.false_eq_true, not_false_eq_true, not_true_eq_false, if_true, if_false, Nat.reduceAdd, Nat.reduceLeDiff, reduceIte, hmu.1, hmu.2.1, hmu.2.2.1, hmu.2.2.2.1, hmu.2.2.2.2.1, hmu.2.2.2.2.2.1, hmu.2.2.2.2.2.2.1, hmu.2.2.2.2.2.2.2.1, hmu.2.2.2.2.2.2.2.2.1, hmu.2.2.2.2.2.2.2.2.2.1, hmu.2.2.2.2.2.2.2.2.2.2.1, hmu.2.2.2.2.2.2.2.2.2.2.2.1, hmu.2.2.2.2.2.2.2.2.2.2.2.2.1, hmu.2.2.2.2.2.2.2.2.2.2.2.2.2.1, hmu.2.2.2.2.2.2.2.2.2.2.2.2.2.2.1, hmu.2.2.2.2.2.2.2.2.2.2.2.2.2.2.2.1, hmu.2.2.2.2.2.2.2.2.2.2.2.2.2.2.2.2.1, hmu.2.2.2.2.2.2.2.2.2.2.2.2.2.2.2.2.2.1, hmu.2.2.2.2.2.2.2.2.2.2.2.2.2.2.2.2.2.2.1, hmu.2.2.2.2.2.2.2.2.2.2.2.2.2.2.2.2.2.2.2.1, hmu.2.2.2.2.2.2.2.2.2.2.2.2.2.2.2.2.2.2.2.2.1, hmu.2.2.2.2.2.2.2.2.2.2.2.2.2.2.2.2.2.2.2.2.2.1, hmu.2.2.2.2.2.2.2.2.2.2.2.2.2.2.2.2.2.2.2.2.2.2.1, hmu.2.2.2.2.2.2.2.2.2.2.2.2.2.2.2.2.2.2.2.2.2.2.2.1, hmu.2.2.2.2.2.2.2.2.2.2.2.2.2.2.2.2.2.2.2.2.2.2.2.2, g6.1]
            simp only [eX9_edge_57, cont_some, tl_some, tl_none, csum_nil, csum_i, csum_r, csum_j, isc2_i, isc2_r, isc2_n, va_rf_s, vfn_ite, true_and, and_true, true_or, or_true, eq_self, Bool.false_eq_true, not_false_eq_true, not_true_eq_false, if_true, if_false, Nat.reduceAdd, Nat.reduceLeDiff, reduceIte, hmu.1, hmu.2.1, hmu.2.2.1, hmu.2.2.2.1, hmu.2.2.2.2.1, hmu.2.2.2.2.2.1, hmu.2.2.2.2.2.2.1, hmu.2.2.2.2.2.2.2.1, hmu.2.2.2.2.2.2.2.2.1, hmu.2.2.2.2.2.2.2.2.2.1, hmu.2.2.2.2.2.2.2.2.2.2.1, hmu.2.2.2.2.2.2.2.2.2.2.2.1, hmu.2.2.2.2.2.2.2.2.2.2.2.2.1, hmu.2.2.2.2.2.2.2.2.2.2.2.2.2.1, hmu.2.2.2.2.2.2.2.2.2.2.2.2.2.2.1, hmu.2.2.2.2.2.2.2.2.2.2.2.2.2.2.2.1, hmu.2.2.2.2.2.2.2.2.2.2.2.2.2.2.2.2.1, hmu.2.2.2.2.2.2.2.2.2.2.2.2.2.2.2.2.2.1, hmu.2.2.2.2.2.2.2.2.2.2.2.2.2.2.2.2.2.2.1, hmu.2.2.2.2.2.2.2.2.2.2.2.2.2.2.2.2.2.2.2.1, hmu.2.2.2.2.2.2.2.2.2.2.2.2.2.2.2.2.2.2.2.2.1, hmu.2.2.2.2.2.2.2.2.2.2.2.2.2.2.2.2.2.2.2.2.2.1, hmu.2.2.2.2.2.2.2.2.2.2.2.2.2.2.2.2.2.2.2.2.2.2.1, hmu.2.2.2.2.2.2.2.2.2.2.2.2.2.2.2.2.2.2.2.2.2.2.2.1, hmu.2.2.2.2.2.2.2.2.2.2.2.2.2.2.2.2.2.2.2.2.2.2.2.2, g6.1]
            exact hQ
        by_cases qe : j < edE L
        · have hL : 2 ≤ L ∧ j < L := by unfold edE at qe; split at qe <;> (try split at qe) <;> omega
          obtain ⟨o1, o2, o3, o4⟩ := hu_edge hin hu hL.1 hL.2
          obtain ⟨F, hFd⟩ : ∃ F, F = O j := ⟨_, rfl⟩
          obtain ⟨T, hTd⟩ : ∃ T, T = O (j + 1) := ⟨_, rfl⟩
          rw [← hFd] at o1 o3
          rw [← hTd] at o2 o3
          obtain ⟨C, hCd⟩ : ∃ C, C = opF (uOf c.1 a) (vOf c.1 a) F T (c.1.1 - 1) 1 0 := ⟨_, rfl⟩
          have hCn : C < c.1.1 := by rw [hCd]; exact opF_lt _ _ _ (by omega) (by omega)
          have kc := crZ_b hin o1 o2 hCn
          have kd := dsZ_b hin o1 o2
          have kp := dsZ_nn (x := uZ (uOf c.1 a)) (y := uZ (vOf c.1 a)) (a := F) (b := T)
          have i10 := inA_nI (show j < 10 by omega) (show 10 < 2147483648 by omega)
          have i11 := inA_nI (show j < 11 by omega) (show 11 < 2147483648 by omega)
          have cj := nI_clamp (show j < 2 ^ 31 by omega)
          have c1 := s_cross h2 o1 o2 hCn
          have c2 := s_v_apart h2 o1 o2
          have c3 := s_opp h2 hin o1 o2
          rw [← hCd] at c3
          have km := Nat.mul_le_mul kc kc
          obtain ⟨N, hN⟩ : ∃ N, N = (crZ (uZ (uOf c.1 a)) (uZ (vOf c.1 a)) F T C).natAbs * (crZ (uZ (uOf c.1 a)) (uZ (vOf c.1 a)) F T C).natAbs := ⟨_, rfl⟩
          obtain ⟨D, hD⟩ : ∃ D, D = (dsZ (uZ (uOf c.1 a)) (uZ (vOf c.1 a)) F T).natAbs := ⟨_, rfl⟩
          have e1 := i2l_cr kc
          have e2 := i2l_ds kd
          rw [← hN] at e1 km
          rw [← hD] at e2
          have D0 : 0 < D := by omega
          have DB : D ≤ 1800 := by omega
          have hbc := s_fr_become (w := u) (q := b + 52) hFu.1 (show N < 2 ^ 62 by omega) (show D < 2 ^ 50 by omega) D0
          have hT' : rdI u (b + 33 + 3) (if nI (j + 1) < nI L then j + 1 else 0) = nI T := by
            by_cases y : j + 1 < L
            · rw [if_pos (nI_lt y (by omega)), h3.2 _ y, hTd]
            · rw [if_neg (nI_nlt (by omega) (by omega)), h3.2 _ (by omega), hTd, o4 (by omega)]
          have hr : rdI u' (o + 11) ((j + 1) % L) = nI T := by
            by_cases y : j + 1 < L
            · rw [Nat.mod_eq_of_lt y, g6.2 _ y, hTd]
            · rw [show j + 1 = L by omega, Nat.mod_self, g6.2 _ (by omega), hTd, o4 (by omega)]
          have hpart := s_fr_part (x := z) (frW_is (w := u) (q := b + 52) (A := N) (B := D) hFu.1)
          have hcf := hcu.fr (frW_fr (w := u) (q := b + 52) (A := N) (B := D)) (by omega)
          have hed : nI j < nI (if L < 2 then 0 else if L = 2 then 1 else L) := nI_lt qe (by split <;> (try split) <;> omega)
          have hto : ∀ {Q : Option Value → Wd → Prop}, wp mX8_edge 80 [some (.ref b), some (.int (nI a)), some (.int (nI j)), some (.int z), some (.int (nI F)), none, none, none, none] [.int (nI T)] u Q → wp mX8_edge 0 [some (.ref b), some (.int (nI a)), some (.int (nI j)), some (.int z), none, none, none, none, none] [] w Q := by
            intro Q hQ
            simp only [eX8_edge_0, eX8_edge_1, eX8_edge_4, eX8_edge_7, eX8_edge_8, eX8_edge_11, eX8_edge_12, eX8_edge_13, eX8_edge_14, eX8_edge_17, eX8_edge_20, eX8_edge_21, eX8_edge_22, eX8_edge_23, eX8_edge_24, cont_some, tl_some, tl_none, csum_nil, csum_i, csum_r, csum_j, isc2_i, isc2_r, isc2_n, va_rf_s, vfn_ite, true_and, and_true, true_or, or_true, eq_self, Bool.false_eq_true, not_false_eq_true, not_true_eq_false, if_true, if_false, Nat.reduceAdd, Nat.reduceLeDiff, reduceIte, s_isAxis, s_isIn, b2i_0, q0, and_self, qk, qz, hc.1, hc.2.1, hc.2.2.1, hc.2.2.2.1, hc.2.2.2.2.1, hc.2.2.2.2.2.1, hc.2.2.2.2.2.2.1, hc.2.2.2.2.2.2.2.1, hc.2.2.2.2.2.2.2.2.1, hc.2.2.2.2.2.2.2.2.2.1, hc.2.2.2.2.2.2.2.2.2.2, h1]
            simp only [eX8_edge_27, eX8_edge_28, eX8_edge_29, eX8_edge_32, eX8_edge_35, eX8_edge_38, eX8_edge_40, eX8_edge_41, eX8_edge_42, eX8_edge_45, eX8_edge_48, eX8_edge_49, eX8_edge_50, eX8_edge_52, eX8_edge_53, eX8_edge_56, eX8_edge_59, eX8_edge_60, eX8_edge_61, eX8_edge_62, eX8_edge_63, eX8_edge_66, eX8_edge_69, cont_some, tl_some, tl_none, csum_nil, csum_i, csum_r, csum_j, isc2_i, isc2_r, isc2_n, va_rf_s, vfn_ite, true_and, and_true, true_or, or_true, eq_self, Bool.false_eq_true, not_false_eq_true, not_true_eq_false, if_true, if_false, Nat.reduceAdd, Nat.reduceLeDiff, reduceIte, hcu.1, hcu.2.1, hcu.2.2.1, hcu.2.2.2.1, hcu.2.2.2.2.1, hcu.2.2.2.2.2.1, hcu.2.2.2.2.2.2.1, hcu.2.2.2.2.2.2.2.1, hcu.2.2.2.2.2.2.2.2.1, hcu.2.2.2.2.2.2.2.2.2.1, hcu.2.2.2.2.2.2.2.2.2.2, h2.1.1, h2.1.2.2.2.1, h2.1.2.2.2.2.2.2, eE, hed, i10, cj, h3.2 j hL.2, h3.1, nI_1, ← hFd]
            by_cases y : nI (j + 1) < nI L
            · rw [if_pos y] at hT' ⊢
              have y' : j + 1 < L := (nI_ltj (by omega) (by omega)).mp y
              simp only [eX8_edge_72, eX8_edge_73, eX8_edge_74, eX8_edge_75, eX8_edge_78, eX8_edge_79, cont_some, tl_some, tl_none, csum_nil, csum_i, csum_r, csum_j, isc2_i, isc2_r, isc2_n, va_rf_s, vfn_ite, true_and, and_true, true_or, or_true, eq_self, Bool.false_eq_true, not_false_eq_true, not_true_eq_false, if_true, if_false, Nat.reduceAdd, Nat.reduceLeDiff, reduceIte, hcu.1, hcu.2.1, hcu.2.2.1, hcu.2.2.2.1, hcu.2.2.2.2.1, hcu.2.2.2.2.2.1, hcu.2.2.2.2.2.2.1, hcu.2.2.2.2.2.2.2.1, hcu.2.2.2.2.2.2.2.2.1, hcu.2.2.2.2.2.2.2.2.2.1, hcu.2.2.2.2.2.2.2.2.2.2, h2.1.2.2.2.2.2.2, nI_1, inA_nI (show j + 1 < 10 by omega) (show 10 < 2147483648 by omega), nI_clamp (show j + 1 < 2 ^ 31 by omega), hT']
              exact hQ
            · rw [if_neg y] at hT' ⊢
              have i0 : inA 0 10 = true := by decide
              have c0 : (0 : Int32).toNatClampNeg = 0 := by decide
              simp only [eX8_edge_78, eX8_edge_79, cont_some, tl_some, tl_none, csum_nil, csum_i, csum_r, csum_j, isc2_i, isc2_r, isc2_n, va_rf_s, vfn_ite, true_and, and_true, true_or, or_true, eq_self, Bool.false_eq_true, not_false_eq_true, not_true_eq_false, if_true, if_false, Nat.reduceAdd, Nat.reduceLeDiff, reduceIte, hcu.1, hcu.2.1, hcu.2.2.1, hcu.2.2.2.1, hcu.2.2.2.2.1, hcu.2.2.2.2.2.1, hcu.2.2.2.2.2.2.1, hcu.2.2.2.2.2.2.2.1, hcu.2.2.2.2.2.2.2.2.1, hcu.2.2.2.2.2.2.2.2.2.1, hcu.2.2.2.2.2.2.2.2.2.2, h2.1.2.2.2.2.2.2, i0, c0, hT']
              exact hQ
          have hcls : ∃ u2 A' B', fX8_edge [.ref b, .int (nI a), .int (nI j), .int z] w = some (some (.int (edA (uOf c.1 a) (vOf c.1 a) c.1.1 F T z)), u2) ∧ Fr (b + 52) (b + 53) u u2 ∧ frIs u2 (b + 52) A' B' := by
            unfold edA
            rw [← hCd, ← hN, ← hD]
            by_cases z2 : z = 2
            · refine ⟨u, A, B, ?_, Fr.rf, hFu⟩
              refine sem_eq (Nat.le_of_ble_eq_true rfl) ?_
              show wp mX8_edge 0 [some (.ref b), some (.int (nI a)), some (.int (nI j)), some (.int z), none, none, none, none, none] [] _ _
              refine hto ?_
              simp only [eX8_edge_80, eX8_edge_82, eX8_edge_83, eX8_edge_86, eX8_edge_88, eX8_edge_90, eX8_edge_93, eX8_edge_95, eX8_edge_96, eX8_edge_97, eX8_edge_100, eX8_edge_102, cont_some, tl_some, tl_none, csum_nil, csum_i, csum_r, csum_j, isc2_i, isc2_r, isc2_n, va_rf_s, vfn_ite, true_and, and_true, true_or, or_true, eq_self, Bool.false_eq_true, not_false_eq_true, not_true_eq_false, if_true, if_false, Nat.reduceAdd, Nat.reduceLeDiff, reduceIte, hcu.1, hcu.2.1, hcu.2.2.1, hcu.2.2.2.1, hcu.2.2.2.2.1, hcu.2.2.2.2.2.1, hcu.2.2.2.2.2.2.1, hcu.2.2.2.2.2.2.2.1, hcu.2.2.2.2.2.2.2.2.1, hcu.2.2.2.2.2.2.2.2.2.1, hcu.2.2.2.2.2.2.2.2.2.2, h2.1.1, c3, z2]
            · refine ⟨frW u (b + 52) N D, N / Nat.gcd N D, D / Nat.gcd N D, ?_, frW_fr, frW_is hFu.1⟩
              refine sem_eq (Nat.le_of_ble_eq_true rfl) ?_
              show wp mX8_edge 0 [some (.ref b), some (.int (nI a)), some (.int (nI j)), some (.int z), none, none, none, none, none] [] _ _
              refine hto ?_
              simp only [eX8_edge_80, eX8_edge_82, eX8_edge_83, eX8_edge_86, eX8_edge_88, eX8_edge_90, eX8_edge_93, eX8_edge_95, eX8_edge_96, eX8_edge_97, eX8_edge_100, eX8_edge_102, eX8_edge_103, eX8_edge_104, eX8_edge_107, eX8_edge_109, eX8_edge_111, eX8_edge_113, eX8_edge_116, eX8_edge_117, eX8_edge_119, eX8_edge_120, eX8_edge_123, eX8_edge_125, eX8_edge_127, eX8_edge_128, eX8_edge_129, eX8_edge_132, eX8_edge_134, eX8_edge_136, eX8_edge_139, eX8_edge_140, cont_some, tl_some, tl_none, csum_nil, csum_i, csum_r, csum_j, isc2_i, isc2_r, isc2_n, va_rf_s, vfn_ite, true_and, and_true, true_or, or_true, eq_self, Bool.false_eq_true, not_false_eq_true, not_true_eq_false, if_true, if_false, Nat.reduceAdd, Nat.reduceLeDiff, reduceIte, hcu.1, hcu.2.1, hcu.2.2.1, hcu.2.2.2.1, hcu.2.2.2.2.1, hcu.2.2.2.2.2.1, hcu.2.2.2.2.2.2.1, hcu.2.2.2.2.2.2.2.1, hcu.2.2.2.2.2.2.2.2.1, hcu.2.2.2.2.2.2.2.2.2.1, hcu.2.2.2.2.2.2.2.2.2.2, h2.1.1, c3, z2, c1, c2, e1, e2, hFu.1, hbc]
              simp only [eX8_edge_143, eX8_edge_144, eX8_edge_147, eX8_edge_148, eX8_edge_151, eX8_edge_152, cont_some, tl_some, tl_none, csum_nil, csum_i, csum_r, csum_j, isc2_i, isc2_r, isc2_n, va_rf_s, vfn_ite, true_and, and_true, true_or, or_true, eq_self, Bool.false_eq_true, not_false_eq_true, not_true_eq_false, if_true, if_false, Nat.reduceAdd, Nat.reduceLeDiff, reduceIte, hcf.1, hcf.2.1, hcf.2.2.1, hcf.2.2.2.1, hcf.2.2.2.2.1, hcf.2.2.2.2.2.1, hcf.2.2.2.2.2.2.1, hcf.2.2.2.2.2.2.2.1, hcf.2.2.2.2.2.2.2.2.1, hcf.2.2.2.2.2.2.2.2.2.1, hcf.2.2.2.2.2.2.2.2.2.2, (frW_is (w := u) (q := b + 52) (A := N) (B := D) hFu.1).1, hpart]
          obtain ⟨u2, A', B', hf1, hf2, hf3⟩ := hcls
          refine ⟨_, u2, u', A', B', hf1, ?_, ⟨u, h4, hf2⟩, hf3, h2.1.fr hf2 (by omega), g3.tr g7⟩
          have rj : nI j < r' := (hr' j (by omega)).mpr qe
          have L0 : ¬ nI L = 0 := fun y => by
            have := (nI_eq (a := L) (b := 0) (by omega) (by omega)).mp y
            omega
          have t1 := m_turn hmu g5 o1 o2 hCn
          have t2 := m_far hmu g5 o1 o2
          have t3 := s_commonN (w := u') (show N < 2 ^ 62 by omega) (show D < 2 ^ 62 by omega)
          have hg : 0 < Nat.gcd N D := Nat.gcd_pos_of_pos_right _ D0
          have hgB : Nat.gcd N D ≤ D := Nat.le_of_dvd D0 (Nat.gcd_dvd_right _ _)
          have gn : ¬ lN (Nat.gcd N D) = 0 := fun y => by
            have := (pk_lEQ (b := 0) (by omega) (by omega)).mp y
            omega
          refine sem_eq (Nat.le_of_ble_eq_true rfl) ?_
          show wp mX9_edge 0 [some (.ref o), some (.int (nI a)), some (.int (nI j)), some (.int z), none, none, none, none, none, none, none, none] [] _ _
          refine hbeg ?_
          simp only [eX9_edge_60, eX9_edge_62, eX9_edge_63, eX9_edge_65, eX9_edge_68, eX9_edge_70, eX9_edge_71, eX9_edge_72, eX9_edge_75, eX9_edge_76, eX9_edge_77, eX9_edge_79, eX9_edge_80, eX9_edge_83, eX9_edge_84, eX9_edge_85, eX9_edge_86, eX9_edge_87, eX9_edge_90, eX9_edge_91, eX9_edge_92, eX9_edge_94, eX9_edge_95, eX9_edge_97, eX9_edge_98, cont_some, tl_some, tl_none, csum_nil, csum_i, csum_r, csum_j, isc2_i, isc2_r, isc2_n, va_rf_s, vfn_ite, true_and, and_true, true_or, or_true, eq_self, Bool.false_eq_true, not_false_eq_true, not_true_eq_false, if_true, if_false, Nat.reduceAdd, Nat.reduceLeDiff, reduceIte, hmu.1, hmu.2.1, hmu.2.2.1, hmu.2.2.2.1, hmu.2.2.2.2.1, hmu.2.2.2.2.2.1, hmu.2.2.2.2.2.2.1, hmu.2.2.2.2.2.2.2.1, hmu.2.2.2.2.2.2.2.2.1, hmu.2.2.2.2.2.2.2.2.2.1, hmu.2.2.2.2.2.2.2.2.2.2.1, hmu.2.2.2.2.2.2.2.2.2.2.2.1, hmu.2.2.2.2.2.2.2.2.2.2.2.2.1, hmu.2.2.2.2.2.2.2.2.2.2.2.2.2.1, hmu.2.2.2.2.2.2.2.2.2.2.2.2.2.2.1, hmu.2.2.2.2.2.2.2.2.2.2.2.2.2.2.2.1, hmu.2.2.2.2.2.2.2.2.2.2.2.2.2.2.2.2.1, hmu.2.2.2.2.2.2.2.2.2.2.2.2.2.2.2.2.2.1, hmu.2.2.2.2.2.2.2.2.2.2.2.2.2.2.2.2.2.2.1, hmu.2.2.2.2.2.2.2.2.2.2.2.2.2.2.2.2.2.2.2.1, hmu.2.2.2.2.2.2.2.2.2.2.2.2.2.2.2.2.2.2.2.2.1, hmu.2.2.2.2.2.2.2.2.2.2.2.2.2.2.2.2.2.2.2.2.2.1, hmu.2.2.2.2.2.2.2.2.2.2.2.2.2.2.2.2.2.2.2.2.2.2.1, hmu.2.2.2.2.2.2.2.2.2.2.2.2.2.2.2.2.2.2.2.2.2.2.2.1, hmu.2.2.2.2.2.2.2.2.2.2.2.2.2.2.2.2.2.2.2.2.2.2.2.2, rj, i11, cj, g6.1, g6.2 j hL.2, nI_1, L0, pk_rem (show j + 1 < 2 ^ 31 by omega) (show 0 < L by omega) (show L < 2 ^ 31 by omega), inA_nI (show (j + 1) % L < 11 by have := Nat.mod_lt (j + 1) (show 0 < L by omega); omega) (show 11 < 2147483648 by omega), nI_clamp (show (j + 1) % L < 2 ^ 31 by have := Nat.mod_lt (j + 1) (show 0 < L by omega); omega), hr, ← hFd]
          refine lo_medge hmu g5 hin o1 o2 (c.1.1 - 1) 1 0 _ _ (by omega) (by omega) (fun a8 a9 a10 => ?_)
          rw [← hCd]
          unfold edA
          rw [← hCd, ← hN, ← hD]
          simp only [eX9_edge_161, eX9_edge_162, eX9_edge_164, eX9_edge_166, eX9_edge_168, eX9_edge_171, eX9_edge_172, eX9_edge_173, eX9_edge_175, eX9_edge_177, eX9_edge_179, eX9_edge_182, eX9_edge_183, eX9_edge_184, eX9_edge_186, eX9_edge_188, eX9_edge_189, eX9_edge_191, eX9_edge_193, eX9_edge_196, eX9_edge_197, eX9_edge_200, eX9_edge_202, eX9_edge_203, eX9_edge_204, cont_some, tl_some, tl_none, csum_nil, csum_i, csum_r, csum_j, isc2_i, isc2_r, isc2_n, va_rf_s, vfn_ite, true_and, and_true, true_or, or_true, eq_self, Bool.false_eq_true, not_false_eq_true, not_true_eq_false, if_true, if_false, Nat.reduceAdd, Nat.reduceLeDiff, reduceIte, hmu.1, hmu.2.1, hmu.2.2.1, hmu.2.2.2.1, hmu.2.2.2.2.1, hmu.2.2.2.2.2.1, hmu.2.2.2.2.2.2.1, hmu.2.2.2.2.2.2.2.1, hmu.2.2.2.2.2.2.2.2.1, hmu.2.2.2.2.2.2.2.2.2.1, hmu.2.2.2.2.2.2.2.2.2.2.1, hmu.2.2.2.2.2.2.2.2.2.2.2.1, hmu.2.2.2.2.2.2.2.2.2.2.2.2.1, hmu.2.2.2.2.2.2.2.2.2.2.2.2.2.1, hmu.2.2.2.2.2.2.2.2.2.2.2.2.2.2.1, hmu.2.2.2.2.2.2.2.2.2.2.2.2.2.2.2.1, hmu.2.2.2.2.2.2.2.2.2.2.2.2.2.2.2.2.1, hmu.2.2.2.2.2.2.2.2.2.2.2.2.2.2.2.2.2.1, hmu.2.2.2.2.2.2.2.2.2.2.2.2.2.2.2.2.2.2.1, hmu.2.2.2.2.2.2.2.2.2.2.2.2.2.2.2.2.2.2.2.1, hmu.2.2.2.2.2.2.2.2.2.2.2.2.2.2.2.2.2.2.2.2.1, hmu.2.2.2.2.2.2.2.2.2.2.2.2.2.2.2.2.2.2.2.2.2.1, hmu.2.2.2.2.2.2.2.2.2.2.2.2.2.2.2.2.2.2.2.2.2.2.1, hmu.2.2.2.2.2.2.2.2.2.2.2.2.2.2.2.2.2.2.2.2.2.2.2.1, hmu.2.2.2.2.2.2.2.2.2.2.2.2.2.2.2.2.2.2.2.2.2.2.2.2, t1, t2, e1, e2, t3]
          by_cases z2 : z = 2
          · simp only [eX9_edge_207, eX9_edge_209, eX9_edge_212, eX9_edge_213, eX9_edge_216, eX9_edge_218, eX9_edge_220, eX9_edge_221, eX9_edge_224, eX9_edge_225, eX9_edge_227, eX9_edge_229, eX9_edge_232, eX9_edge_233, eX9_edge_235, eX9_edge_236, eX9_edge_237, cont_some, tl_some, tl_none, csum_nil, csum_i, csum_r, csum_j, isc2_i, isc2_r, isc2_n, va_rf_s, vfn_ite, true_and, and_true, true_or, or_true, eq_self, Bool.false_eq_true, not_false_eq_true, not_true_eq_false, if_true, if_false, Nat.reduceAdd, Nat.reduceLeDiff, reduceIte, z2]
          · by_cases z0 : z = 0
            · have n02 : ¬ (0 : Int32) = 2 := by decide
              simp only [eX9_edge_212, eX9_edge_213, eX9_edge_216, eX9_edge_218, eX9_edge_220, eX9_edge_221, eX9_edge_224, eX9_edge_225, eX9_edge_227, eX9_edge_229, eX9_edge_232, eX9_edge_233, eX9_edge_235, eX9_edge_236, eX9_edge_237, cont_some, tl_some, tl_none, csum_nil, csum_i, csum_r, csum_j, isc2_i, isc2_r, isc2_n, va_rf_s, vfn_ite, true_and, and_true, true_or, or_true, eq_self, Bool.false_eq_true, not_false_eq_true, not_true_eq_false, if_true, if_false, Nat.reduceAdd, Nat.reduceLeDiff, reduceIte, z0, n02, gn, pk_lDiv (show N < 2 ^ 63 by omega) hg (show Nat.gcd N D < 2 ^ 63 by omega)]
            · simp only [eX9_edge_212, eX9_edge_213, eX9_edge_216, eX9_edge_218, eX9_edge_220, eX9_edge_221, eX9_edge_224, eX9_edge_225, eX9_edge_227, eX9_edge_229, eX9_edge_232, eX9_edge_233, eX9_edge_235, eX9_edge_236, eX9_edge_237, cont_some, tl_some, tl_none, csum_nil, csum_i, csum_r, csum_j, isc2_i, isc2_r, isc2_n, va_rf_s, vfn_ite, true_and, and_true, true_or, or_true, eq_self, Bool.false_eq_true, not_false_eq_true, not_true_eq_false, if_true, if_false, Nat.reduceAdd, Nat.reduceLeDiff, reduceIte, z0, z2, hmu.1, hmu.2.1, hmu.2.2.1, hmu.2.2.2.1, hmu.2.2.2.2.1, hmu.2.2.2.2.2.1, hmu.2.2.2.2.2.2.1, hmu.2.2.2.2.2.2.2.1, hmu.2.2.2.2.2.2.2.2.1, hmu.2.2.2.2.2.2.2.2.2.1, hmu.2.2.2.2.2.2.2.2.2.2.1, hmu.2.2.2.2.2.2.2.2.2.2.2.1, hmu.2.2.2.2.2.2.2.2.2.2.2.2.1, hmu.2.2.2.2.2.2.2.2.2.2.2.2.2.1, hmu.2.2.2.2.2.2.2.2.2.2.2.2.2.2.1, hmu.2.2.2.2.2.2.2.2.2.2.2.2.2.2.2.1, hmu.2.2.2.2.2.2.2.2.2.2.2.2.2.2.2.2.1, hmu.2.2.2.2.2.2.2.2.2.2.2.2.2.2.2.2.2.1, hmu.2.2.2.2.2.2.2.2.2.2.2.2.2.2.2.2.2.2.1, hmu.2.2.2.2.2.2.2.2.2.2.2.2.2.2.2.2.2.2.2.1, hmu.2.2.2.2.2.2.2.2.2.2.2.2.2.2.2.2.2.2.2.2.1, hmu.2.2.2.2.2.2.2.2.2.2.2.2.2.2.2.2.2.2.2.2.2.1, hmu.2.2.2.2.2.2.2.2.2.2.2.2.2.2.2.2.2.2.2.2.2.2.1, hmu.2.2.2.2.2.2.2.2.2.2.2.2.2.2.2.2.2.2.2.2.2.2.2.1, hmu.2.2.2.2.2.2.2.2.2.2.2.2.2.2.2.2.2.2.2.2.2.2.2.2, t2, e2, gn, pk_lDiv (show D < 2 ^ 63 by omega) hg (show Nat.gcd N D < 2 ^ 63 by omega)]
        · have hed : ¬ nI j < nI (if L < 2 then 0 else if L = 2 then 1 else L) := nI_nlt (Nat.le_of_not_lt qe) (by omega)
          have rj : ¬ nI j < r' := fun y => qe ((hr' j (by omega)).mp y)
          refine ⟨-4, u, u', A, B, ?_, ?_, ⟨u, h4, Fr.rf⟩, hFu, h2.1, g3.tr g7⟩
          · refine sem_eq (Nat.le_of_ble_eq_true rfl) ?_
            show wp mX8_edge 0 [some (.ref b), some (.int (nI a)), some (.int (nI j)), some (.int z), none, none, none, none, none] [] _ _
            simp only [eX8_edge_0, eX8_edge_1, eX8_edge_4, eX8_edge_7, eX8_edge_8, eX8_edge_11, eX8_edge_12, eX8_edge_13, eX8_edge_14, eX8_edge_17, eX8_edge_20, eX8_edge_21, eX8_edge_22, eX8_edge_23, eX8_edge_24, cont_some, tl_some, tl_none, csum_nil, csum_i, csum_r, csum_j, isc2_i, isc2_r, isc2_n, va_rf_s, vfn_ite, true_and, and_true, true_or, or_true, eq_self, Bool.false_eq_true, not_false_eq_true, not_true_eq_false, if_true, if_false, Nat.reduceAdd, Nat.reduceLeDiff, reduceIte, s_isAxis, s_isIn, b2i_0, q0, and_self, qk, qz, hc.1, hc.2.1, hc.2.2.1, hc.2.2.2.1, hc.2.2.2.2.1, hc.2.2.2.2.2.1, hc.2.2.2.2.2.2.1, hc.2.2.2.2.2.2.2.1, hc.2.2.2.2.2.2.2.2.1, hc.2.2.2.2.2.2.2.2.2.1, hc.2.2.2.2.2.2.2.2.2.2, h1]
            simp only [eX8_edge_27, eX8_edge_28, eX8_edge_29, eX8_edge_32, eX8_edge_35, eX8_edge_38, eX8_edge_40, cont_some, tl_some, tl_none, csum_nil, csum_i, csum_r, csum_j, isc2_i, isc2_r, isc2_n, va_rf_s, vfn_ite, true_and, and_true, true_or, or_true, eq_self, Bool.false_eq_true, not_false_eq_true, not_true_eq_false, if_true, if_false, Nat.reduceAdd, Nat.reduceLeDiff, reduceIte, hcu.1, hcu.2.1, hcu.2.2.1, hcu.2.2.2.1, hcu.2.2.2.2.1, hcu.2.2.2.2.2.1, hcu.2.2.2.2.2.2.1, hcu.2.2.2.2.2.2.2.1, hcu.2.2.2.2.2.2.2.2.1, hcu.2.2.2.2.2.2.2.2.2.1, hcu.2.2.2.2.2.2.2.2.2.2, h2.1.1, eE, hed]
          · refine sem_eq (Nat.le_of_ble_eq_true rfl) ?_
            show wp mX9_edge 0 [some (.ref o), some (.int (nI a)), some (.int (nI j)), some (.int z), none, none, none, none, none, none, none, none] [] _ _
            refine hbeg ?_
            simp only [eX9_edge_60, eX9_edge_62, eX9_edge_63, eX9_edge_65, eX9_edge_68, eX9_edge_70, cont_some, tl_some, tl_none, csum_nil, csum_i, csum_r, csum_j, isc2_i, isc2_r, isc2_n, va_rf_s, vfn_ite, true_and, and_true, true_or, or_true, eq_self, Bool.false_eq_true, not_false_eq_true, not_true_eq_false, if_true, if_false, Nat.reduceAdd, Nat.reduceLeDiff, reduceIte, rj]
      · refine ⟨-1, w, w', A, B, ?_, ?_, ⟨w, Fr.rf, Fr.rf⟩, hF, hV, FrX.rf⟩
        · refine sem_eq (Nat.le_of_ble_eq_true rfl) ?_
          show wp mX8_edge 0 [some (.ref b), some (.int x), some (.int k), some (.int z), none, none, none, none, none] [] _ _
          simp only [eX8_edge_0, eX8_edge_1, eX8_edge_4, eX8_edge_7, eX8_edge_8, eX8_edge_11, eX8_edge_12, eX8_edge_13, eX8_edge_14, eX8_edge_17, eX8_edge_20, eX8_edge_21, cont_some, tl_some, tl_none, csum_nil, csum_i, csum_r, csum_j, isc2_i, isc2_r, isc2_n, va_rf_s, vfn_ite, true_and, and_true, true_or, or_true, eq_self, Bool.false_eq_true, not_false_eq_true, not_true_eq_false, if_true, if_false, Nat.reduceAdd, Nat.reduceLeDiff, reduceIte, s_isAxis, s_isIn, b2i_0, q, and_self, qk, qz]
        · refine sem_eq (Nat.le_of_ble_eq_true rfl) ?_
          show wp mX9_edge 0 [some (.ref o), some (.int x), some (.int k), some (.int z), none, none, none, none, none, none, none, none] [] _ _
          simp only [eX9_edge_0, eX9_edge_1, eX9_edge_2, eX9_edge_3, eX9_edge_6, eX9_edge_9, eX9_edge_12, eX9_edge_13, eX9_edge_16, eX9_edge_17, eX9_edge_18, eX9_edge_19, eX9_edge_22, eX9_edge_25, eX9_edge_28, eX9_edge_29, cont_some, tl_some, tl_none, csum_nil, csum_i, csum_r, csum_j, isc2_i, isc2_r, isc2_n, va_rf_s, vfn_ite, true_and, and_true, true_or, or_true, eq_self, Bool.false_eq_true, not_false_eq_true, not_true_eq_false, if_true, if_false, Nat.reduceAdd, Nat.reduceLeDiff, reduceIte, in02, b2i_0, q, and_self, qk, qz]
  · refine ⟨-1, w, w', A, B, ?_, ?_, ⟨w, Fr.rf, Fr.rf⟩, hF, hV, FrX.rf⟩
    · refine sem_eq (Nat.le_of_ble_eq_true rfl) ?_
      show wp mX8_edge 0 [some (.ref b), some (.int x), some (.int k), some (.int z), none, none, none, none, none] [] _ _
      simp only [eX8_edge_0, eX8_edge_1, eX8_edge_4, eX8_edge_7, eX8_edge_8, eX8_edge_11, eX8_edge_12, eX8_edge_13, eX8_edge_14, eX8_edge_17, eX8_edge_20, eX8_edge_21, cont_some, tl_some, tl_none, csum_nil, csum_i, csum_r, csum_j, isc2_i, isc2_r, isc2_n, va_rf_s, vfn_ite, true_and, and_true, true_or, or_true, eq_self, Bool.false_eq_true, not_false_eq_true, not_true_eq_false, if_true, if_false, Nat.reduceAdd, Nat.reduceLeDiff, reduceIte, s_isAxis, b2i_0, q]
    · refine sem_eq (Nat.le_of_ble_eq_true rfl) ?_
      show wp mX9_edge 0 [some (.ref o), some (.int x), some (.int k), some (.int z), none, none, none, none, none, none, none, none] [] _ _
      simp only [eX9_edge_0, eX9_edge_1, eX9_edge_2, eX9_edge_3, eX9_edge_6, eX9_edge_9, eX9_edge_12, eX9_edge_13, eX9_edge_16, eX9_edge_17, eX9_edge_18, eX9_edge_19, eX9_edge_22, eX9_edge_25, eX9_edge_28, eX9_edge_29, cont_some, tl_some, tl_none, csum_nil, csum_i, csum_r, csum_j, isc2_i, isc2_r, isc2_n, va_rf_s, vfn_ite, true_and, and_true, true_or, or_true, eq_self, Bool.false_eq_true, not_false_eq_true, not_true_eq_false, if_true, if_false, Nat.reduceAdd, Nat.reduceLeDiff, reduceIte, in02, b2i_0, q]
