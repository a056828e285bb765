theorem b_isPt {n : Nat} {k : Int32} : isPt n k ↔ 0 ≤ k ∧ k ≤ nI n - 1 := Iff.rfl
theorem lo_out {w : Wd} {o n k : Nat} {Q : Option Value → Wd → Prop} (h : isMd w o) (hn : rdI w (o + 1) 0 = nI n) (h10 : n < 10) (hkn : k ≤ n) : ∀ (d t : Nat), t + d = 3 * n - 3 * k → (∀ a2, wp mX9_out 64 [some (.ref o), some (.int (nI k)), a2] [] (cpI w (o + 1) (6 + 3 * k) (o + 1) (3 + 3 * k) (3 * n - 3 * k)) Q) →
    wp mX9_out 30 [some (.ref o), some (.int (nI k)), some (.int (nI (3 + 3 * k + t)))] [] (cpI w (o + 1) (6 + 3 * k) (o + 1) (3 + 3 * k) t) Q := by
  have e0 : inA 0 33 = true := by decide
  have c0 : (0 : Int32).toNatClampNeg = 0 := rfl
  have hlim : (3 : Int32) + 3 * nI n = nI (3 + 3 * n) := by rw [nI_p3, pk_mul, nI_a]
  have hs0 : ∀ t, rdI (cpI w (o + 1) (6 + 3 * k) (o + 1) (3 + 3 * k) t) (o + 1) 0 = nI n := by
    intro t
    rw [rdI_cpI, if_neg (by omega)]; exact hn
  intro d
  induction d with
  | zero =>
    intro t ht hQ
    have ht' : t = 3 * n - 3 * k := by omega
    subst ht'
    have h1 : ¬ nI (3 + 3 * k + (3 * n - 3 * k)) < nI (3 + 3 * n) := nI_nlt (by omega) (by omega)
    simp only [eX9_out_30, eX9_out_31, eX9_out_32, eX9_out_33, eX9_out_34, eX9_out_37, eX9_out_38, eX9_out_39, eX9_out_40, eX9_out_41, cont_some, tl_some, tl_none, csum_nil, csum_i, csum_r, csum_j, isc2_i, isc2_r, isc2_n, va_rf_s, vfn_ite, true_and, and_true, true_or, or_true, eq_self, Bool.false_eq_true, not_false_eq_true, not_true_eq_false, if_true, if_false, Nat.reduceAdd, Nat.reduceLeDiff, reduceIte, shp_cpI, rdR_cpI, h.1, h.2.1, h.2.2.1, h.2.2.2.1, h.2.2.2.2.1, h.2.2.2.2.2.1, h.2.2.2.2.2.2.1, h.2.2.2.2.2.2.2.1, h.2.2.2.2.2.2.2.2.1, h.2.2.2.2.2.2.2.2.2.1, h.2.2.2.2.2.2.2.2.2.2.1, h.2.2.2.2.2.2.2.2.2.2.2.1, h.2.2.2.2.2.2.2.2.2.2.2.2.1, h.2.2.2.2.2.2.2.2.2.2.2.2.2.1, h.2.2.2.2.2.2.2.2.2.2.2.2.2.2.1, h.2.2.2.2.2.2.2.2.2.2.2.2.2.2.2.1, h.2.2.2.2.2.2.2.2.2.2.2.2.2.2.2.2.1, h.2.2.2.2.2.2.2.2.2.2.2.2.2.2.2.2.2.1, h.2.2.2.2.2.2.2.2.2.2.2.2.2.2.2.2.2.2.1, h.2.2.2.2.2.2.2.2.2.2.2.2.2.2.2.2.2.2.2.1, h.2.2.2.2.2.2.2.2.2.2.2.2.2.2.2.2.2.2.2.2.1, h.2.2.2.2.2.2.2.2.2.2.2.2.2.2.2.2.2.2.2.2.2.1, h.2.2.2.2.2.2.2.2.2.2.2.2.2.2.2.2.2.2.2.2.2.2.1, h.2.2.2.2.2.2.2.2.2.2.2.2.2.2.2.2.2.2.2.2.2.2.2.1, h.2.2.2.2.2.2.2.2.2.2.2.2.2.2.2.2.2.2.2.2.2.2.2.2, e0, c0, hs0, hlim, h1]
    exact hQ _
  | succ d ih =>
    intro t ht hQ
    have h1 : nI (3 + 3 * k + t) < nI (3 + 3 * n) := nI_lt (by omega) (by omega)
    simp only [eX9_out_30, eX9_out_31, eX9_out_32, eX9_out_33, eX9_out_34, eX9_out_37, eX9_out_38, eX9_out_39, eX9_out_40, eX9_out_41, cont_some, tl_some, tl_none, csum_nil, csum_i, csum_r, csum_j, isc2_i, isc2_r, isc2_n, va_rf_s, vfn_ite, true_and, and_true, true_or, or_true, eq_self, Bool.false_eq_true, not_false_eq_true, not_true_eq_false, if_true, if_false, Nat.reduceAdd, Nat.reduceLeDiff, reduceIte, shp_cpI, rdR_cpI, h.1, h.2.1, h.2.2.1, h.2.2.2.1, h.2.2.2.2.1, h.2.2.2.2.2.1, h.2.2.2.2.2.2.1, h.2.2.2.2.2.2.2.1, h.2.2.2.2.2.2.2.2.1, h.2.2.2.2.2.2.2.2.2.1, h.2.2.2.2.2.2.2.2.2.2.1, h.2.2.2.2.2.2.2.2.2.2.2.1, h.2.2.2.2.2.2.2.2.2.2.2.2.1, h.2.2.2.2.2.2.2.2.2.2.2.2.2.1, h.2.2.2.2.2.2.2.2.2.2.2.2.2.2.1, h.2.2.2.2.2.2.2.2.2.2.2.2.2.2.2.1, h.2.2.2.2.2.2.2.2.2.2.2.2.2.2.2.2.1, h.2.2.2.2.2.2.2.2.2.2.2.2.2.2.2.2.2.1, h.2.2.2.2.2.2.2.2.2.2.2.2.2.2.2.2.2.2.1, h.2.2.2.2.2.2.2.2.2.2.2.2.2.2.2.2.2.2.2.1, h.2.2.2.2.2.2.2.2.2.2.2.2.2.2.2.2.2.2.2.2.1, h.2.2.2.2.2.2.2.2.2.2.2.2.2.2.2.2.2.2.2.2.2.1, h.2.2.2.2.2.2.2.2.2.2.2.2.2.2.2.2.2.2.2.2.2.2.1, h.2.2.2.2.2.2.2.2.2.2.2.2.2.2.2.2.2.2.2.2.2.2.2.1, h.2.2.2.2.2.2.2.2.2.2.2.2.2.2.2.2.2.2.2.2.2.2.2.2, e0, c0, hs0, hlim, h1]
    simp only [eX9_out_44, eX9_out_45, eX9_out_48, eX9_out_49, eX9_out_50, eX9_out_53, eX9_out_54, eX9_out_55, eX9_out_56, eX9_out_57, eX9_out_58, cont_some, tl_some, tl_none, csum_nil, csum_i, csum_r, csum_j, isc2_i, isc2_r, isc2_n, va_rf_s, vfn_ite, true_and, and_true, true_or, or_true, eq_self, Bool.false_eq_true, not_false_eq_true, not_true_eq_false, if_true, if_false, Nat.reduceAdd, Nat.reduceLeDiff, reduceIte, shp_cpI, rdR_cpI, h.1, h.2.1, h.2.2.1, h.2.2.2.1, h.2.2.2.2.1, h.2.2.2.2.2.1, h.2.2.2.2.2.2.1, h.2.2.2.2.2.2.2.1, h.2.2.2.2.2.2.2.2.1, h.2.2.2.2.2.2.2.2.2.1, h.2.2.2.2.2.2.2.2.2.2.1, h.2.2.2.2.2.2.2.2.2.2.2.1, h.2.2.2.2.2.2.2.2.2.2.2.2.1, h.2.2.2.2.2.2.2.2.2.2.2.2.2.1, h.2.2.2.2.2.2.2.2.2.2.2.2.2.2.1, h.2.2.2.2.2.2.2.2.2.2.2.2.2.2.2.1, h.2.2.2.2.2.2.2.2.2.2.2.2.2.2.2.2.1, h.2.2.2.2.2.2.2.2.2.2.2.2.2.2.2.2.2.1, h.2.2.2.2.2.2.2.2.2.2.2.2.2.2.2.2.2.2.1, h.2.2.2.2.2.2.2.2.2.2.2.2.2.2.2.2.2.2.2.1, h.2.2.2.2.2.2.2.2.2.2.2.2.2.2.2.2.2.2.2.2.1, h.2.2.2.2.2.2.2.2.2.2.2.2.2.2.2.2.2.2.2.2.2.1, h.2.2.2.2.2.2.2.2.2.2.2.2.2.2.2.2.2.2.2.2.2.2.1, h.2.2.2.2.2.2.2.2.2.2.2.2.2.2.2.2.2.2.2.2.2.2.2.1, h.2.2.2.2.2.2.2.2.2.2.2.2.2.2.2.2.2.2.2.2.2.2.2.2, nI_p3, nI_a, nI_1, inA_nI (show 3 + 3 * k + t < 33 by omega) (by omega), inA_nI (show 3 + 3 * k + t + 3 < 33 by omega) (by omega), nI_clamp (show 3 + 3 * k + t < 2 ^ 31 by omega), nI_clamp (show 3 + 3 * k + t + 3 < 2 ^ 31 by omega)]
    rw [cpI_t (Or.inr (by omega)) (by omega) (by omega), eX9_out_61]
    exact ih (t + 1) (by omega) hQ
theorem m_out {w : Wd} {o : Nat} {c : Cst} {k : Int32} (h : MC w o c) : ∃ u, fX9_out [.ref o, .int k] w = some (some (.int (opOut c k).1), u) ∧ MC u o (opOut c k).2 ∧ FrX (Xc o) w u := by
  obtain ⟨S, m, P, i⟩ := c
  obtain ⟨n, C, tol, drw⟩ := S
  have hMC := h
  obtain ⟨h1, h2, h3, h4⟩ := h
  obtain ⟨b1, b2, b3, b4, b5⟩ := h2
  simp only at b1 b2 b3 b4 b5 h3 h4
  have e0 : inA 0 33 = true := by decide
  have c0 : (0 : Int32).toNatClampNeg = 0 := rfl
  have hip := s_mdPoint (k := k) h1 b1
  by_cases q : 0 ≤ k ∧ k ≤ nI n - 1
  · obtain ⟨j, hj, rfl⟩ := (isPt_iff b2).mp q
    obtain ⟨n', rfl⟩ : ∃ n', n = n' + 1 := ⟨n - 1, by omega⟩
    have kj := nI_clamp (show j < 2 ^ 31 by omega)
    obtain ⟨v, hv⟩ : ∃ v, v = deedW w o m := ⟨_, rfl⟩
    have fv := deedW_fr (w := w) (o := o) (m := m)
    rw [← hv] at fv
    have hmv : isMd v o := fv.md h1
    have bv : ∀ j, rdI v (o + 1) j = rdI w (o + 1) j := fun j => fv.1 _ _ (by omega)
    have hmv' : isMd (wrI v (o + 1) 0 (nI n')) o := hmv
    obtain ⟨u, hu⟩ : ∃ u, u = cpI (wrI v (o + 1) 0 (nI n')) (o + 1) (6 + 3 * j) (o + 1) (3 + 3 * j) (3 * n' - 3 * j) := ⟨_, rfl⟩
    have fu : FrX (fun a _ => a = o + 1) (deedW w o m) u := by
      rw [hu, ← hv]
      exact (FrX.wrI (X := fun a _ => a = o + 1) FrX.rf rfl).cpI (fun _ _ _ => rfl)
    have g0 : ∀ i, i < 3 + 3 * j ∨ 3 + 3 * n' ≤ i → i ≠ 0 → rdI u (o + 1) i = rdI w (o + 1) i := by
      intro i hi h0
      rw [hu, rdI_cpI, if_neg (by omega), rdI_wrI, if_neg (by omega), bv]
    have gz : rdI u (o + 1) 0 = nI n' := by
      rw [hu, rdI_cpI, if_neg (by omega), rdI_wrI, if_pos ⟨rfl, rfl⟩]
    have hb : blkIs (rdI u (o + 1)) (rmS (n' + 1, C, tol, drw) j) := by
      refine ⟨by simp [rmS, gz], by simp only [rmS]; omega, ?_, ?_, fun i hi => ?_⟩
      · rw [g0 1 (by omega) (by omega)]; exact b3
      · rw [g0 2 (by omega) (by omega)]; exact b4
      · simp only [rmS] at hi ⊢
        by_cases z : i < 3 * j
        · rw [if_pos z, g0 _ (by omega) (by omega)]; exact b5 i (by omega)
        · rw [if_neg z, hu, rdI_cpI, if_pos ⟨rfl, by omega, by omega⟩, rdI_wrI, if_neg (by omega), bv, show 6 + 3 * j + (3 + i - (3 + 3 * j)) = 3 + (i + 3) by omega]
          exact b5 (i + 3) (by omega)
    obtain ⟨r1, r2⟩ := hMC.deed (S' := rmS (n' + 1, C, tol, drw) j) fu hb
    refine ⟨u, ?_, by simp only [opOut, q, and_self, if_true, kj]; exact r1, r2⟩
    have hD := s_deed h1 h3.1 h3.2.1
    rw [← hv] at hD
    have hidx : (3 : Int32) + 3 * nI j = nI (3 + 3 * j) := by rw [nI_p3, pk_mul, nI_a]
    simp only [opOut, q, and_self, if_true, Nat.add_sub_cancel]
    refine sem_eq (Nat.le_of_ble_eq_true rfl) ?_
    show wp mX9_out 0 [some (.ref o), some (.int (nI j)), none] [] _ _
    simp only [eX9_out_0, eX9_out_1, eX9_out_2, eX9_out_5, eX9_out_8, eX9_out_9, eX9_out_10, eX9_out_11, cont_some, tl_some, tl_none, csum_nil, csum_i, csum_r, csum_j, isc2_i, isc2_r, isc2_n, va_rf_s, vfn_ite, true_and, and_true, true_or, or_true, eq_self, Bool.false_eq_true, not_false_eq_true, not_true_eq_false, if_true, if_false, Nat.reduceAdd, Nat.reduceLeDiff, reduceIte, h1.1, h1.2.1, h1.2.2.1, h1.2.2.2.1, h1.2.2.2.2.1, h1.2.2.2.2.2.1, h1.2.2.2.2.2.2.1, h1.2.2.2.2.2.2.2.1, h1.2.2.2.2.2.2.2.2.1, h1.2.2.2.2.2.2.2.2.2.1, h1.2.2.2.2.2.2.2.2.2.2.1, h1.2.2.2.2.2.2.2.2.2.2.2.1, h1.2.2.2.2.2.2.2.2.2.2.2.2.1, h1.2.2.2.2.2.2.2.2.2.2.2.2.2.1, h1.2.2.2.2.2.2.2.2.2.2.2.2.2.2.1, h1.2.2.2.2.2.2.2.2.2.2.2.2.2.2.2.1, h1.2.2.2.2.2.2.2.2.2.2.2.2.2.2.2.2.1, h1.2.2.2.2.2.2.2.2.2.2.2.2.2.2.2.2.2.1, h1.2.2.2.2.2.2.2.2.2.2.2.2.2.2.2.2.2.2.1, h1.2.2.2.2.2.2.2.2.2.2.2.2.2.2.2.2.2.2.2.1, h1.2.2.2.2.2.2.2.2.2.2.2.2.2.2.2.2.2.2.2.2.1, h1.2.2.2.2.2.2.2.2.2.2.2.2.2.2.2.2.2.2.2.2.2.1, h1.2.2.2.2.2.2.2.2.2.2.2.2.2.2.2.2.2.2.2.2.2.2.1, h1.2.2.2.2.2.2.2.2.2.2.2.2.2.2.2.2.2.2.2.2.2.2.2.1, h1.2.2.2.2.2.2.2.2.2.2.2.2.2.2.2.2.2.2.2.2.2.2.2.2, hip, b2i_0, q, and_self, hD]
    simp only [eX9_out_14, eX9_out_15, eX9_out_18, eX9_out_19, eX9_out_19j, eX9_out_20, eX9_out_21, eX9_out_22, eX9_out_23, eX9_out_24, eX9_out_25, eX9_out_26, eX9_out_27, eX9_out_28, eX9_out_29, cont_some, tl_some, tl_none, csum_nil, csum_i, csum_r, csum_j, isc2_i, isc2_r, isc2_n, va_rf_s, vfn_ite, true_and, and_true, true_or, or_true, eq_self, Bool.false_eq_true, not_false_eq_true, not_true_eq_false, if_true, if_false, Nat.reduceAdd, Nat.reduceLeDiff, reduceIte, shp_wrI, rdR_wrI, hmv.1, hmv.2.1, hmv.2.2.1, hmv.2.2.2.1, hmv.2.2.2.2.1, hmv.2.2.2.2.2.1, hmv.2.2.2.2.2.2.1, hmv.2.2.2.2.2.2.2.1, hmv.2.2.2.2.2.2.2.2.1, hmv.2.2.2.2.2.2.2.2.2.1, hmv.2.2.2.2.2.2.2.2.2.2.1, hmv.2.2.2.2.2.2.2.2.2.2.2.1, hmv.2.2.2.2.2.2.2.2.2.2.2.2.1, hmv.2.2.2.2.2.2.2.2.2.2.2.2.2.1, hmv.2.2.2.2.2.2.2.2.2.2.2.2.2.2.1, hmv.2.2.2.2.2.2.2.2.2.2.2.2.2.2.2.1, hmv.2.2.2.2.2.2.2.2.2.2.2.2.2.2.2.2.1, hmv.2.2.2.2.2.2.2.2.2.2.2.2.2.2.2.2.2.1, hmv.2.2.2.2.2.2.2.2.2.2.2.2.2.2.2.2.2.2.1, hmv.2.2.2.2.2.2.2.2.2.2.2.2.2.2.2.2.2.2.2.1, hmv.2.2.2.2.2.2.2.2.2.2.2.2.2.2.2.2.2.2.2.2.1, hmv.2.2.2.2.2.2.2.2.2.2.2.2.2.2.2.2.2.2.2.2.2.1, hmv.2.2.2.2.2.2.2.2.2.2.2.2.2.2.2.2.2.2.2.2.2.2.1, hmv.2.2.2.2.2.2.2.2.2.2.2.2.2.2.2.2.2.2.2.2.2.2.2.1, hmv.2.2.2.2.2.2.2.2.2.2.2.2.2.2.2.2.2.2.2.2.2.2.2.2, e0, c0, bv, b1, nI_pred, hidx]
    have := lo_out (w := wrI v (o + 1) 0 (nI n')) (n := n') (k := j) (Q := fun r1 w1 => r1 = some (.int (nI n')) ∧ w1 = u) hmv (by rw [rdI_wrI, if_pos ⟨rfl, rfl⟩]) (by omega) (by omega) (3 * n' - 3 * j) 0 (by omega) (fun a2 => by
      rw [← hu]
      have hmu : isMd u o := fu.md (by rw [← hv]; exact hmv)
      simp only [eX9_out_64, eX9_out_65, eX9_out_68, eX9_out_69, eX9_out_70, cont_some, tl_some, tl_none, csum_nil, csum_i, csum_r, csum_j, isc2_i, isc2_r, isc2_n, va_rf_s, vfn_ite, true_and, and_true, true_or, or_true, eq_self, Bool.false_eq_true, not_false_eq_true, not_true_eq_false, if_true, if_false, Nat.reduceAdd, Nat.reduceLeDiff, reduceIte, hmu.1, hmu.2.1, hmu.2.2.1, hmu.2.2.2.1, hmu.2.2.2.2.1, hmu.2.2.2.2.2.1, hmu.2.2.2.2.2.2.1, hmu.2.2.2.2.2.2.2.1, hmu.2.2.2.2.2.2.2.2.1, hmu.2.2.2.2.2.2.2.2.2.1, hmu.2.2.2.2.2.2.2.2.2.2.1, hmu.2.2.2.2.2.2.2.2.2.2.2.1, hmu.2.2.2.2.2.2.2.2.2.2.2.2.1, hmu.2.2.2.2.2.2.2.2.2.2.2.2.2.1, hmu.2.2.2.2.2.2.2.2.2.2.2.2.2.2.1, hmu.2.2.2.2.2.2.2.2.2.2.2.2.2.2.2.1, hmu.2.2.2.2.2.2.2.2.2.2.2.2.2.2.2.2.1, hmu.2.2.2.2.2.2.2.2.2.2.2.2.2.2.2.2.2.1, hmu.2.2.2.2.2.2.2.2.2.2.2.2.2.2.2.2.2.2.1, hmu.2.2.2.2.2.2.2.2.2.2.2.2.2.2.2.2.2.2.2.1, hmu.2.2.2.2.2.2.2.2.2.2.2.2.2.2.2.2.2.2.2.2.1, hmu.2.2.2.2.2.2.2.2.2.2.2.2.2.2.2.2.2.2.2.2.2.1, hmu.2.2.2.2.2.2.2.2.2.2.2.2.2.2.2.2.2.2.2.2.2.2.1, hmu.2.2.2.2.2.2.2.2.2.2.2.2.2.2.2.2.2.2.2.2.2.2.2.1, hmu.2.2.2.2.2.2.2.2.2.2.2.2.2.2.2.2.2.2.2.2.2.2.2.2, e0, c0, gz])
    rw [cpI_0] at this
    exact this
  · refine ⟨w, ?_, by simp only [opOut, q, if_false]; exact hMC, FrX.rf⟩
    simp only [opOut, q, if_false]
    refine sem_eq (Nat.le_of_ble_eq_true rfl) ?_
    show wp mX9_out 0 [some (.ref o), some (.int k), none] [] _ _
    simp only [eX9_out_0, eX9_out_1, eX9_out_2, eX9_out_5, eX9_out_8, eX9_out_9, cont_some, tl_some, tl_none, csum_nil, csum_i, csum_r, csum_j, isc2_i, isc2_r, isc2_n, va_rf_s, vfn_ite, true_and, and_true, true_or, or_true, eq_self, Bool.false_eq_true, not_false_eq_true, not_true_eq_false, if_true, if_false, Nat.reduceAdd, Nat.reduceLeDiff, reduceIte, h1.1, h1.2.1, h1.2.2.1, h1.2.2.2.1, h1.2.2.2.2.1, h1.2.2.2.2.2.1, h1.2.2.2.2.2.2.1, h1.2.2.2.2.2.2.2.1, h1.2.2.2.2.2.2.2.2.1, h1.2.2.2.2.2.2.2.2.2.1, h1.2.2.2.2.2.2.2.2.2.2.1, h1.2.2.2.2.2.2.2.2.2.2.2.1, h1.2.2.2.2.2.2.2.2.2.2.2.2.1, h1.2.2.2.2.2.2.2.2.2.2.2.2.2.1, h1.2.2.2.2.2.2.2.2.2.2.2.2.2.2.1, h1.2.2.2.2.2.2.2.2.2.2.2.2.2.2.2.1, h1.2.2.2.2.2.2.2.2.2.2.2.2.2.2.2.2.1, h1.2.2.2.2.2.2.2.2.2.2.2.2.2.2.2.2.2.1, h1.2.2.2.2.2.2.2.2.2.2.2.2.2.2.2.2.2.2.1, h1.2.2.2.2.2.2.2.2.2.2.2.2.2.2.2.2.2.2.2.1, h1.2.2.2.2.2.2.2.2.2.2.2.2.2.2.2.2.2.2.2.2.1, h1.2.2.2.2.2.2.2.2.2.2.2.2.2.2.2.2.2.2.2.2.2.1, h1.2.2.2.2.2.2.2.2.2.2.2.2.2.2.2.2.2.2.2.2.2.2.1, h1.2.2.2.2.2.2.2.2.2.2.2.2.2.2.2.2.2.2.2.2.2.2.2.1, h1.2.2.2.2.2.2.2.2.2.2.2.2.2.2.2.2.2.2.2.2.2.2.2.2, hip, b2i_0, q]
theorem m_tol {w : Wd} {o : Nat} {c : Cst} {t : Int32} (h : MC w o c) : ∃ u, fX9_tolerance [.ref o, .int t] w = some (some (.int (opTol c t).1), u) ∧ MC u o (opTol c t).2 ∧ FrX (Xc o) w u := by
  obtain ⟨S, m, P, i⟩ := c
  obtain ⟨n, C, tol, drw⟩ := S
  have hMC := h
  obtain ⟨h1, h2, h3, h4⟩ := h
  obtain ⟨b1, b2, b3, b4, b5⟩ := h2
  simp only at b1 b2 b3 b4 b5 h3 h4
  have e1 : inA 1 33 = true := by decide
  have c1 : (1 : Int32).toNatClampNeg = 1 := rfl
  by_cases q : 0 ≤ t ∧ t ≤ 999
  · by_cases qe : tol = t
    · refine ⟨w, ?_, by simp only [opTol, q, qe, and_self, if_true]; exact qe ▸ hMC, FrX.rf⟩
      simp only [opTol, q, qe, and_self, if_true]
      refine sem_eq (Nat.le_of_ble_eq_true rfl) ?_
      show wp mX9_tolerance 0 [some (.ref o), some (.int t), none] [] _ _
      simp only [eX9_tolerance_0, eX9_tolerance_1, eX9_tolerance_2, eX9_tolerance_3, eX9_tolerance_6, eX9_tolerance_9, eX9_tolerance_12, eX9_tolerance_13, eX9_tolerance_14, eX9_tolerance_15, eX9_tolerance_18, eX9_tolerance_19, eX9_tolerance_20, eX9_tolerance_21, eX9_tolerance_24, eX9_tolerance_26, cont_some, tl_some, tl_none, csum_nil, csum_i, csum_r, csum_j, isc2_i, isc2_r, isc2_n, va_rf_s, vfn_ite, true_and, and_true, true_or, or_true, eq_self, Bool.false_eq_true, not_false_eq_true, not_true_eq_false, if_true, if_false, Nat.reduceAdd, Nat.reduceLeDiff, reduceIte, h1.1, h1.2.1, h1.2.2.1, h1.2.2.2.1, h1.2.2.2.2.1, h1.2.2.2.2.2.1, h1.2.2.2.2.2.2.1, h1.2.2.2.2.2.2.2.1, h1.2.2.2.2.2.2.2.2.1, h1.2.2.2.2.2.2.2.2.2.1, h1.2.2.2.2.2.2.2.2.2.2.1, h1.2.2.2.2.2.2.2.2.2.2.2.1, h1.2.2.2.2.2.2.2.2.2.2.2.2.1, h1.2.2.2.2.2.2.2.2.2.2.2.2.2.1, h1.2.2.2.2.2.2.2.2.2.2.2.2.2.2.1, h1.2.2.2.2.2.2.2.2.2.2.2.2.2.2.2.1, h1.2.2.2.2.2.2.2.2.2.2.2.2.2.2.2.2.1, h1.2.2.2.2.2.2.2.2.2.2.2.2.2.2.2.2.2.1, h1.2.2.2.2.2.2.2.2.2.2.2.2.2.2.2.2.2.2.1, h1.2.2.2.2.2.2.2.2.2.2.2.2.2.2.2.2.2.2.2.1, h1.2.2.2.2.2.2.2.2.2.2.2.2.2.2.2.2.2.2.2.2.1, h1.2.2.2.2.2.2.2.2.2.2.2.2.2.2.2.2.2.2.2.2.2.1, h1.2.2.2.2.2.2.2.2.2.2.2.2.2.2.2.2.2.2.2.2.2.2.1, h1.2.2.2.2.2.2.2.2.2.2.2.2.2.2.2.2.2.2.2.2.2.2.2.1, h1.2.2.2.2.2.2.2.2.2.2.2.2.2.2.2.2.2.2.2.2.2.2.2.2, in0999, b2i_0, q, and_self, e1, c1, b3, qe]
    · obtain ⟨v, hv⟩ : ∃ v, v = deedW w o m := ⟨_, rfl⟩
      have fv := deedW_fr (w := w) (o := o) (m := m)
      rw [← hv] at fv
      have hmv : isMd v o := fv.md h1
      have bv : ∀ j, rdI v (o + 1) j = rdI w (o + 1) j := fun j => fv.1 _ _ (by omega)
      have fu : FrX (fun a _ => a = o + 1) (deedW w o m) (wrI v (o + 1) 1 t) := by
        rw [← hv]
        exact FrX.wrI (X := fun a _ => a = o + 1) FrX.rf rfl
      have hb : blkIs (rdI (wrI v (o + 1) 1 t) (o + 1)) (tolS (n, C, tol, drw) t) := by
        refine ⟨?_, b2, by simp [rdI_wrI, tolS], ?_, fun i hi => ?_⟩
        · rw [rdI_wrI, if_neg (by omega), bv]; exact b1
        · rw [rdI_wrI, if_neg (by omega), bv]; exact b4
        · rw [rdI_wrI, if_neg (by omega), bv]; exact b5 i hi
      obtain ⟨r1, r2⟩ := hMC.deed (S' := tolS (n, C, tol, drw) t) fu hb
      refine ⟨wrI v (o + 1) 1 t, ?_, by simp only [opTol, q, qe, and_self, if_true, if_false]; exact r1, r2⟩
      have hD := s_deed h1 h3.1 h3.2.1
      rw [← hv] at hD
      simp only [opTol, q, qe, and_self, if_true, if_false]
      refine sem_eq (Nat.le_of_ble_eq_true rfl) ?_
      show wp mX9_tolerance 0 [some (.ref o), some (.int t), none] [] _ _
      simp only [eX9_tolerance_0, eX9_tolerance_1, eX9_tolerance_2, eX9_tolerance_3, eX9_tolerance_6, eX9_tolerance_9, eX9_tolerance_12, eX9_tolerance_13, eX9_tolerance_14, eX9_tolerance_15, eX9_tolerance_18, eX9_tolerance_19, eX9_tolerance_20, eX9_tolerance_21, eX9_tolerance_24, eX9_tolerance_26, eX9_tolerance_27, eX9_tolerance_28, cont_some, tl_some, tl_none, csum_nil, csum_i, csum_r, csum_j, isc2_i, isc2_r, isc2_n, va_rf_s, vfn_ite, true_and, and_true, true_or, or_true, eq_self, Bool.false_eq_true, not_false_eq_true, not_true_eq_false, if_true, if_false, Nat.reduceAdd, Nat.reduceLeDiff, reduceIte, h1.1, h1.2.1, h1.2.2.1, h1.2.2.2.1, h1.2.2.2.2.1, h1.2.2.2.2.2.1, h1.2.2.2.2.2.2.1, h1.2.2.2.2.2.2.2.1, h1.2.2.2.2.2.2.2.2.1, h1.2.2.2.2.2.2.2.2.2.1, h1.2.2.2.2.2.2.2.2.2.2.1, h1.2.2.2.2.2.2.2.2.2.2.2.1, h1.2.2.2.2.2.2.2.2.2.2.2.2.1, h1.2.2.2.2.2.2.2.2.2.2.2.2.2.1, h1.2.2.2.2.2.2.2.2.2.2.2.2.2.2.1, h1.2.2.2.2.2.2.2.2.2.2.2.2.2.2.2.1, h1.2.2.2.2.2.2.2.2.2.2.2.2.2.2.2.2.1, h1.2.2.2.2.2.2.2.2.2.2.2.2.2.2.2.2.2.1, h1.2.2.2.2.2.2.2.2.2.2.2.2.2.2.2.2.2.2.1, h1.2.2.2.2.2.2.2.2.2.2.2.2.2.2.2.2.2.2.2.1, h1.2.2.2.2.2.2.2.2.2.2.2.2.2.2.2.2.2.2.2.2.1, h1.2.2.2.2.2.2.2.2.2.2.2.2.2.2.2.2.2.2.2.2.2.1, h1.2.2.2.2.2.2.2.2.2.2.2.2.2.2.2.2.2.2.2.2.2.2.1, h1.2.2.2.2.2.2.2.2.2.2.2.2.2.2.2.2.2.2.2.2.2.2.2.1, h1.2.2.2.2.2.2.2.2.2.2.2.2.2.2.2.2.2.2.2.2.2.2.2.2, in0999, b2i_0, q, and_self, e1, c1, b3, qe, hD]
      simp only [eX9_tolerance_31, eX9_tolerance_32, eX9_tolerance_35, eX9_tolerance_36, eX9_tolerance_37, eX9_tolerance_38, eX9_tolerance_39, eX9_tolerance_42, eX9_tolerance_43, eX9_tolerance_44, eX9_tolerance_45, eX9_tolerance_46, cont_some, tl_some, tl_none, csum_nil, csum_i, csum_r, csum_j, isc2_i, isc2_r, isc2_n, va_rf_s, vfn_ite, true_and, and_true, true_or, or_true, eq_self, Bool.false_eq_true, not_false_eq_true, not_true_eq_false, if_true, if_false, Nat.reduceAdd, Nat.reduceLeDiff, reduceIte, hmv.1, hmv.2.1, hmv.2.2.1, hmv.2.2.2.1, hmv.2.2.2.2.1, hmv.2.2.2.2.2.1, hmv.2.2.2.2.2.2.1, hmv.2.2.2.2.2.2.2.1, hmv.2.2.2.2.2.2.2.2.1, hmv.2.2.2.2.2.2.2.2.2.1, hmv.2.2.2.2.2.2.2.2.2.2.1, hmv.2.2.2.2.2.2.2.2.2.2.2.1, hmv.2.2.2.2.2.2.2.2.2.2.2.2.1, hmv.2.2.2.2.2.2.2.2.2.2.2.2.2.1, hmv.2.2.2.2.2.2.2.2.2.2.2.2.2.2.1, hmv.2.2.2.2.2.2.2.2.2.2.2.2.2.2.2.1, hmv.2.2.2.2.2.2.2.2.2.2.2.2.2.2.2.2.1, hmv.2.2.2.2.2.2.2.2.2.2.2.2.2.2.2.2.2.1, hmv.2.2.2.2.2.2.2.2.2.2.2.2.2.2.2.2.2.2.1, hmv.2.2.2.2.2.2.2.2.2.2.2.2.2.2.2.2.2.2.2.1, hmv.2.2.2.2.2.2.2.2.2.2.2.2.2.2.2.2.2.2.2.2.1, hmv.2.2.2.2.2.2.2.2.2.2.2.2.2.2.2.2.2.2.2.2.2.1, hmv.2.2.2.2.2.2.2.2.2.2.2.2.2.2.2.2.2.2.2.2.2.2.1, hmv.2.2.2.2.2.2.2.2.2.2.2.2.2.2.2.2.2.2.2.2.2.2.2.1, hmv.2.2.2.2.2.2.2.2.2.2.2.2.2.2.2.2.2.2.2.2.2.2.2.2, e1, c1, bv, b3]
  · refine ⟨w, ?_, by simp only [opTol, q, if_false]; exact hMC, FrX.rf⟩
    simp only [opTol, q, if_false]
    refine sem_eq (Nat.le_of_ble_eq_true rfl) ?_
    show wp mX9_tolerance 0 [some (.ref o), some (.int t), none] [] _ _
    simp only [eX9_tolerance_0, eX9_tolerance_1, eX9_tolerance_2, eX9_tolerance_3, eX9_tolerance_6, eX9_tolerance_9, eX9_tolerance_12, eX9_tolerance_13, cont_some, tl_some, tl_none, csum_nil, csum_i, csum_r, csum_j, isc2_i, isc2_r, isc2_n, va_rf_s, vfn_ite, true_and, and_true, true_or, or_true, eq_self, Bool.false_eq_true, not_false_eq_true, not_true_eq_false, if_true, if_false, Nat.reduceAdd, Nat.reduceLeDiff, reduceIte, in0999, b2i_0, q]
theorem m_seed {w : Wd} {o : Nat} {c : Cst} {v : Int32} (h : MC w o c) : ∃ u, fX9_seed [.ref o, .int v] w = some (some (.int (opSeed c v).1), u) ∧ MC u o (opSeed c v).2 ∧ FrX (Xc o) w u := by
  obtain ⟨S, m, P, i⟩ := c
  obtain ⟨n, C, tol, drw⟩ := S
  have hMC := h
  obtain ⟨h1, h2, h3, h4⟩ := h
  obtain ⟨b1, b2, b3, b4, b5⟩ := h2
  simp only at b1 b2 b3 b4 b5 h3 h4
  have e2 : inA 2 33 = true := by decide
  have c2 : (2 : Int32).toNatClampNeg = 2 := rfl
  by_cases q : v < 0
  · refine ⟨w, ?_, by simp only [opSeed, q, if_true]; exact hMC, FrX.rf⟩
    simp only [opSeed, q, if_true]
    refine sem_eq (Nat.le_of_ble_eq_true rfl) ?_
    show wp mX9_seed 0 [some (.ref o), some (.int v), none] [] _ _
    simp only [eX9_seed_0, eX9_seed_1, eX9_seed_4, eX9_seed_5, cont_some, tl_some, tl_none, csum_nil, csum_i, csum_r, csum_j, isc2_i, isc2_r, isc2_n, va_rf_s, vfn_ite, true_and, and_true, true_or, or_true, eq_self, Bool.false_eq_true, not_false_eq_true, not_true_eq_false, if_true, if_false, Nat.reduceAdd, Nat.reduceLeDiff, reduceIte, q]
  · have fu : FrX (fun a _ => a = o + 1) w (wrI w (o + 1) 2 v) := FrX.wrI (X := fun a _ => a = o + 1) FrX.rf rfl
    refine ⟨wrI w (o + 1) 2 v, ?_, ?_, fu.wide (fun a j q => Or.inr ⟨by omega, by omega⟩)⟩
    · simp only [opSeed, q, if_false]
      refine sem_eq (Nat.le_of_ble_eq_true rfl) ?_
      show wp mX9_seed 0 [some (.ref o), some (.int v), none] [] _ _
      simp only [eX9_seed_0, eX9_seed_1, eX9_seed_4, eX9_seed_5, eX9_seed_6, eX9_seed_7, eX9_seed_10, eX9_seed_11, eX9_seed_12, eX9_seed_13, eX9_seed_14, eX9_seed_17, eX9_seed_18, eX9_seed_19, eX9_seed_20, eX9_seed_21, cont_some, tl_some, tl_none, csum_nil, csum_i, csum_r, csum_j, isc2_i, isc2_r, isc2_n, va_rf_s, vfn_ite, true_and, and_true, true_or, or_true, eq_self, Bool.false_eq_true, not_false_eq_true, not_true_eq_false, if_true, if_false, Nat.reduceAdd, Nat.reduceLeDiff, reduceIte, h1.1, h1.2.1, h1.2.2.1, h1.2.2.2.1, h1.2.2.2.2.1, h1.2.2.2.2.2.1, h1.2.2.2.2.2.2.1, h1.2.2.2.2.2.2.2.1, h1.2.2.2.2.2.2.2.2.1, h1.2.2.2.2.2.2.2.2.2.1, h1.2.2.2.2.2.2.2.2.2.2.1, h1.2.2.2.2.2.2.2.2.2.2.2.1, h1.2.2.2.2.2.2.2.2.2.2.2.2.1, h1.2.2.2.2.2.2.2.2.2.2.2.2.2.1, h1.2.2.2.2.2.2.2.2.2.2.2.2.2.2.1, h1.2.2.2.2.2.2.2.2.2.2.2.2.2.2.2.1, h1.2.2.2.2.2.2.2.2.2.2.2.2.2.2.2.2.1, h1.2.2.2.2.2.2.2.2.2.2.2.2.2.2.2.2.2.1, h1.2.2.2.2.2.2.2.2.2.2.2.2.2.2.2.2.2.2.1, h1.2.2.2.2.2.2.2.2.2.2.2.2.2.2.2.2.2.2.2.1, h1.2.2.2.2.2.2.2.2.2.2.2.2.2.2.2.2.2.2.2.2.1, h1.2.2.2.2.2.2.2.2.2.2.2.2.2.2.2.2.2.2.2.2.2.1, h1.2.2.2.2.2.2.2.2.2.2.2.2.2.2.2.2.2.2.2.2.2.2.1, h1.2.2.2.2.2.2.2.2.2.2.2.2.2.2.2.2.2.2.2.2.2.2.2.1, h1.2.2.2.2.2.2.2.2.2.2.2.2.2.2.2.2.2.2.2.2.2.2.2.2, e2, c2, b4, q]
    · simp only [opSeed, q, if_false]
      refine ⟨h1, ⟨?_, b2, ?_, by simp [rdI_wrI, drwS], fun i hi => ?_⟩, ⟨?_, h3.2.1, fun k hk => (h3.2.2 k hk).congr (fun i _ => ?_)⟩, mdI.fr h4 ?_ (fun j => ?_)⟩
      · rw [rdI_wrI, if_neg (by omega)]; exact b1
      · rw [rdI_wrI, if_neg (by omega)]; exact b3
      · rw [rdI_wrI, if_neg (by omega)]; exact b5 i hi
      · rw [rdI_wrI, if_neg (by omega)]; exact h3.1
      · rw [rdI_wrI, if_neg (by omega)]
      · rw [rdI_wrI, if_neg (by omega)]
      · rw [rdI_wrI, if_neg (by omega)]
theorem m_point {w : Wd} {o : Nat} {c : Cst} {k a : Int32} (h : MC w o c) : fX9_point [.ref o, .int k, .int a] w = some (some (.int (opPoint c k a)), w) := by
  obtain ⟨S, m, P, i⟩ := c
  obtain ⟨n, C, tol, drw⟩ := S
  obtain ⟨h1, h2, h3, h4⟩ := h
  obtain ⟨b1, b2, b3, b4, b5⟩ := h2
  simp only at b1 b2 b3 b4 b5 h3 h4
  have hip := s_mdPoint (k := k) h1 b1
  by_cases q : 0 ≤ k ∧ k ≤ nI n - 1
  · by_cases qa : 0 ≤ a ∧ a ≤ 2
    · obtain ⟨j, hj, rfl⟩ := (isPt_iff b2).mp q
      obtain ⟨l, hl, rfl⟩ := ax_iff.mp qa
      have kj := nI_clamp (show j < 2 ^ 31 by omega)
      have kl := nI_clamp (show l < 2 ^ 31 by omega)
      simp only [opPoint, q, qa, and_self, if_true, kj, kl]
      refine sem_eq (Nat.le_of_ble_eq_true rfl) ?_
      show wp mX9_point 0 [some (.ref o), some (.int (nI j)), some (.int (nI l))] [] _ _
      simp only [eX9_point_0, eX9_point_1, eX9_point_2, eX9_point_5, eX9_point_8, eX9_point_9, eX9_point_10, eX9_point_11, eX9_point_14, eX9_point_17, eX9_point_20, eX9_point_21, eX9_point_22, eX9_point_23, eX9_point_26, eX9_point_28, eX9_point_29, eX9_point_32, eX9_point_33, cont_some, tl_some, tl_none, csum_nil, csum_i, csum_r, csum_j, isc2_i, isc2_r, isc2_n, va_rf_s, vfn_ite, true_and, and_true, true_or, or_true, eq_self, Bool.false_eq_true, not_false_eq_true, not_true_eq_false, if_true, if_false, Nat.reduceAdd, Nat.reduceLeDiff, reduceIte, h1.1, h1.2.1, h1.2.2.1, h1.2.2.2.1, h1.2.2.2.2.1, h1.2.2.2.2.2.1, h1.2.2.2.2.2.2.1, h1.2.2.2.2.2.2.2.1, h1.2.2.2.2.2.2.2.2.1, h1.2.2.2.2.2.2.2.2.2.1, h1.2.2.2.2.2.2.2.2.2.2.1, h1.2.2.2.2.2.2.2.2.2.2.2.1, h1.2.2.2.2.2.2.2.2.2.2.2.2.1, h1.2.2.2.2.2.2.2.2.2.2.2.2.2.1, h1.2.2.2.2.2.2.2.2.2.2.2.2.2.2.1, h1.2.2.2.2.2.2.2.2.2.2.2.2.2.2.2.1, h1.2.2.2.2.2.2.2.2.2.2.2.2.2.2.2.2.1, h1.2.2.2.2.2.2.2.2.2.2.2.2.2.2.2.2.2.1, h1.2.2.2.2.2.2.2.2.2.2.2.2.2.2.2.2.2.2.1, h1.2.2.2.2.2.2.2.2.2.2.2.2.2.2.2.2.2.2.2.1, h1.2.2.2.2.2.2.2.2.2.2.2.2.2.2.2.2.2.2.2.2.1, h1.2.2.2.2.2.2.2.2.2.2.2.2.2.2.2.2.2.2.2.2.2.1, h1.2.2.2.2.2.2.2.2.2.2.2.2.2.2.2.2.2.2.2.2.2.2.1, h1.2.2.2.2.2.2.2.2.2.2.2.2.2.2.2.2.2.2.2.2.2.2.2.1, h1.2.2.2.2.2.2.2.2.2.2.2.2.2.2.2.2.2.2.2.2.2.2.2.2, hip, in02, b2i_0, q, qa, and_self, s_part (k := j) (j := l) h1 (by omega), b5 (3 * j + l) (by omega)]
    · simp only [opPoint, q, qa, and_false, if_false]
      refine sem_eq (Nat.le_of_ble_eq_true rfl) ?_
      show wp mX9_point 0 [some (.ref o), some (.int k), some (.int a)] [] _ _
      simp only [eX9_point_0, eX9_point_1, eX9_point_2, eX9_point_5, eX9_point_8, eX9_point_9, eX9_point_10, eX9_point_11, eX9_point_14, eX9_point_17, eX9_point_20, eX9_point_21, eX9_point_22, eX9_point_23, eX9_point_26, eX9_point_28, eX9_point_29, eX9_point_32, eX9_point_33, cont_some, tl_some, tl_none, csum_nil, csum_i, csum_r, csum_j, isc2_i, isc2_r, isc2_n, va_rf_s, vfn_ite, true_and, and_true, true_or, or_true, eq_self, Bool.false_eq_true, not_false_eq_true, not_true_eq_false, if_true, if_false, Nat.reduceAdd, Nat.reduceLeDiff, reduceIte, h1.1, h1.2.1, h1.2.2.1, h1.2.2.2.1, h1.2.2.2.2.1, h1.2.2.2.2.2.1, h1.2.2.2.2.2.2.1, h1.2.2.2.2.2.2.2.1, h1.2.2.2.2.2.2.2.2.1, h1.2.2.2.2.2.2.2.2.2.1, h1.2.2.2.2.2.2.2.2.2.2.1, h1.2.2.2.2.2.2.2.2.2.2.2.1, h1.2.2.2.2.2.2.2.2.2.2.2.2.1, h1.2.2.2.2.2.2.2.2.2.2.2.2.2.1, h1.2.2.2.2.2.2.2.2.2.2.2.2.2.2.1, h1.2.2.2.2.2.2.2.2.2.2.2.2.2.2.2.1, h1.2.2.2.2.2.2.2.2.2.2.2.2.2.2.2.2.1, h1.2.2.2.2.2.2.2.2.2.2.2.2.2.2.2.2.2.1, h1.2.2.2.2.2.2.2.2.2.2.2.2.2.2.2.2.2.2.1, h1.2.2.2.2.2.2.2.2.2.2.2.2.2.2.2.2.2.2.2.1, h1.2.2.2.2.2.2.2.2.2.2.2.2.2.2.2.2.2.2.2.2.1, h1.2.2.2.2.2.2.2.2.2.2.2.2.2.2.2.2.2.2.2.2.2.1, h1.2.2.2.2.2.2.2.2.2.2.2.2.2.2.2.2.2.2.2.2.2.2.1, h1.2.2.2.2.2.2.2.2.2.2.2.2.2.2.2.2.2.2.2.2.2.2.2.1, h1.2.2.2.2.2.2.2.2.2.2.2.2.2.2.2.2.2.2.2.2.2.2.2.2, hip, in02, b2i_0, q, qa, and_self]
  · simp only [opPoint, q, false_and, if_false]
    refine sem_eq (Nat.le_of_ble_eq_true rfl) ?_
    show wp mX9_point 0 [some (.ref o), some (.int k), some (.int a)] [] _ _
    simp only [eX9_point_0, eX9_point_1, eX9_point_2, eX9_point_5, eX9_point_8, eX9_point_9, eX9_point_10, eX9_point_11, eX9_point_14, eX9_point_17, eX9_point_20, eX9_point_21, eX9_point_22, eX9_point_23, eX9_point_26, eX9_point_28, eX9_point_29, eX9_point_32, eX9_point_33, cont_some, tl_some, tl_none, csum_nil, csum_i, csum_r, csum_j, isc2_i, isc2_r, isc2_n, va_rf_s, vfn_ite, true_and, and_true, true_or, or_true, eq_self, Bool.false_eq_true, not_false_eq_true, not_true_eq_false, if_true, if_false, Nat.reduceAdd, Nat.reduceLeDiff, reduceIte, h1.1, h1.2.1, h1.2.2.1, h1.2.2.2.1, h1.2.2.2.2.1, h1.2.2.2.2.2.1, h1.2.2.2.2.2.2.1, h1.2.2.2.2.2.2.2.1, h1.2.2.2.2.2.2.2.2.1, h1.2.2.2.2.2.2.2.2.2.1, h1.2.2.2.2.2.2.2.2.2.2.1, h1.2.2.2.2.2.2.2.2.2.2.2.1, h1.2.2.2.2.2.2.2.2.2.2.2.2.1, h1.2.2.2.2.2.2.2.2.2.2.2.2.2.1, h1.2.2.2.2.2.2.2.2.2.2.2.2.2.2.1, h1.2.2.2.2.2.2.2.2.2.2.2.2.2.2.2.1, h1.2.2.2.2.2.2.2.2.2.2.2.2.2.2.2.2.1, h1.2.2.2.2.2.2.2.2.2.2.2.2.2.2.2.2.2.1, h1.2.2.2.2.2.2.2.2.2.2.2.2.2.2.2.2.2.2.1, h1.2.2.2.2.2.2.2.2.2.2.2.2.2.2.2.2.2.2.2.1, h1.2.2.2.2.2.2.2.2.2.2.2.2.2.2.2.2.2.2.2.2.1, h1.2.2.2.2.2.2.2.2.2.2.2.2.2.2.2.2.2.2.2.2.2.1, h1.2.2.2.2.2.2.2.2.2.2.2.2.2.2.2.2.2.2.2.2.2.2.1, h1.2.2.2.2.2.2.2.2.2.2.2.2.2.2.2.2.2.2.2.2.2.2.2.1, h1.2.2.2.2.2.2.2.2.2.2.2.2.2.2.2.2.2.2.2.2.2.2.2.2, hip, b2i_0, q]
theorem freeB_congr {C C' : Nat → Int32} {n k : Nat} {a v : Int32} (hk : k < n) (h : ∀ i, i < 3 * n → C i = C' i) : freeB C n k a v = freeB C' n k a v := by
  unfold freeB
  rw [h _ (by omega), h _ (by omega), h _ (by omega), hasF_congr n 0 (fun i hi => h i (by omega))]
theorem m_move {w : Wd} {o : Nat} {c : Cst} {k a x : Int32} (h : MC w o c) : ∃ u, fX9_move [.ref o, .int k, .int a, .int x] w = some (some (.int (opMove c k a x).1), u) ∧ MC u o (opMove c k a x).2 ∧ FrX (Xc o) w u := by
  obtain ⟨S, m, P, i⟩ := c
  obtain ⟨n, C, tol, drw⟩ := S
  have hMC := h
  obtain ⟨h1, h2, h3, h4⟩ := h
  obtain ⟨b1, b2, b3, b4, b5⟩ := h2
  simp only at b1 b2 b3 b4 b5 h3 h4
  have hip := s_mdPoint (k := k) h1 b1
  by_cases q : 0 ≤ k ∧ k ≤ nI n - 1
  · by_cases qa : 0 ≤ a ∧ a ≤ 2
    · by_cases qx : -15 ≤ x ∧ x ≤ 15
      · obtain ⟨j, hj, rfl⟩ := (isPt_iff b2).mp q
        have kj := nI_clamp (show j < 2 ^ 31 by omega)
        have hgo := s_mayGo (a := a) (v := x) h1 b1 b2 hj
        rw [freeB_congr hj (fun i hi => b5 i hi)] at hgo
        by_cases qf : freeB C n j a x = true
        · obtain ⟨l, hl, rfl⟩ := ax_iff.mp qa
          have kl := nI_clamp (show l < 2 ^ 31 by omega)
          obtain ⟨v, hv⟩ : ∃ v, v = deedW w o m := ⟨_, rfl⟩
          have fv := deedW_fr (w := w) (o := o) (m := m)
          rw [← hv] at fv
          have hmv : isMd v o := fv.md h1
          have bv : ∀ j, rdI v (o + 1) j = rdI w (o + 1) j := fun j => fv.1 _ _ (by omega)
          obtain ⟨u, hu⟩ : ∃ u, u = wrI v (o + 1) (3 + (3 * j + l)) x := ⟨_, rfl⟩
          have fu : FrX (fun a _ => a = o + 1) (deedW w o m) u := by
            rw [hu, ← hv]
            exact FrX.wrI (X := fun a _ => a = o + 1) FrX.rf rfl
          have hb : blkIs (rdI u (o + 1)) (mvS (n, C, tol, drw) j l x) := by
            subst hu
            refine ⟨?_, b2, ?_, ?_, fun i hi => ?_⟩
            · rw [rdI_wrI, if_neg (by omega), bv]; exact b1
            · rw [rdI_wrI, if_neg (by omega), bv]; exact b3
            · rw [rdI_wrI, if_neg (by omega), bv]; exact b4
            · simp only [mvS, rdI_wrI, true_and]
              by_cases z : i = 3 * j + l
              · rw [if_pos (by omega), if_pos z]
              · rw [if_neg (by omega), if_neg z, bv]; exact b5 i hi
          obtain ⟨r1, r2⟩ := hMC.deed (S' := mvS (n, C, tol, drw) j l x) fu hb
          refine ⟨u, ?_, by simp only [opMove, q, qa, qx, qf, and_self, if_true, kj, kl]; exact r1, r2⟩
          have hD := s_deed h1 h3.1 h3.2.1
          rw [← hv] at hD
          have hidx : (3 : Int32) + 3 * nI j + nI l = nI (3 + (3 * j + l)) := by
            rw [nI_p3, pk_mul, nI_a, nI_a]; congr 1; omega
          simp only [opMove, q, qa, qx, qf, and_self, if_true, kj, kl]
          refine sem_eq (Nat.le_of_ble_eq_true rfl) ?_
          show wp mX9_move 0 [some (.ref o), some (.int (nI j)), some (.int (nI l)), some (.int x), none] [] _ _
          simp only [eX9_move_0, eX9_move_1, eX9_move_2, eX9_move_5, eX9_move_8, eX9_move_9, eX9_move_10, eX9_move_11, eX9_move_14, eX9_move_17, eX9_move_20, eX9_move_21, eX9_move_22, eX9_move_25, eX9_move_28, eX9_move_31, eX9_move_34, eX9_move_35, eX9_move_36, eX9_move_37, eX9_move_38, eX9_move_39, eX9_move_40, eX9_move_43, eX9_move_46, eX9_move_48, eX9_move_49, eX9_move_50, cont_some, tl_some, tl_none, csum_nil, csum_i, csum_r, csum_j, isc2_i, isc2_r, isc2_n, va_rf_s, vfn_ite, true_and, and_true, true_or, or_true, eq_self, Bool.false_eq_true, not_false_eq_true, not_true_eq_false, if_true, if_false, Nat.reduceAdd, Nat.reduceLeDiff, reduceIte, h1.1, h1.2.1, h1.2.2.1, h1.2.2.2.1, h1.2.2.2.2.1, h1.2.2.2.2.2.1, h1.2.2.2.2.2.2.1, h1.2.2.2.2.2.2.2.1, h1.2.2.2.2.2.2.2.2.1, h1.2.2.2.2.2.2.2.2.2.1, h1.2.2.2.2.2.2.2.2.2.2.1, h1.2.2.2.2.2.2.2.2.2.2.2.1, h1.2.2.2.2.2.2.2.2.2.2.2.2.1, h1.2.2.2.2.2.2.2.2.2.2.2.2.2.1, h1.2.2.2.2.2.2.2.2.2.2.2.2.2.2.1, h1.2.2.2.2.2.2.2.2.2.2.2.2.2.2.2.1, h1.2.2.2.2.2.2.2.2.2.2.2.2.2.2.2.2.1, h1.2.2.2.2.2.2.2.2.2.2.2.2.2.2.2.2.2.1, h1.2.2.2.2.2.2.2.2.2.2.2.2.2.2.2.2.2.2.1, h1.2.2.2.2.2.2.2.2.2.2.2.2.2.2.2.2.2.2.2.1, h1.2.2.2.2.2.2.2.2.2.2.2.2.2.2.2.2.2.2.2.2.1, h1.2.2.2.2.2.2.2.2.2.2.2.2.2.2.2.2.2.2.2.2.2.1, h1.2.2.2.2.2.2.2.2.2.2.2.2.2.2.2.2.2.2.2.2.2.2.1, h1.2.2.2.2.2.2.2.2.2.2.2.2.2.2.2.2.2.2.2.2.2.2.2.1, h1.2.2.2.2.2.2.2.2.2.2.2.2.2.2.2.2.2.2.2.2.2.2.2.2, hip, in02, in15, b2i_0, q, qa, qx, and_self, hgo, qf, hD]
          simp only [eX9_move_53, eX9_move_54, eX9_move_55, eX9_move_56, eX9_move_59, eX9_move_61, eX9_move_62, eX9_move_65, eX9_move_66, eX9_move_67, eX9_move_68, eX9_move_69, eX9_move_70, eX9_move_71, eX9_move_72, eX9_move_73, eX9_move_74, eX9_move_76, eX9_move_78, eX9_move_79, cont_some, tl_some, tl_none, csum_nil, csum_i, csum_r, csum_j, isc2_i, isc2_r, isc2_n, va_rf_s, vfn_ite, true_and, and_true, true_or, or_true, eq_self, Bool.false_eq_true, not_false_eq_true, not_true_eq_false, if_true, if_false, Nat.reduceAdd, Nat.reduceLeDiff, reduceIte, hmv.1, hmv.2.1, hmv.2.2.1, hmv.2.2.2.1, hmv.2.2.2.2.1, hmv.2.2.2.2.2.1, hmv.2.2.2.2.2.2.1, hmv.2.2.2.2.2.2.2.1, hmv.2.2.2.2.2.2.2.2.1, hmv.2.2.2.2.2.2.2.2.2.1, hmv.2.2.2.2.2.2.2.2.2.2.1, hmv.2.2.2.2.2.2.2.2.2.2.2.1, hmv.2.2.2.2.2.2.2.2.2.2.2.2.1, hmv.2.2.2.2.2.2.2.2.2.2.2.2.2.1, hmv.2.2.2.2.2.2.2.2.2.2.2.2.2.2.1, hmv.2.2.2.2.2.2.2.2.2.2.2.2.2.2.2.1, hmv.2.2.2.2.2.2.2.2.2.2.2.2.2.2.2.2.1, hmv.2.2.2.2.2.2.2.2.2.2.2.2.2.2.2.2.2.1, hmv.2.2.2.2.2.2.2.2.2.2.2.2.2.2.2.2.2.2.1, hmv.2.2.2.2.2.2.2.2.2.2.2.2.2.2.2.2.2.2.2.1, hmv.2.2.2.2.2.2.2.2.2.2.2.2.2.2.2.2.2.2.2.2.1, hmv.2.2.2.2.2.2.2.2.2.2.2.2.2.2.2.2.2.2.2.2.2.1, hmv.2.2.2.2.2.2.2.2.2.2.2.2.2.2.2.2.2.2.2.2.2.2.1, hmv.2.2.2.2.2.2.2.2.2.2.2.2.2.2.2.2.2.2.2.2.2.2.2.1, hmv.2.2.2.2.2.2.2.2.2.2.2.2.2.2.2.2.2.2.2.2.2.2.2.2, s_part (k := j) (j := l) hmv (by omega), bv, b5 (3 * j + l) (by omega), hidx, inA_nI (show 3 + (3 * j + l) < 33 by omega) (by omega), nI_clamp (show 3 + (3 * j + l) < 2 ^ 31 by omega)]
          exact hu.symm
        · refine ⟨w, ?_, by simp only [opMove, q, qa, qx, qf, and_self, if_true, Bool.false_eq_true, if_false, kj]; exact hMC, FrX.rf⟩
          simp only [opMove, q, qa, qx, qf, and_self, if_true, Bool.false_eq_true, if_false, kj]
          refine sem_eq (Nat.le_of_ble_eq_true rfl) ?_
          show wp mX9_move 0 [some (.ref o), some (.int (nI j)), some (.int a), some (.int x), none] [] _ _
          simp only [eX9_move_0, eX9_move_1, eX9_move_2, eX9_move_5, eX9_move_8, eX9_move_9, eX9_move_10, eX9_move_11, eX9_move_14, eX9_move_17, eX9_move_20, eX9_move_21, eX9_move_22, eX9_move_25, eX9_move_28, eX9_move_31, eX9_move_34, eX9_move_35, eX9_move_36, eX9_move_37, eX9_move_38, eX9_move_39, eX9_move_40, eX9_move_43, eX9_move_46, eX9_move_48, cont_some, tl_some, tl_none, csum_nil, csum_i, csum_r, csum_j, isc2_i, isc2_r, isc2_n, va_rf_s, vfn_ite, true_and, and_true, true_or, or_true, eq_self, Bool.false_eq_true, not_false_eq_true, not_true_eq_false, if_true, if_false, Nat.reduceAdd, Nat.reduceLeDiff, reduceIte, h1.1, h1.2.1, h1.2.2.1, h1.2.2.2.1, h1.2.2.2.2.1, h1.2.2.2.2.2.1, h1.2.2.2.2.2.2.1, h1.2.2.2.2.2.2.2.1, h1.2.2.2.2.2.2.2.2.1, h1.2.2.2.2.2.2.2.2.2.1, h1.2.2.2.2.2.2.2.2.2.2.1, h1.2.2.2.2.2.2.2.2.2.2.2.1, h1.2.2.2.2.2.2.2.2.2.2.2.2.1, h1.2.2.2.2.2.2.2.2.2.2.2.2.2.1, h1.2.2.2.2.2.2.2.2.2.2.2.2.2.2.1, h1.2.2.2.2.2.2.2.2.2.2.2.2.2.2.2.1, h1.2.2.2.2.2.2.2.2.2.2.2.2.2.2.2.2.1, h1.2.2.2.2.2.2.2.2.2.2.2.2.2.2.2.2.2.1, h1.2.2.2.2.2.2.2.2.2.2.2.2.2.2.2.2.2.2.1, h1.2.2.2.2.2.2.2.2.2.2.2.2.2.2.2.2.2.2.2.1, h1.2.2.2.2.2.2.2.2.2.2.2.2.2.2.2.2.2.2.2.2.1, h1.2.2.2.2.2.2.2.2.2.2.2.2.2.2.2.2.2.2.2.2.2.1, h1.2.2.2.2.2.2.2.2.2.2.2.2.2.2.2.2.2.2.2.2.2.2.1, h1.2.2.2.2.2.2.2.2.2.2.2.2.2.2.2.2.2.2.2.2.2.2.2.1, h1.2.2.2.2.2.2.2.2.2.2.2.2.2.2.2.2.2.2.2.2.2.2.2.2, hip, in02, in15, b2i_0, q, qa, qx, and_self, hgo, qf]
      · refine ⟨w, ?_, by simp only [opMove, qx, and_false, if_false]; exact hMC, FrX.rf⟩
        simp only [opMove, qx, and_false, if_false]
        refine sem_eq (Nat.le_of_ble_eq_true rfl) ?_
        show wp mX9_move 0 [some (.ref o), some (.int k), some (.int a), some (.int x), none] [] _ _
        simp only [eX9_move_0, eX9_move_1, eX9_move_2, eX9_move_5, eX9_move_8, eX9_move_9, eX9_move_10, eX9_move_11, eX9_move_14, eX9_move_17, eX9_move_20, eX9_move_21, eX9_move_22, eX9_move_25, eX9_move_28, eX9_move_31, eX9_move_34, eX9_move_35, cont_some, tl_some, tl_none, csum_nil, csum_i, csum_r, csum_j, isc2_i, isc2_r, isc2_n, va_rf_s, vfn_ite, true_and, and_true, true_or, or_true, eq_self, Bool.false_eq_true, not_false_eq_true, not_true_eq_false, if_true, if_false, Nat.reduceAdd, Nat.reduceLeDiff, reduceIte, h1.1, h1.2.1, h1.2.2.1, h1.2.2.2.1, h1.2.2.2.2.1, h1.2.2.2.2.2.1, h1.2.2.2.2.2.2.1, h1.2.2.2.2.2.2.2.1, h1.2.2.2.2.2.2.2.2.1, h1.2.2.2.2.2.2.2.2.2.1, h1.2.2.2.2.2.2.2.2.2.2.1, h1.2.2.2.2.2.2.2.2.2.2.2.1, h1.2.2.2.2.2.2.2.2.2.2.2.2.1, h1.2.2.2.2.2.2.2.2.2.2.2.2.2.1, h1.2.2.2.2.2.2.2.2.2.2.2.2.2.2.1, h1.2.2.2.2.2.2.2.2.2.2.2.2.2.2.2.1, h1.2.2.2.2.2.2.2.2.2.2.2.2.2.2.2.2.1, h1.2.2.2.2.2.2.2.2.2.2.2.2.2.2.2.2.2.1, h1.2.2.2.2.2.2.2.2.2.2.2.2.2.2.2.2.2.2.1, h1.2.2.2.2.2.2.2.2.2.2.2.2.2.2.2.2.2.2.2.1, h1.2.2.2.2.2.2.2.2.2.2.2.2.2.2.2.2.2.2.2.2.1, h1.2.2.2.2.2.2.2.2.2.2.2.2.2.2.2.2.2.2.2.2.2.1, h1.2.2.2.2.2.2.2.2.2.2.2.2.2.2.2.2.2.2.2.2.2.2.1, h1.2.2.2.2.2.2.2.2.2.2.2.2.2.2.2.2.2.2.2.2.2.2.2.1, h1.2.2.2.2.2.2.2.2.2.2.2.2.2.2.2.2.2.2.2.2.2.2.2.2, hip, in02, in15, b2i_0, q, qa, qx, and_self]
    · refine ⟨w, ?_, by simp only [opMove, qa, false_and, and_false, if_false]; exact hMC, FrX.rf⟩
      simp only [opMove, qa, false_and, and_false, if_false]
      refine sem_eq (Nat.le_of_ble_eq_true rfl) ?_
      show wp mX9_move 0 [some (.ref o), some (.int k), some (.int a), some (.int x), none] [] _ _
      simp only [eX9_move_0, eX9_move_1, eX9_move_2, eX9_move_5, eX9_move_8, eX9_move_9, eX9_move_10, eX9_move_11, eX9_move_14, eX9_move_17, eX9_move_20, eX9_move_21, eX9_move_22, eX9_move_25, eX9_move_28, eX9_move_31, eX9_move_34, eX9_move_35, cont_some, tl_some, tl_none, csum_nil, csum_i, csum_r, csum_j, isc2_i, isc2_r, isc2_n, va_rf_s, vfn_ite, true_and, and_true, true_or, or_true, eq_self, Bool.false_eq_true, not_false_eq_true, not_true_eq_false, if_true, if_false, Nat.reduceAdd, Nat.reduceLeDiff, reduceIte, h1.1, h1.2.1, h1.2.2.1, h1.2.2.2.1, h1.2.2.2.2.1, h1.2.2.2.2.2.1, h1.2.2.2.2.2.2.1, h1.2.2.2.2.2.2.2.1, h1.2.2.2.2.2.2.2.2.1, h1.2.2.2.2.2.2.2.2.2.1, h1.2.2.2.2.2.2.2.2.2.2.1, h1.2.2.2.2.2.2.2.2.2.2.2.1, h1.2.2.2.2.2.2.2.2.2.2.2.2.1, h1.2.2.2.2.2.2.2.2.2.2.2.2.2.1, h1.2.2.2.2.2.2.2.2.2.2.2.2.2.2.1, h1.2.2.2.2.2.2.2.2.2.2.2.2.2.2.2.1, h1.2.2.2.2.2.2.2.2.2.2.2.2.2.2.2.2.1, h1.2.2.2.2.2.2.2.2.2.2.2.2.2.2.2.2.2.1, h1.2.2.2.2.2.2.2.2.2.2.2.2.2.2.2.2.2.2.1, h1.2.2.2.2.2.2.2.2.2.2.2.2.2.2.2.2.2.2.2.1, h1.2.2.2.2.2.2.2.2.2.2.2.2.2.2.2.2.2.2.2.2.1, h1.2.2.2.2.2.2.2.2.2.2.2.2.2.2.2.2.2.2.2.2.2.1, h1.2.2.2.2.2.2.2.2.2.2.2.2.2.2.2.2.2.2.2.2.2.2.1, h1.2.2.2.2.2.2.2.2.2.2.2.2.2.2.2.2.2.2.2.2.2.2.2.1, h1.2.2.2.2.2.2.2.2.2.2.2.2.2.2.2.2.2.2.2.2.2.2.2.2, hip, in02, b2i_0, q, qa, and_self]
  · refine ⟨w, ?_, by simp only [opMove, q, false_and, if_false]; exact hMC, FrX.rf⟩
    simp only [opMove, q, false_and, if_false]
    refine sem_eq (Nat.le_of_ble_eq_true rfl) ?_
    show wp mX9_move 0 [some (.ref o), some (.int k), some (.int a), some (.int x), none] [] _ _
    simp only [eX9_move_0, eX9_move_1, eX9_move_2, eX9_move_5, eX9_move_8, eX9_move_9, eX9_move_10, eX9_move_11, eX9_move_14, eX9_move_17, eX9_move_20, eX9_move_21, eX9_move_22, eX9_move_25, eX9_move_28, eX9_move_31, eX9_move_34, eX9_move_35, cont_some, tl_some, tl_none, csum_nil, csum_i, csum_r, csum_j, isc2_i, isc2_r, isc2_n, va_rf_s, vfn_ite, true_and, and_true, true_or, or_true, eq_self, Bool.false_eq_true, not_false_eq_true, not_true_eq_false, if_true, if_false, Nat.reduceAdd, Nat.reduceLeDiff, reduceIte, h1.1, h1.2.1, h1.2.2.1, h1.2.2.2.1, h1.2.2.2.2.1, h1.2.2.2.2.2.1, h1.2.2.2.2.2.2.1, h1.2.2.2.2.2.2.2.1, h1.2.2.2.2.2.2.2.2.1, h1.2.2.2.2.2.2.2.2.2.1, h1.2.2.2.2.2.2.2.2.2.2.1, h1.2.2.2.2.2.2.2.2.2.2.2.1, h1.2.2.2.2.2.2.2.2.2.2.2.2.1, h1.2.2.2.2.2.2.2.2.2.2.2.2.2.1, h1.2.2.2.2.2.2.2.2.2.2.2.2.2.2.1, h1.2.2.2.2.2.2.2.2.2.2.2.2.2.2.2.1, h1.2.2.2.2.2.2.2.2.2.2.2.2.2.2.2.2.1, h1.2.2.2.2.2.2.2.2.2.2.2.2.2.2.2.2.2.1, h1.2.2.2.2.2.2.2.2.2.2.2.2.2.2.2.2.2.2.1, h1.2.2.2.2.2.2.2.2.2.2.2.2.2.2.2.2.2.2.2.1, h1.2.2.2.2.2.2.2.2.2.2.2.2.2.2.2.2.2.2.2.2.1, h1.2.2.2.2.2.2.2.2.2.2.2.2.2.2.2.2.2.2.2.2.2.1, h1.2.2.2.2.2.2.2.2.2.2.2.2.2.2.2.2.2.2.2.2.2.2.1, h1.2.2.2.2.2.2.2.2.2.2.2.2.2.2.2.2.2.2.2.2.2.2.2.1, h1.2.2.2.2.2.2.2.2.2.2.2.2.2.2.2.2.2.2.2.2.2.2.2.2, hip, b2i_0, q]
