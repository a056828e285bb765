/-! copy -/
def cpS (h : Sht) (k1 p1 k2 p2 m : Nat) : Sht := (h.1, fun k i => if k = k2 ∧ p2 ≤ i ∧ i < p2 + m then h.2 k1 (p1 + (i - p2)) else h.2 k i)
def opCopy (h : Sht) (s i t j n : Int32) : Int32 × Sht := if (0 ≤ s ∧ s ≤ 3) ∧ (0 ≤ t ∧ t ≤ 3) then (match h.1 s.toNatClampNeg, h.1 t.toNatClampNeg with
  | some (l1, n1), some (l2, n2) => if l1 = l2 then (if (0 ≤ i.toInt ∧ 0 ≤ n.toInt ∧ i.toInt + n.toInt ≤ n1) ∧ (0 ≤ j.toInt ∧ 0 ≤ n.toInt ∧ j.toInt + n.toInt ≤ n2) then (n, cpS h s.toNatClampNeg i.toNatClampNeg t.toNatClampNeg j.toNatClampNeg n.toNatClampNeg) else (-13, h)) else (-12, h)
  | _, _ => (-11, h)) else (-1, h)
theorem okIx_n {len : Nat} {i n : Int32} (h24 : len ≤ 24) (h : okIx len i n) : ∃ p m, i = nI p ∧ n = nI m ∧ p + m ≤ len := by
  obtain ⟨h1, h2, h3⟩ := h
  refine ⟨i.toInt.toNat, n.toInt.toNat, ?_, ?_, by omega⟩
  · rw [nI_iI]
    have : ((i.toInt.toNat : Nat) : Int) = i.toInt := by omega
    rw [this]; exact (Int32.ofInt_toInt i).symm
  · rw [nI_iI]
    have : ((n.toInt.toNat : Nat) : Int) = n.toInt := by omega
    rw [this]; exact (Int32.ofInt_toInt n).symm
theorem opCopy_m1 {h : Sht} {s i t j n : Int32} (q : ¬ ((0 ≤ s ∧ s ≤ 3) ∧ (0 ≤ t ∧ t ≤ 3))) : opCopy h s i t j n = (-1, h) := by unfold opCopy; rw [if_neg q]
theorem opCopy_m11 {h : Sht} {i j n : Int32} {k1 k2 : Nat} (h1 : k1 < 4) (h2 : k2 < 4) (q : h.1 k1 = none ∨ h.1 k2 = none) : opCopy h (nI k1) i (nI k2) j n = (-11, h) := by
  unfold opCopy
  rw [if_pos ⟨sh_iff.mpr ⟨k1, h1, rfl⟩, sh_iff.mpr ⟨k2, h2, rfl⟩⟩, nI_clamp (show k1 < 2 ^ 31 by omega), nI_clamp (show k2 < 2 ^ 31 by omega)]
  rcases q with q | q
  · rw [q]
  · rw [q]; cases h.1 k1 <;> rfl
theorem opCopy_s {h : Sht} {i j n : Int32} {k1 k2 l1 n1 l2 n2 : Nat} (h1 : k1 < 4) (h2 : k2 < 4) (e1 : h.1 k1 = some (l1, n1)) (e2 : h.1 k2 = some (l2, n2)) : opCopy h (nI k1) i (nI k2) j n = if l1 = l2 then (if (0 ≤ i.toInt ∧ 0 ≤ n.toInt ∧ i.toInt + n.toInt ≤ n1) ∧ (0 ≤ j.toInt ∧ 0 ≤ n.toInt ∧ j.toInt + n.toInt ≤ n2) then (n, cpS h k1 i.toNatClampNeg k2 j.toNatClampNeg n.toNatClampNeg) else (-13, h)) else (-12, h) := by
  unfold opCopy
  rw [if_pos ⟨sh_iff.mpr ⟨k1, h1, rfl⟩, sh_iff.mpr ⟨k2, h2, rfl⟩⟩, nI_clamp (show k1 < 2 ^ 31 by omega), nI_clamp (show k2 < 2 ^ 31 by omega), e1, e2]
theorem opCopy_m12 {h : Sht} {i j n : Int32} {k1 k2 l1 n1 l2 n2 : Nat} (h1 : k1 < 4) (h2 : k2 < 4) (e1 : h.1 k1 = some (l1, n1)) (e2 : h.1 k2 = some (l2, n2)) (q : ¬ l1 = l2) : opCopy h (nI k1) i (nI k2) j n = (-12, h) := by
  rw [opCopy_s h1 h2 e1 e2, if_neg q]
theorem opCopy_m13 {h : Sht} {i j n : Int32} {k1 k2 l n1 n2 : Nat} (h1 : k1 < 4) (h2 : k2 < 4) (e1 : h.1 k1 = some (l, n1)) (e2 : h.1 k2 = some (l, n2)) (q : ¬ (okIx n1 i n ∧ okIx n2 j n)) : opCopy h (nI k1) i (nI k2) j n = (-13, h) := by
  rw [opCopy_s h1 h2 e1 e2, if_pos rfl]; exact if_neg q
theorem opCopy_ok {h : Sht} {i j n : Int32} {k1 k2 l n1 n2 : Nat} (h1 : k1 < 4) (h2 : k2 < 4) (e1 : h.1 k1 = some (l, n1)) (e2 : h.1 k2 = some (l, n2)) (q : okIx n1 i n) (q' : okIx n2 j n) : opCopy h (nI k1) i (nI k2) j n = (n, cpS h k1 i.toNatClampNeg k2 j.toNatClampNeg n.toNatClampNeg) := by
  rw [opCopy_s h1 h2 e1 e2, if_pos rfl]; exact if_pos ⟨q, q'⟩
theorem CSk.cp {w : Wd} {r k k1 p1 k2 p2 m : Nat} {h : Sht} (h1 : CSk w r k1 h) (hk : CSk w r k h) (b1 : p1 + m ≤ 24) : CSk (cpJ w (r + 2 + k1) p1 (r + 2 + k2) p2 m) r k (cpS h k1 p1 k2 p2 m) := by
  refine ⟨hk.1, fun i hi => ?_⟩
  rw [rdJ_cpJ]
  simp only [cpS]
  by_cases z : k = k2 ∧ p2 ≤ i ∧ i < p2 + m
  · rw [if_pos z, if_pos ⟨by omega, z.2⟩]
    exact h1.2 _ (by omega)
  · rw [if_neg z, if_neg (by omega)]
    exact hk.2 i hi
theorem c_copy {w : Wd} {b : Nat} {h : Sht} {s i t j n : Int32} (hc : isCl w b) (hS : CS w (b + 44) h) : ∃ u, fX8_copy [.ref b, .int s, .int i, .int t, .int j, .int n] w = some (some (.int (opCopy h s i t j n).1), u) ∧ CS u (b + 44) (opCopy h s i t j n).2 ∧ Fr (b + 44) (b + 52) w u := by
  obtain ⟨hr, hk⟩ := hS
  by_cases q : (0 ≤ s ∧ s ≤ 3) ∧ (0 ≤ t ∧ t ≤ 3)
  · obtain ⟨q1, q2⟩ := q
    obtain ⟨k1, hk1, rfl⟩ := sh_iff.mp q1
    obtain ⟨k2, hk2, rfl⟩ := sh_iff.mp q2
    have c1 := nI_clamp (show k1 < 2 ^ 31 by omega)
    have c2 := nI_clamp (show k2 < 2 ^ 31 by omega)
    have i1 := inA_nI hk1 (show 4 < 2147483648 by omega)
    have i2 := inA_nI hk2 (show 4 < 2147483648 by omega)
    have hc1 := (hk k1 hk1).1
    have hc2 := (hk k2 hk2).1
    cases e1 : h.1 k1 with
    | none =>
      rw [e1] at hc1
      refine ⟨w, ?_, by rw [opCopy_m11 hk1 hk2 (Or.inl e1)]; exact ⟨hr, hk⟩, Fr.rf⟩
      rw [opCopy_m11 hk1 hk2 (Or.inl e1)]
      refine sem_eq (Nat.le_of_ble_eq_true rfl) ?_
      show wp mX8_copy 0 [some (.ref b), some (.int (nI k1)), some (.int i), some (.int (nI k2)), some (.int j), some (.int n)] [] _ _
      simp only [eX8_copy_0, eX8_copy_1, eX8_copy_4, eX8_copy_7, eX8_copy_8, eX8_copy_11, eX8_copy_14, eX8_copy_15, eX8_copy_16, eX8_copy_17, eX8_copy_20, eX8_copy_23, eX8_copy_24, eX8_copy_25, eX8_copy_26, eX8_copy_29, eX8_copy_30, eX8_copy_33, eX8_copy_36, eX8_copy_37, eX8_copy_38, eX8_copy_39, eX8_copy_42, eX8_copy_44, cont_some, tl_some, tl_none, csum_nil, csum_i, csum_r, csum_j, isc2_i, isc2_r, isc2_n, va_rf_s, vfn_ite, true_and, and_true, true_or, or_true, eq_self, Bool.false_eq_true, not_false_eq_true, not_true_eq_false, if_true, if_false, Nat.reduceAdd, Nat.reduceLeDiff, reduceIte, hc.1, hc.2.1, hc.2.2.1, hc.2.2.2.1, hc.2.2.2.2.1, hc.2.2.2.2.2.1, hc.2.2.2.2.2.2.1, hc.2.2.2.2.2.2.2.1, hc.2.2.2.2.2.2.2.2.1, hc.2.2.2.2.2.2.2.2.2.1, hc.2.2.2.2.2.2.2.2.2.2, hr.1, hr.2.2.1, hr.2.2.2.2.2.1, s_isSheet, b2i_0, q1, q2, and_self, i1, c1, hc1]
    | some a =>
      obtain ⟨l1, n1⟩ := a
      rw [e1] at hc1
      obtain ⟨g1, g2, g3, g4⟩ := hc1
      have hm1 := nI_lm1 g1
      cases e2 : h.1 k2 with
      | none =>
        rw [e2] at hc2
        refine ⟨w, ?_, by rw [opCopy_m11 hk1 hk2 (Or.inr e2)]; exact ⟨hr, hk⟩, Fr.rf⟩
        rw [opCopy_m11 hk1 hk2 (Or.inr e2)]
        refine sem_eq (Nat.le_of_ble_eq_true rfl) ?_
        show wp mX8_copy 0 [some (.ref b), some (.int (nI k1)), some (.int i), some (.int (nI k2)), some (.int j), some (.int n)] [] _ _
        simp only [eX8_copy_0, eX8_copy_1, eX8_copy_4, eX8_copy_7, eX8_copy_8, eX8_copy_11, eX8_copy_14, eX8_copy_15, eX8_copy_16, eX8_copy_17, eX8_copy_20, eX8_copy_23, eX8_copy_24, eX8_copy_25, eX8_copy_26, eX8_copy_29, eX8_copy_30, eX8_copy_33, eX8_copy_36, eX8_copy_37, eX8_copy_38, eX8_copy_39, eX8_copy_42, eX8_copy_44, cont_some, tl_some, tl_none, csum_nil, csum_i, csum_r, csum_j, isc2_i, isc2_r, isc2_n, va_rf_s, vfn_ite, true_and, and_true, true_or, or_true, eq_self, Bool.false_eq_true, not_false_eq_true, not_true_eq_false, if_true, if_false, Nat.reduceAdd, Nat.reduceLeDiff, reduceIte, hc.1, hc.2.1, hc.2.2.1, hc.2.2.2.1, hc.2.2.2.2.1, hc.2.2.2.2.2.1, hc.2.2.2.2.2.2.1, hc.2.2.2.2.2.2.2.1, hc.2.2.2.2.2.2.2.2.1, hc.2.2.2.2.2.2.2.2.2.1, hc.2.2.2.2.2.2.2.2.2.2, hr.1, hr.2.2.1, hr.2.2.2.2.2.1, s_isSheet, b2i_0, q1, q2, and_self, i1, c1, i2, c2, hc2, g3, hm1]
      | some a =>
        obtain ⟨l2, n2⟩ := a
        rw [e2] at hc2
        obtain ⟨f1, f2, f3, f4⟩ := hc2
        have hm2 := nI_lm1 f1
        by_cases q3 : l1 = l2
        · subst q3
          obtain ⟨x, hx, -, hx2⟩ := s_lacks (i := i) (n := n) hr hk1 g4 g2
          obtain ⟨y, hy, -, hy2⟩ := s_lacks (i := j) (n := n) hr hk2 f4 f2
          by_cases q4 : okIx n1 i n
          · have x0 := hx2.mpr q4
            subst x0
            by_cases q5 : okIx n2 j n
            · have y0 := hy2.mpr q5
              subst y0
              obtain ⟨p1, m, rfl, rfl, b1⟩ := okIx_n g2 q4
              obtain ⟨p2, m', rfl, em, b2⟩ := okIx_n f2 q5
              have := (nI_eq (a := m) (b := m') (by omega) (by omega)).mp em
              subst this
              have cp1 := nI_clamp (show p1 < 2 ^ 31 by omega)
              have cp2 := nI_clamp (show p2 < 2 ^ 31 by omega)
              have cm := nI_clamp (show m < 2 ^ 31 by omega)
              have hop := opCopy_ok hk1 hk2 e1 e2 q4 q5
              rw [cp1, cp2, cm] at hop
              rw [hop]
              obtain ⟨a1, a2⟩ := hr.2.2.2.2.2.2.2 k1 hk1
              obtain ⟨a3, a4⟩ := hr.2.2.2.2.2.2.2 k2 hk2
              have m17 : 17 ∈ [14, 15, 16, 17] := by decide
              have hcp := s_cpyJ (w := w) (sp := p1) (dp := p2) (n := m) a2 a4 (by omega) (by omega) (by omega) (by omega)
              refine ⟨cpJ w (b + 44 + 2 + k1) p1 (b + 44 + 2 + k2) p2 m, ?_, ⟨hr, fun k hk4 => CSk.cp (hk k1 hk1) (hk k hk4) (by omega)⟩, Fr.rf.cpJ ⟨by omega, by omega⟩⟩
              refine sem_eq (Nat.le_of_ble_eq_true rfl) ?_
              show wp mX8_copy 0 [some (.ref b), some (.int (nI k1)), some (.int (nI p1)), some (.int (nI k2)), some (.int (nI p2)), some (.int (nI m))] [] _ _
              simp only [eX8_copy_0, eX8_copy_1, eX8_copy_4, eX8_copy_7, eX8_copy_8, eX8_copy_11, eX8_copy_14, eX8_copy_15, eX8_copy_16, eX8_copy_17, eX8_copy_20, eX8_copy_23, eX8_copy_24, eX8_copy_25, eX8_copy_26, eX8_copy_29, eX8_copy_30, eX8_copy_33, eX8_copy_36, eX8_copy_37, eX8_copy_38, eX8_copy_39, eX8_copy_42, eX8_copy_44, eX8_copy_45, eX8_copy_46, eX8_copy_49, eX8_copy_52, eX8_copy_53, eX8_copy_54, eX8_copy_55, eX8_copy_58, eX8_copy_61, eX8_copy_62, eX8_copy_63, eX8_copy_66, eX8_copy_68, eX8_copy_69, eX8_copy_70, eX8_copy_73, eX8_copy_74, eX8_copy_75, eX8_copy_77, eX8_copy_80, eX8_copy_83, eX8_copy_84, eX8_copy_87, eX8_copy_88, eX8_copy_90, eX8_copy_92, eX8_copy_95, eX8_copy_98, eX8_copy_100, eX8_copy_101, eX8_copy_102, eX8_copy_105, eX8_copy_108, eX8_copy_109, eX8_copy_110, eX8_copy_111, eX8_copy_112, eX8_copy_115, eX8_copy_118, eX8_copy_119, eX8_copy_120, eX8_copy_122, eX8_copy_124, eX8_copy_127, eX8_copy_129, cont_some, tl_some, tl_none, csum_nil, csum_i, csum_r, csum_j, isc2_i, isc2_r, isc2_n, va_rf_s, vfn_ite, true_and, and_true, true_or, or_true, eq_self, Bool.false_eq_true, not_false_eq_true, not_true_eq_false, if_true, if_false, Nat.reduceAdd, Nat.reduceLeDiff, reduceIte, hc.1, hc.2.1, hc.2.2.1, hc.2.2.2.1, hc.2.2.2.2.1, hc.2.2.2.2.2.1, hc.2.2.2.2.2.2.1, hc.2.2.2.2.2.2.2.1, hc.2.2.2.2.2.2.2.2.1, hc.2.2.2.2.2.2.2.2.2.1, hc.2.2.2.2.2.2.2.2.2.2, hr.1, hr.2.1, hr.2.2.1, hr.2.2.2.2.1, hr.2.2.2.2.2.1, s_isSheet, b2i_0, q1, q2, and_self, i1, c1, i2, c2, g3, f3, hm1, hx, hy, m17, a1, a2, a3, a4, hcp]
            · have y0 : ¬ y = 0 := fun z => q5 (hy2.mp z)
              have hop := opCopy_m13 (i := i) (j := j) (n := n) hk1 hk2 e1 e2 (fun z => q5 z.2)
              refine ⟨w, ?_, by rw [hop]; exact ⟨hr, hk⟩, Fr.rf⟩
              rw [hop]
              refine sem_eq (Nat.le_of_ble_eq_true rfl) ?_
              show wp mX8_copy 0 [some (.ref b), some (.int (nI k1)), some (.int i), some (.int (nI k2)), some (.int j), some (.int n)] [] _ _
              simp only [eX8_copy_0, eX8_copy_1, eX8_copy_4, eX8_copy_7, eX8_copy_8, eX8_copy_11, eX8_copy_14, eX8_copy_15, eX8_copy_16, eX8_copy_17, eX8_copy_20, eX8_copy_23, eX8_copy_24, eX8_copy_25, eX8_copy_26, eX8_copy_29, eX8_copy_30, eX8_copy_33, eX8_copy_36, eX8_copy_37, eX8_copy_38, eX8_copy_39, eX8_copy_42, eX8_copy_44, eX8_copy_45, eX8_copy_46, eX8_copy_49, eX8_copy_52, eX8_copy_53, eX8_copy_54, eX8_copy_55, eX8_copy_58, eX8_copy_61, eX8_copy_62, eX8_copy_63, eX8_copy_66, eX8_copy_68, eX8_copy_69, eX8_copy_70, eX8_copy_73, eX8_copy_74, eX8_copy_75, eX8_copy_77, eX8_copy_80, eX8_copy_83, eX8_copy_84, eX8_copy_87, eX8_copy_88, eX8_copy_90, eX8_copy_92, eX8_copy_95, eX8_copy_98, eX8_copy_100, cont_some, tl_some, tl_none, csum_nil, csum_i, csum_r, csum_j, isc2_i, isc2_r, isc2_n, va_rf_s, vfn_ite, true_and, and_true, true_or, or_true, eq_self, Bool.false_eq_true, not_false_eq_true, not_true_eq_false, if_true, if_false, Nat.reduceAdd, Nat.reduceLeDiff, reduceIte, hc.1, hc.2.1, hc.2.2.1, hc.2.2.2.1, hc.2.2.2.2.1, hc.2.2.2.2.2.1, hc.2.2.2.2.2.2.1, hc.2.2.2.2.2.2.2.1, hc.2.2.2.2.2.2.2.2.1, hc.2.2.2.2.2.2.2.2.2.1, hc.2.2.2.2.2.2.2.2.2.2, hr.1, hr.2.2.1, hr.2.2.2.2.2.1, s_isSheet, b2i_0, q1, q2, and_self, i1, c1, i2, c2, g3, f3, hm1, hx, hy, y0]
          · have x0 : ¬ x = 0 := fun z => q4 (hx2.mp z)
            have hop := opCopy_m13 (i := i) (j := j) (n := n) hk1 hk2 e1 e2 (fun z => q4 z.1)
            refine ⟨w, ?_, by rw [hop]; exact ⟨hr, hk⟩, Fr.rf⟩
            rw [hop]
            refine sem_eq (Nat.le_of_ble_eq_true rfl) ?_
            show wp mX8_copy 0 [some (.ref b), some (.int (nI k1)), some (.int i), some (.int (nI k2)), some (.int j), some (.int n)] [] _ _
            simp only [eX8_copy_0, eX8_copy_1, eX8_copy_4, eX8_copy_7, eX8_copy_8, eX8_copy_11, eX8_copy_14, eX8_copy_15, eX8_copy_16, eX8_copy_17, eX8_copy_20, eX8_copy_23, eX8_copy_24, eX8_copy_25, eX8_copy_26, eX8_copy_29, eX8_copy_30, eX8_copy_33, eX8_copy_36, eX8_copy_37, eX8_copy_38, eX8_copy_39, eX8_copy_42, eX8_copy_44, eX8_copy_45, eX8_copy_46, eX8_copy_49, eX8_copy_52, eX8_copy_53, eX8_copy_54, eX8_copy_55, eX8_copy_58, eX8_copy_61, eX8_copy_62, eX8_copy_63, eX8_copy_66, eX8_copy_68, eX8_copy_69, eX8_copy_70, eX8_copy_73, eX8_copy_74, eX8_copy_75, eX8_copy_77, eX8_copy_80, eX8_copy_83, eX8_copy_84, eX8_copy_87, eX8_copy_88, eX8_copy_90, eX8_copy_92, eX8_copy_95, eX8_copy_98, eX8_copy_100, cont_some, tl_some, tl_none, csum_nil, csum_i, csum_r, csum_j, isc2_i, isc2_r, isc2_n, va_rf_s, vfn_ite, true_and, and_true, true_or, or_true, eq_self, Bool.false_eq_true, not_false_eq_true, not_true_eq_false, if_true, if_false, Nat.reduceAdd, Nat.reduceLeDiff, reduceIte, hc.1, hc.2.1, hc.2.2.1, hc.2.2.2.1, hc.2.2.2.2.1, hc.2.2.2.2.2.1, hc.2.2.2.2.2.2.1, hc.2.2.2.2.2.2.2.1, hc.2.2.2.2.2.2.2.2.1, hc.2.2.2.2.2.2.2.2.2.1, hc.2.2.2.2.2.2.2.2.2.2, hr.1, hr.2.2.1, hr.2.2.2.2.2.1, s_isSheet, b2i_0, q1, q2, and_self, i1, c1, i2, c2, g3, f3, hm1, hx, x0]
        · have hop := opCopy_m12 (i := i) (j := j) (n := n) hk1 hk2 e1 e2 q3
          have hne : ¬ nI l1 = nI l2 := fun z => q3 ((nI_eq (by omega) (by omega)).mp z)
          refine ⟨w, ?_, by rw [hop]; exact ⟨hr, hk⟩, Fr.rf⟩
          rw [hop]
          refine sem_eq (Nat.le_of_ble_eq_true rfl) ?_
          show wp mX8_copy 0 [some (.ref b), some (.int (nI k1)), some (.int i), some (.int (nI k2)), some (.int j), some (.int n)] [] _ _
          simp only [eX8_copy_0, eX8_copy_1, eX8_copy_4, eX8_copy_7, eX8_copy_8, eX8_copy_11, eX8_copy_14, eX8_copy_15, eX8_copy_16, eX8_copy_17, eX8_copy_20, eX8_copy_23, eX8_copy_24, eX8_copy_25, eX8_copy_26, eX8_copy_29, eX8_copy_30, eX8_copy_33, eX8_copy_36, eX8_copy_37, eX8_copy_38, eX8_copy_39, eX8_copy_42, eX8_copy_44, eX8_copy_45, eX8_copy_46, eX8_copy_49, eX8_copy_52, eX8_copy_53, eX8_copy_54, eX8_copy_55, eX8_copy_58, eX8_copy_61, eX8_copy_62, eX8_copy_63, eX8_copy_66, eX8_copy_68, cont_some, tl_some, tl_none, csum_nil, csum_i, csum_r, csum_j, isc2_i, isc2_r, isc2_n, va_rf_s, vfn_ite, true_and, and_true, true_or, or_true, eq_self, Bool.false_eq_true, not_false_eq_true, not_true_eq_false, if_true, if_false, Nat.reduceAdd, Nat.reduceLeDiff, reduceIte, hc.1, hc.2.1, hc.2.2.1, hc.2.2.2.1, hc.2.2.2.2.1, hc.2.2.2.2.2.1, hc.2.2.2.2.2.2.1, hc.2.2.2.2.2.2.2.1, hc.2.2.2.2.2.2.2.2.1, hc.2.2.2.2.2.2.2.2.2.1, hc.2.2.2.2.2.2.2.2.2.2, hr.1, hr.2.2.1, hr.2.2.2.2.2.1, s_isSheet, b2i_0, q1, q2, and_self, i1, c1, i2, c2, g3, f3, hm1, hm2, hne]
  · refine ⟨w, ?_, by rw [opCopy_m1 q]; exact ⟨hr, hk⟩, Fr.rf⟩
    rw [opCopy_m1 q]
    refine sem_eq (Nat.le_of_ble_eq_true rfl) ?_
    show wp mX8_copy 0 [some (.ref b), some (.int s), some (.int i), some (.int t), some (.int j), some (.int n)] [] _ _
    by_cases q1 : 0 ≤ s ∧ s ≤ 3
    · have q2 : ¬ (0 ≤ t ∧ t ≤ 3) := fun z => q ⟨q1, z⟩
      simp only [eX8_copy_0, eX8_copy_1, eX8_copy_4, eX8_copy_7, eX8_copy_8, eX8_copy_11, eX8_copy_14, eX8_copy_15, cont_some, tl_some, tl_none, csum_nil, csum_i, csum_r, csum_j, isc2_i, isc2_r, isc2_n, va_rf_s, vfn_ite, true_and, and_true, true_or, or_true, eq_self, Bool.false_eq_true, not_false_eq_true, not_true_eq_false, if_true, if_false, Nat.reduceAdd, Nat.reduceLeDiff, reduceIte, s_isSheet, b2i_0, q1, q2, and_self]
    · simp only [eX8_copy_0, eX8_copy_1, eX8_copy_4, eX8_copy_7, eX8_copy_8, eX8_copy_11, eX8_copy_14, eX8_copy_15, cont_some, tl_some, tl_none, csum_nil, csum_i, csum_r, csum_j, isc2_i, isc2_r, isc2_n, va_rf_s, vfn_ite, true_and, and_true, true_or, or_true, eq_self, Bool.false_eq_true, not_false_eq_true, not_true_eq_false, if_true, if_false, Nat.reduceAdd, Nat.reduceLeDiff, reduceIte, s_isSheet, b2i_0, q1]
theorem i2l_jJ (x : Int32) : x.toInt64 = jJ x.toInt := by
  have h1 := x.toInt_lt
  have h2 := x.le_toInt
  rw [← Int64.toInt_inj, Int32.toInt_toInt64, jJ_toInt ⟨by omega, by omega⟩]
theorem m_isWithin {w : Wd} {o k len : Nat} {i n : Int32} (hm : isMd w o) (hk : k < 4) (hl : rdI w (o + 6) k = nI len) (h24 : len ≤ 24) : ∃ x : Int32, fX9_isWithin [.ref o, .int (nI k), .int i, .int n] w = some (some (.int x), w) ∧ (¬ x = 0 ↔ okIx len i n) := by
  have c4 := nI_clamp (show k < 2 ^ 31 by omega)
  have i4 := inA_nI hk (show 4 < 2147483648 by omega)
  have b1 := i.toInt_lt
  have b2 := i.le_toInt
  have b3 := n.toInt_lt
  have b4 := n.le_toInt
  have e : 0 < lg_cmp (i.toInt64 + n.toInt64) (nI len).toInt64 ↔ (len : Int) < i.toInt + n.toInt := by
    rw [lgc_gt, i2l_jJ, i2l_jJ, i2l_jJ, jJ_add, nI_T (by omega), jJ_lt ⟨by omega, by omega⟩ ⟨by omega, by omega⟩]
  by_cases q1 : i < 0
  · refine ⟨0, ?_, by unfold okIx; have := lt0.mp q1; constructor <;> intro z <;> first | exact absurd rfl z | omega⟩
    refine sem_eq (Nat.le_of_ble_eq_true rfl) ?_
    show wp mX9_isWithin 0 [some (.ref o), some (.int (nI k)), some (.int i), some (.int n)] [] _ _
    simp only [eX9_isWithin_0, eX9_isWithin_1, eX9_isWithin_4, eX9_isWithin_5, eX9_isWithin_8, eX9_isWithin_9, eX9_isWithin_10, eX9_isWithin_11, eX9_isWithin_12, eX9_isWithin_13, eX9_isWithin_14, eX9_isWithin_17, eX9_isWithin_18, eX9_isWithin_19, eX9_isWithin_20, eX9_isWithin_21, eX9_isWithin_24, eX9_isWithin_25, eX9_isWithin_28, eX9_isWithin_29, cont_some, tl_some, tl_none, csum_nil, csum_i, csum_r, csum_j, isc2_i, isc2_r, isc2_n, va_rf_s, vfn_ite, true_and, and_true, true_or, or_true, eq_self, Bool.false_eq_true, not_false_eq_true, not_true_eq_false, if_true, if_false, Nat.reduceAdd, Nat.reduceLeDiff, reduceIte, q1]
  · have q1' : ¬ i.toInt < 0 := fun z => q1 (lt0.mpr z)
    by_cases q2 : n < 0
    · refine ⟨0, ?_, by unfold okIx; have := lt0.mp q2; constructor <;> intro z <;> first | exact absurd rfl z | omega⟩
      refine sem_eq (Nat.le_of_ble_eq_true rfl) ?_
      show wp mX9_isWithin 0 [some (.ref o), some (.int (nI k)), some (.int i), some (.int n)] [] _ _
      simp only [eX9_isWithin_0, eX9_isWithin_1, eX9_isWithin_4, eX9_isWithin_5, eX9_isWithin_8, eX9_isWithin_9, eX9_isWithin_10, eX9_isWithin_11, eX9_isWithin_12, eX9_isWithin_13, eX9_isWithin_14, eX9_isWithin_17, eX9_isWithin_18, eX9_isWithin_19, eX9_isWithin_20, eX9_isWithin_21, eX9_isWithin_24, eX9_isWithin_25, eX9_isWithin_28, eX9_isWithin_29, cont_some, tl_some, tl_none, csum_nil, csum_i, csum_r, csum_j, isc2_i, isc2_r, isc2_n, va_rf_s, vfn_ite, true_and, and_true, true_or, or_true, eq_self, Bool.false_eq_true, not_false_eq_true, not_true_eq_false, if_true, if_false, Nat.reduceAdd, Nat.reduceLeDiff, reduceIte, q1, q2]
    · have q2' : ¬ n.toInt < 0 := fun z => q2 (lt0.mpr z)
      by_cases q3 : 0 < lg_cmp (i.toInt64 + n.toInt64) (nI len).toInt64
      · refine ⟨0, ?_, by unfold okIx; have := e.mp q3; constructor <;> intro z <;> first | exact absurd rfl z | omega⟩
        refine sem_eq (Nat.le_of_ble_eq_true rfl) ?_
        show wp mX9_isWithin 0 [some (.ref o), some (.int (nI k)), some (.int i), some (.int n)] [] _ _
        simp only [eX9_isWithin_0, eX9_isWithin_1, eX9_isWithin_4, eX9_isWithin_5, eX9_isWithin_8, eX9_isWithin_9, eX9_isWithin_10, eX9_isWithin_11, eX9_isWithin_12, eX9_isWithin_13, eX9_isWithin_14, eX9_isWithin_17, eX9_isWithin_18, eX9_isWithin_19, eX9_isWithin_20, eX9_isWithin_21, eX9_isWithin_24, eX9_isWithin_25, eX9_isWithin_28, eX9_isWithin_29, cont_some, tl_some, tl_none, csum_nil, csum_i, csum_r, csum_j, isc2_i, isc2_r, isc2_n, va_rf_s, vfn_ite, true_and, and_true, true_or, or_true, eq_self, Bool.false_eq_true, not_false_eq_true, not_true_eq_false, if_true, if_false, Nat.reduceAdd, Nat.reduceLeDiff, reduceIte, hm.1, hm.2.1, hm.2.2.1, hm.2.2.2.1, hm.2.2.2.2.1, hm.2.2.2.2.2.1, hm.2.2.2.2.2.2.1, hm.2.2.2.2.2.2.2.1, hm.2.2.2.2.2.2.2.2.1, hm.2.2.2.2.2.2.2.2.2.1, hm.2.2.2.2.2.2.2.2.2.2.1, hm.2.2.2.2.2.2.2.2.2.2.2.1, hm.2.2.2.2.2.2.2.2.2.2.2.2.1, hm.2.2.2.2.2.2.2.2.2.2.2.2.2.1, hm.2.2.2.2.2.2.2.2.2.2.2.2.2.2.1, hm.2.2.2.2.2.2.2.2.2.2.2.2.2.2.2.1, hm.2.2.2.2.2.2.2.2.2.2.2.2.2.2.2.2.1, hm.2.2.2.2.2.2.2.2.2.2.2.2.2.2.2.2.2.1, hm.2.2.2.2.2.2.2.2.2.2.2.2.2.2.2.2.2.2.1, hm.2.2.2.2.2.2.2.2.2.2.2.2.2.2.2.2.2.2.2.1, hm.2.2.2.2.2.2.2.2.2.2.2.2.2.2.2.2.2.2.2.2.1, hm.2.2.2.2.2.2.2.2.2.2.2.2.2.2.2.2.2.2.2.2.2.1, hm.2.2.2.2.2.2.2.2.2.2.2.2.2.2.2.2.2.2.2.2.2.2.1, hm.2.2.2.2.2.2.2.2.2.2.2.2.2.2.2.2.2.2.2.2.2.2.2.1, hm.2.2.2.2.2.2.2.2.2.2.2.2.2.2.2.2.2.2.2.2.2.2.2.2, q1, q2, c4, i4, hl, q3]
      · have q3' : ¬ (len : Int) < i.toInt + n.toInt := fun z => q3 (e.mpr z)
        refine ⟨1, ?_, by unfold okIx; exact ⟨fun _ => ⟨by omega, by omega, by omega⟩, fun _ => by decide⟩⟩
        refine sem_eq (Nat.le_of_ble_eq_true rfl) ?_
        show wp mX9_isWithin 0 [some (.ref o), some (.int (nI k)), some (.int i), some (.int n)] [] _ _
        simp only [eX9_isWithin_0, eX9_isWithin_1, eX9_isWithin_4, eX9_isWithin_5, eX9_isWithin_8, eX9_isWithin_9, eX9_isWithin_10, eX9_isWithin_11, eX9_isWithin_12, eX9_isWithin_13, eX9_isWithin_14, eX9_isWithin_17, eX9_isWithin_18, eX9_isWithin_19, eX9_isWithin_20, eX9_isWithin_21, eX9_isWithin_24, eX9_isWithin_25, eX9_isWithin_28, eX9_isWithin_29, cont_some, tl_some, tl_none, csum_nil, csum_i, csum_r, csum_j, isc2_i, isc2_r, isc2_n, va_rf_s, vfn_ite, true_and, and_true, true_or, or_true, eq_self, Bool.false_eq_true, not_false_eq_true, not_true_eq_false, if_true, if_false, Nat.reduceAdd, Nat.reduceLeDiff, reduceIte, hm.1, hm.2.1, hm.2.2.1, hm.2.2.2.1, hm.2.2.2.2.1, hm.2.2.2.2.2.1, hm.2.2.2.2.2.2.1, hm.2.2.2.2.2.2.2.1, hm.2.2.2.2.2.2.2.2.1, hm.2.2.2.2.2.2.2.2.2.1, hm.2.2.2.2.2.2.2.2.2.2.1, hm.2.2.2.2.2.2.2.2.2.2.2.1, hm.2.2.2.2.2.2.2.2.2.2.2.2.1, hm.2.2.2.2.2.2.2.2.2.2.2.2.2.1, hm.2.2.2.2.2.2.2.2.2.2.2.2.2.2.1, hm.2.2.2.2.2.2.2.2.2.2.2.2.2.2.2.1, hm.2.2.2.2.2.2.2.2.2.2.2.2.2.2.2.2.1, hm.2.2.2.2.2.2.2.2.2.2.2.2.2.2.2.2.2.1, hm.2.2.2.2.2.2.2.2.2.2.2.2.2.2.2.2.2.2.1, hm.2.2.2.2.2.2.2.2.2.2.2.2.2.2.2.2.2.2.2.1, hm.2.2.2.2.2.2.2.2.2.2.2.2.2.2.2.2.2.2.2.2.1, hm.2.2.2.2.2.2.2.2.2.2.2.2.2.2.2.2.2.2.2.2.2.1, hm.2.2.2.2.2.2.2.2.2.2.2.2.2.2.2.2.2.2.2.2.2.2.1, hm.2.2.2.2.2.2.2.2.2.2.2.2.2.2.2.2.2.2.2.2.2.2.2.1, hm.2.2.2.2.2.2.2.2.2.2.2.2.2.2.2.2.2.2.2.2.2.2.2.2, q1, q2, c4, i4, hl, q3]
theorem lo_copy1 {w : Wd} {o k p m : Nat} {a3 a4 : Option Value} {Q : Option Value → Wd → Prop} (h : isMd w o) (hk : k < 4) (hm : p + m ≤ 24) : ∀ (d t : Nat), t + d = m → (∀ a6, wp mX9_copy 122 [some (.ref o), some (.int (nI k)), some (.int (nI p)), a3, a4, some (.int (nI m)), a6] [] (cpJ w (o + 7) (24 * k + p) (o + 8) 0 m) Q) →
    wp mX9_copy 88 [some (.ref o), some (.int (nI k)), some (.int (nI p)), a3, a4, some (.int (nI m)), some (.int (nI t))] [] (cpJ w (o + 7) (24 * k + p) (o + 8) 0 t) Q := by
  intro d
  induction d with
  | zero =>
    intro t ht hQ
    have : t = m := by omega
    subst this
    have h1 : ¬ nI t < nI t := Int32.lt_irrefl
    simp only [eX9_copy_88, eX9_copy_90, eX9_copy_92, cont_some, tl_some, tl_none, csum_nil, csum_i, csum_r, csum_j, isc2_i, isc2_r, isc2_n, va_rf_s, vfn_ite, true_and, and_true, true_or, or_true, eq_self, Bool.false_eq_true, not_false_eq_true, not_true_eq_false, if_true, if_false, Nat.reduceAdd, Nat.reduceLeDiff, reduceIte, h1]
    exact hQ _
  | succ d ih =>
    intro t ht hQ
    have h1 : nI t < nI m := nI_lt (by omega) (by omega)
    have z5 : isc2 (some (some (Value.int (nI m)))) = false := rfl
    simp only [eX9_copy_88, eX9_copy_90, eX9_copy_92, cont_some, tl_some, tl_none, csum_nil, csum_i, csum_r, csum_j, isc2_i, isc2_r, isc2_n, va_rf_s, vfn_ite, true_and, and_true, true_or, or_true, eq_self, Bool.false_eq_true, not_false_eq_true, not_true_eq_false, if_true, if_false, Nat.reduceAdd, Nat.reduceLeDiff, reduceIte, h1]
    simp only [eX9_copy_95, eX9_copy_96, eX9_copy_99, eX9_copy_101, eX9_copy_102, eX9_copy_105, eX9_copy_107, eX9_copy_108, eX9_copy_109, eX9_copy_110, eX9_copy_111, eX9_copy_113, eX9_copy_114, eX9_copy_115, eX9_copy_116, cont_some, tl_some, tl_none, csum_nil, csum_i, csum_r, csum_j, isc2_i, isc2_r, isc2_n, va_rf_s, vfn_ite, true_and, and_true, true_or, or_true, eq_self, Bool.false_eq_true, not_false_eq_true, not_true_eq_false, if_true, if_false, Nat.reduceAdd, Nat.reduceLeDiff, reduceIte, shp_cpJ, rdR_cpJ, h.1, h.2.1, h.2.2.1, h.2.2.2.1, h.2.2.2.2.1, h.2.2.2.2.2.1, h.2.2.2.2.2.2.1, h.2.2.2.2.2.2.2.1, h.2.2.2.2.2.2.2.2.1, h.2.2.2.2.2.2.2.2.2.1, h.2.2.2.2.2.2.2.2.2.2.1, h.2.2.2.2.2.2.2.2.2.2.2.1, h.2.2.2.2.2.2.2.2.2.2.2.2.1, h.2.2.2.2.2.2.2.2.2.2.2.2.2.1, h.2.2.2.2.2.2.2.2.2.2.2.2.2.2.1, h.2.2.2.2.2.2.2.2.2.2.2.2.2.2.2.1, h.2.2.2.2.2.2.2.2.2.2.2.2.2.2.2.2.1, h.2.2.2.2.2.2.2.2.2.2.2.2.2.2.2.2.2.1, h.2.2.2.2.2.2.2.2.2.2.2.2.2.2.2.2.2.2.1, h.2.2.2.2.2.2.2.2.2.2.2.2.2.2.2.2.2.2.2.1, h.2.2.2.2.2.2.2.2.2.2.2.2.2.2.2.2.2.2.2.2.1, h.2.2.2.2.2.2.2.2.2.2.2.2.2.2.2.2.2.2.2.2.2.1, h.2.2.2.2.2.2.2.2.2.2.2.2.2.2.2.2.2.2.2.2.2.2.1, h.2.2.2.2.2.2.2.2.2.2.2.2.2.2.2.2.2.2.2.2.2.2.2.1, h.2.2.2.2.2.2.2.2.2.2.2.2.2.2.2.2.2.2.2.2.2.2.2.2, z5, nI_p24, pk_mul, nI_a, inA_nI (show t < 24 by omega) (by omega), inA_nI (show 24 * k + p + t < 96 by omega) (by omega), nI_clamp (show t < 2 ^ 31 by omega), nI_clamp (show 24 * k + p + t < 2 ^ 31 by omega), nI_1]
    rw [cpJ_t (Or.inl (by omega)) (by omega) (by omega), eX9_copy_119]
    exact ih (t + 1) (by omega) hQ
theorem lo_copy2 {w : Wd} {o k p m : Nat} {a1 a2 : Option Value} {Q : Option Value → Wd → Prop} (h : isMd w o) (hk : k < 4) (hm : p + m ≤ 24) : ∀ (d t : Nat), t + d = m → Q (some (.int (nI m))) (cpJ w (o + 8) 0 (o + 7) (24 * k + p) m) →
    wp mX9_copy 125 [some (.ref o), a1, a2, some (.int (nI k)), some (.int (nI p)), some (.int (nI m)), some (.int (nI t))] [] (cpJ w (o + 8) 0 (o + 7) (24 * k + p) t) Q := by
  intro d
  induction d with
  | zero =>
    intro t ht hQ
    have : t = m := by omega
    subst this
    have h1 : ¬ nI t < nI t := Int32.lt_irrefl
    simp only [eX9_copy_125, eX9_copy_127, eX9_copy_129, eX9_copy_160, eX9_copy_162, cont_some, tl_some, tl_none, csum_nil, csum_i, csum_r, csum_j, isc2_i, isc2_r, isc2_n, va_rf_s, vfn_ite, true_and, and_true, true_or, or_true, eq_self, Bool.false_eq_true, not_false_eq_true, not_true_eq_false, if_true, if_false, Nat.reduceAdd, Nat.reduceLeDiff, reduceIte, h1]
    exact hQ
  | succ d ih =>
    intro t ht hQ
    have h1 : nI t < nI m := nI_lt (by omega) (by omega)
    have z5 : isc2 (some (some (Value.int (nI m)))) = false := rfl
    simp only [eX9_copy_125, eX9_copy_127, eX9_copy_129, cont_some, tl_some, tl_none, csum_nil, csum_i, csum_r, csum_j, isc2_i, isc2_r, isc2_n, va_rf_s, vfn_ite, true_and, and_true, true_or, or_true, eq_self, Bool.false_eq_true, not_false_eq_true, not_true_eq_false, if_true, if_false, Nat.reduceAdd, Nat.reduceLeDiff, reduceIte, h1]
    simp only [eX9_copy_132, eX9_copy_133, eX9_copy_136, eX9_copy_138, eX9_copy_139, eX9_copy_140, eX9_copy_142, eX9_copy_143, eX9_copy_145, eX9_copy_146, eX9_copy_147, eX9_copy_150, eX9_copy_152, eX9_copy_153, eX9_copy_154, cont_some, tl_some, tl_none, csum_nil, csum_i, csum_r, csum_j, isc2_i, isc2_r, isc2_n, va_rf_s, vfn_ite, true_and, and_true, true_or, or_true, eq_self, Bool.false_eq_true, not_false_eq_true, not_true_eq_false, if_true, if_false, Nat.reduceAdd, Nat.reduceLeDiff, reduceIte, shp_cpJ, rdR_cpJ, h.1, h.2.1, h.2.2.1, h.2.2.2.1, h.2.2.2.2.1, h.2.2.2.2.2.1, h.2.2.2.2.2.2.1, h.2.2.2.2.2.2.2.1, h.2.2.2.2.2.2.2.2.1, h.2.2.2.2.2.2.2.2.2.1, h.2.2.2.2.2.2.2.2.2.2.1, h.2.2.2.2.2.2.2.2.2.2.2.1, h.2.2.2.2.2.2.2.2.2.2.2.2.1, h.2.2.2.2.2.2.2.2.2.2.2.2.2.1, h.2.2.2.2.2.2.2.2.2.2.2.2.2.2.1, h.2.2.2.2.2.2.2.2.2.2.2.2.2.2.2.1, h.2.2.2.2.2.2.2.2.2.2.2.2.2.2.2.2.1, h.2.2.2.2.2.2.2.2.2.2.2.2.2.2.2.2.2.1, h.2.2.2.2.2.2.2.2.2.2.2.2.2.2.2.2.2.2.1, h.2.2.2.2.2.2.2.2.2.2.2.2.2.2.2.2.2.2.2.1, h.2.2.2.2.2.2.2.2.2.2.2.2.2.2.2.2.2.2.2.2.1, h.2.2.2.2.2.2.2.2.2.2.2.2.2.2.2.2.2.2.2.2.2.1, h.2.2.2.2.2.2.2.2.2.2.2.2.2.2.2.2.2.2.2.2.2.2.1, h.2.2.2.2.2.2.2.2.2.2.2.2.2.2.2.2.2.2.2.2.2.2.2.1, h.2.2.2.2.2.2.2.2.2.2.2.2.2.2.2.2.2.2.2.2.2.2.2.2, z5, nI_p24, pk_mul, nI_a, inA_nI (show t < 24 by omega) (by omega), inA_nI (show 24 * k + p + t < 96 by omega) (by omega), nI_clamp (show t < 2 ^ 31 by omega), nI_clamp (show 24 * k + p + t < 2 ^ 31 by omega), nI_1]
    rw [cpJ_t (Or.inl (by omega)) (by omega) (by omega), eX9_copy_157]
    exact ih (t + 1) (by omega) hQ
theorem MSk.cp {w : Wd} {o k k1 p1 k2 p2 m : Nat} {h : Sht} (h1 : MSk w o k1 h) (hk : MSk w o k h) (b1 : p1 + m ≤ 24) (b2 : p2 + m ≤ 24) : MSk (cpJ (cpJ w (o + 7) (24 * k1 + p1) (o + 8) 0 m) (o + 8) 0 (o + 7) (24 * k2 + p2) m) o k (cpS h k1 p1 k2 p2 m) := by
  refine ⟨hk.1, fun i hi => ?_⟩
  rw [rdJ_cpJ]
  simp only [cpS]
  by_cases z : k = k2 ∧ p2 ≤ i ∧ i < p2 + m
  · rw [if_pos z, if_pos ⟨trivial, by omega, by omega⟩, rdJ_cpJ, if_pos ⟨rfl, by omega, by omega⟩, ← h1.2 _ (by omega)]
    congr 1
    omega
  · rw [if_neg z, if_neg (by omega), rdJ_cpJ, if_neg (by omega)]
    exact hk.2 i hi
theorem m_copy {w : Wd} {o : Nat} {h : Sht} {s i t j n : Int32} (hS : MS w o h) : ∃ u, fX9_copy [.ref o, .int s, .int i, .int t, .int j, .int n] w = some (some (.int (opCopy h s i t j n).1), u) ∧ MS u o (opCopy h s i t j n).2 ∧ FrX (Xs o) w u := by
  obtain ⟨hr, hk⟩ := hS
  by_cases q : (0 ≤ s ∧ s ≤ 3) ∧ (0 ≤ t ∧ t ≤ 3)
  · obtain ⟨q1, q2⟩ := q
    obtain ⟨k1, hk1, rfl⟩ := sh_iff.mp q1
    obtain ⟨k2, hk2, rfl⟩ := sh_iff.mp q2
    have c1 := nI_clamp (show k1 < 2 ^ 31 by omega)
    have c2 := nI_clamp (show k2 < 2 ^ 31 by omega)
    have i1 := inA_nI hk1 (show 4 < 2147483648 by omega)
    have i2 := inA_nI hk2 (show 4 < 2147483648 by omega)
    have hc1 := (hk k1 hk1).1
    have hc2 := (hk k2 hk2).1
    cases e1 : h.1 k1 with
    | none =>
      rw [e1] at hc1
      refine ⟨w, ?_, by rw [opCopy_m11 hk1 hk2 (Or.inl e1)]; exact ⟨hr, hk⟩, FrX.rf⟩
      rw [opCopy_m11 hk1 hk2 (Or.inl e1)]
      refine sem_eq (Nat.le_of_ble_eq_true rfl) ?_
      show wp mX9_copy 0 [some (.ref o), some (.int (nI k1)), some (.int i), some (.int (nI k2)), some (.int j), some (.int n), none] [] _ _
      simp only [eX9_copy_0, eX9_copy_1, eX9_copy_4, eX9_copy_7, eX9_copy_8, eX9_copy_11, eX9_copy_14, eX9_copy_15, eX9_copy_16, eX9_copy_17, eX9_copy_20, eX9_copy_21, eX9_copy_22, eX9_copy_24, eX9_copy_27, eX9_copy_28, eX9_copy_31, eX9_copy_32, eX9_copy_33, eX9_copy_35, eX9_copy_38, eX9_copy_40, cont_some, tl_some, tl_none, csum_nil, csum_i, csum_r, csum_j, isc2_i, isc2_r, isc2_n, va_rf_s, vfn_ite, true_and, and_true, true_or, or_true, eq_self, Bool.false_eq_true, not_false_eq_true, not_true_eq_false, if_true, if_false, Nat.reduceAdd, Nat.reduceLeDiff, reduceIte, hr.1, hr.2.1, hr.2.2.1, hr.2.2.2.1, hr.2.2.2.2.1, hr.2.2.2.2.2.1, hr.2.2.2.2.2.2.1, hr.2.2.2.2.2.2.2.1, hr.2.2.2.2.2.2.2.2.1, hr.2.2.2.2.2.2.2.2.2.1, hr.2.2.2.2.2.2.2.2.2.2.1, hr.2.2.2.2.2.2.2.2.2.2.2.1, hr.2.2.2.2.2.2.2.2.2.2.2.2.1, hr.2.2.2.2.2.2.2.2.2.2.2.2.2.1, hr.2.2.2.2.2.2.2.2.2.2.2.2.2.2.1, hr.2.2.2.2.2.2.2.2.2.2.2.2.2.2.2.1, hr.2.2.2.2.2.2.2.2.2.2.2.2.2.2.2.2.1, hr.2.2.2.2.2.2.2.2.2.2.2.2.2.2.2.2.2.1, hr.2.2.2.2.2.2.2.2.2.2.2.2.2.2.2.2.2.2.1, hr.2.2.2.2.2.2.2.2.2.2.2.2.2.2.2.2.2.2.2.1, hr.2.2.2.2.2.2.2.2.2.2.2.2.2.2.2.2.2.2.2.2.1, hr.2.2.2.2.2.2.2.2.2.2.2.2.2.2.2.2.2.2.2.2.2.1, hr.2.2.2.2.2.2.2.2.2.2.2.2.2.2.2.2.2.2.2.2.2.2.1, hr.2.2.2.2.2.2.2.2.2.2.2.2.2.2.2.2.2.2.2.2.2.2.2.1, hr.2.2.2.2.2.2.2.2.2.2.2.2.2.2.2.2.2.2.2.2.2.2.2.2, m_isSheet, b2i_0, q1, q2, and_self, i1, c1, hc1]
    | some a =>
      obtain ⟨l1, n1⟩ := a
      rw [e1] at hc1
      obtain ⟨g1, g2, g3, g4⟩ := hc1
      have hm1 := nI_m4 g2
      cases e2 : h.1 k2 with
      | none =>
        rw [e2] at hc2
        refine ⟨w, ?_, by rw [opCopy_m11 hk1 hk2 (Or.inr e2)]; exact ⟨hr, hk⟩, FrX.rf⟩
        rw [opCopy_m11 hk1 hk2 (Or.inr e2)]
        refine sem_eq (Nat.le_of_ble_eq_true rfl) ?_
        show wp mX9_copy 0 [some (.ref o), some (.int (nI k1)), some (.int i), some (.int (nI k2)), some (.int j), some (.int n), none] [] _ _
        simp only [eX9_copy_0, eX9_copy_1, eX9_copy_4, eX9_copy_7, eX9_copy_8, eX9_copy_11, eX9_copy_14, eX9_copy_15, eX9_copy_16, eX9_copy_17, eX9_copy_20, eX9_copy_21, eX9_copy_22, eX9_copy_24, eX9_copy_27, eX9_copy_28, eX9_copy_31, eX9_copy_32, eX9_copy_33, eX9_copy_35, eX9_copy_38, eX9_copy_40, cont_some, tl_some, tl_none, csum_nil, csum_i, csum_r, csum_j, isc2_i, isc2_r, isc2_n, va_rf_s, vfn_ite, true_and, and_true, true_or, or_true, eq_self, Bool.false_eq_true, not_false_eq_true, not_true_eq_false, if_true, if_false, Nat.reduceAdd, Nat.reduceLeDiff, reduceIte, hr.1, hr.2.1, hr.2.2.1, hr.2.2.2.1, hr.2.2.2.2.1, hr.2.2.2.2.2.1, hr.2.2.2.2.2.2.1, hr.2.2.2.2.2.2.2.1, hr.2.2.2.2.2.2.2.2.1, hr.2.2.2.2.2.2.2.2.2.1, hr.2.2.2.2.2.2.2.2.2.2.1, hr.2.2.2.2.2.2.2.2.2.2.2.1, hr.2.2.2.2.2.2.2.2.2.2.2.2.1, hr.2.2.2.2.2.2.2.2.2.2.2.2.2.1, hr.2.2.2.2.2.2.2.2.2.2.2.2.2.2.1, hr.2.2.2.2.2.2.2.2.2.2.2.2.2.2.2.1, hr.2.2.2.2.2.2.2.2.2.2.2.2.2.2.2.2.1, hr.2.2.2.2.2.2.2.2.2.2.2.2.2.2.2.2.2.1, hr.2.2.2.2.2.2.2.2.2.2.2.2.2.2.2.2.2.2.1, hr.2.2.2.2.2.2.2.2.2.2.2.2.2.2.2.2.2.2.2.1, hr.2.2.2.2.2.2.2.2.2.2.2.2.2.2.2.2.2.2.2.2.1, hr.2.2.2.2.2.2.2.2.2.2.2.2.2.2.2.2.2.2.2.2.2.1, hr.2.2.2.2.2.2.2.2.2.2.2.2.2.2.2.2.2.2.2.2.2.2.1, hr.2.2.2.2.2.2.2.2.2.2.2.2.2.2.2.2.2.2.2.2.2.2.2.1, hr.2.2.2.2.2.2.2.2.2.2.2.2.2.2.2.2.2.2.2.2.2.2.2.2, m_isSheet, b2i_0, q1, q2, and_self, i1, c1, i2, c2, hc2, g4, hm1]
      | some a =>
        obtain ⟨l2, n2⟩ := a
        rw [e2] at hc2
        obtain ⟨f1, f2, f3, f4⟩ := hc2
        have hm2 := nI_m4 f2
        by_cases q3 : l1 = l2
        · subst q3
          obtain ⟨x, hx, hx2⟩ := m_isWithin (i := i) (n := n) hr hk1 g4 g2
          obtain ⟨y, hy, hy2⟩ := m_isWithin (i := j) (n := n) hr hk2 f4 f2
          by_cases q4 : okIx n1 i n
          · have x0 := hx2.mpr q4
            by_cases q5 : okIx n2 j n
            · have y0 := hy2.mpr q5
              obtain ⟨p1, m, rfl, rfl, b1⟩ := okIx_n g2 q4
              obtain ⟨p2, m', rfl, em, b2⟩ := okIx_n f2 q5
              have := (nI_eq (a := m) (b := m') (by omega) (by omega)).mp em
              subst this
              have cp1 := nI_clamp (show p1 < 2 ^ 31 by omega)
              have cp2 := nI_clamp (show p2 < 2 ^ 31 by omega)
              have cm := nI_clamp (show m < 2 ^ 31 by omega)
              have hop := opCopy_ok hk1 hk2 e1 e2 q4 q5
              rw [cp1, cp2, cm] at hop
              rw [hop]
              refine ⟨cpJ (cpJ w (o + 7) (24 * k1 + p1) (o + 8) 0 m) (o + 8) 0 (o + 7) (24 * k2 + p2) m, ?_, ⟨hr, fun k hk4 => MSk.cp (hk k1 hk1) (hk k hk4) (by omega) (by omega)⟩, (FrX.rf.cpJ (fun _ _ _ => ⟨by omega, by omega⟩)).cpJ (fun _ _ _ => ⟨by omega, by omega⟩)⟩
              refine sem_eq (Nat.le_of_ble_eq_true rfl) ?_
              show wp mX9_copy 0 [some (.ref o), some (.int (nI k1)), some (.int (nI p1)), some (.int (nI k2)), some (.int (nI p2)), some (.int (nI m)), none] [] _ _
              simp only [eX9_copy_0, eX9_copy_1, eX9_copy_4, eX9_copy_7, eX9_copy_8, eX9_copy_11, eX9_copy_14, eX9_copy_15, eX9_copy_16, eX9_copy_17, eX9_copy_20, eX9_copy_21, eX9_copy_22, eX9_copy_24, eX9_copy_27, eX9_copy_28, eX9_copy_31, eX9_copy_32, eX9_copy_33, eX9_copy_35, eX9_copy_38, eX9_copy_40, eX9_copy_41, eX9_copy_42, eX9_copy_45, eX9_copy_46, eX9_copy_47, eX9_copy_48, eX9_copy_51, eX9_copy_52, eX9_copy_53, eX9_copy_56, eX9_copy_58, eX9_copy_59, eX9_copy_60, eX9_copy_61, eX9_copy_62, eX9_copy_64, eX9_copy_67, eX9_copy_70, eX9_copy_71, eX9_copy_72, eX9_copy_74, eX9_copy_76, eX9_copy_79, eX9_copy_82, eX9_copy_84, eX9_copy_85, eX9_copy_86, cont_some, tl_some, tl_none, csum_nil, csum_i, csum_r, csum_j, isc2_i, isc2_r, isc2_n, va_rf_s, vfn_ite, true_and, and_true, true_or, or_true, eq_self, Bool.false_eq_true, not_false_eq_true, not_true_eq_false, if_true, if_false, Nat.reduceAdd, Nat.reduceLeDiff, reduceIte, hr.1, hr.2.1, hr.2.2.1, hr.2.2.2.1, hr.2.2.2.2.1, hr.2.2.2.2.2.1, hr.2.2.2.2.2.2.1, hr.2.2.2.2.2.2.2.1, hr.2.2.2.2.2.2.2.2.1, hr.2.2.2.2.2.2.2.2.2.1, hr.2.2.2.2.2.2.2.2.2.2.1, hr.2.2.2.2.2.2.2.2.2.2.2.1, hr.2.2.2.2.2.2.2.2.2.2.2.2.1, hr.2.2.2.2.2.2.2.2.2.2.2.2.2.1, hr.2.2.2.2.2.2.2.2.2.2.2.2.2.2.1, hr.2.2.2.2.2.2.2.2.2.2.2.2.2.2.2.1, hr.2.2.2.2.2.2.2.2.2.2.2.2.2.2.2.2.1, hr.2.2.2.2.2.2.2.2.2.2.2.2.2.2.2.2.2.1, hr.2.2.2.2.2.2.2.2.2.2.2.2.2.2.2.2.2.2.1, hr.2.2.2.2.2.2.2.2.2.2.2.2.2.2.2.2.2.2.2.1, hr.2.2.2.2.2.2.2.2.2.2.2.2.2.2.2.2.2.2.2.2.1, hr.2.2.2.2.2.2.2.2.2.2.2.2.2.2.2.2.2.2.2.2.2.1, hr.2.2.2.2.2.2.2.2.2.2.2.2.2.2.2.2.2.2.2.2.2.2.1, hr.2.2.2.2.2.2.2.2.2.2.2.2.2.2.2.2.2.2.2.2.2.2.2.1, hr.2.2.2.2.2.2.2.2.2.2.2.2.2.2.2.2.2.2.2.2.2.2.2.2, m_isSheet, b2i_0, q1, q2, and_self, i1, c1, i2, c2, g3, f3, g4, f4, hm1, hm2, hx, hy, x0, y0]
              have l1 := lo_copy1 (w := w) (a3 := some (.int (nI k2))) (a4 := some (.int (nI p2))) (Q := fun r w_1 => r = some (.int (nI m)) ∧ w_1 = cpJ (cpJ w (o + 7) (24 * k1 + p1) (o + 8) 0 m) (o + 8) 0 (o + 7) (24 * k2 + p2) m) hr hk1 (show p1 + m ≤ 24 by omega) m 0 (by omega) (fun a6 => by
                simp only [eX9_copy_122, eX9_copy_123, cont_some, tl_some, tl_none, csum_nil, csum_i, csum_r, csum_j, isc2_i, isc2_r, isc2_n, va_rf_s, vfn_ite, true_and, and_true, true_or, or_true, eq_self, Bool.false_eq_true, not_false_eq_true, not_true_eq_false, if_true, if_false, Nat.reduceAdd, Nat.reduceLeDiff, reduceIte]
                have l2 := lo_copy2 (w := cpJ w (o + 7) (24 * k1 + p1) (o + 8) 0 m) (a1 := some (.int (nI k1))) (a2 := some (.int (nI p1))) (Q := fun r w_1 => r = some (.int (nI m)) ∧ w_1 = cpJ (cpJ w (o + 7) (24 * k1 + p1) (o + 8) 0 m) (o + 8) 0 (o + 7) (24 * k2 + p2) m) hr hk2 (show p2 + m ≤ 24 by omega) m 0 (by omega) ⟨rfl, rfl⟩
                rw [cpJ_0] at l2
                exact l2)
              rw [cpJ_0] at l1
              exact l1
            · have y0 : y = 0 := Decidable.byContradiction fun z => q5 (hy2.mp z)
              have hop := opCopy_m13 (i := i) (j := j) (n := n) hk1 hk2 e1 e2 (fun z => q5 z.2)
              refine ⟨w, ?_, by rw [hop]; exact ⟨hr, hk⟩, FrX.rf⟩
              rw [hop]
              refine sem_eq (Nat.le_of_ble_eq_true rfl) ?_
              show wp mX9_copy 0 [some (.ref o), some (.int (nI k1)), some (.int i), some (.int (nI k2)), some (.int j), some (.int n), none] [] _ _
              simp only [eX9_copy_0, eX9_copy_1, eX9_copy_4, eX9_copy_7, eX9_copy_8, eX9_copy_11, eX9_copy_14, eX9_copy_15, eX9_copy_16, eX9_copy_17, eX9_copy_20, eX9_copy_21, eX9_copy_22, eX9_copy_24, eX9_copy_27, eX9_copy_28, eX9_copy_31, eX9_copy_32, eX9_copy_33, eX9_copy_35, eX9_copy_38, eX9_copy_40, eX9_copy_41, eX9_copy_42, eX9_copy_45, eX9_copy_46, eX9_copy_47, eX9_copy_48, eX9_copy_51, eX9_copy_52, eX9_copy_53, eX9_copy_56, eX9_copy_58, eX9_copy_59, eX9_copy_60, eX9_copy_61, eX9_copy_62, eX9_copy_64, eX9_copy_67, eX9_copy_70, eX9_copy_71, eX9_copy_72, eX9_copy_74, eX9_copy_76, eX9_copy_79, eX9_copy_82, eX9_copy_84, cont_some, tl_some, tl_none, csum_nil, csum_i, csum_r, csum_j, isc2_i, isc2_r, isc2_n, va_rf_s, vfn_ite, true_and, and_true, true_or, or_true, eq_self, Bool.false_eq_true, not_false_eq_true, not_true_eq_false, if_true, if_false, Nat.reduceAdd, Nat.reduceLeDiff, reduceIte, hr.1, hr.2.1, hr.2.2.1, hr.2.2.2.1, hr.2.2.2.2.1, hr.2.2.2.2.2.1, hr.2.2.2.2.2.2.1, hr.2.2.2.2.2.2.2.1, hr.2.2.2.2.2.2.2.2.1, hr.2.2.2.2.2.2.2.2.2.1, hr.2.2.2.2.2.2.2.2.2.2.1, hr.2.2.2.2.2.2.2.2.2.2.2.1, hr.2.2.2.2.2.2.2.2.2.2.2.2.1, hr.2.2.2.2.2.2.2.2.2.2.2.2.2.1, hr.2.2.2.2.2.2.2.2.2.2.2.2.2.2.1, hr.2.2.2.2.2.2.2.2.2.2.2.2.2.2.2.1, hr.2.2.2.2.2.2.2.2.2.2.2.2.2.2.2.2.1, hr.2.2.2.2.2.2.2.2.2.2.2.2.2.2.2.2.2.1, hr.2.2.2.2.2.2.2.2.2.2.2.2.2.2.2.2.2.2.1, hr.2.2.2.2.2.2.2.2.2.2.2.2.2.2.2.2.2.2.2.1, hr.2.2.2.2.2.2.2.2.2.2.2.2.2.2.2.2.2.2.2.2.1, hr.2.2.2.2.2.2.2.2.2.2.2.2.2.2.2.2.2.2.2.2.2.1, hr.2.2.2.2.2.2.2.2.2.2.2.2.2.2.2.2.2.2.2.2.2.2.1, hr.2.2.2.2.2.2.2.2.2.2.2.2.2.2.2.2.2.2.2.2.2.2.2.1, hr.2.2.2.2.2.2.2.2.2.2.2.2.2.2.2.2.2.2.2.2.2.2.2.2, m_isSheet, b2i_0, q1, q2, and_self, i1, c1, i2, c2, g3, f3, g4, f4, hm1, hm2, hx, hy, x0, y0]
          · have x0 : x = 0 := Decidable.byContradiction fun z => q4 (hx2.mp z)
            have hop := opCopy_m13 (i := i) (j := j) (n := n) hk1 hk2 e1 e2 (fun z => q4 z.1)
            refine ⟨w, ?_, by rw [hop]; exact ⟨hr, hk⟩, FrX.rf⟩
            rw [hop]
            refine sem_eq (Nat.le_of_ble_eq_true rfl) ?_
            show wp mX9_copy 0 [some (.ref o), some (.int (nI k1)), some (.int i), some (.int (nI k2)), some (.int j), some (.int n), none] [] _ _
            simp only [eX9_copy_0, eX9_copy_1, eX9_copy_4, eX9_copy_7, eX9_copy_8, eX9_copy_11, eX9_copy_14, eX9_copy_15, eX9_copy_16, eX9_copy_17, eX9_copy_20, eX9_copy_21, eX9_copy_22, eX9_copy_24, eX9_copy_27, eX9_copy_28, eX9_copy_31, eX9_copy_32, eX9_copy_33, eX9_copy_35, eX9_copy_38, eX9_copy_40, eX9_copy_41, eX9_copy_42, eX9_copy_45, eX9_copy_46, eX9_copy_47, eX9_copy_48, eX9_copy_51, eX9_copy_52, eX9_copy_53, eX9_copy_56, eX9_copy_58, eX9_copy_59, eX9_copy_60, eX9_copy_61, eX9_copy_62, eX9_copy_64, eX9_copy_67, eX9_copy_70, eX9_copy_71, eX9_copy_72, eX9_copy_74, eX9_copy_76, eX9_copy_79, eX9_copy_82, eX9_copy_84, cont_some, tl_some, tl_none, csum_nil, csum_i, csum_r, csum_j, isc2_i, isc2_r, isc2_n, va_rf_s, vfn_ite, true_and, and_true, true_or, or_true, eq_self, Bool.false_eq_true, not_false_eq_true, not_true_eq_false, if_true, if_false, Nat.reduceAdd, Nat.reduceLeDiff, reduceIte, hr.1, hr.2.1, hr.2.2.1, hr.2.2.2.1, hr.2.2.2.2.1, hr.2.2.2.2.2.1, hr.2.2.2.2.2.2.1, hr.2.2.2.2.2.2.2.1, hr.2.2.2.2.2.2.2.2.1, hr.2.2.2.2.2.2.2.2.2.1, hr.2.2.2.2.2.2.2.2.2.2.1, hr.2.2.2.2.2.2.2.2.2.2.2.1, hr.2.2.2.2.2.2.2.2.2.2.2.2.1, hr.2.2.2.2.2.2.2.2.2.2.2.2.2.1, hr.2.2.2.2.2.2.2.2.2.2.2.2.2.2.1, hr.2.2.2.2.2.2.2.2.2.2.2.2.2.2.2.1, hr.2.2.2.2.2.2.2.2.2.2.2.2.2.2.2.2.1, hr.2.2.2.2.2.2.2.2.2.2.2.2.2.2.2.2.2.1, hr.2.2.2.2.2.2.2.2.2.2.2.2.2.2.2.2.2.2.1, hr.2.2.2.2.2.2.2.2.2.2.2.2.2.2.2.2.2.2.2.1, hr.2.2.2.2.2.2.2.2.2.2.2.2.2.2.2.2.2.2.2.2.1, hr.2.2.2.2.2.2.2.2.2.2.2.2.2.2.2.2.2.2.2.2.2.1, hr.2.2.2.2.2.2.2.2.2.2.2.2.2.2.2.2.2.2.2.2.2.2.1, hr.2.2.2.2.2.2.2.2.2.2.2.2.2.2.2.2.2.2.2.2.2.2.2.1, hr.2.2.2.2.2.2.2.2.2.2.2.2.2.2.2.2.2.2.2.2.2.2.2.2, m_isSheet, b2i_0, q1, q2, and_self, i1, c1, i2, c2, g3, f3, g4, f4, hm1, hm2, hx, x0]
        · have hop := opCopy_m12 (i := i) (j := j) (n := n) hk1 hk2 e1 e2 q3
          have hne : ¬ nI l1 = nI l2 := fun z => q3 ((nI_eq (by omega) (by omega)).mp z)
          refine ⟨w, ?_, by rw [hop]; exact ⟨hr, hk⟩, FrX.rf⟩
          rw [hop]
          refine sem_eq (Nat.le_of_ble_eq_true rfl) ?_
          show wp mX9_copy 0 [some (.ref o), some (.int (nI k1)), some (.int i), some (.int (nI k2)), some (.int j), some (.int n), none] [] _ _
          simp only [eX9_copy_0, eX9_copy_1, eX9_copy_4, eX9_copy_7, eX9_copy_8, eX9_copy_11, eX9_copy_14, eX9_copy_15, eX9_copy_16, eX9_copy_17, eX9_copy_20, eX9_copy_21, eX9_copy_22, eX9_copy_24, eX9_copy_27, eX9_copy_28, eX9_copy_31, eX9_copy_32, eX9_copy_33, eX9_copy_35, eX9_copy_38, eX9_copy_40, eX9_copy_41, eX9_copy_42, eX9_copy_45, eX9_copy_46, eX9_copy_47, eX9_copy_48, eX9_copy_51, eX9_copy_52, eX9_copy_53, eX9_copy_56, eX9_copy_58, cont_some, tl_some, tl_none, csum_nil, csum_i, csum_r, csum_j, isc2_i, isc2_r, isc2_n, va_rf_s, vfn_ite, true_and, and_true, true_or, or_true, eq_self, Bool.false_eq_true, not_false_eq_true, not_true_eq_false, if_true, if_false, Nat.reduceAdd, Nat.reduceLeDiff, reduceIte, hr.1, hr.2.1, hr.2.2.1, hr.2.2.2.1, hr.2.2.2.2.1, hr.2.2.2.2.2.1, hr.2.2.2.2.2.2.1, hr.2.2.2.2.2.2.2.1, hr.2.2.2.2.2.2.2.2.1, hr.2.2.2.2.2.2.2.2.2.1, hr.2.2.2.2.2.2.2.2.2.2.1, hr.2.2.2.2.2.2.2.2.2.2.2.1, hr.2.2.2.2.2.2.2.2.2.2.2.2.1, hr.2.2.2.2.2.2.2.2.2.2.2.2.2.1, hr.2.2.2.2.2.2.2.2.2.2.2.2.2.2.1, hr.2.2.2.2.2.2.2.2.2.2.2.2.2.2.2.1, hr.2.2.2.2.2.2.2.2.2.2.2.2.2.2.2.2.1, hr.2.2.2.2.2.2.2.2.2.2.2.2.2.2.2.2.2.1, hr.2.2.2.2.2.2.2.2.2.2.2.2.2.2.2.2.2.2.1, hr.2.2.2.2.2.2.2.2.2.2.2.2.2.2.2.2.2.2.2.1, hr.2.2.2.2.2.2.2.2.2.2.2.2.2.2.2.2.2.2.2.2.1, hr.2.2.2.2.2.2.2.2.2.2.2.2.2.2.2.2.2.2.2.2.2.1, hr.2.2.2.2.2.2.2.2.2.2.2.2.2.2.2.2.2.2.2.2.2.2.1, hr.2.2.2.2.2.2.2.2.2.2.2.2.2.2.2.2.2.2.2.2.2.2.2.1, hr.2.2.2.2.2.2.2.2.2.2.2.2.2.2.2.2.2.2.2.2.2.2.2.2, m_isSheet, b2i_0, q1, q2, and_self, i1, c1, i2, c2, g3, f3, g4, f4, hm1, hm2, hne]
  · refine ⟨w, ?_, by rw [opCopy_m1 q]; exact ⟨hr, hk⟩, FrX.rf⟩
    rw [opCopy_m1 q]
    refine sem_eq (Nat.le_of_ble_eq_true rfl) ?_
    show wp mX9_copy 0 [some (.ref o), some (.int s), some (.int i), some (.int t), some (.int j), some (.int n), none] [] _ _
    by_cases q1 : 0 ≤ s ∧ s ≤ 3
    · have q2 : ¬ (0 ≤ t ∧ t ≤ 3) := fun z => q ⟨q1, z⟩
      simp only [eX9_copy_0, eX9_copy_1, eX9_copy_4, eX9_copy_7, eX9_copy_8, eX9_copy_11, eX9_copy_14, eX9_copy_15, cont_some, tl_some, tl_none, csum_nil, csum_i, csum_r, csum_j, isc2_i, isc2_r, isc2_n, va_rf_s, vfn_ite, true_and, and_true, true_or, or_true, eq_self, Bool.false_eq_true, not_false_eq_true, not_true_eq_false, if_true, if_false, Nat.reduceAdd, Nat.reduceLeDiff, reduceIte, m_isSheet, b2i_0, q1, q2, and_self]
    · simp only [eX9_copy_0, eX9_copy_1, eX9_copy_4, eX9_copy_7, eX9_copy_8, eX9_copy_11, eX9_copy_14, eX9_copy_15, cont_some, tl_some, tl_none, csum_nil, csum_i, csum_r, csum_j, isc2_i, isc2_r, isc2_n, va_rf_s, vfn_ite, true_and, and_true, true_or, or_true, eq_self, Bool.false_eq_true, not_false_eq_true, not_true_eq_false, if_true, if_false, Nat.reduceAdd, Nat.reduceLeDiff, reduceIte, m_isSheet, b2i_0, q1]
