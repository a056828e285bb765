/-! a way held against the best one -/
def loO (s : Option (Int × Int)) : Int := match s with
  | none => 0
  | some q => q.1
def hiO (s : Option (Int × Int)) : Int := match s with
  | none => 0
  | some q => q.2
def bgO (s : Option (Int × Int)) : Int32 := match s with
  | none => 0
  | some _ => 1
theorem rgO_e (s : Option (Int × Int)) : rgO s = hiO s - loO s := by cases s <;> rfl
def okO (s : Option (Int × Int)) : Prop := (loO s).natAbs ≤ 81000 ∧ (hiO s).natAbs ≤ 81000
theorem okO_step {m : Nat} {Q : Nat → V3} {d : V3} {k : Nat} {s : Option (Int × Int)} (h : okO s) (hk : (dt d (Q k)).natAbs ≤ 81000) : okO (mmS m Q d k s) := by
  unfold mmS
  by_cases b : bt m k
  · rw [if_pos b]
    cases s with
    | none => exact ⟨hk, hk⟩
    | some q =>
      obtain ⟨h1, h2⟩ := h
      simp only [loO, hiO] at h1 h2
      constructor
      · show (if dt d (Q k) < q.1 then dt d (Q k) else q.1).natAbs ≤ 81000
        split <;> assumption
      · show (if q.2 < dt d (Q k) then dt d (Q k) else q.2).natAbs ≤ 81000
        split <;> assumption
  · rw [if_neg b]; exact h
theorem okO_all {m n : Nat} {Q : Nat → V3} {d : V3} (hQ : ∀ i, i < n → (dt d (Q i)).natAbs ≤ 81000) : ∀ (e k : Nat) (s : Option (Int × Int)), k + e = n → okO s → okO (mmF m Q d e k s) := by
  intro e
  induction e with
  | zero => intro k s _ h; exact h
  | succ e ih => intro k s hk h; exact ih (k + 1) _ (by omega) (okO_step h (hQ k (by omega)))
theorem rgN_b {n m : Nat} {Q : Nat → V3} {d : V3} (hQ : ∀ i, i < n → (dt d (Q i)).natAbs ≤ 81000) : (rgN n m Q d).natAbs ≤ 162000 := by
  have := okO_all (m := m) hQ n 0 none (by omega) ⟨by simp [loO], by simp [hiO]⟩
  unfold rgN
  rw [rgO_e]
  obtain ⟨h1, h2⟩ := this
  omega
theorem dq_b {n j k : Nat} {C : Nat → Int32} {d : V3} (hb : bdC n C) (hk : k < n) (hd : in3 1800 d) : (dt d (qZ j C k)).natAbs ≤ 81000 := dt_b hd (q_in hb hk)
theorem lo_mm {w : Wd} {o n j m : Nat} {C : Nat → Int32} {d : V3} {a14 a15 a16 a17 a18 : Option Value} {Q : Option Value → Wd → Prop} (h : MB w o n C) (hb : bdC n C) (hj : j < 4) (hd : in3 1800 d) (hm : m < 2 ^ 31) : ∀ (e k : Nat) (s : Option (Int × Int)) (a12 a13 : Option Value), k + e = n → okO s →
    (∀ a12 a13, wp mX9_meets 100 [some (.ref o), some (.int (nI j)), some (.int (nI m)), some (.int (iI d.1)), some (.int (iI d.2.1)), some (.int (iI d.2.2)), some (.long (jJ (loO (mmF m (qZ j C) d e k s)))), none, some (.long (jJ (hiO (mmF m (qZ j C) d e k s)))), none, some (.int (bgO (mmF m (qZ j C) d e k s))), some (.int (nI n)), a12, a13, a14, a15, a16, a17, a18] [] w Q) →
    wp mX9_meets 12 [some (.ref o), some (.int (nI j)), some (.int (nI m)), some (.int (iI d.1)), some (.int (iI d.2.1)), some (.int (iI d.2.2)), some (.long (jJ (loO s))), none, some (.long (jJ (hiO s))), none, some (.int (bgO s)), some (.int (nI k)), a12, a13, a14, a15, a16, a17, a18] [] w Q := by
  have hmd := h.1
  have h10 := h.2.2.1
  have i0 : inA 0 33 = true := by decide
  have c0 : (0 : Int32).toNatClampNeg = 0 := by decide
  intro e
  induction e with
  | zero =>
    intro k s a12 a13 hk ho hQ
    have e : k = n := by omega
    subst e
    have l : ¬ nI k < nI k := Int32.lt_irrefl
    simp only [eX9_meets_12, eX9_meets_14, eX9_meets_15, eX9_meets_18, eX9_meets_19, eX9_meets_20, cont_some, tl_some, tl_none, csum_nil, csum_i, csum_r, csum_j, isc2_i, isc2_r, isc2_n, va_rf_s, vfn_ite, true_and, and_true, true_or, or_true, eq_self, Bool.false_eq_true, not_false_eq_true, not_true_eq_false, if_true, if_false, Nat.reduceAdd, Nat.reduceLeDiff, reduceIte, hmd.1, hmd.2.1, hmd.2.2.1, hmd.2.2.2.1, hmd.2.2.2.2.1, hmd.2.2.2.2.2.1, hmd.2.2.2.2.2.2.1, hmd.2.2.2.2.2.2.2.1, hmd.2.2.2.2.2.2.2.2.1, hmd.2.2.2.2.2.2.2.2.2.1, hmd.2.2.2.2.2.2.2.2.2.2.1, hmd.2.2.2.2.2.2.2.2.2.2.2.1, hmd.2.2.2.2.2.2.2.2.2.2.2.2.1, hmd.2.2.2.2.2.2.2.2.2.2.2.2.2.1, hmd.2.2.2.2.2.2.2.2.2.2.2.2.2.2.1, hmd.2.2.2.2.2.2.2.2.2.2.2.2.2.2.2.1, hmd.2.2.2.2.2.2.2.2.2.2.2.2.2.2.2.2.1, hmd.2.2.2.2.2.2.2.2.2.2.2.2.2.2.2.2.2.1, hmd.2.2.2.2.2.2.2.2.2.2.2.2.2.2.2.2.2.2.1, hmd.2.2.2.2.2.2.2.2.2.2.2.2.2.2.2.2.2.2.2.1, hmd.2.2.2.2.2.2.2.2.2.2.2.2.2.2.2.2.2.2.2.2.1, hmd.2.2.2.2.2.2.2.2.2.2.2.2.2.2.2.2.2.2.2.2.2.1, hmd.2.2.2.2.2.2.2.2.2.2.2.2.2.2.2.2.2.2.2.2.2.2.1, hmd.2.2.2.2.2.2.2.2.2.2.2.2.2.2.2.2.2.2.2.2.2.2.2.1, hmd.2.2.2.2.2.2.2.2.2.2.2.2.2.2.2.2.2.2.2.2.2.2.2.2, i0, c0, h.2.1, l]
    exact hQ _ _
  | succ e ih =>
    intro k s a12 a13 hk ho hQ
    have l : nI k < nI n := nI_lt (by omega) (by omega)
    have hr := m_reach h hb (show k < n by omega) hj hd
    have hkb := dq_b (j := j) hb (show k < n by omega) hd
    have eb := bit_nI hm (show k < 10 by omega)
    have go := fun a12 a13 => ih (k + 1) (mmS m (qZ j C) d k s) a12 a13 (by omega) (okO_step ho hkb) hQ
    have bg2 : ∀ s, isc2 (some (some (Value.int (bgO s)))) = false := fun s => rfl
    simp only [eX9_meets_12, eX9_meets_14, eX9_meets_15, eX9_meets_18, eX9_meets_19, eX9_meets_20, cont_some, tl_some, tl_none, csum_nil, csum_i, csum_r, csum_j, isc2_i, isc2_r, isc2_n, va_rf_s, vfn_ite, true_and, and_true, true_or, or_true, eq_self, Bool.false_eq_true, not_false_eq_true, not_true_eq_false, if_true, if_false, Nat.reduceAdd, Nat.reduceLeDiff, reduceIte, hmd.1, hmd.2.1, hmd.2.2.1, hmd.2.2.2.1, hmd.2.2.2.2.1, hmd.2.2.2.2.2.1, hmd.2.2.2.2.2.2.1, hmd.2.2.2.2.2.2.2.1, hmd.2.2.2.2.2.2.2.2.1, hmd.2.2.2.2.2.2.2.2.2.1, hmd.2.2.2.2.2.2.2.2.2.2.1, hmd.2.2.2.2.2.2.2.2.2.2.2.1, hmd.2.2.2.2.2.2.2.2.2.2.2.2.1, hmd.2.2.2.2.2.2.2.2.2.2.2.2.2.1, hmd.2.2.2.2.2.2.2.2.2.2.2.2.2.2.1, hmd.2.2.2.2.2.2.2.2.2.2.2.2.2.2.2.1, hmd.2.2.2.2.2.2.2.2.2.2.2.2.2.2.2.2.1, hmd.2.2.2.2.2.2.2.2.2.2.2.2.2.2.2.2.2.1, hmd.2.2.2.2.2.2.2.2.2.2.2.2.2.2.2.2.2.2.1, hmd.2.2.2.2.2.2.2.2.2.2.2.2.2.2.2.2.2.2.2.1, hmd.2.2.2.2.2.2.2.2.2.2.2.2.2.2.2.2.2.2.2.2.1, hmd.2.2.2.2.2.2.2.2.2.2.2.2.2.2.2.2.2.2.2.2.2.1, hmd.2.2.2.2.2.2.2.2.2.2.2.2.2.2.2.2.2.2.2.2.2.2.1, hmd.2.2.2.2.2.2.2.2.2.2.2.2.2.2.2.2.2.2.2.2.2.2.2.1, hmd.2.2.2.2.2.2.2.2.2.2.2.2.2.2.2.2.2.2.2.2.2.2.2.2, i0, c0, h.2.1, l]
    simp only [eX9_meets_23, eX9_meets_24, eX9_meets_26, eX9_meets_27, eX9_meets_28, eX9_meets_29, eX9_meets_30, cont_some, tl_some, tl_none, csum_nil, csum_i, csum_r, csum_j, isc2_i, isc2_r, isc2_n, va_rf_s, vfn_ite, true_and, and_true, true_or, or_true, eq_self, Bool.false_eq_true, not_false_eq_true, not_true_eq_false, if_true, if_false, Nat.reduceAdd, Nat.reduceLeDiff, reduceIte]
    by_cases b : bt m k
    · have b' := eb.mpr b
      simp only [b', not_true_eq_false, if_false]
      simp only [eX9_meets_33, eX9_meets_34, eX9_meets_35, eX9_meets_37, eX9_meets_38, eX9_meets_40, eX9_meets_42, eX9_meets_45, eX9_meets_47, eX9_meets_49, cont_some, tl_some, tl_none, csum_nil, csum_i, csum_r, csum_j, isc2_i, isc2_r, isc2_n, va_rf_s, vfn_ite, true_and, and_true, true_or, or_true, eq_self, Bool.false_eq_true, not_false_eq_true, not_true_eq_false, if_true, if_false, Nat.reduceAdd, Nat.reduceLeDiff, reduceIte, hmd.1, hmd.2.1, hmd.2.2.1, hmd.2.2.2.1, hmd.2.2.2.2.1, hmd.2.2.2.2.2.1, hmd.2.2.2.2.2.2.1, hmd.2.2.2.2.2.2.2.1, hmd.2.2.2.2.2.2.2.2.1, hmd.2.2.2.2.2.2.2.2.2.1, hmd.2.2.2.2.2.2.2.2.2.2.1, hmd.2.2.2.2.2.2.2.2.2.2.2.1, hmd.2.2.2.2.2.2.2.2.2.2.2.2.1, hmd.2.2.2.2.2.2.2.2.2.2.2.2.2.1, hmd.2.2.2.2.2.2.2.2.2.2.2.2.2.2.1, hmd.2.2.2.2.2.2.2.2.2.2.2.2.2.2.2.1, hmd.2.2.2.2.2.2.2.2.2.2.2.2.2.2.2.2.1, hmd.2.2.2.2.2.2.2.2.2.2.2.2.2.2.2.2.2.1, hmd.2.2.2.2.2.2.2.2.2.2.2.2.2.2.2.2.2.2.1, hmd.2.2.2.2.2.2.2.2.2.2.2.2.2.2.2.2.2.2.2.1, hmd.2.2.2.2.2.2.2.2.2.2.2.2.2.2.2.2.2.2.2.2.1, hmd.2.2.2.2.2.2.2.2.2.2.2.2.2.2.2.2.2.2.2.2.2.1, hmd.2.2.2.2.2.2.2.2.2.2.2.2.2.2.2.2.2.2.2.2.2.2.1, hmd.2.2.2.2.2.2.2.2.2.2.2.2.2.2.2.2.2.2.2.2.2.2.2.1, hmd.2.2.2.2.2.2.2.2.2.2.2.2.2.2.2.2.2.2.2.2.2.2.2.2, hr]
      cases s with
      | none =>
        have es : mmS m (qZ j C) d k none = some (dt d (qZ j C k), dt d (qZ j C k)) := by unfold mmS; rw [if_pos b]
        rw [es] at go
        simp only [bgO, if_true]
        simp only [eX9_meets_60, eX9_meets_62, eX9_meets_65, eX9_meets_67, eX9_meets_69, eX9_meets_71, eX9_meets_74, eX9_meets_76, eX9_meets_78, eX9_meets_79, eX9_meets_82, eX9_meets_84, eX9_meets_87, eX9_meets_89, eX9_meets_91, eX9_meets_92, eX9_meets_94, cont_some, tl_some, tl_none, csum_nil, csum_i, csum_r, csum_j, isc2_i, isc2_r, isc2_n, va_rf_s, vfn_ite, true_and, and_true, true_or, or_true, eq_self, Bool.false_eq_true, not_false_eq_true, not_true_eq_false, if_true, if_false, Nat.reduceAdd, Nat.reduceLeDiff, reduceIte, nI_1]
        rw [eX9_meets_97]
        exact go _ _
      | some q =>
        have es : mmS m (qZ j C) d k (some q) = some (if dt d (qZ j C k) < q.1 then dt d (qZ j C k) else q.1, if q.2 < dt d (qZ j C k) then dt d (qZ j C k) else q.2) := by unfold mmS; rw [if_pos b]
        rw [es] at go
        obtain ⟨o1, o2⟩ := ho
        simp only [loO, hiO] at o1 o2
        have c1 : jJ (dt d (qZ j C k)) < jJ q.1 ↔ dt d (qZ j C k) < q.1 := jJ_lt (by omega) (by omega)
        have c2 : jJ q.2 < jJ (dt d (qZ j C k)) ↔ q.2 < dt d (qZ j C k) := jJ_lt (by omega) (by omega)
        simp only [bgO, i10', if_false]
        simp only [eX9_meets_52, eX9_meets_54, eX9_meets_56, eX9_meets_57, cont_some, tl_some, tl_none, csum_nil, csum_i, csum_r, csum_j, isc2_i, isc2_r, isc2_n, va_rf_s, vfn_ite, true_and, and_true, true_or, or_true, eq_self, Bool.false_eq_true, not_false_eq_true, not_true_eq_false, if_true, if_false, Nat.reduceAdd, Nat.reduceLeDiff, reduceIte, loO, hiO, lgc_lt, c1]
        by_cases q1 : dt d (qZ j C k) < q.1 <;> by_cases q2 : q.2 < dt d (qZ j C k)
        · simp only [q1, q2, if_true, if_false] at go ⊢
          simp only [eX9_meets_60, eX9_meets_62, eX9_meets_65, eX9_meets_67, eX9_meets_69, eX9_meets_71, eX9_meets_74, eX9_meets_76, eX9_meets_78, eX9_meets_79, eX9_meets_82, eX9_meets_84, eX9_meets_87, eX9_meets_89, eX9_meets_91, eX9_meets_92, eX9_meets_94, cont_some, tl_some, tl_none, csum_nil, csum_i, csum_r, csum_j, isc2_i, isc2_r, isc2_n, va_rf_s, vfn_ite, true_and, and_true, true_or, or_true, eq_self, Bool.false_eq_true, not_false_eq_true, not_true_eq_false, if_true, if_false, Nat.reduceAdd, Nat.reduceLeDiff, reduceIte, bgO, i10', lgc_gt, c2, q2, nI_1]
          rw [eX9_meets_97]
          exact go _ _
        · simp only [q1, q2, if_true, if_false] at go ⊢
          simp only [eX9_meets_60, eX9_meets_62, eX9_meets_65, eX9_meets_67, eX9_meets_69, eX9_meets_71, eX9_meets_74, eX9_meets_76, eX9_meets_78, eX9_meets_79, eX9_meets_82, eX9_meets_84, eX9_meets_87, eX9_meets_89, eX9_meets_91, eX9_meets_92, eX9_meets_94, cont_some, tl_some, tl_none, csum_nil, csum_i, csum_r, csum_j, isc2_i, isc2_r, isc2_n, va_rf_s, vfn_ite, true_and, and_true, true_or, or_true, eq_self, Bool.false_eq_true, not_false_eq_true, not_true_eq_false, if_true, if_false, Nat.reduceAdd, Nat.reduceLeDiff, reduceIte, bgO, i10', lgc_gt, c2, q2, nI_1]
          rw [eX9_meets_97]
          exact go _ _
        · simp only [q1, q2, if_true, if_false] at go ⊢
          simp only [eX9_meets_65, eX9_meets_67, eX9_meets_69, eX9_meets_71, eX9_meets_74, eX9_meets_76, eX9_meets_78, eX9_meets_79, eX9_meets_82, eX9_meets_84, eX9_meets_87, eX9_meets_89, eX9_meets_91, eX9_meets_92, eX9_meets_94, cont_some, tl_some, tl_none, csum_nil, csum_i, csum_r, csum_j, isc2_i, isc2_r, isc2_n, va_rf_s, vfn_ite, true_and, and_true, true_or, or_true, eq_self, Bool.false_eq_true, not_false_eq_true, not_true_eq_false, if_true, if_false, Nat.reduceAdd, Nat.reduceLeDiff, reduceIte, bgO, i10', lgc_gt, c2, q2, nI_1]
          rw [eX9_meets_97]
          exact go _ _
        · simp only [q1, q2, if_true, if_false] at go ⊢
          simp only [eX9_meets_65, eX9_meets_67, eX9_meets_69, eX9_meets_71, eX9_meets_74, eX9_meets_76, eX9_meets_78, eX9_meets_79, eX9_meets_82, eX9_meets_84, eX9_meets_87, eX9_meets_89, eX9_meets_91, eX9_meets_92, eX9_meets_94, cont_some, tl_some, tl_none, csum_nil, csum_i, csum_r, csum_j, isc2_i, isc2_r, isc2_n, va_rf_s, vfn_ite, true_and, and_true, true_or, or_true, eq_self, Bool.false_eq_true, not_false_eq_true, not_true_eq_false, if_true, if_false, Nat.reduceAdd, Nat.reduceLeDiff, reduceIte, bgO, i10', lgc_gt, c2, q2, nI_1]
          rw [eX9_meets_97]
          exact go _ _
    · have b' : ¬ _ := fun z => b (eb.mp z)
      have es : mmS m (qZ j C) d k s = s := by unfold mmS; rw [if_neg b]
      rw [es] at go
      simp only [b', not_false_eq_true, if_true]
      simp only [eX9_meets_94, cont_some, tl_some, tl_none, csum_nil, csum_i, csum_r, csum_j, isc2_i, isc2_r, isc2_n, va_rf_s, vfn_ite, true_and, and_true, true_or, or_true, eq_self, Bool.false_eq_true, not_false_eq_true, not_true_eq_false, if_true, if_false, Nat.reduceAdd, Nat.reduceLeDiff, reduceIte, nI_1]
      rw [eX9_meets_97]
      exact go _ _
/-! better: narrower, or as narrow and first -/
abbrev lexl (d e : V3) : Prop := d.1 < e.1 ∨ (d.1 = e.1 ∧ (d.2.1 < e.2.1 ∨ (d.2.1 = e.2.1 ∧ d.2.2 < e.2.2)))
abbrev btr (A : V3 → Int) (d e : V3) : Prop := A d * dt e e < A e * dt d d ∨ (A d * dt e e = A e * dt d d ∧ lexl d e)
def stD (A : V3 → Int) (d : V3) (s : Option V3) : Option V3 := match s with
  | none => some d
  | some e => if btr A d e then some d else some e
def mjI (w : Wd) (o : Nat) (A : V3 → Int) (s : Option V3) : Prop := match s with
  | none => rdI w o 11 = 0 ∧ rdJ w o 12 = 0 ∧ rdJ w o 13 = 1
  | some e => in3 1800 e ∧ rdI w o 11 = 1 ∧ rdJ w o 12 = jJ (A e) ∧ rdJ w o 13 = jJ (dt e e) ∧ rdI w o 14 = iI e.1 ∧ rdI w o 15 = iI e.2.1 ∧ rdI w o 16 = iI e.2.2
def wdA (n m : Nat) (Q : Nat → V3) (d : V3) : Int := rgN n m Q d * rgN n m Q d
theorem m_isFirst {w : Wd} {o : Nat} {d e : V3} (hm : isMd w o) (hd : in3 1800 d) (he : in3 1800 e) (h1 : rdI w o 14 = iI e.1) (h2 : rdI w o 15 = iI e.2.1) (h3 : rdI w o 16 = iI e.2.2) : fX9_isFirst [.ref o, .int (iI d.1), .int (iI d.2.1), .int (iI d.2.2)] w = some (some (.int (b2i (lexl d e))), w) := by
  have f1 : iI d.1 = iI e.1 ↔ d.1 = e.1 := iI_eq (r32_of hd.1 (by omega)) (r32_of he.1 (by omega))
  have f2 : iI d.2.1 = iI e.2.1 ↔ d.2.1 = e.2.1 := iI_eq (r32_of hd.2.1 (by omega)) (r32_of he.2.1 (by omega))
  have g1 : iI d.1 < iI e.1 ↔ d.1 < e.1 := iI_lt (r32_of hd.1 (by omega)) (r32_of he.1 (by omega))
  have g2 : iI d.2.1 < iI e.2.1 ↔ d.2.1 < e.2.1 := iI_lt (r32_of hd.2.1 (by omega)) (r32_of he.2.1 (by omega))
  have g3 : iI d.2.2 < iI e.2.2 ↔ d.2.2 < e.2.2 := iI_lt (r32_of hd.2.2 (by omega)) (r32_of he.2.2 (by omega))
  refine sem_eq (Nat.le_of_ble_eq_true rfl) ?_
  show wp mX9_isFirst 0 [some (.ref o), some (.int (iI d.1)), some (.int (iI d.2.1)), some (.int (iI d.2.2))] [] _ _
  simp only [eX9_isFirst_0, eX9_isFirst_1, eX9_isFirst_2, eX9_isFirst_5, cont_some, tl_some, tl_none, csum_nil, csum_i, csum_r, csum_j, isc2_i, isc2_r, isc2_n, va_rf_s, vfn_ite, true_and, and_true, true_or, or_true, eq_self, Bool.false_eq_true, not_false_eq_true, not_true_eq_false, if_true, if_false, Nat.reduceAdd, Nat.reduceLeDiff, reduceIte, hm.1, hm.2.1, hm.2.2.1, hm.2.2.2.1, hm.2.2.2.2.1, hm.2.2.2.2.2.1, hm.2.2.2.2.2.2.1, hm.2.2.2.2.2.2.2.1, hm.2.2.2.2.2.2.2.2.1, hm.2.2.2.2.2.2.2.2.2.1, hm.2.2.2.2.2.2.2.2.2.2.1, hm.2.2.2.2.2.2.2.2.2.2.2.1, hm.2.2.2.2.2.2.2.2.2.2.2.2.1, hm.2.2.2.2.2.2.2.2.2.2.2.2.2.1, hm.2.2.2.2.2.2.2.2.2.2.2.2.2.2.1, hm.2.2.2.2.2.2.2.2.2.2.2.2.2.2.2.1, hm.2.2.2.2.2.2.2.2.2.2.2.2.2.2.2.2.1, hm.2.2.2.2.2.2.2.2.2.2.2.2.2.2.2.2.2.1, hm.2.2.2.2.2.2.2.2.2.2.2.2.2.2.2.2.2.2.1, hm.2.2.2.2.2.2.2.2.2.2.2.2.2.2.2.2.2.2.2.1, hm.2.2.2.2.2.2.2.2.2.2.2.2.2.2.2.2.2.2.2.2.1, hm.2.2.2.2.2.2.2.2.2.2.2.2.2.2.2.2.2.2.2.2.2.1, hm.2.2.2.2.2.2.2.2.2.2.2.2.2.2.2.2.2.2.2.2.2.2.1, hm.2.2.2.2.2.2.2.2.2.2.2.2.2.2.2.2.2.2.2.2.2.2.2.1, hm.2.2.2.2.2.2.2.2.2.2.2.2.2.2.2.2.2.2.2.2.2.2.2.2, h1, f1]
  by_cases q1 : d.1 = e.1
  · simp only [q1, if_true]
    simp only [eX9_isFirst_24, eX9_isFirst_25, eX9_isFirst_26, eX9_isFirst_29, cont_some, tl_some, tl_none, csum_nil, csum_i, csum_r, csum_j, isc2_i, isc2_r, isc2_n, va_rf_s, vfn_ite, true_and, and_true, true_or, or_true, eq_self, Bool.false_eq_true, not_false_eq_true, not_true_eq_false, if_true, if_false, Nat.reduceAdd, Nat.reduceLeDiff, reduceIte, hm.1, hm.2.1, hm.2.2.1, hm.2.2.2.1, hm.2.2.2.2.1, hm.2.2.2.2.2.1, hm.2.2.2.2.2.2.1, hm.2.2.2.2.2.2.2.1, hm.2.2.2.2.2.2.2.2.1, hm.2.2.2.2.2.2.2.2.2.1, hm.2.2.2.2.2.2.2.2.2.2.1, hm.2.2.2.2.2.2.2.2.2.2.2.1, hm.2.2.2.2.2.2.2.2.2.2.2.2.1, hm.2.2.2.2.2.2.2.2.2.2.2.2.2.1, hm.2.2.2.2.2.2.2.2.2.2.2.2.2.2.1, hm.2.2.2.2.2.2.2.2.2.2.2.2.2.2.2.1, hm.2.2.2.2.2.2.2.2.2.2.2.2.2.2.2.2.1, hm.2.2.2.2.2.2.2.2.2.2.2.2.2.2.2.2.2.1, hm.2.2.2.2.2.2.2.2.2.2.2.2.2.2.2.2.2.2.1, hm.2.2.2.2.2.2.2.2.2.2.2.2.2.2.2.2.2.2.2.1, hm.2.2.2.2.2.2.2.2.2.2.2.2.2.2.2.2.2.2.2.2.1, hm.2.2.2.2.2.2.2.2.2.2.2.2.2.2.2.2.2.2.2.2.2.1, hm.2.2.2.2.2.2.2.2.2.2.2.2.2.2.2.2.2.2.2.2.2.2.1, hm.2.2.2.2.2.2.2.2.2.2.2.2.2.2.2.2.2.2.2.2.2.2.2.1, hm.2.2.2.2.2.2.2.2.2.2.2.2.2.2.2.2.2.2.2.2.2.2.2.2, h2, f2]
    by_cases q2 : d.2.1 = e.2.1
    · simp only [q2, if_true]
      simp only [eX9_isFirst_48, eX9_isFirst_49, eX9_isFirst_50, eX9_isFirst_53, cont_some, tl_some, tl_none, csum_nil, csum_i, csum_r, csum_j, isc2_i, isc2_r, isc2_n, va_rf_s, vfn_ite, true_and, and_true, true_or, or_true, eq_self, Bool.false_eq_true, not_false_eq_true, not_true_eq_false, if_true, if_false, Nat.reduceAdd, Nat.reduceLeDiff, reduceIte, hm.1, hm.2.1, hm.2.2.1, hm.2.2.2.1, hm.2.2.2.2.1, hm.2.2.2.2.2.1, hm.2.2.2.2.2.2.1, hm.2.2.2.2.2.2.2.1, hm.2.2.2.2.2.2.2.2.1, hm.2.2.2.2.2.2.2.2.2.1, hm.2.2.2.2.2.2.2.2.2.2.1, hm.2.2.2.2.2.2.2.2.2.2.2.1, hm.2.2.2.2.2.2.2.2.2.2.2.2.1, hm.2.2.2.2.2.2.2.2.2.2.2.2.2.1, hm.2.2.2.2.2.2.2.2.2.2.2.2.2.2.1, hm.2.2.2.2.2.2.2.2.2.2.2.2.2.2.2.1, hm.2.2.2.2.2.2.2.2.2.2.2.2.2.2.2.2.1, hm.2.2.2.2.2.2.2.2.2.2.2.2.2.2.2.2.2.1, hm.2.2.2.2.2.2.2.2.2.2.2.2.2.2.2.2.2.2.1, hm.2.2.2.2.2.2.2.2.2.2.2.2.2.2.2.2.2.2.2.1, hm.2.2.2.2.2.2.2.2.2.2.2.2.2.2.2.2.2.2.2.2.1, hm.2.2.2.2.2.2.2.2.2.2.2.2.2.2.2.2.2.2.2.2.2.1, hm.2.2.2.2.2.2.2.2.2.2.2.2.2.2.2.2.2.2.2.2.2.2.1, hm.2.2.2.2.2.2.2.2.2.2.2.2.2.2.2.2.2.2.2.2.2.2.2.1, hm.2.2.2.2.2.2.2.2.2.2.2.2.2.2.2.2.2.2.2.2.2.2.2.2, h3, g3]
      by_cases q3 : d.2.2 < e.2.2
      · simp only [eX9_isFirst_56, eX9_isFirst_57, eX9_isFirst_60, eX9_isFirst_61, cont_some, tl_some, tl_none, csum_nil, csum_i, csum_r, csum_j, isc2_i, isc2_r, isc2_n, va_rf_s, vfn_ite, true_and, and_true, true_or, or_true, eq_self, Bool.false_eq_true, not_false_eq_true, not_true_eq_false, if_true, if_false, Nat.reduceAdd, Nat.reduceLeDiff, reduceIte, q3]
        rw [b2i_t (by unfold lexl; omega)]
      · simp only [eX9_isFirst_56, eX9_isFirst_57, eX9_isFirst_60, eX9_isFirst_61, cont_some, tl_some, tl_none, csum_nil, csum_i, csum_r, csum_j, isc2_i, isc2_r, isc2_n, va_rf_s, vfn_ite, true_and, and_true, true_or, or_true, eq_self, Bool.false_eq_true, not_false_eq_true, not_true_eq_false, if_true, if_false, Nat.reduceAdd, Nat.reduceLeDiff, reduceIte, q3]
        rw [b2i_f (by unfold lexl; omega)]
    · simp only [q2, if_false]
      simp only [eX9_isFirst_32, eX9_isFirst_33, eX9_isFirst_34, eX9_isFirst_37, cont_some, tl_some, tl_none, csum_nil, csum_i, csum_r, csum_j, isc2_i, isc2_r, isc2_n, va_rf_s, vfn_ite, true_and, and_true, true_or, or_true, eq_self, Bool.false_eq_true, not_false_eq_true, not_true_eq_false, if_true, if_false, Nat.reduceAdd, Nat.reduceLeDiff, reduceIte, hm.1, hm.2.1, hm.2.2.1, hm.2.2.2.1, hm.2.2.2.2.1, hm.2.2.2.2.2.1, hm.2.2.2.2.2.2.1, hm.2.2.2.2.2.2.2.1, hm.2.2.2.2.2.2.2.2.1, hm.2.2.2.2.2.2.2.2.2.1, hm.2.2.2.2.2.2.2.2.2.2.1, hm.2.2.2.2.2.2.2.2.2.2.2.1, hm.2.2.2.2.2.2.2.2.2.2.2.2.1, hm.2.2.2.2.2.2.2.2.2.2.2.2.2.1, hm.2.2.2.2.2.2.2.2.2.2.2.2.2.2.1, hm.2.2.2.2.2.2.2.2.2.2.2.2.2.2.2.1, hm.2.2.2.2.2.2.2.2.2.2.2.2.2.2.2.2.1, hm.2.2.2.2.2.2.2.2.2.2.2.2.2.2.2.2.2.1, hm.2.2.2.2.2.2.2.2.2.2.2.2.2.2.2.2.2.2.1, hm.2.2.2.2.2.2.2.2.2.2.2.2.2.2.2.2.2.2.2.1, hm.2.2.2.2.2.2.2.2.2.2.2.2.2.2.2.2.2.2.2.2.1, hm.2.2.2.2.2.2.2.2.2.2.2.2.2.2.2.2.2.2.2.2.2.1, hm.2.2.2.2.2.2.2.2.2.2.2.2.2.2.2.2.2.2.2.2.2.2.1, hm.2.2.2.2.2.2.2.2.2.2.2.2.2.2.2.2.2.2.2.2.2.2.2.1, hm.2.2.2.2.2.2.2.2.2.2.2.2.2.2.2.2.2.2.2.2.2.2.2.2, h2, g2]
      by_cases q3 : d.2.1 < e.2.1
      · simp only [eX9_isFirst_40, eX9_isFirst_41, eX9_isFirst_44, eX9_isFirst_45, eX9_isFirst_48, eX9_isFirst_49, eX9_isFirst_50, eX9_isFirst_53, eX9_isFirst_56, eX9_isFirst_57, eX9_isFirst_60, eX9_isFirst_61, cont_some, tl_some, tl_none, csum_nil, csum_i, csum_r, csum_j, isc2_i, isc2_r, isc2_n, va_rf_s, vfn_ite, true_and, and_true, true_or, or_true, eq_self, Bool.false_eq_true, not_false_eq_true, not_true_eq_false, if_true, if_false, Nat.reduceAdd, Nat.reduceLeDiff, reduceIte, q3]
        rw [b2i_t (by unfold lexl; omega)]
      · simp only [eX9_isFirst_40, eX9_isFirst_41, eX9_isFirst_44, eX9_isFirst_45, eX9_isFirst_48, eX9_isFirst_49, eX9_isFirst_50, eX9_isFirst_53, eX9_isFirst_56, eX9_isFirst_57, eX9_isFirst_60, eX9_isFirst_61, cont_some, tl_some, tl_none, csum_nil, csum_i, csum_r, csum_j, isc2_i, isc2_r, isc2_n, va_rf_s, vfn_ite, true_and, and_true, true_or, or_true, eq_self, Bool.false_eq_true, not_false_eq_true, not_true_eq_false, if_true, if_false, Nat.reduceAdd, Nat.reduceLeDiff, reduceIte, q3]
        rw [b2i_f (by unfold lexl; omega)]
  · simp only [q1, if_false]
    simp only [eX9_isFirst_8, eX9_isFirst_9, eX9_isFirst_10, eX9_isFirst_13, cont_some, tl_some, tl_none, csum_nil, csum_i, csum_r, csum_j, isc2_i, isc2_r, isc2_n, va_rf_s, vfn_ite, true_and, and_true, true_or, or_true, eq_self, Bool.false_eq_true, not_false_eq_true, not_true_eq_false, if_true, if_false, Nat.reduceAdd, Nat.reduceLeDiff, reduceIte, hm.1, hm.2.1, hm.2.2.1, hm.2.2.2.1, hm.2.2.2.2.1, hm.2.2.2.2.2.1, hm.2.2.2.2.2.2.1, hm.2.2.2.2.2.2.2.1, hm.2.2.2.2.2.2.2.2.1, hm.2.2.2.2.2.2.2.2.2.1, hm.2.2.2.2.2.2.2.2.2.2.1, hm.2.2.2.2.2.2.2.2.2.2.2.1, hm.2.2.2.2.2.2.2.2.2.2.2.2.1, hm.2.2.2.2.2.2.2.2.2.2.2.2.2.1, hm.2.2.2.2.2.2.2.2.2.2.2.2.2.2.1, hm.2.2.2.2.2.2.2.2.2.2.2.2.2.2.2.1, hm.2.2.2.2.2.2.2.2.2.2.2.2.2.2.2.2.1, hm.2.2.2.2.2.2.2.2.2.2.2.2.2.2.2.2.2.1, hm.2.2.2.2.2.2.2.2.2.2.2.2.2.2.2.2.2.2.1, hm.2.2.2.2.2.2.2.2.2.2.2.2.2.2.2.2.2.2.2.1, hm.2.2.2.2.2.2.2.2.2.2.2.2.2.2.2.2.2.2.2.2.1, hm.2.2.2.2.2.2.2.2.2.2.2.2.2.2.2.2.2.2.2.2.2.1, hm.2.2.2.2.2.2.2.2.2.2.2.2.2.2.2.2.2.2.2.2.2.2.1, hm.2.2.2.2.2.2.2.2.2.2.2.2.2.2.2.2.2.2.2.2.2.2.2.1, hm.2.2.2.2.2.2.2.2.2.2.2.2.2.2.2.2.2.2.2.2.2.2.2.2, h1, g1]
    by_cases q3 : d.1 < e.1
    · simp only [eX9_isFirst_16, eX9_isFirst_17, eX9_isFirst_20, eX9_isFirst_21, eX9_isFirst_24, eX9_isFirst_25, eX9_isFirst_26, eX9_isFirst_29, eX9_isFirst_32, eX9_isFirst_33, eX9_isFirst_34, eX9_isFirst_37, eX9_isFirst_40, eX9_isFirst_41, eX9_isFirst_44, eX9_isFirst_45, eX9_isFirst_48, eX9_isFirst_49, eX9_isFirst_50, eX9_isFirst_53, eX9_isFirst_56, eX9_isFirst_57, eX9_isFirst_60, eX9_isFirst_61, cont_some, tl_some, tl_none, csum_nil, csum_i, csum_r, csum_j, isc2_i, isc2_r, isc2_n, va_rf_s, vfn_ite, true_and, and_true, true_or, or_true, eq_self, Bool.false_eq_true, not_false_eq_true, not_true_eq_false, if_true, if_false, Nat.reduceAdd, Nat.reduceLeDiff, reduceIte, q3]
      rw [b2i_t (by unfold lexl; omega)]
    · simp only [eX9_isFirst_16, eX9_isFirst_17, eX9_isFirst_20, eX9_isFirst_21, eX9_isFirst_24, eX9_isFirst_25, eX9_isFirst_26, eX9_isFirst_29, eX9_isFirst_32, eX9_isFirst_33, eX9_isFirst_34, eX9_isFirst_37, eX9_isFirst_40, eX9_isFirst_41, eX9_isFirst_44, eX9_isFirst_45, eX9_isFirst_48, eX9_isFirst_49, eX9_isFirst_50, eX9_isFirst_53, eX9_isFirst_56, eX9_isFirst_57, eX9_isFirst_60, eX9_isFirst_61, cont_some, tl_some, tl_none, csum_nil, csum_i, csum_r, csum_j, isc2_i, isc2_r, isc2_n, va_rf_s, vfn_ite, true_and, and_true, true_or, or_true, eq_self, Bool.false_eq_true, not_false_eq_true, not_true_eq_false, if_true, if_false, Nat.reduceAdd, Nat.reduceLeDiff, reduceIte, q3]
      rw [b2i_f (by unfold lexl; omega)]
