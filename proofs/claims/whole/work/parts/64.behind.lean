/-! the next corner, by the reference -/
def gtD (a : Nat) : Option Nat → Nat
  | none => a
  | some b => b
theorem lo_behind {w : Wd} {o n a : Nat} {U V : Nat → Int32} (h : isMd w o) (hv : mvIs w o n U V) (ha : a < n) (hp : ∀ c, c < n → (¬ dst U V a c = 0 ↔ 0 < dst U V a c)) (haa : dst U V a a = 0) : ∀ (d c : Nat) (r : Option Nat) (a4 a5 : Option Value), c + d = n → (∀ b, r = some b → b < n ∧ ¬ b = a) →
    wp mX9_behind 4 [some (.ref o), some (.int (nI a)), some (.int (nI (gtD a r))), some (.int (nI c)), a4, a5] [] w (fun q u => q = some (.int (nI (gtD a (nxF U V a d c r)))) ∧ u = w) := by
  have h10 := hv.2.1
  intro d
  induction d with
  | zero =>
    intro c r a4 a5 hc hr
    have e : c = n := by omega
    subst e
    have l : ¬ nI c < nI c := Int32.lt_irrefl
    simp only [eX9_behind_4, eX9_behind_5, eX9_behind_6, eX9_behind_9, eX9_behind_84, eX9_behind_85, cont_some, tl_some, tl_none, csum_nil, csum_i, csum_r, csum_j, isc2_i, isc2_r, isc2_n, va_rf_s, vfn_ite, true_and, and_true, true_or, or_true, eq_self, Bool.false_eq_true, not_false_eq_true, not_true_eq_false, if_true, if_false, Nat.reduceAdd, Nat.reduceLeDiff, reduceIte, h.1, h.2.1, h.2.2.1, h.2.2.2.1, h.2.2.2.2.1, h.2.2.2.2.2.1, h.2.2.2.2.2.2.1, h.2.2.2.2.2.2.2.1, h.2.2.2.2.2.2.2.2.1, h.2.2.2.2.2.2.2.2.2.1, h.2.2.2.2.2.2.2.2.2.2.1, h.2.2.2.2.2.2.2.2.2.2.2.1, h.2.2.2.2.2.2.2.2.2.2.2.2.1, h.2.2.2.2.2.2.2.2.2.2.2.2.2.1, h.2.2.2.2.2.2.2.2.2.2.2.2.2.2.1, h.2.2.2.2.2.2.2.2.2.2.2.2.2.2.2.1, h.2.2.2.2.2.2.2.2.2.2.2.2.2.2.2.2.1, h.2.2.2.2.2.2.2.2.2.2.2.2.2.2.2.2.2.1, h.2.2.2.2.2.2.2.2.2.2.2.2.2.2.2.2.2.2.1, h.2.2.2.2.2.2.2.2.2.2.2.2.2.2.2.2.2.2.2.1, h.2.2.2.2.2.2.2.2.2.2.2.2.2.2.2.2.2.2.2.2.1, h.2.2.2.2.2.2.2.2.2.2.2.2.2.2.2.2.2.2.2.2.2.1, h.2.2.2.2.2.2.2.2.2.2.2.2.2.2.2.2.2.2.2.2.2.2.1, h.2.2.2.2.2.2.2.2.2.2.2.2.2.2.2.2.2.2.2.2.2.2.2.1, h.2.2.2.2.2.2.2.2.2.2.2.2.2.2.2.2.2.2.2.2.2.2.2.2, hv.1, l, nxF]
  | succ d ih =>
    intro c r a4 a5 hc hr
    have l : nI c < nI n := nI_lt (by omega) (by omega)
    have hg : gtD a r < n := by
      cases r with
      | none => exact ha
      | some b => exact (hr b rfl).1
    have e1 := m_turn h hv ha hg (show c < n by omega)
    have e2 := m_far h hv ha (show c < n by omega)
    have e3 := m_far h hv ha hg
    have go : ∀ r' a4 a5, isc2 (some (some (Value.int (nI (gtD a r'))))) = false → r' = nxS U V a c r → (∀ b, r' = some b → b < n ∧ ¬ b = a) → wp mX9_behind 77 [some (.ref o), some (.int (nI a)), some (.int (nI (gtD a r))), some (.int (nI c)), a4, a5] [.int (nI (gtD a r'))] w (fun q u => q = some (.int (nI (gtD a (nxF U V a (d + 1) c r)))) ∧ u = w) := by
      intro r' a4 a5 _ hr' hb
      simp only [eX9_behind_77, eX9_behind_78, cont_some, tl_some, tl_none, csum_nil, csum_i, csum_r, csum_j, isc2_i, isc2_r, isc2_n, va_rf_s, vfn_ite, true_and, and_true, true_or, or_true, eq_self, Bool.false_eq_true, not_false_eq_true, not_true_eq_false, if_true, if_false, Nat.reduceAdd, Nat.reduceLeDiff, reduceIte, nI_1]
      rw [eX9_behind_81]
      have := ih (c + 1) r' a4 a5 (by omega) hb
      rw [hr'] at this ⊢
      exact this
    have hca : ¬ dst U V a c = 0 → ¬ c = a := fun z y => z (by rw [y]; exact haa)
    have fin_ : ∀ a5, (a5 = if dst U V a (gtD a r) < dst U V a c then (1 : Int32) else 0) → wp mX9_behind 43 [some (.ref o), some (.int (nI a)), some (.int (nI (gtD a r))), some (.int (nI c)), some (.int (crs U V a (gtD a r) c)), some (.int a5)] [] w (fun q u => q = some (.int (nI (gtD a (nxF U V a (d + 1) c r)))) ∧ u = w) := by
      intro a5 h5
      simp only [eX9_behind_43, eX9_behind_44, eX9_behind_45, eX9_behind_46, eX9_behind_49, cont_some, tl_some, tl_none, csum_nil, csum_i, csum_r, csum_j, isc2_i, isc2_r, isc2_n, va_rf_s, vfn_ite, true_and, and_true, true_or, or_true, eq_self, Bool.false_eq_true, not_false_eq_true, not_true_eq_false, if_true, if_false, Nat.reduceAdd, Nat.reduceLeDiff, reduceIte, h.1, h.2.1, h.2.2.1, h.2.2.2.1, h.2.2.2.2.1, h.2.2.2.2.2.1, h.2.2.2.2.2.2.1, h.2.2.2.2.2.2.2.1, h.2.2.2.2.2.2.2.2.1, h.2.2.2.2.2.2.2.2.2.1, h.2.2.2.2.2.2.2.2.2.2.1, h.2.2.2.2.2.2.2.2.2.2.2.1, h.2.2.2.2.2.2.2.2.2.2.2.2.1, h.2.2.2.2.2.2.2.2.2.2.2.2.2.1, h.2.2.2.2.2.2.2.2.2.2.2.2.2.2.1, h.2.2.2.2.2.2.2.2.2.2.2.2.2.2.2.1, h.2.2.2.2.2.2.2.2.2.2.2.2.2.2.2.2.1, h.2.2.2.2.2.2.2.2.2.2.2.2.2.2.2.2.2.1, h.2.2.2.2.2.2.2.2.2.2.2.2.2.2.2.2.2.2.1, h.2.2.2.2.2.2.2.2.2.2.2.2.2.2.2.2.2.2.2.1, h.2.2.2.2.2.2.2.2.2.2.2.2.2.2.2.2.2.2.2.2.1, h.2.2.2.2.2.2.2.2.2.2.2.2.2.2.2.2.2.2.2.2.2.1, h.2.2.2.2.2.2.2.2.2.2.2.2.2.2.2.2.2.2.2.2.2.2.1, h.2.2.2.2.2.2.2.2.2.2.2.2.2.2.2.2.2.2.2.2.2.2.2.1, h.2.2.2.2.2.2.2.2.2.2.2.2.2.2.2.2.2.2.2.2.2.2.2.2, e2]
      by_cases q : dst U V a c = 0
      · have q' : ¬ 0 < dst U V a c := fun z => (hp c (by omega)).mpr z q
        rw [if_neg q']
        simp only [eX9_behind_76, cont_some, tl_some, tl_none, csum_nil, csum_i, csum_r, csum_j, isc2_i, isc2_r, isc2_n, va_rf_s, vfn_ite, true_and, and_true, true_or, or_true, eq_self, Bool.false_eq_true, not_false_eq_true, not_true_eq_false, if_true, if_false, Nat.reduceAdd, Nat.reduceLeDiff, reduceIte]
        exact go r _ _ rfl (by unfold nxS; rw [if_pos q]) hr
      · rw [if_pos ((hp c (by omega)).mp q)]
        have take : nxS U V a c r = some c → wp mX9_behind 72 [some (.ref o), some (.int (nI a)), some (.int (nI (gtD a r))), some (.int (nI c)), some (.int (crs U V a (gtD a r) c)), some (.int a5)] [] w (fun q u => q = some (.int (nI (gtD a (nxF U V a (d + 1) c r)))) ∧ u = w) := by
          intro z
          simp only [eX9_behind_72, eX9_behind_73, cont_some, tl_some, tl_none, csum_nil, csum_i, csum_r, csum_j, isc2_i, isc2_r, isc2_n, va_rf_s, vfn_ite, true_and, and_true, true_or, or_true, eq_self, Bool.false_eq_true, not_false_eq_true, not_true_eq_false, if_true, if_false, Nat.reduceAdd, Nat.reduceLeDiff, reduceIte]
          exact go (some c) _ _ rfl z.symm (fun b hb => by cases hb; exact ⟨by omega, hca q⟩)
        cases r with
        | none =>
          simp only [eX9_behind_52, eX9_behind_53, eX9_behind_54, cont_some, tl_some, tl_none, csum_nil, csum_i, csum_r, csum_j, isc2_i, isc2_r, isc2_n, va_rf_s, vfn_ite, true_and, and_true, true_or, or_true, eq_self, Bool.false_eq_true, not_false_eq_true, not_true_eq_false, if_true, if_false, Nat.reduceAdd, Nat.reduceLeDiff, reduceIte, gtD]
          exact take (by unfold nxS; rw [if_neg q])
        | some b =>
          obtain ⟨hb, hba⟩ := hr b rfl
          have nb : ¬ nI b = nI a := fun z => hba ((nI_eq (by omega) (by omega)).mp z)
          have en : nxS U V a c (some b) = if outB U V a b c then some c else some b := by unfold nxS; rw [if_neg q]
          have keep : ¬ outB U V a b c → wp mX9_behind 76 [some (.ref o), some (.int (nI a)), some (.int (nI b)), some (.int (nI c)), some (.int (crs U V a b c)), some (.int a5)] [] w (fun q u => q = some (.int (nI (gtD a (nxF U V a (d + 1) c (some b))))) ∧ u = w) := by
            intro z
            simp only [eX9_behind_76, cont_some, tl_some, tl_none, csum_nil, csum_i, csum_r, csum_j, isc2_i, isc2_r, isc2_n, va_rf_s, vfn_ite, true_and, and_true, true_or, or_true, eq_self, Bool.false_eq_true, not_false_eq_true, not_true_eq_false, if_true, if_false, Nat.reduceAdd, Nat.reduceLeDiff, reduceIte]
            exact go (some b) _ _ rfl (by rw [en, if_neg z]) hr
          simp only [eX9_behind_52, eX9_behind_53, eX9_behind_54, eX9_behind_57, eX9_behind_59, cont_some, tl_some, tl_none, csum_nil, csum_i, csum_r, csum_j, isc2_i, isc2_r, isc2_n, va_rf_s, vfn_ite, true_and, and_true, true_or, or_true, eq_self, Bool.false_eq_true, not_false_eq_true, not_true_eq_false, if_true, if_false, Nat.reduceAdd, Nat.reduceLeDiff, reduceIte, gtD, nb]
          by_cases q1 : crs U V a b c < 0
          · rw [if_pos q1]
            exact take (by rw [en, if_pos (Or.inl q1)])
          · rw [if_neg q1]
            simp only [eX9_behind_62, eX9_behind_64, cont_some, tl_some, tl_none, csum_nil, csum_i, csum_r, csum_j, isc2_i, isc2_r, isc2_n, va_rf_s, vfn_ite, true_and, and_true, true_or, or_true, eq_self, Bool.false_eq_true, not_false_eq_true, not_true_eq_false, if_true, if_false, Nat.reduceAdd, Nat.reduceLeDiff, reduceIte]
            by_cases q2 : crs U V a b c = 0
            · rw [if_pos q2]
              by_cases q3 : dst U V a b < dst U V a c
              · have h51 : a5 = 1 := by rw [h5]; exact if_pos q3
                subst h51
                have n10 : ¬ (1 : Int32) = 0 := by decide
                simp only [eX9_behind_67, eX9_behind_69, cont_some, tl_some, tl_none, csum_nil, csum_i, csum_r, csum_j, isc2_i, isc2_r, isc2_n, va_rf_s, vfn_ite, true_and, and_true, true_or, or_true, eq_self, Bool.false_eq_true, not_false_eq_true, not_true_eq_false, if_true, if_false, Nat.reduceAdd, Nat.reduceLeDiff, reduceIte, n10]
                exact take (by rw [en, if_pos (Or.inr ⟨q2, q3⟩)])
              · have h51 : a5 = 0 := by rw [h5]; exact if_neg q3
                subst h51
                simp only [eX9_behind_67, eX9_behind_69, cont_some, tl_some, tl_none, csum_nil, csum_i, csum_r, csum_j, isc2_i, isc2_r, isc2_n, va_rf_s, vfn_ite, true_and, and_true, true_or, or_true, eq_self, Bool.false_eq_true, not_false_eq_true, not_true_eq_false, if_true, if_false, Nat.reduceAdd, Nat.reduceLeDiff, reduceIte]
                exact keep (fun z => z.elim q1 (fun y => q3 y.2))
            · rw [if_neg q2]
              exact keep (fun z => z.elim q1 (fun y => q2 y.1))
    simp only [eX9_behind_4, eX9_behind_5, eX9_behind_6, eX9_behind_9, cont_some, tl_some, tl_none, csum_nil, csum_i, csum_r, csum_j, isc2_i, isc2_r, isc2_n, va_rf_s, vfn_ite, true_and, and_true, true_or, or_true, eq_self, Bool.false_eq_true, not_false_eq_true, not_true_eq_false, if_true, if_false, Nat.reduceAdd, Nat.reduceLeDiff, reduceIte, h.1, h.2.1, h.2.2.1, h.2.2.2.1, h.2.2.2.2.1, h.2.2.2.2.2.1, h.2.2.2.2.2.2.1, h.2.2.2.2.2.2.2.1, h.2.2.2.2.2.2.2.2.1, h.2.2.2.2.2.2.2.2.2.1, h.2.2.2.2.2.2.2.2.2.2.1, h.2.2.2.2.2.2.2.2.2.2.2.1, h.2.2.2.2.2.2.2.2.2.2.2.2.1, h.2.2.2.2.2.2.2.2.2.2.2.2.2.1, h.2.2.2.2.2.2.2.2.2.2.2.2.2.2.1, h.2.2.2.2.2.2.2.2.2.2.2.2.2.2.2.1, h.2.2.2.2.2.2.2.2.2.2.2.2.2.2.2.2.1, h.2.2.2.2.2.2.2.2.2.2.2.2.2.2.2.2.2.1, h.2.2.2.2.2.2.2.2.2.2.2.2.2.2.2.2.2.2.1, h.2.2.2.2.2.2.2.2.2.2.2.2.2.2.2.2.2.2.2.1, h.2.2.2.2.2.2.2.2.2.2.2.2.2.2.2.2.2.2.2.2.1, h.2.2.2.2.2.2.2.2.2.2.2.2.2.2.2.2.2.2.2.2.2.1, h.2.2.2.2.2.2.2.2.2.2.2.2.2.2.2.2.2.2.2.2.2.2.1, h.2.2.2.2.2.2.2.2.2.2.2.2.2.2.2.2.2.2.2.2.2.2.2.1, h.2.2.2.2.2.2.2.2.2.2.2.2.2.2.2.2.2.2.2.2.2.2.2.2, hv.1, l]
    by_cases q3 : dst U V a (gtD a r) < dst U V a c
    · simp only [eX9_behind_12, eX9_behind_13, eX9_behind_14, eX9_behind_15, eX9_behind_16, eX9_behind_19, eX9_behind_21, eX9_behind_22, eX9_behind_23, eX9_behind_24, eX9_behind_27, eX9_behind_28, eX9_behind_29, eX9_behind_30, eX9_behind_33, eX9_behind_36, eX9_behind_37, eX9_behind_40, eX9_behind_41, cont_some, tl_some, tl_none, csum_nil, csum_i, csum_r, csum_j, isc2_i, isc2_r, isc2_n, va_rf_s, vfn_ite, true_and, and_true, true_or, or_true, eq_self, Bool.false_eq_true, not_false_eq_true, not_true_eq_false, if_true, if_false, Nat.reduceAdd, Nat.reduceLeDiff, reduceIte, h.1, h.2.1, h.2.2.1, h.2.2.2.1, h.2.2.2.2.1, h.2.2.2.2.2.1, h.2.2.2.2.2.2.1, h.2.2.2.2.2.2.2.1, h.2.2.2.2.2.2.2.2.1, h.2.2.2.2.2.2.2.2.2.1, h.2.2.2.2.2.2.2.2.2.2.1, h.2.2.2.2.2.2.2.2.2.2.2.1, h.2.2.2.2.2.2.2.2.2.2.2.2.1, h.2.2.2.2.2.2.2.2.2.2.2.2.2.1, h.2.2.2.2.2.2.2.2.2.2.2.2.2.2.1, h.2.2.2.2.2.2.2.2.2.2.2.2.2.2.2.1, h.2.2.2.2.2.2.2.2.2.2.2.2.2.2.2.2.1, h.2.2.2.2.2.2.2.2.2.2.2.2.2.2.2.2.2.1, h.2.2.2.2.2.2.2.2.2.2.2.2.2.2.2.2.2.2.1, h.2.2.2.2.2.2.2.2.2.2.2.2.2.2.2.2.2.2.2.1, h.2.2.2.2.2.2.2.2.2.2.2.2.2.2.2.2.2.2.2.2.1, h.2.2.2.2.2.2.2.2.2.2.2.2.2.2.2.2.2.2.2.2.2.1, h.2.2.2.2.2.2.2.2.2.2.2.2.2.2.2.2.2.2.2.2.2.2.1, h.2.2.2.2.2.2.2.2.2.2.2.2.2.2.2.2.2.2.2.2.2.2.2.1, h.2.2.2.2.2.2.2.2.2.2.2.2.2.2.2.2.2.2.2.2.2.2.2.2, e1, e2, e3, q3]
      exact fin_ 1 (if_pos q3).symm
    · simp only [eX9_behind_12, eX9_behind_13, eX9_behind_14, eX9_behind_15, eX9_behind_16, eX9_behind_19, eX9_behind_21, eX9_behind_22, eX9_behind_23, eX9_behind_24, eX9_behind_27, eX9_behind_28, eX9_behind_29, eX9_behind_30, eX9_behind_33, eX9_behind_36, eX9_behind_37, eX9_behind_40, eX9_behind_41, cont_some, tl_some, tl_none, csum_nil, csum_i, csum_r, csum_j, isc2_i, isc2_r, isc2_n, va_rf_s, vfn_ite, true_and, and_true, true_or, or_true, eq_self, Bool.false_eq_true, not_false_eq_true, not_true_eq_false, if_true, if_false, Nat.reduceAdd, Nat.reduceLeDiff, reduceIte, h.1, h.2.1, h.2.2.1, h.2.2.2.1, h.2.2.2.2.1, h.2.2.2.2.2.1, h.2.2.2.2.2.2.1, h.2.2.2.2.2.2.2.1, h.2.2.2.2.2.2.2.2.1, h.2.2.2.2.2.2.2.2.2.1, h.2.2.2.2.2.2.2.2.2.2.1, h.2.2.2.2.2.2.2.2.2.2.2.1, h.2.2.2.2.2.2.2.2.2.2.2.2.1, h.2.2.2.2.2.2.2.2.2.2.2.2.2.1, h.2.2.2.2.2.2.2.2.2.2.2.2.2.2.1, h.2.2.2.2.2.2.2.2.2.2.2.2.2.2.2.1, h.2.2.2.2.2.2.2.2.2.2.2.2.2.2.2.2.1, h.2.2.2.2.2.2.2.2.2.2.2.2.2.2.2.2.2.1, h.2.2.2.2.2.2.2.2.2.2.2.2.2.2.2.2.2.2.1, h.2.2.2.2.2.2.2.2.2.2.2.2.2.2.2.2.2.2.2.1, h.2.2.2.2.2.2.2.2.2.2.2.2.2.2.2.2.2.2.2.2.1, h.2.2.2.2.2.2.2.2.2.2.2.2.2.2.2.2.2.2.2.2.2.1, h.2.2.2.2.2.2.2.2.2.2.2.2.2.2.2.2.2.2.2.2.2.2.1, h.2.2.2.2.2.2.2.2.2.2.2.2.2.2.2.2.2.2.2.2.2.2.2.1, h.2.2.2.2.2.2.2.2.2.2.2.2.2.2.2.2.2.2.2.2.2.2.2.2, e1, e2, e3, q3]
      exact fin_ 0 (if_neg q3).symm
theorem m_behind {w : Wd} {o n a : Nat} {U V : Nat → Int32} (h : isMd w o) (hv : mvIs w o n U V) (ha : a < n) (hp : ∀ c, c < n → (¬ dst U V a c = 0 ↔ 0 < dst U V a c)) (haa : dst U V a a = 0) : fX9_behind [.ref o, .int (nI a)] w = some (some (.int (nI (gtD a (nxF U V a n 0 none)))), w) := by
  refine sem_eq (Nat.le_of_ble_eq_true rfl) ?_
  show wp mX9_behind 0 [some (.ref o), some (.int (nI a)), none, none, none, none] [] _ _
  simp only [eX9_behind_0, eX9_behind_1, eX9_behind_2, eX9_behind_3, cont_some, tl_some, tl_none, csum_nil, csum_i, csum_r, csum_j, isc2_i, isc2_r, isc2_n, va_rf_s, vfn_ite, true_and, and_true, true_or, or_true, eq_self, Bool.false_eq_true, not_false_eq_true, not_true_eq_false, if_true, if_false, Nat.reduceAdd, Nat.reduceLeDiff, reduceIte]
  exact lo_behind h hv ha hp haa n 0 none _ _ (by omega) (fun b hb => by cases hb)
