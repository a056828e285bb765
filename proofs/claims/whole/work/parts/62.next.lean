/-! the next corner, by the class -/
def oI : Option Nat → Int32
  | none => -1
  | some b => nI b
def nxS (U V : Nat → Int32) (a c : Nat) (r : Option Nat) : Option Nat := if dst U V a c = 0 then r else match r with
  | none => some c
  | some b => if outB U V a b c then some c else some b
def nxF (U V : Nat → Int32) (a : Nat) : Nat → Nat → Option Nat → Option Nat
  | 0, _, r => r
  | d + 1, c, r => nxF U V a d (c + 1) (nxS U V a c r)
theorem lo_next {w : Wd} {v n a : Nat} {U V : Nat → Int32} (hv : vIs w v n U V) (ha : a < n) : ∀ (d c : Nat) (r : Option Nat), c + d = n → (∀ b, r = some b → b < n) →
    wp mX6_next 4 [some (.ref v), some (.int (nI a)), some (.int (oI r)), some (.int (nI c))] [] w (fun q u => q = some (.int (oI (nxF U V a d c r))) ∧ u = w) := by
  have h := hv.1
  have h10 := hv.2.2.1
  intro d
  induction d with
  | zero =>
    intro c r hc hr
    have e : c = n := by omega
    subst e
    have l : ¬ nI c < nI c := Int32.lt_irrefl
    simp only [eX6_next_4, eX6_next_5, eX6_next_6, eX6_next_9, eX6_next_46, eX6_next_47, cont_some, tl_some, tl_none, csum_nil, csum_i, csum_r, csum_j, isc2_i, isc2_r, isc2_n, va_rf_s, vfn_ite, true_and, and_true, true_or, or_true, eq_self, Bool.false_eq_true, not_false_eq_true, not_true_eq_false, if_true, if_false, Nat.reduceAdd, Nat.reduceLeDiff, reduceIte, h.1, hv.2.1, l, nxF]
  | succ d ih =>
    intro c r hc hr
    have l : nI c < nI n := nI_lt (by omega) (by omega)
    have e2 := s_v_apart hv ha (show c < n by omega)
    have go : ∀ r', r' = nxS U V a c r → (∀ b, r' = some b → b < n) → wp mX6_next 40 [some (.ref v), some (.int (nI a)), some (.int (oI r')), some (.int (nI c))] [] w (fun q u => q = some (.int (oI (nxF U V a (d + 1) c r))) ∧ u = w) := by
      intro r' hr' hb
      simp only [eX6_next_40, cont_some, tl_some, tl_none, csum_nil, csum_i, csum_r, csum_j, isc2_i, isc2_r, isc2_n, va_rf_s, vfn_ite, true_and, and_true, true_or, or_true, eq_self, Bool.false_eq_true, not_false_eq_true, not_true_eq_false, if_true, if_false, Nat.reduceAdd, Nat.reduceLeDiff, reduceIte, nI_1]
      rw [eX6_next_43]
      have := ih (c + 1) r' (by omega) hb
      rw [hr'] at this ⊢
      exact this
    simp only [eX6_next_4, eX6_next_5, eX6_next_6, eX6_next_9, eX6_next_12, eX6_next_13, eX6_next_14, eX6_next_15, eX6_next_18, cont_some, tl_some, tl_none, csum_nil, csum_i, csum_r, csum_j, isc2_i, isc2_r, isc2_n, va_rf_s, vfn_ite, true_and, and_true, true_or, or_true, eq_self, Bool.false_eq_true, not_false_eq_true, not_true_eq_false, if_true, if_false, Nat.reduceAdd, Nat.reduceLeDiff, reduceIte, h.1, hv.2.1, l, e2]
    by_cases q : dst U V a c = 0
    · rw [if_pos q]
      simp only [eX6_next_21, cont_some, tl_some, tl_none, csum_nil, csum_i, csum_r, csum_j, isc2_i, isc2_r, isc2_n, va_rf_s, vfn_ite, true_and, and_true, true_or, or_true, eq_self, Bool.false_eq_true, not_false_eq_true, not_true_eq_false, if_true, if_false, Nat.reduceAdd, Nat.reduceLeDiff, reduceIte]
      exact go r (by unfold nxS; rw [if_pos q]) hr
    · rw [if_neg q]
      cases r with
      | none =>
        have m1 : (-1 : Int32) < 0 := by decide
        simp only [eX6_next_24, eX6_next_25, eX6_next_38, eX6_next_39, cont_some, tl_some, tl_none, csum_nil, csum_i, csum_r, csum_j, isc2_i, isc2_r, isc2_n, va_rf_s, vfn_ite, true_and, and_true, true_or, or_true, eq_self, Bool.false_eq_true, not_false_eq_true, not_true_eq_false, if_true, if_false, Nat.reduceAdd, Nat.reduceLeDiff, reduceIte, oI, m1]
        exact go (some c) (by unfold nxS; rw [if_neg q]) (fun b hb => by cases hb; omega)
      | some b =>
        have hb := hr b rfl
        have b0 : ¬ nI b < 0 := by rw [lt0, nI_T (by omega)]; omega
        obtain ⟨x, hx, hx2⟩ := s_isOutside hv ha hb (show c < n by omega)
        by_cases z : outB U V a b c
        · have x0 := hx2.mpr z
          simp only [eX6_next_24, eX6_next_25, eX6_next_28, eX6_next_29, eX6_next_30, eX6_next_31, eX6_next_32, eX6_next_35, eX6_next_38, eX6_next_39, cont_some, tl_some, tl_none, csum_nil, csum_i, csum_r, csum_j, isc2_i, isc2_r, isc2_n, va_rf_s, vfn_ite, true_and, and_true, true_or, or_true, eq_self, Bool.false_eq_true, not_false_eq_true, not_true_eq_false, if_true, if_false, Nat.reduceAdd, Nat.reduceLeDiff, reduceIte, oI, b0, h.1, hx, x0]
          exact go (some c) (by unfold nxS; rw [if_neg q]; exact (if_pos z).symm) (fun b hb => by cases hb; omega)
        · have x0 : x = 0 := Decidable.byContradiction fun y => z (hx2.mp y)
          simp only [eX6_next_24, eX6_next_25, eX6_next_28, eX6_next_29, eX6_next_30, eX6_next_31, eX6_next_32, eX6_next_35, cont_some, tl_some, tl_none, csum_nil, csum_i, csum_r, csum_j, isc2_i, isc2_r, isc2_n, va_rf_s, vfn_ite, true_and, and_true, true_or, or_true, eq_self, Bool.false_eq_true, not_false_eq_true, not_true_eq_false, if_true, if_false, Nat.reduceAdd, Nat.reduceLeDiff, reduceIte, oI, b0, h.1, hx, x0]
          exact go (some b) (by unfold nxS; rw [if_neg q]; exact (if_neg z).symm) hr
theorem s_next {w : Wd} {v n a : Nat} {U V : Nat → Int32} (hv : vIs w v n U V) (ha : a < n) : fX6_next [.ref v, .int (nI a)] w = some (some (.int (oI (nxF U V a n 0 none))), w) := by
  refine sem_eq (Nat.le_of_ble_eq_true rfl) ?_
  show wp mX6_next 0 [some (.ref v), some (.int (nI a)), none, none] [] _ _
  simp only [eX6_next_0, eX6_next_1, eX6_next_2, eX6_next_3, cont_some, tl_some, tl_none, csum_nil, csum_i, csum_r, csum_j, isc2_i, isc2_r, isc2_n, va_rf_s, vfn_ite, true_and, and_true, true_or, or_true, eq_self, Bool.false_eq_true, not_false_eq_true, not_true_eq_false, if_true, if_false, Nat.reduceAdd, Nat.reduceLeDiff, reduceIte]
  exact lo_next hv ha n 0 none (by omega) (fun b hb => by cases hb)
