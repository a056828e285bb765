/-! the leftmost place, by the class -/
abbrev lef (U V : Nat → Int32) (c b : Nat) : Prop := U c < U b ∨ (U c = U b ∧ V c < V b)
def lmS (U V : Nat → Int32) (c : Nat) (r : Option Nat) : Option Nat := match r with
  | none => some c
  | some b => if lef U V c b then some c else some b
def lmF (U V : Nat → Int32) : Nat → Nat → Option Nat → Option Nat
  | 0, _, r => r
  | d + 1, c, r => lmF U V d (c + 1) (lmS U V c r)
theorem lo_left {w : Wd} {v n : Nat} {U V : Nat → Int32} (hv : vIs w v n U V) : ∀ (d c : Nat) (r : Option Nat), c + d = n → (∀ b, r = some b → b < n) →
    wp mX6_leftmost 4 [some (.ref v), some (.int (oI r)), some (.int (nI c))] [] w (fun q u => q = some (.int (oI (lmF U V d c r))) ∧ u = w) := by
  have h := hv.1
  have h10 := hv.2.2.1
  intro d
  induction d with
  | zero =>
    intro c r hc hr
    have e : c = n := by omega
    subst e
    have l : ¬ nI c < nI c := Int32.lt_irrefl
    simp only [eX6_leftmost_4, eX6_leftmost_5, eX6_leftmost_6, eX6_leftmost_9, eX6_leftmost_69, eX6_leftmost_70, cont_some, tl_some, tl_none, csum_nil, csum_i, csum_r, csum_j, isc2_i, isc2_r, isc2_n, va_rf_s, vfn_ite, true_and, and_true, true_or, or_true, eq_self, Bool.false_eq_true, not_false_eq_true, not_true_eq_false, if_true, if_false, Nat.reduceAdd, Nat.reduceLeDiff, reduceIte, h.1, hv.2.1, l, lmF]
  | succ d ih =>
    intro c r hc hr
    have l : nI c < nI n := nI_lt (by omega) (by omega)
    have go : ∀ r', r' = lmS U V c r → (∀ b, r' = some b → b < n) → wp mX6_leftmost 63 [some (.ref v), some (.int (oI r')), some (.int (nI c))] [] w (fun q u => q = some (.int (oI (lmF U V (d + 1) c r))) ∧ u = w) := by
      intro r' hr' hb
      simp only [eX6_leftmost_63, cont_some, tl_some, tl_none, csum_nil, csum_i, csum_r, csum_j, isc2_i, isc2_r, isc2_n, va_rf_s, vfn_ite, true_and, and_true, true_or, or_true, eq_self, Bool.false_eq_true, not_false_eq_true, not_true_eq_false, if_true, if_false, Nat.reduceAdd, Nat.reduceLeDiff, reduceIte, nI_1]
      rw [eX6_leftmost_66]
      have := ih (c + 1) r' (by omega) hb
      rw [hr'] at this ⊢
      exact this
    simp only [eX6_leftmost_4, eX6_leftmost_5, eX6_leftmost_6, eX6_leftmost_9, cont_some, tl_some, tl_none, csum_nil, csum_i, csum_r, csum_j, isc2_i, isc2_r, isc2_n, va_rf_s, vfn_ite, true_and, and_true, true_or, or_true, eq_self, Bool.false_eq_true, not_false_eq_true, not_true_eq_false, if_true, if_false, Nat.reduceAdd, Nat.reduceLeDiff, reduceIte, h.1, hv.2.1, l]
    cases r with
    | none =>
      have m1 : (-1 : Int32) < 0 := by decide
      simp only [eX6_leftmost_12, eX6_leftmost_13, eX6_leftmost_61, eX6_leftmost_62, cont_some, tl_some, tl_none, csum_nil, csum_i, csum_r, csum_j, isc2_i, isc2_r, isc2_n, va_rf_s, vfn_ite, true_and, and_true, true_or, or_true, eq_self, Bool.false_eq_true, not_false_eq_true, not_true_eq_false, if_true, if_false, Nat.reduceAdd, Nat.reduceLeDiff, reduceIte, oI, m1]
      exact go (some c) rfl (fun b hb => by cases hb; omega)
    | some b =>
      have hb := hr b rfl
      have b0 : ¬ nI b < 0 := by rw [lt0, nI_T (by omega)]; omega
      obtain ⟨c1, c2⟩ := hv.2.2.2 c (by omega)
      obtain ⟨b1, b2⟩ := hv.2.2.2 b hb
      have ic := inA_nI (show c < 10 by omega) (show 10 < 2147483648 by omega)
      have ib := inA_nI (show b < 10 by omega) (show 10 < 2147483648 by omega)
      have cc := nI_clamp (show c < 2 ^ 31 by omega)
      have cb := nI_clamp (show b < 2 ^ 31 by omega)
      have yes : lef U V c b → wp mX6_leftmost 61 [some (.ref v), some (.int (nI b)), some (.int (nI c))] [] w (fun q u => q = some (.int (oI (lmF U V (d + 1) c (some b)))) ∧ u = w) := by
        intro z
        simp only [eX6_leftmost_61, eX6_leftmost_62, cont_some, tl_some, tl_none, csum_nil, csum_i, csum_r, csum_j, isc2_i, isc2_r, isc2_n, va_rf_s, vfn_ite, true_and, and_true, true_or, or_true, eq_self, Bool.false_eq_true, not_false_eq_true, not_true_eq_false, if_true, if_false, Nat.reduceAdd, Nat.reduceLeDiff, reduceIte]
        exact go (some c) (show _ = if lef U V c b then _ else _ from (if_pos z).symm) (fun b hb => by cases hb; omega)
      have no : ¬ lef U V c b → wp mX6_leftmost 63 [some (.ref v), some (.int (nI b)), some (.int (nI c))] [] w (fun q u => q = some (.int (oI (lmF U V (d + 1) c (some b)))) ∧ u = w) := by
        intro z
        exact go (some b) (show _ = if lef U V c b then _ else _ from (if_neg z).symm) hr
      simp only [eX6_leftmost_12, eX6_leftmost_13, eX6_leftmost_16, eX6_leftmost_17, eX6_leftmost_20, eX6_leftmost_21, eX6_leftmost_22, eX6_leftmost_23, eX6_leftmost_26, eX6_leftmost_27, eX6_leftmost_28, cont_some, tl_some, tl_none, csum_nil, csum_i, csum_r, csum_j, isc2_i, isc2_r, isc2_n, va_rf_s, vfn_ite, true_and, and_true, true_or, or_true, eq_self, Bool.false_eq_true, not_false_eq_true, not_true_eq_false, if_true, if_false, Nat.reduceAdd, Nat.reduceLeDiff, reduceIte, oI, b0, h.1, h.2.1, h.2.2.2.2.1, ic, ib, cc, cb, c1, b1]
      by_cases q1 : U c < U b
      · rw [if_pos q1]; exact yes (Or.inl q1)
      · rw [if_neg q1]
        simp only [eX6_leftmost_31, eX6_leftmost_32, eX6_leftmost_35, eX6_leftmost_36, eX6_leftmost_37, eX6_leftmost_38, eX6_leftmost_41, eX6_leftmost_42, eX6_leftmost_43, cont_some, tl_some, tl_none, csum_nil, csum_i, csum_r, csum_j, isc2_i, isc2_r, isc2_n, va_rf_s, vfn_ite, true_and, and_true, true_or, or_true, eq_self, Bool.false_eq_true, not_false_eq_true, not_true_eq_false, if_true, if_false, Nat.reduceAdd, Nat.reduceLeDiff, reduceIte, h.1, h.2.1, h.2.2.2.2.1, ic, ib, cc, cb, c1, b1]
        by_cases q2 : U c = U b
        · rw [if_pos q2]
          simp only [eX6_leftmost_46, eX6_leftmost_47, eX6_leftmost_50, eX6_leftmost_51, eX6_leftmost_52, eX6_leftmost_53, eX6_leftmost_56, eX6_leftmost_57, eX6_leftmost_58, cont_some, tl_some, tl_none, csum_nil, csum_i, csum_r, csum_j, isc2_i, isc2_r, isc2_n, va_rf_s, vfn_ite, true_and, and_true, true_or, or_true, eq_self, Bool.false_eq_true, not_false_eq_true, not_true_eq_false, if_true, if_false, Nat.reduceAdd, Nat.reduceLeDiff, reduceIte, h.1, h.2.2.1, h.2.2.2.2.2.1, ic, ib, cc, cb, c2, b2]
          by_cases q3 : V c < V b
          · rw [if_pos q3]; exact yes (Or.inr ⟨q2, q3⟩)
          · rw [if_neg q3]; exact no (fun z => z.elim q1 (fun y => q3 y.2))
        · rw [if_neg q2]; exact no (fun z => z.elim q1 (fun y => q2 y.1))
theorem s_left {w : Wd} {v n : Nat} {U V : Nat → Int32} (hv : vIs w v n U V) : fX6_leftmost [.ref v] w = some (some (.int (oI (lmF U V n 0 none))), w) := by
  refine sem_eq (Nat.le_of_ble_eq_true rfl) ?_
  show wp mX6_leftmost 0 [some (.ref v), none, none] [] _ _
  simp only [eX6_leftmost_0, eX6_leftmost_1, eX6_leftmost_2, eX6_leftmost_3, cont_some, tl_some, tl_none, csum_nil, csum_i, csum_r, csum_j, isc2_i, isc2_r, isc2_n, va_rf_s, vfn_ite, true_and, and_true, true_or, or_true, eq_self, Bool.false_eq_true, not_false_eq_true, not_true_eq_false, if_true, if_false, Nat.reduceAdd, Nat.reduceLeDiff, reduceIte]
  exact lo_left hv n 0 none (by omega) (fun b hb => by cases hb)
