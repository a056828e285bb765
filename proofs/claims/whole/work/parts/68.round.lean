/-! the corners by the reference -/
def mhIs (w : Wd) (o L : Nat) (O : Nat → Nat) : Prop := rdI w o 23 = nI L ∧ ∀ i, i < L → rdI w (o + 11) i = nI (O i)
theorem lo_firstAt {w : Wd} {o n a : Nat} {U V : Nat → Int32} (h : isMd w o) (hv : mvIs w o n U V) (hz : inZ n (uZ U) (uZ V)) (ha : a < n) (hf : fiZ (uZ U) (uZ V) a) : ∀ (d k : Nat), k + d = a →
    wp mX9_firstAt 2 [some (.ref o), some (.int (nI a)), some (.int (nI k))] [] w (fun q u => q = some (.int (nI a)) ∧ u = w) := by
  have h10 := hv.2.1
  intro d
  induction d with
  | zero =>
    intro k hk
    have e : k = a := by omega
    subst e
    have e2 := m_far h hv ha ha
    have z : dst U V k k = 0 := (dst_z hz ha ha).mpr (dsZ_0.mpr ⟨rfl, rfl⟩)
    rw [z] at e2
    have l : ¬ (0 : Int32) < 0 := by decide
    simp only [eX9_firstAt_2, eX9_firstAt_3, eX9_firstAt_4, eX9_firstAt_5, eX9_firstAt_8, eX9_firstAt_17, eX9_firstAt_18, cont_some, tl_some, tl_none, csum_nil, csum_i, csum_r, csum_j, isc2_i, isc2_r, isc2_n, va_rf_s, vfn_ite, true_and, and_true, true_or, or_true, eq_self, Bool.false_eq_true, not_false_eq_true, not_true_eq_false, if_true, if_false, Nat.reduceAdd, Nat.reduceLeDiff, reduceIte, h.1, h.2.1, h.2.2.1, h.2.2.2.1, h.2.2.2.2.1, h.2.2.2.2.2.1, h.2.2.2.2.2.2.1, h.2.2.2.2.2.2.2.1, h.2.2.2.2.2.2.2.2.1, h.2.2.2.2.2.2.2.2.2.1, h.2.2.2.2.2.2.2.2.2.2.1, h.2.2.2.2.2.2.2.2.2.2.2.1, h.2.2.2.2.2.2.2.2.2.2.2.2.1, h.2.2.2.2.2.2.2.2.2.2.2.2.2.1, h.2.2.2.2.2.2.2.2.2.2.2.2.2.2.1, h.2.2.2.2.2.2.2.2.2.2.2.2.2.2.2.1, h.2.2.2.2.2.2.2.2.2.2.2.2.2.2.2.2.1, h.2.2.2.2.2.2.2.2.2.2.2.2.2.2.2.2.2.1, h.2.2.2.2.2.2.2.2.2.2.2.2.2.2.2.2.2.2.1, h.2.2.2.2.2.2.2.2.2.2.2.2.2.2.2.2.2.2.2.1, h.2.2.2.2.2.2.2.2.2.2.2.2.2.2.2.2.2.2.2.2.1, h.2.2.2.2.2.2.2.2.2.2.2.2.2.2.2.2.2.2.2.2.2.1, h.2.2.2.2.2.2.2.2.2.2.2.2.2.2.2.2.2.2.2.2.2.2.1, h.2.2.2.2.2.2.2.2.2.2.2.2.2.2.2.2.2.2.2.2.2.2.2.1, h.2.2.2.2.2.2.2.2.2.2.2.2.2.2.2.2.2.2.2.2.2.2.2.2, e2, l]
  | succ d ih =>
    intro k hk
    have e2 := m_far h hv (show k < n by omega) ha
    have hs : dsZ (uZ U) (uZ V) k a ≠ 0 := fun z => hf k (by omega) (by
      obtain ⟨z1, z2⟩ := dsZ_0.mp z
      exact dsZ_0.mpr ⟨z1.symm, z2.symm⟩)
    have l : 0 < dst U V k a := (dst_p hz (by omega) ha).mp (fun z => hs ((dst_z hz (by omega) ha).mp z))
    simp only [eX9_firstAt_2, eX9_firstAt_3, eX9_firstAt_4, eX9_firstAt_5, eX9_firstAt_8, eX9_firstAt_11, cont_some, tl_some, tl_none, csum_nil, csum_i, csum_r, csum_j, isc2_i, isc2_r, isc2_n, va_rf_s, vfn_ite, true_and, and_true, true_or, or_true, eq_self, Bool.false_eq_true, not_false_eq_true, not_true_eq_false, if_true, if_false, Nat.reduceAdd, Nat.reduceLeDiff, reduceIte, h.1, h.2.1, h.2.2.1, h.2.2.2.1, h.2.2.2.2.1, h.2.2.2.2.2.1, h.2.2.2.2.2.2.1, h.2.2.2.2.2.2.2.1, h.2.2.2.2.2.2.2.2.1, h.2.2.2.2.2.2.2.2.2.1, h.2.2.2.2.2.2.2.2.2.2.1, h.2.2.2.2.2.2.2.2.2.2.2.1, h.2.2.2.2.2.2.2.2.2.2.2.2.1, h.2.2.2.2.2.2.2.2.2.2.2.2.2.1, h.2.2.2.2.2.2.2.2.2.2.2.2.2.2.1, h.2.2.2.2.2.2.2.2.2.2.2.2.2.2.2.1, h.2.2.2.2.2.2.2.2.2.2.2.2.2.2.2.2.1, h.2.2.2.2.2.2.2.2.2.2.2.2.2.2.2.2.2.1, h.2.2.2.2.2.2.2.2.2.2.2.2.2.2.2.2.2.2.1, h.2.2.2.2.2.2.2.2.2.2.2.2.2.2.2.2.2.2.2.1, h.2.2.2.2.2.2.2.2.2.2.2.2.2.2.2.2.2.2.2.2.1, h.2.2.2.2.2.2.2.2.2.2.2.2.2.2.2.2.2.2.2.2.2.1, h.2.2.2.2.2.2.2.2.2.2.2.2.2.2.2.2.2.2.2.2.2.2.1, h.2.2.2.2.2.2.2.2.2.2.2.2.2.2.2.2.2.2.2.2.2.2.2.1, h.2.2.2.2.2.2.2.2.2.2.2.2.2.2.2.2.2.2.2.2.2.2.2.2, e2, l, nI_1]
    rw [eX9_firstAt_14]
    exact ih (k + 1) (by omega)
theorem m_firstAt {w : Wd} {o n a : Nat} {U V : Nat → Int32} (h : isMd w o) (hv : mvIs w o n U V) (hz : inZ n (uZ U) (uZ V)) (ha : a < n) (hf : fiZ (uZ U) (uZ V) a) : fX9_firstAt [.ref o, .int (nI a)] w = some (some (.int (nI a)), w) := by
  refine sem_eq (Nat.le_of_ble_eq_true rfl) ?_
  show wp mX9_firstAt 0 [some (.ref o), some (.int (nI a)), none] [] _ _
  simp only [eX9_firstAt_0, eX9_firstAt_1, cont_some, tl_some, tl_none, csum_nil, csum_i, csum_r, csum_j, isc2_i, isc2_r, isc2_n, va_rf_s, vfn_ite, true_and, and_true, true_or, or_true, eq_self, Bool.false_eq_true, not_false_eq_true, not_true_eq_false, if_true, if_false, Nat.reduceAdd, Nat.reduceLeDiff, reduceIte]
  exact lo_firstAt h hv hz ha hf a 0 (by omega)
theorem lmF_some {U V : Nat → Int32} : ∀ (d c b : Nat), ∃ f, lmF U V d c (some b) = some f := by
  intro d
  induction d with
  | zero => intro c b; exact ⟨b, rfl⟩
  | succ d ih =>
    intro c b
    show ∃ f, lmF U V d (c + 1) (if lef U V c b then some c else some b) = some f
    by_cases q : lef U V c b
    · rw [if_pos q]; exact ih _ _
    · rw [if_neg q]; exact ih _ _
theorem lo_rFirst {w : Wd} {o n f : Nat} {U V : Nat → Int32} {Q : Option Value → Wd → Prop} (h : isMd w o) (hv : mvIs w o n U V) (hQ : ∀ a2, wp mX9_round 82 [some (.ref o), some (.int (nI f)), some (.int a2), none] [] w Q) : ∀ (d c b : Nat), c + d = n → b < n → lmF U V d c (some b) = some f →
    wp mX9_round 17 [some (.ref o), some (.int (nI b)), some (.int (nI c)), none] [] w Q := by
  have h10 := hv.2.1
  intro d
  induction d with
  | zero =>
    intro c b hc hb hf
    have e : c = n := by omega
    subst e
    have hf' : some b = some f := hf
    cases hf'
    have l : ¬ nI c < nI c := Int32.lt_irrefl
    simp only [eX9_round_17, eX9_round_18, eX9_round_19, eX9_round_22, cont_some, tl_some, tl_none, csum_nil, csum_i, csum_r, csum_j, isc2_i, isc2_r, isc2_n, va_rf_s, vfn_ite, true_and, and_true, true_or, or_true, eq_self, Bool.false_eq_true, not_false_eq_true, not_true_eq_false, if_true, if_false, Nat.reduceAdd, Nat.reduceLeDiff, reduceIte, h.1, h.2.1, h.2.2.1, h.2.2.2.1, h.2.2.2.2.1, h.2.2.2.2.2.1, h.2.2.2.2.2.2.1, h.2.2.2.2.2.2.2.1, h.2.2.2.2.2.2.2.2.1, h.2.2.2.2.2.2.2.2.2.1, h.2.2.2.2.2.2.2.2.2.2.1, h.2.2.2.2.2.2.2.2.2.2.2.1, h.2.2.2.2.2.2.2.2.2.2.2.2.1, h.2.2.2.2.2.2.2.2.2.2.2.2.2.1, h.2.2.2.2.2.2.2.2.2.2.2.2.2.2.1, h.2.2.2.2.2.2.2.2.2.2.2.2.2.2.2.1, h.2.2.2.2.2.2.2.2.2.2.2.2.2.2.2.2.1, h.2.2.2.2.2.2.2.2.2.2.2.2.2.2.2.2.2.1, h.2.2.2.2.2.2.2.2.2.2.2.2.2.2.2.2.2.2.1, h.2.2.2.2.2.2.2.2.2.2.2.2.2.2.2.2.2.2.2.1, h.2.2.2.2.2.2.2.2.2.2.2.2.2.2.2.2.2.2.2.2.1, h.2.2.2.2.2.2.2.2.2.2.2.2.2.2.2.2.2.2.2.2.2.1, h.2.2.2.2.2.2.2.2.2.2.2.2.2.2.2.2.2.2.2.2.2.2.1, h.2.2.2.2.2.2.2.2.2.2.2.2.2.2.2.2.2.2.2.2.2.2.2.1, h.2.2.2.2.2.2.2.2.2.2.2.2.2.2.2.2.2.2.2.2.2.2.2.2, hv.1, l]
    exact hQ _
  | succ d ih =>
    intro c b hc hb hf
    have hf' : lmF U V d (c + 1) (if lef U V c b then some c else some b) = some f := hf
    have l : nI c < nI n := nI_lt (by omega) (by omega)
    obtain ⟨c1, c2⟩ := hv.2.2 c (by omega)
    obtain ⟨b1, b2⟩ := hv.2.2 b hb
    have ic := inA_nI (show c < 10 by omega) (show 10 < 2147483648 by omega)
    have ib := inA_nI (show b < 10 by omega) (show 10 < 2147483648 by omega)
    have cc := nI_clamp (show c < 2 ^ 31 by omega)
    have cb := nI_clamp (show b < 2 ^ 31 by omega)
    have yes : lef U V c b → wp mX9_round 70 [some (.ref o), some (.int (nI b)), some (.int (nI c)), none] [] w Q := by
      intro z
      rw [if_pos z] at hf'
      simp only [eX9_round_70, eX9_round_71, eX9_round_74, eX9_round_75, eX9_round_76, cont_some, tl_some, tl_none, csum_nil, csum_i, csum_r, csum_j, isc2_i, isc2_r, isc2_n, va_rf_s, vfn_ite, true_and, and_true, true_or, or_true, eq_self, Bool.false_eq_true, not_false_eq_true, not_true_eq_false, if_true, if_false, Nat.reduceAdd, Nat.reduceLeDiff, reduceIte, nI_1]
      rw [eX9_round_79]
      exact ih (c + 1) c (by omega) (by omega) hf'
    have no : ¬ lef U V c b → wp mX9_round 74 [some (.ref o), some (.int (nI b)), some (.int (nI c)), none] [] w Q := by
      intro z
      rw [if_neg z] at hf'
      simp only [eX9_round_74, eX9_round_75, eX9_round_76, cont_some, tl_some, tl_none, csum_nil, csum_i, csum_r, csum_j, isc2_i, isc2_r, isc2_n, va_rf_s, vfn_ite, true_and, and_true, true_or, or_true, eq_self, Bool.false_eq_true, not_false_eq_true, not_true_eq_false, if_true, if_false, Nat.reduceAdd, Nat.reduceLeDiff, reduceIte, nI_1]
      rw [eX9_round_79]
      exact ih (c + 1) b (by omega) hb hf'
    simp only [eX9_round_17, eX9_round_18, eX9_round_19, eX9_round_22, eX9_round_25, eX9_round_26, eX9_round_29, eX9_round_30, eX9_round_31, eX9_round_32, eX9_round_35, eX9_round_36, eX9_round_37, cont_some, tl_some, tl_none, csum_nil, csum_i, csum_r, csum_j, isc2_i, isc2_r, isc2_n, va_rf_s, vfn_ite, true_and, and_true, true_or, or_true, eq_self, Bool.false_eq_true, not_false_eq_true, not_true_eq_false, if_true, if_false, Nat.reduceAdd, Nat.reduceLeDiff, reduceIte, h.1, h.2.1, h.2.2.1, h.2.2.2.1, h.2.2.2.2.1, h.2.2.2.2.2.1, h.2.2.2.2.2.2.1, h.2.2.2.2.2.2.2.1, h.2.2.2.2.2.2.2.2.1, h.2.2.2.2.2.2.2.2.2.1, h.2.2.2.2.2.2.2.2.2.2.1, h.2.2.2.2.2.2.2.2.2.2.2.1, h.2.2.2.2.2.2.2.2.2.2.2.2.1, h.2.2.2.2.2.2.2.2.2.2.2.2.2.1, h.2.2.2.2.2.2.2.2.2.2.2.2.2.2.1, h.2.2.2.2.2.2.2.2.2.2.2.2.2.2.2.1, h.2.2.2.2.2.2.2.2.2.2.2.2.2.2.2.2.1, h.2.2.2.2.2.2.2.2.2.2.2.2.2.2.2.2.2.1, h.2.2.2.2.2.2.2.2.2.2.2.2.2.2.2.2.2.2.1, h.2.2.2.2.2.2.2.2.2.2.2.2.2.2.2.2.2.2.2.1, h.2.2.2.2.2.2.2.2.2.2.2.2.2.2.2.2.2.2.2.2.1, h.2.2.2.2.2.2.2.2.2.2.2.2.2.2.2.2.2.2.2.2.2.1, h.2.2.2.2.2.2.2.2.2.2.2.2.2.2.2.2.2.2.2.2.2.2.1, h.2.2.2.2.2.2.2.2.2.2.2.2.2.2.2.2.2.2.2.2.2.2.2.1, h.2.2.2.2.2.2.2.2.2.2.2.2.2.2.2.2.2.2.2.2.2.2.2.2, hv.1, l, ic, ib, cc, cb, c1, b1]
    by_cases q1 : U c < U b
    · rw [if_pos q1]; exact yes (Or.inl q1)
    · rw [if_neg q1]
      simp only [eX9_round_40, eX9_round_41, eX9_round_44, eX9_round_45, eX9_round_46, eX9_round_47, eX9_round_50, eX9_round_51, eX9_round_52, cont_some, tl_some, tl_none, csum_nil, csum_i, csum_r, csum_j, isc2_i, isc2_r, isc2_n, va_rf_s, vfn_ite, true_and, and_true, true_or, or_true, eq_self, Bool.false_eq_true, not_false_eq_true, not_true_eq_false, if_true, if_false, Nat.reduceAdd, Nat.reduceLeDiff, reduceIte, h.1, h.2.1, h.2.2.1, h.2.2.2.1, h.2.2.2.2.1, h.2.2.2.2.2.1, h.2.2.2.2.2.2.1, h.2.2.2.2.2.2.2.1, h.2.2.2.2.2.2.2.2.1, h.2.2.2.2.2.2.2.2.2.1, h.2.2.2.2.2.2.2.2.2.2.1, h.2.2.2.2.2.2.2.2.2.2.2.1, h.2.2.2.2.2.2.2.2.2.2.2.2.1, h.2.2.2.2.2.2.2.2.2.2.2.2.2.1, h.2.2.2.2.2.2.2.2.2.2.2.2.2.2.1, h.2.2.2.2.2.2.2.2.2.2.2.2.2.2.2.1, h.2.2.2.2.2.2.2.2.2.2.2.2.2.2.2.2.1, h.2.2.2.2.2.2.2.2.2.2.2.2.2.2.2.2.2.1, h.2.2.2.2.2.2.2.2.2.2.2.2.2.2.2.2.2.2.1, h.2.2.2.2.2.2.2.2.2.2.2.2.2.2.2.2.2.2.2.1, h.2.2.2.2.2.2.2.2.2.2.2.2.2.2.2.2.2.2.2.2.1, h.2.2.2.2.2.2.2.2.2.2.2.2.2.2.2.2.2.2.2.2.2.1, h.2.2.2.2.2.2.2.2.2.2.2.2.2.2.2.2.2.2.2.2.2.2.1, h.2.2.2.2.2.2.2.2.2.2.2.2.2.2.2.2.2.2.2.2.2.2.2.1, h.2.2.2.2.2.2.2.2.2.2.2.2.2.2.2.2.2.2.2.2.2.2.2.2, ic, ib, cc, cb, c1, b1]
      by_cases q2 : U c = U b
      · rw [if_pos q2]
        simp only [eX9_round_55, eX9_round_56, eX9_round_59, eX9_round_60, eX9_round_61, eX9_round_62, eX9_round_65, eX9_round_66, eX9_round_67, cont_some, tl_some, tl_none, csum_nil, csum_i, csum_r, csum_j, isc2_i, isc2_r, isc2_n, va_rf_s, vfn_ite, true_and, and_true, true_or, or_true, eq_self, Bool.false_eq_true, not_false_eq_true, not_true_eq_false, if_true, if_false, Nat.reduceAdd, Nat.reduceLeDiff, reduceIte, h.1, h.2.1, h.2.2.1, h.2.2.2.1, h.2.2.2.2.1, h.2.2.2.2.2.1, h.2.2.2.2.2.2.1, h.2.2.2.2.2.2.2.1, h.2.2.2.2.2.2.2.2.1, h.2.2.2.2.2.2.2.2.2.1, h.2.2.2.2.2.2.2.2.2.2.1, h.2.2.2.2.2.2.2.2.2.2.2.1, h.2.2.2.2.2.2.2.2.2.2.2.2.1, h.2.2.2.2.2.2.2.2.2.2.2.2.2.1, h.2.2.2.2.2.2.2.2.2.2.2.2.2.2.1, h.2.2.2.2.2.2.2.2.2.2.2.2.2.2.2.1, h.2.2.2.2.2.2.2.2.2.2.2.2.2.2.2.2.1, h.2.2.2.2.2.2.2.2.2.2.2.2.2.2.2.2.2.1, h.2.2.2.2.2.2.2.2.2.2.2.2.2.2.2.2.2.2.1, h.2.2.2.2.2.2.2.2.2.2.2.2.2.2.2.2.2.2.2.1, h.2.2.2.2.2.2.2.2.2.2.2.2.2.2.2.2.2.2.2.2.1, h.2.2.2.2.2.2.2.2.2.2.2.2.2.2.2.2.2.2.2.2.2.1, h.2.2.2.2.2.2.2.2.2.2.2.2.2.2.2.2.2.2.2.2.2.2.1, h.2.2.2.2.2.2.2.2.2.2.2.2.2.2.2.2.2.2.2.2.2.2.2.1, h.2.2.2.2.2.2.2.2.2.2.2.2.2.2.2.2.2.2.2.2.2.2.2.2, ic, ib, cc, cb, c2, b2]
        by_cases q3 : V c < V b
        · rw [if_pos q3]; exact yes (Or.inr ⟨q2, q3⟩)
        · rw [if_neg q3]; exact no (fun z => z.elim q1 (fun y => q3 y.2))
      · rw [if_neg q2]; exact no (fun z => z.elim q1 (fun y => q2 y.1))
theorem lo_round {w0 : Wd} {o n f L : Nat} {U V : Nat → Int32} (hz : inZ n (uZ U) (uZ V)) (hf : coZ n (uZ U) (uZ V) f) (hL : cyL U V n f L) : ∀ (d s : Nat) (w : Wd) (x : Int32), s + d = L → isMd w o → mvIs w o n U V → mhIs w o s (orb U V n f) → x = nI (orb U V n f s) → FrX (Xv o) w0 w →
    wp mX9_round 86 [some (.ref o), some (.int (nI f)), some (.int x), some (.int (if s = L then 0 else 1))] [] w (fun r u => r = none ∧ mvIs u o n U V ∧ mhIs u o L (orb U V n f) ∧ FrX (Xv o) w0 u) := by
  obtain ⟨l1, l2, l3, l4⟩ := hL
  intro d
  induction d with
  | zero =>
    intro s w x hs hm hv hh hx hF
    have e : s = L := by omega
    subst e
    rw [if_pos rfl]
    simp only [eX9_round_86, eX9_round_87, eX9_round_138, cont_some, tl_some, tl_none, csum_nil, csum_i, csum_r, csum_j, isc2_i, isc2_r, isc2_n, va_rf_s, vfn_ite, true_and, and_true, true_or, or_true, eq_self, Bool.false_eq_true, not_false_eq_true, not_true_eq_false, if_true, if_false, Nat.reduceAdd, Nat.reduceLeDiff, reduceIte]
    exact ⟨hv, hh, hF⟩
  | succ d ih =>
    intro s w x hs hm hv hh hx hF
    have h10 := hv.2.1
    rw [if_neg (show ¬ s = L by omega)]
    obtain ⟨c, hc⟩ : ∃ c, c = orb U V n f s := ⟨_, rfl⟩
    rw [← hc] at hx
    subst hx
    have hco : coZ n (uZ U) (uZ V) c := by rw [hc]; exact orb_co hz hf s
    have hcn := hco.1
    have t1 : ¬ (1 : Int32) = 0 := by decide
    have n3 : ¬ o = o + 11 := by omega
    have e0 := m_firstAt hm hv hz hcn hco.2.2
    obtain ⟨w1, hw1⟩ : ∃ w1, w1 = wrI (wrI w (o + 11) s (nI c)) o 23 (nI (s + 1)) := ⟨_, rfl⟩
    have hm1 : isMd w1 o := by subst hw1; exact hm
    have hv1 : mvIs w1 o n U V := by
      subst hw1
      obtain ⟨g2, g3, g4⟩ := hv
      refine ⟨by rw [rdI_wrI, if_neg (by omega), rdI_wrI, if_neg (by omega)]; exact g2, g3, fun i hi => ?_⟩
      rw [rdI_wrI, if_neg (by omega), rdI_wrI, if_neg (by omega), rdI_wrI, if_neg (by omega), rdI_wrI, if_neg (by omega)]
      exact g4 i hi
    have hh1 : mhIs w1 o (s + 1) (orb U V n f) := by
      subst hw1
      refine ⟨by rw [rdI_wrI, if_pos ⟨rfl, rfl⟩], fun i hi => ?_⟩
      rw [rdI_wrI, if_neg (by omega), rdI_wrI]
      by_cases e : i = s
      · rw [if_pos ⟨rfl, e⟩, e, hc]
      · rw [if_neg (fun z => e z.2)]; exact hh.2 i (by omega)
    have hF1 : FrX (Xv o) w0 w1 := by
      subst hw1
      exact (hF.wrI (Or.inr ⟨by omega, by omega⟩)).wrI (Or.inl ⟨rfl, Or.inr rfl⟩)
    have hb := m_behind hm1 hv1 hcn (fun c' hc' => dst_p hz hcn hc') ((dst_z hz hcn hcn).mpr (dsZ_0.mpr ⟨rfl, rfl⟩))
    obtain ⟨b, hbe⟩ : ∃ b, b = orb U V n f (s + 1) := ⟨_, rfl⟩
    have ho : gtD c (nxF U V c n 0 none) = b := by rw [hbe, hc]; rfl
    rw [ho] at hb
    have hbc : coZ n (uZ U) (uZ V) b := by rw [hbe]; exact orb_co hz hf (s + 1)
    have e1 := m_firstAt hm1 hv1 hz hbc.1 hbc.2.2
    have hfn := hf.1
    have hbn := hbc.1
    simp only [eX9_round_86, eX9_round_87, eX9_round_90, eX9_round_91, eX9_round_94, eX9_round_95, eX9_round_98, eX9_round_99, eX9_round_100, eX9_round_103, eX9_round_104, eX9_round_105, eX9_round_105i, eX9_round_106, eX9_round_109, eX9_round_110, eX9_round_111, cont_some, tl_some, tl_none, csum_nil, csum_i, csum_r, csum_j, isc2_i, isc2_r, isc2_n, va_rf_s, vfn_ite, true_and, and_true, true_or, or_true, eq_self, Bool.false_eq_true, not_false_eq_true, not_true_eq_false, if_true, if_false, Nat.reduceAdd, Nat.reduceLeDiff, reduceIte, t1, hm.1, hm.2.1, hm.2.2.1, hm.2.2.2.1, hm.2.2.2.2.1, hm.2.2.2.2.2.1, hm.2.2.2.2.2.2.1, hm.2.2.2.2.2.2.2.1, hm.2.2.2.2.2.2.2.2.1, hm.2.2.2.2.2.2.2.2.2.1, hm.2.2.2.2.2.2.2.2.2.2.1, hm.2.2.2.2.2.2.2.2.2.2.2.1, hm.2.2.2.2.2.2.2.2.2.2.2.2.1, hm.2.2.2.2.2.2.2.2.2.2.2.2.2.1, hm.2.2.2.2.2.2.2.2.2.2.2.2.2.2.1, hm.2.2.2.2.2.2.2.2.2.2.2.2.2.2.2.1, hm.2.2.2.2.2.2.2.2.2.2.2.2.2.2.2.2.1, hm.2.2.2.2.2.2.2.2.2.2.2.2.2.2.2.2.2.1, hm.2.2.2.2.2.2.2.2.2.2.2.2.2.2.2.2.2.2.1, hm.2.2.2.2.2.2.2.2.2.2.2.2.2.2.2.2.2.2.2.1, hm.2.2.2.2.2.2.2.2.2.2.2.2.2.2.2.2.2.2.2.2.1, hm.2.2.2.2.2.2.2.2.2.2.2.2.2.2.2.2.2.2.2.2.2.1, hm.2.2.2.2.2.2.2.2.2.2.2.2.2.2.2.2.2.2.2.2.2.2.1, hm.2.2.2.2.2.2.2.2.2.2.2.2.2.2.2.2.2.2.2.2.2.2.2.1, hm.2.2.2.2.2.2.2.2.2.2.2.2.2.2.2.2.2.2.2.2.2.2.2.2, hh.1, e0, inA_nI (show s < 11 by omega) (show 11 < 2147483648 by omega), nI_clamp (show s < 2 ^ 31 by omega), shp_wrI, rdI_wrI, n3, false_and, nI_1]
    rw [← hw1]
    simp only [eX9_round_114, eX9_round_115, eX9_round_116, eX9_round_117, eX9_round_120, eX9_round_123, eX9_round_124, eX9_round_125, eX9_round_126, cont_some, tl_some, tl_none, csum_nil, csum_i, csum_r, csum_j, isc2_i, isc2_r, isc2_n, va_rf_s, vfn_ite, true_and, and_true, true_or, or_true, eq_self, Bool.false_eq_true, not_false_eq_true, not_true_eq_false, if_true, if_false, Nat.reduceAdd, Nat.reduceLeDiff, reduceIte, hm1.1, hm1.2.1, hm1.2.2.1, hm1.2.2.2.1, hm1.2.2.2.2.1, hm1.2.2.2.2.2.1, hm1.2.2.2.2.2.2.1, hm1.2.2.2.2.2.2.2.1, hm1.2.2.2.2.2.2.2.2.1, hm1.2.2.2.2.2.2.2.2.2.1, hm1.2.2.2.2.2.2.2.2.2.2.1, hm1.2.2.2.2.2.2.2.2.2.2.2.1, hm1.2.2.2.2.2.2.2.2.2.2.2.2.1, hm1.2.2.2.2.2.2.2.2.2.2.2.2.2.1, hm1.2.2.2.2.2.2.2.2.2.2.2.2.2.2.1, hm1.2.2.2.2.2.2.2.2.2.2.2.2.2.2.2.1, hm1.2.2.2.2.2.2.2.2.2.2.2.2.2.2.2.2.1, hm1.2.2.2.2.2.2.2.2.2.2.2.2.2.2.2.2.2.1, hm1.2.2.2.2.2.2.2.2.2.2.2.2.2.2.2.2.2.2.1, hm1.2.2.2.2.2.2.2.2.2.2.2.2.2.2.2.2.2.2.2.1, hm1.2.2.2.2.2.2.2.2.2.2.2.2.2.2.2.2.2.2.2.2.1, hm1.2.2.2.2.2.2.2.2.2.2.2.2.2.2.2.2.2.2.2.2.2.1, hm1.2.2.2.2.2.2.2.2.2.2.2.2.2.2.2.2.2.2.2.2.2.2.1, hm1.2.2.2.2.2.2.2.2.2.2.2.2.2.2.2.2.2.2.2.2.2.2.2.1, hm1.2.2.2.2.2.2.2.2.2.2.2.2.2.2.2.2.2.2.2.2.2.2.2.2, hb, e1]
    have go := ih (s + 1) w1 (nI b) (by omega) hm1 hv1 hh1 (by rw [hbe]) hF1
    by_cases q : b = f
    · have hsL : s + 1 = L := by
        rcases Nat.lt_or_ge (s + 1) L with z | z
        · exact absurd (hbe.symm.trans q) (l4 (s + 1) (by omega) z)
        · omega
      rw [if_pos hsL] at go
      simp only [q, if_true]
      simp only [eX9_round_133, eX9_round_134, cont_some, tl_some, tl_none, csum_nil, csum_i, csum_r, csum_j, isc2_i, isc2_r, isc2_n, va_rf_s, vfn_ite, true_and, and_true, true_or, or_true, eq_self, Bool.false_eq_true, not_false_eq_true, not_true_eq_false, if_true, if_false, Nat.reduceAdd, Nat.reduceLeDiff, reduceIte]
      rw [eX9_round_135]
      rw [q] at go
      exact go
    · have q' : ¬ nI b = nI f := fun z => q ((nI_eq (by omega) (by omega)).mp z)
      have hsL : ¬ s + 1 = L := fun z => q (by rw [hbe, z]; exact l3)
      rw [if_neg hsL] at go
      simp only [q', if_false]
      simp only [eX9_round_129, eX9_round_130, eX9_round_133, eX9_round_134, cont_some, tl_some, tl_none, csum_nil, csum_i, csum_r, csum_j, isc2_i, isc2_r, isc2_n, va_rf_s, vfn_ite, true_and, and_true, true_or, or_true, eq_self, Bool.false_eq_true, not_false_eq_true, not_true_eq_false, if_true, if_false, Nat.reduceAdd, Nat.reduceLeDiff, reduceIte]
      rw [eX9_round_135]
      exact go
theorem m_round {w : Wd} {o n L : Nat} {U V : Nat → Int32} {O : Nat → Nat} (hz : inZ n (uZ U) (uZ V)) (hu : huL U V n O L) (hm : isMd w o) (hv : mvIs w o n U V) : ∃ u, fX9_round [.ref o] w = some (none, u) ∧ mvIs u o n U V ∧ mhIs u o L O ∧ FrX (Xv o) w u := by
  have h10 := hv.2.1
  have hm0 : isMd (wrI w o 23 0) o := hm
  have hv0 : mvIs (wrI w o 23 0) o n U V := by
    obtain ⟨g2, g3, g4⟩ := hv
    refine ⟨by rw [rdI_wrI, if_neg (by omega)]; exact g2, g3, fun i hi => ?_⟩
    rw [rdI_wrI, if_neg (by omega), rdI_wrI, if_neg (by omega)]
    exact g4 i hi
  have hF : FrX (Xv o) w (wrI w o 23 0) := FrX.rf.wrI (Or.inl ⟨rfl, Or.inr rfl⟩)
  have hz0 : ∀ O, mhIs (wrI w o 23 0) o 0 O := fun O => ⟨by rw [rdI_wrI, if_pos ⟨rfl, rfl⟩]; rfl, fun i hi => absurd hi (by omega)⟩
  have hh : wp mX9_round 0 [some (.ref o), none, none, none] [] w (fun r u => r = none ∧ mvIs u o n U V ∧ mhIs u o L O ∧ FrX (Xv o) w u) := by
    simp only [eX9_round_0, eX9_round_1, eX9_round_2, cont_some, tl_some, tl_none, csum_nil, csum_i, csum_r, csum_j, isc2_i, isc2_r, isc2_n, va_rf_s, vfn_ite, true_and, and_true, true_or, or_true, eq_self, Bool.false_eq_true, not_false_eq_true, not_true_eq_false, if_true, if_false, Nat.reduceAdd, Nat.reduceLeDiff, reduceIte, hm.1, hm.2.1, hm.2.2.1, hm.2.2.2.1, hm.2.2.2.2.1, hm.2.2.2.2.2.1, hm.2.2.2.2.2.2.1, hm.2.2.2.2.2.2.2.1, hm.2.2.2.2.2.2.2.2.1, hm.2.2.2.2.2.2.2.2.2.1, hm.2.2.2.2.2.2.2.2.2.2.1, hm.2.2.2.2.2.2.2.2.2.2.2.1, hm.2.2.2.2.2.2.2.2.2.2.2.2.1, hm.2.2.2.2.2.2.2.2.2.2.2.2.2.1, hm.2.2.2.2.2.2.2.2.2.2.2.2.2.2.1, hm.2.2.2.2.2.2.2.2.2.2.2.2.2.2.2.1, hm.2.2.2.2.2.2.2.2.2.2.2.2.2.2.2.2.1, hm.2.2.2.2.2.2.2.2.2.2.2.2.2.2.2.2.2.1, hm.2.2.2.2.2.2.2.2.2.2.2.2.2.2.2.2.2.2.1, hm.2.2.2.2.2.2.2.2.2.2.2.2.2.2.2.2.2.2.2.1, hm.2.2.2.2.2.2.2.2.2.2.2.2.2.2.2.2.2.2.2.2.1, hm.2.2.2.2.2.2.2.2.2.2.2.2.2.2.2.2.2.2.2.2.2.1, hm.2.2.2.2.2.2.2.2.2.2.2.2.2.2.2.2.2.2.2.2.2.2.1, hm.2.2.2.2.2.2.2.2.2.2.2.2.2.2.2.2.2.2.2.2.2.2.2.1, hm.2.2.2.2.2.2.2.2.2.2.2.2.2.2.2.2.2.2.2.2.2.2.2.2]
    simp only [eX9_round_5, eX9_round_6, eX9_round_9, cont_some, tl_some, tl_none, csum_nil, csum_i, csum_r, csum_j, isc2_i, isc2_r, isc2_n, va_rf_s, vfn_ite, true_and, and_true, true_or, or_true, eq_self, Bool.false_eq_true, not_false_eq_true, not_true_eq_false, if_true, if_false, Nat.reduceAdd, Nat.reduceLeDiff, reduceIte, hm0.1, hm0.2.1, hm0.2.2.1, hm0.2.2.2.1, hm0.2.2.2.2.1, hm0.2.2.2.2.2.1, hm0.2.2.2.2.2.2.1, hm0.2.2.2.2.2.2.2.1, hm0.2.2.2.2.2.2.2.2.1, hm0.2.2.2.2.2.2.2.2.2.1, hm0.2.2.2.2.2.2.2.2.2.2.1, hm0.2.2.2.2.2.2.2.2.2.2.2.1, hm0.2.2.2.2.2.2.2.2.2.2.2.2.1, hm0.2.2.2.2.2.2.2.2.2.2.2.2.2.1, hm0.2.2.2.2.2.2.2.2.2.2.2.2.2.2.1, hm0.2.2.2.2.2.2.2.2.2.2.2.2.2.2.2.1, hm0.2.2.2.2.2.2.2.2.2.2.2.2.2.2.2.2.1, hm0.2.2.2.2.2.2.2.2.2.2.2.2.2.2.2.2.2.1, hm0.2.2.2.2.2.2.2.2.2.2.2.2.2.2.2.2.2.2.1, hm0.2.2.2.2.2.2.2.2.2.2.2.2.2.2.2.2.2.2.2.1, hm0.2.2.2.2.2.2.2.2.2.2.2.2.2.2.2.2.2.2.2.2.1, hm0.2.2.2.2.2.2.2.2.2.2.2.2.2.2.2.2.2.2.2.2.2.1, hm0.2.2.2.2.2.2.2.2.2.2.2.2.2.2.2.2.2.2.2.2.2.2.1, hm0.2.2.2.2.2.2.2.2.2.2.2.2.2.2.2.2.2.2.2.2.2.2.2.1, hm0.2.2.2.2.2.2.2.2.2.2.2.2.2.2.2.2.2.2.2.2.2.2.2.2, hv0.1]
    rcases hu with ⟨rfl, rfl⟩ | ⟨f, h1, h2, rfl, h4⟩
    · have l : nI 0 = 0 := rfl
      simp only [l, not_true_eq_false, if_false]
      simp only [eX9_round_12, cont_some, tl_some, tl_none, csum_nil, csum_i, csum_r, csum_j, isc2_i, isc2_r, isc2_n, va_rf_s, vfn_ite, true_and, and_true, true_or, or_true, eq_self, Bool.false_eq_true, not_false_eq_true, not_true_eq_false, if_true, if_false, Nat.reduceAdd, Nat.reduceLeDiff, reduceIte]
      exact ⟨hv0, hz0 _, hF⟩
    · have hfn := h2.1
      have l : ¬ nI n = 0 := fun z => by
        have := (nI_eq (a := n) (b := 0) (by omega) (by omega)).mp z
        omega
      simp only [l, not_false_eq_true, if_true]
      simp only [eX9_round_13, eX9_round_14, eX9_round_15, eX9_round_16, cont_some, tl_some, tl_none, csum_nil, csum_i, csum_r, csum_j, isc2_i, isc2_r, isc2_n, va_rf_s, vfn_ite, true_and, and_true, true_or, or_true, eq_self, Bool.false_eq_true, not_false_eq_true, not_true_eq_false, if_true, if_false, Nat.reduceAdd, Nat.reduceLeDiff, reduceIte]
      obtain ⟨m, rfl⟩ : ∃ m, n = m + 1 := ⟨n - 1, by omega⟩
      refine lo_rFirst (f := f) hm0 hv0 (fun a2 => ?_) m 1 0 (by omega) (by omega) h1
      simp only [eX9_round_82, eX9_round_83, eX9_round_84, eX9_round_85, cont_some, tl_some, tl_none, csum_nil, csum_i, csum_r, csum_j, isc2_i, isc2_r, isc2_n, va_rf_s, vfn_ite, true_and, and_true, true_or, or_true, eq_self, Bool.false_eq_true, not_false_eq_true, not_true_eq_false, if_true, if_false, Nat.reduceAdd, Nat.reduceLeDiff, reduceIte]
      have := lo_round hz h2 h4 L 0 _ (nI f) (by omega) hm0 hv0 (hz0 _) rfl hF
      rw [if_neg (by have := h4.1; omega)] at this
      exact this
  obtain ⟨r, u, h1, rfl, h2, h3, h4⟩ := sem_wp (nL := 4) (as := [.ref o]) (Nat.le_of_ble_eq_true rfl) hh
  exact ⟨u, h1, h2, h3, h4⟩
