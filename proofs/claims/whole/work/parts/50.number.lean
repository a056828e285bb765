/-! one number of the tape -/
abbrev nG (T : Tst) (p : Nat) : Prop := sk T p < T.1 ∧ T.2 (sk T p) = 45
def nQ (T : Tst) (p : Nat) : Nat := if nG T p then sk T (sk T p + 1) else sk T p
def nV (T : Tst) (q : Nat) : Nat := if fig T (q + 1) then 10 * (T.2 q - 48) + (T.2 (q + 1) - 48) else T.2 q - 48
def nE (T : Tst) (q : Nat) : Nat := if fig T (q + 1) then q + 2 else q + 1
def nX (T : Tst) (p : Nat) : Int32 := if nG T p then -nI (nV T (nQ T p)) else nI (nV T (nQ T p))
def updD (D : Nat → Int32) (k : Nat) (x : Int32) : Nat → Int32 := fun j => if j = k then x else D j
def numF (T : Tst) (D : Nat → Int32) (k p : Nat) : Int32 := if ¬ fig T (nQ T p) then nI (nQ T p) else if 15 < nV T (nQ T p) then nI (sk T p) else if fig T (nE T (nQ T p)) then nI (nE T (nQ T p)) else if k % 3 = 2 ∧ tldF (updD D k (nX T p)) (k / 3) (k / 3) = true then nI (sk T p) else -1
theorem nQ_le {T : Tst} {p : Nat} (h : p ≤ T.1) : nQ T p ≤ T.1 := by
  have h1 := sk_le h
  unfold nQ
  split
  · rename_i g
    exact (sk_le (show sk T p + 1 ≤ T.1 from g.1)).2
  · exact h1.2
theorem nE_le {T : Tst} {q : Nat} (h : fig T q) : nE T q ≤ T.1 := by
  unfold nE
  split
  · rename_i g; exact g.1
  · exact h.1
theorem tldF_congr {D E : Nat → Int32} {m : Nat} (h : ∀ j, j < 3 * m + 3 → D j = E j) : ∀ j, j ≤ m → tldF D m j = tldF E m j := by
  intro j
  induction j with
  | zero => intro _; rfl
  | succ j ih =>
    intro hj
    show (tldF D m j || decide _) = (tldF E m j || decide _)
    rw [ih (by omega), h _ (by omega), h _ (by omega), h _ (by omega), h _ (by omega), h _ (by omega), h _ (by omega)]
def PN (w : Wd) (t : Nat) (T : Tst) (k p : Nat) (x : Int32) (u : Wd) : Prop := x = numF T (rdI w (t + 2)) k p ∧ CT u t T ∧ Fr t (t + 3) w u ∧ rdI u t 3 = rdI w t 3 ∧ (x = -1 → rdI u t 4 = nI (nE T (nQ T p)) ∧ rdI u (t + 2) = updD (rdI w (t + 2)) k (nX T p))
theorem nI_nm1 {n : Nat} (h : n ≤ 90) : ¬ nI n = -1 := fun z => by
  have := congrArg Int32.toInt z
  rw [nI_T (by omega)] at this
  have e : (-1 : Int32).toInt = -1 := by decide
  omega
theorem PN.fault {w : Wd} {t k p n : Nat} {T : Tst} {q : Int32} (h : CT w t T) (hn : n ≤ 90) (e : nI n = numF T (rdI w (t + 2)) k p) : PN w t T k p (nI n) (wrI w t 4 q) :=
  ⟨e, h.pl, Fr.rf.wrI ⟨by omega, by omega⟩, by rw [rdI_wrI, if_neg (by omega)], fun z => absurd z (nI_nm1 hn)⟩
theorem pn_end {w : Wd} {t i c p : Nat} {T : Tst} {a3 : Int32} (h : CT w t T) (hi : i < 10) (hc : c < 3) (hp : p ≤ T.1) (h3 : a3 = nI (sk T p)) (hf : fig T (nQ T p)) (hv : ¬ 15 < nV T (nQ T p)) (he : ¬ fig T (nE T (nQ T p))) :
    wp mX5_parseNumber 102 [some (.ref t), some (.int (nI i)), some (.int (nI c)), some (.int a3), some (.int (b2i (nG T p))), some (.int (nI (nV T (nQ T p))))] [] (wrI w t 4 (nI (nE T (nQ T p)))) (fun r u => ∃ x, r = some (.int x) ∧ PN w t T (3 * i + c) p x u) := by
  obtain ⟨h1, h2, h3', h5⟩ := h
  have hk := inA_nI (show 3 * i + c < 30 by omega) (show 30 < 2147483648 by omega)
  have ck := nI_clamp (show 3 * i + c < 2 ^ 31 by omega)
  obtain ⟨u, hu⟩ : ∃ u, u = wrI (wrI w t 4 (nI (nE T (nQ T p)))) (t + 2) (3 * i + c) (nX T p) := ⟨_, rfl⟩
  have hu1 : isTp u t := by rw [hu]; exact h1
  have hu2 : CT u t T := by
    rw [hu]
    refine ⟨h1, ?_, h3', fun j hj => ?_⟩
    · rw [rdI_wrI, if_neg (by omega), rdI_wrI, if_neg (by omega)]; exact h2
    · rw [rdI_wrI, if_neg (by omega), rdI_wrI, if_neg (by omega)]; exact h5 j hj
  have hu3 : rdI u (t + 2) = updD (rdI w (t + 2)) (3 * i + c) (nX T p) := by
    funext j
    rw [hu, rdI_wrI]
    unfold updD
    by_cases e : j = 3 * i + c
    · rw [if_pos ⟨rfl, e⟩, if_pos e]
    · rw [if_neg (fun z => e z.2), if_neg e, rdI_wrI, if_neg (by omega)]
  have hu4 : rdI u t 4 = nI (nE T (nQ T p)) := by rw [hu, rdI_wrI, if_neg (by omega), rdI_wrI, if_pos ⟨rfl, rfl⟩]
  have hu5 : rdI u t 3 = rdI w t 3 := by rw [hu, rdI_wrI, if_neg (by omega), rdI_wrI, if_neg (by omega)]
  have hu6 : Fr t (t + 3) w u := by rw [hu]; exact (Fr.rf.wrI ⟨by omega, by omega⟩).wrI ⟨by omega, by omega⟩
  have hnum : numF T (rdI w (t + 2)) (3 * i + c) p = if (3 * i + c) % 3 = 2 ∧ tldF (updD (rdI w (t + 2)) (3 * i + c) (nX T p)) ((3 * i + c) / 3) ((3 * i + c) / 3) = true then nI (sk T p) else -1 := by
    unfold numF
    rw [if_neg (fun z => z hf), if_neg hv, if_neg he]
  have hs9 : sk T p ≤ 90 := Nat.le_trans (sk_le hp).2 h3'
  have e1 : (3 * i + c) / 3 = i := by omega
  rw [e1] at hnum
  have fin_ : wp mX5_parseNumber 125 [some (.ref t), some (.int (nI i)), some (.int (nI c)), some (.int a3), some (.int (b2i (nG T p))), some (.int (nI (nV T (nQ T p))))] [] u (fun r u => ∃ x, r = some (.int x) ∧ PN w t T (3 * i + c) p x u) := by
    by_cases q : c = 2
    · subst q
      have c2 : nI 2 = 2 := rfl
      by_cases z : tldF (updD (rdI w (t + 2)) (3 * i + 2) (nX T p)) i i = true
      · rw [if_pos ⟨by omega, z⟩] at hnum
        have b0 : ¬ b2i (tldF (rdI u (t + 2)) i i = true) = 0 := by rw [b2i_0, hu3]; exact fun y => y z
        simp only [eX5_parseNumber_125, eX5_parseNumber_126, eX5_parseNumber_127, eX5_parseNumber_130, eX5_parseNumber_131, eX5_parseNumber_132, eX5_parseNumber_135, eX5_parseNumber_138, eX5_parseNumber_139, eX5_parseNumber_142, eX5_parseNumber_143, cont_some, tl_some, tl_none, csum_nil, csum_i, csum_r, csum_j, isc2_i, isc2_r, isc2_n, va_rf_s, vfn_ite, true_and, and_true, true_or, or_true, eq_self, Bool.false_eq_true, not_false_eq_true, not_true_eq_false, if_true, if_false, Nat.reduceAdd, Nat.reduceLeDiff, reduceIte, c2, hu1.1, s_toldAhead hu1 hi, b0]
        exact ⟨a3, rfl, by rw [h3, hnum], hu2, hu6, hu5, fun y => absurd (h3 ▸ y) (nI_nm1 hs9)⟩
      · rw [if_neg (fun y => z y.2)] at hnum
        have b0 : b2i (tldF (rdI u (t + 2)) i i = true) = 0 := by rw [b2i_0, hu3]; exact z
        simp only [eX5_parseNumber_125, eX5_parseNumber_126, eX5_parseNumber_127, eX5_parseNumber_130, eX5_parseNumber_131, eX5_parseNumber_132, eX5_parseNumber_135, eX5_parseNumber_138, eX5_parseNumber_139, eX5_parseNumber_142, eX5_parseNumber_143, cont_some, tl_some, tl_none, csum_nil, csum_i, csum_r, csum_j, isc2_i, isc2_r, isc2_n, va_rf_s, vfn_ite, true_and, and_true, true_or, or_true, eq_self, Bool.false_eq_true, not_false_eq_true, not_true_eq_false, if_true, if_false, Nat.reduceAdd, Nat.reduceLeDiff, reduceIte, c2, hu1.1, s_toldAhead hu1 hi, b0]
        exact ⟨-1, rfl, hnum.symm, hu2, hu6, hu5, fun _ => ⟨hu4, hu3⟩⟩
    · have c2 : ¬ nI c = 2 := fun z => q ((nI_is (k := 2) (by omega) (by omega)).mp z)
      rw [if_neg (fun y => by have := y.1; omega)] at hnum
      simp only [eX5_parseNumber_125, eX5_parseNumber_126, eX5_parseNumber_127, eX5_parseNumber_142, eX5_parseNumber_143, cont_some, tl_some, tl_none, csum_nil, csum_i, csum_r, csum_j, isc2_i, isc2_r, isc2_n, va_rf_s, vfn_ite, true_and, and_true, true_or, or_true, eq_self, Bool.false_eq_true, not_false_eq_true, not_true_eq_false, if_true, if_false, Nat.reduceAdd, Nat.reduceLeDiff, reduceIte, c2]
      exact ⟨-1, rfl, hnum.symm, hu2, hu6, hu5, fun _ => ⟨hu4, hu3⟩⟩
  rw [hu] at fin_
  by_cases g : nG T p
  · have b0 : ¬ b2i (nG T p) = 0 := by rw [b2i_0]; exact fun y => y g
    have ex : nX T p = -nI (nV T (nQ T p)) := if_pos g
    rw [ex] at fin_
    simp only [eX5_parseNumber_102, eX5_parseNumber_103, eX5_parseNumber_106, eX5_parseNumber_107, eX5_parseNumber_108, eX5_parseNumber_109, eX5_parseNumber_110, eX5_parseNumber_111, eX5_parseNumber_113, eX5_parseNumber_116, eX5_parseNumber_118, eX5_parseNumber_119, eX5_parseNumber_122, eX5_parseNumber_124, cont_some, tl_some, tl_none, csum_nil, csum_i, csum_r, csum_j, isc2_i, isc2_r, isc2_n, va_rf_s, vfn_ite, true_and, and_true, true_or, or_true, eq_self, Bool.false_eq_true, not_false_eq_true, not_true_eq_false, if_true, if_false, Nat.reduceAdd, Nat.reduceLeDiff, reduceIte, shp_wrI, rdR_wrI, h1.1, h1.2.2.1, h1.2.2.2.2, nI_m3, nI_a, b0, hk, ck]
    exact fin_
  · have b0 : b2i (nG T p) = 0 := b2i_f g
    have ex : nX T p = nI (nV T (nQ T p)) := if_neg g
    rw [ex] at fin_
    rw [b0] at fin_ ⊢
    simp only [eX5_parseNumber_102, eX5_parseNumber_103, eX5_parseNumber_106, eX5_parseNumber_107, eX5_parseNumber_108, eX5_parseNumber_109, eX5_parseNumber_110, eX5_parseNumber_111, eX5_parseNumber_113, eX5_parseNumber_116, eX5_parseNumber_118, eX5_parseNumber_119, eX5_parseNumber_122, eX5_parseNumber_124, cont_some, tl_some, tl_none, csum_nil, csum_i, csum_r, csum_j, isc2_i, isc2_r, isc2_n, va_rf_s, vfn_ite, true_and, and_true, true_or, or_true, eq_self, Bool.false_eq_true, not_false_eq_true, not_true_eq_false, if_true, if_false, Nat.reduceAdd, Nat.reduceLeDiff, reduceIte, shp_wrI, rdR_wrI, h1.1, h1.2.2.1, h1.2.2.2.2, nI_m3, nI_a, hk, ck]
    exact fin_
