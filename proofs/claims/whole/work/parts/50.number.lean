/-! one number of the tape -/
abbrev nG (T : Tst) (p : Nat) : Prop := sk T p < T.1 ∧ T.2 (sk T p) = 45
def nQ (T : Tst) (p : Nat) : Nat := if nG T p then sk T (sk T p + 1) else sk T p
def nV (T : Tst) (q : Nat) : Nat := if fig T (q + 1) then 10 * (T.2 q - 48) + (T.2 (q + 1) - 48) else T.2 q - 48
def nE (T : Tst) (q : Nat) : Nat := if fig T (q + 1) then q + 2 else q + 1
def nX (T : Tst) (p : Nat) : Int32 := if nG T p then -nI (nV T (nQ T p)) else nI (nV T (nQ T p))
def updD (D : Nat → Int32) (k : Nat) (x : Int32) : Nat → Int32 := fun j => if j = k then x else D j
def numF (T : Tst) (D : Nat → Int32) (k p : Nat) : Int32 := if ¬ fig T (nQ T p) then nI (nQ T p) else if 15 < nV T (nQ T p) then nI (sk T p) else if fig T (nE T (nQ T p)) then nI (nE T (nQ T p)) else if k % 3 = 2 ∧ tldF (updD D k (nX T p)) (k / 3) (k / 3) = true then nI (sk T p) else -1
theorem nQ_le {T : Tst} {p : Nat} (h : p ≤ T.1) : nQ T p ≤ T.1 := by
  have h1 := sk_le h
  unfold nQ
  split
  · rename_i g
    exact (sk_le (show sk T p + 1 ≤ T.1 from g.1)).2
  · exact h1.2
theorem nE_le {T : Tst} {q : Nat} (h : fig T q) : nE T q ≤ T.1 := by
  unfold nE
  split
  · rename_i g; exact g.1
  · exact h.1
theorem tldF_congr {D E : Nat → Int32} {m : Nat} (h : ∀ j, j < 3 * m + 3 → D j = E j) : ∀ j, j ≤ m → tldF D m j = tldF E m j := by
  intro j
  induction j with
  | zero => intro _; rfl
  | succ j ih =>
    intro hj
    show (tldF D m j || decide _) = (tldF E m j || decide _)
    rw [ih (by omega), h _ (by omega), h _ (by omega), h _ (by omega), h _ (by omega), h _ (by omega), h _ (by omega)]
def PN (w : Wd) (t : Nat) (T : Tst) (k p : Nat) (x : Int32) (u : Wd) : Prop := x = numF T (rdI w (t + 2)) k p ∧ CT u t T ∧ Fr t (t + 3) w u ∧ rdI u t 3 = rdI w t 3 ∧ (x = -1 → rdI u t 4 = nI (nE T (nQ T p)) ∧ rdI u (t + 2) = updD (rdI w (t + 2)) k (nX T p))
theorem nI_nm1 {n : Nat} (h : n ≤ 90) : ¬ nI n = -1 := fun z => by
  have := congrArg Int32.toInt z
  rw [nI_T (by omega)] at this
  have e : (-1 : Int32).toInt = -1 := by decide
  omega
theorem PN.fault {w : Wd} {t k p n : Nat} {T : Tst} {q : Int32} (h : CT w t T) (hn : n ≤ 90) (e : nI n = numF T (rdI w (t + 2)) k p) : PN w t T k p (nI n) (wrI w t 4 q) :=
  ⟨e, h.pl, Fr.rf.wrI ⟨by omega, by omega⟩, by rw [rdI_wrI, if_neg (by omega)], fun z => absurd z (nI_nm1 hn)⟩
theorem pn_end {w : Wd} {t i c p : Nat} {T : Tst} {a3 : Int32} (h : CT w t T) (hi : i < 10) (hc : c < 3) (hp : p ≤ T.1) (h3 : a3 = nI (sk T p)) (hf : fig T (nQ T p)) (hv : ¬ 15 < nV T (nQ T p)) (he : ¬ fig T (nE T (nQ T p))) :
    wp mX5_parseNumber 102 [some (.ref t), some (.int (nI i)), some (.int (nI c)), some (.int a3), some (.int (b2i (nG T p))), some (.int (nI (nV T (nQ T p))))] [] (wrI w t 4 (nI (nE T (nQ T p)))) (fun r u => ∃ x, r = some (.int x) ∧ PN w t T (3 * i + c) p x u) := by
  obtain ⟨h1, h2, h3', h5⟩ := h
  have hk := inA_nI (show 3 * i + c < 30 by omega) (show 30 < 2147483648 by omega)
  have ck := nI_clamp (show 3 * i + c < 2 ^ 31 by omega)
  obtain ⟨u, hu⟩ : ∃ u, u = wrI (wrI w t 4 (nI (nE T (nQ T p)))) (t + 2) (3 * i + c) (nX T p) := ⟨_, rfl⟩
  have hu1 : isTp u t := by rw [hu]; exact h1
  have hu2 : CT u t T := by
    rw [hu]
    refine ⟨h1, ?_, h3', fun j hj => ?_⟩
    · rw [rdI_wrI, if_neg (by omega), rdI_wrI, if_neg (by omega)]; exact h2
    · rw [rdI_wrI, if_neg (by omega), rdI_wrI, if_neg (by omega)]; exact h5 j hj
  have hu3 : rdI u (t + 2) = updD (rdI w (t + 2)) (3 * i + c) (nX T p) := by
    funext j
    rw [hu, rdI_wrI]
    unfold updD
    by_cases e : j = 3 * i + c
    · rw [if_pos ⟨rfl, e⟩, if_pos e]
    · rw [if_neg (fun z => e z.2), if_neg e, rdI_wrI, if_neg (by omega)]
  have hu4 : rdI u t 4 = nI (nE T (nQ T p)) := by rw [hu, rdI_wrI, if_neg (by omega), rdI_wrI, if_pos ⟨rfl, rfl⟩]
  have hu5 : rdI u t 3 = rdI w t 3 := by rw [hu, rdI_wrI, if_neg (by omega), rdI_wrI, if_neg (by omega)]
  have hu6 : Fr t (t + 3) w u := by rw [hu]; exact (Fr.rf.wrI ⟨by omega, by omega⟩).wrI ⟨by omega, by omega⟩
  have hnum : numF T (rdI w (t + 2)) (3 * i + c) p = if (3 * i + c) % 3 = 2 ∧ tldF (updD (rdI w (t + 2)) (3 * i + c) (nX T p)) ((3 * i + c) / 3) ((3 * i + c) / 3) = true then nI (sk T p) else -1 := by
    unfold numF
    rw [if_neg (fun z => z hf), if_neg hv, if_neg he]
  have hs9 : sk T p ≤ 90 := Nat.le_trans (sk_le hp).2 h3'
  have e1 : (3 * i + c) / 3 = i := by omega
  rw [e1] at hnum
  have fin_ : wp mX5_parseNumber 125 [some (.ref t), some (.int (nI i)), some (.int (nI c)), some (.int a3), some (.int (b2i (nG T p))), some (.int (nI (nV T (nQ T p))))] [] u (fun r u => ∃ x, r = some (.int x) ∧ PN w t T (3 * i + c) p x u) := by
    by_cases q : c = 2
    · subst q
      have c2 : nI 2 = 2 := rfl
      by_cases z : tldF (updD (rdI w (t + 2)) (3 * i + 2) (nX T p)) i i = true
      · rw [if_pos ⟨by omega, z⟩] at hnum
        have b0 : ¬ b2i (tldF (rdI u (t + 2)) i i = true) = 0 := by rw [b2i_0, hu3]; exact fun y => y z
        simp only [eX5_parseNumber_125, eX5_parseNumber_126, eX5_parseNumber_127, eX5_parseNumber_130, eX5_parseNumber_131, eX5_parseNumber_132, eX5_parseNumber_135, eX5_parseNumber_138, eX5_parseNumber_139, eX5_parseNumber_142, eX5_parseNumber_143, cont_some, tl_some, tl_none, csum_nil, csum_i, csum_r, csum_j, isc2_i, isc2_r, isc2_n, va_rf_s, vfn_ite, true_and, and_true, true_or, or_true, eq_self, Bool.false_eq_true, not_false_eq_true, not_true_eq_false, if_true, if_false, Nat.reduceAdd, Nat.reduceLeDiff, reduceIte, c2, hu1.1, s_toldAhead hu1 hi, b0]
        exact ⟨a3, rfl, by rw [h3, hnum], hu2, hu6, hu5, fun y => absurd (h3 ▸ y) (nI_nm1 hs9)⟩
      · rw [if_neg (fun y => z y.2)] at hnum
        have b0 : b2i (tldF (rdI u (t + 2)) i i = true) = 0 := by rw [b2i_0, hu3]; exact z
        simp only [eX5_parseNumber_125, eX5_parseNumber_126, eX5_parseNumber_127, eX5_parseNumber_130, eX5_parseNumber_131, eX5_parseNumber_132, eX5_parseNumber_135, eX5_parseNumber_138, eX5_parseNumber_139, eX5_parseNumber_142, eX5_parseNumber_143, cont_some, tl_some, tl_none, csum_nil, csum_i, csum_r, csum_j, isc2_i, isc2_r, isc2_n, va_rf_s, vfn_ite, true_and, and_true, true_or, or_true, eq_self, Bool.false_eq_true, not_false_eq_true, not_true_eq_false, if_true, if_false, Nat.reduceAdd, Nat.reduceLeDiff, reduceIte, c2, hu1.1, s_toldAhead hu1 hi, b0]
        exact ⟨-1, rfl, hnum.symm, hu2, hu6, hu5, fun _ => ⟨hu4, hu3⟩⟩
    · have c2 : ¬ nI c = 2 := fun z => q ((nI_is (k := 2) (by omega) (by omega)).mp z)
      rw [if_neg (fun y => by have := y.1; omega)] at hnum
      simp only [eX5_parseNumber_125, eX5_parseNumber_126, eX5_parseNumber_127, eX5_parseNumber_142, eX5_parseNumber_143, cont_some, tl_some, tl_none, csum_nil, csum_i, csum_r, csum_j, isc2_i, isc2_r, isc2_n, va_rf_s, vfn_ite, true_and, and_true, true_or, or_true, eq_self, Bool.false_eq_true, not_false_eq_true, not_true_eq_false, if_true, if_false, Nat.reduceAdd, Nat.reduceLeDiff, reduceIte, c2]
      exact ⟨-1, rfl, hnum.symm, hu2, hu6, hu5, fun _ => ⟨hu4, hu3⟩⟩
  rw [hu] at fin_
  by_cases g : nG T p
  · have b0 : ¬ b2i (nG T p) = 0 := by rw [b2i_0]; exact fun y => y g
    have ex : nX T p = -nI (nV T (nQ T p)) := if_pos g
    rw [ex] at fin_
    simp only [eX5_parseNumber_102, eX5_parseNumber_103, eX5_parseNumber_106, eX5_parseNumber_107, eX5_parseNumber_108, eX5_parseNumber_109, eX5_parseNumber_110, eX5_parseNumber_111, eX5_parseNumber_113, eX5_parseNumber_116, eX5_parseNumber_118, eX5_parseNumber_119, eX5_parseNumber_122, eX5_parseNumber_124, cont_some, tl_some, tl_none, csum_nil, csum_i, csum_r, csum_j, isc2_i, isc2_r, isc2_n, va_rf_s, vfn_ite, true_and, and_true, true_or, or_true, eq_self, Bool.false_eq_true, not_false_eq_true, not_true_eq_false, if_true, if_false, Nat.reduceAdd, Nat.reduceLeDiff, reduceIte, shp_wrI, rdR_wrI, h1.1, h1.2.2.1, h1.2.2.2.2, nI_m3, nI_a, b0, hk, ck]
    exact fin_
  · have b0 : b2i (nG T p) = 0 := b2i_f g
    have ex : nX T p = nI (nV T (nQ T p)) := if_neg g
    rw [ex] at fin_
    rw [b0] at fin_ ⊢
    simp only [eX5_parseNumber_102, eX5_parseNumber_103, eX5_parseNumber_106, eX5_parseNumber_107, eX5_parseNumber_108, eX5_parseNumber_109, eX5_parseNumber_110, eX5_parseNumber_111, eX5_parseNumber_113, eX5_parseNumber_116, eX5_parseNumber_118, eX5_parseNumber_119, eX5_parseNumber_122, eX5_parseNumber_124, cont_some, tl_some, tl_none, csum_nil, csum_i, csum_r, csum_j, isc2_i, isc2_r, isc2_n, va_rf_s, vfn_ite, true_and, and_true, true_or, or_true, eq_self, Bool.false_eq_true, not_false_eq_true, not_true_eq_false, if_true, if_false, Nat.reduceAdd, Nat.reduceLeDiff, reduceIte, shp_wrI, rdR_wrI, h1.1, h1.2.2.1, h1.2.2.2.2, nI_m3, nI_a, hk, ck]
    exact fin_
theorem nV_le {T : Tst} {q : Nat} (h : fig T q) : nV T q ≤ 99 := by
  unfold nV
  have h2 := h.2.2
  split
  · rename_i g; have := g.2.2; omega
  · omega
theorem pn_44 {w : Wd} {t i c p : Nat} {T : Tst} {a3 : Int32} {a5 : Option Value} (h : CT w t T) (hi : i < 10) (hc : c < 3) (hp : p ≤ T.1) (h3 : a3 = nI (sk T p)) :
    wp mX5_parseNumber 44 [some (.ref t), some (.int (nI i)), some (.int (nI c)), some (.int a3), some (.int (b2i (nG T p))), a5] [] (wrI w t 4 (nI (nQ T p))) (fun r u => ∃ x, r = some (.int x) ∧ PN w t T (3 * i + c) p x u) := by
  have hT := h.1
  have h9 := h.2.2.1
  have hq := nQ_le hp
  have hs := (sk_le hp).2
  have rd : ∀ n, rdI (wrI w t 4 (nI n)) t 4 = nI n := fun n => by rw [rdI_wrI, if_pos ⟨rfl, rfl⟩]
  have f1 := s_isFig (h.pl (x := nI (nQ T p))) (rd _) hq
  by_cases hf : fig T (nQ T p)
  · have b1 : ¬ b2i (fig T (nQ T p)) = 0 := by rw [b2i_0]; exact fun y => y hf
    have t1 := s_takeFig (h.pl (x := nI (nQ T p))) (rd _) hf
    rw [wrI_wrI] at t1
    have f2 := s_isFig (h.pl (x := nI (nQ T p + 1))) (rd _) hf.1
    have go : wp mX5_parseNumber 81 [some (.ref t), some (.int (nI i)), some (.int (nI c)), some (.int a3), some (.int (b2i (nG T p))), some (.int (nI (nV T (nQ T p))))] [] (wrI w t 4 (nI (nE T (nQ T p)))) (fun r u => ∃ x, r = some (.int x) ∧ PN w t T (3 * i + c) p x u) := by
      have vle := nV_le hf
      have e15 : 15 < nI (nV T (nQ T p)) ↔ 15 < nV T (nQ T p) := nI_lti (a := 15) (by omega) (by omega)
      have ele := nE_le hf
      have f3 := s_isFig (h.pl (x := nI (nE T (nQ T p)))) (rd _) ele
      by_cases v : 15 < nV T (nQ T p)
      · have v' := e15.mpr v
        simp only [eX5_parseNumber_81, eX5_parseNumber_83, eX5_parseNumber_85, eX5_parseNumber_88, eX5_parseNumber_89, cont_some, tl_some, tl_none, csum_nil, csum_i, csum_r, csum_j, isc2_i, isc2_r, isc2_n, va_rf_s, vfn_ite, true_and, and_true, true_or, or_true, eq_self, Bool.false_eq_true, not_false_eq_true, not_true_eq_false, if_true, if_false, Nat.reduceAdd, Nat.reduceLeDiff, reduceIte, v']
        refine ⟨a3, rfl, ?_⟩
        rw [h3]
        exact PN.fault h (by omega) (by unfold numF; rw [if_neg (fun z => z hf), if_pos v])
      · have v' : ¬ 15 < nI (nV T (nQ T p)) := fun z => v (e15.mp z)
        by_cases e : fig T (nE T (nQ T p))
        · have b3 : ¬ b2i (fig T (nE T (nQ T p))) = 0 := by rw [b2i_0]; exact fun y => y e
          simp only [eX5_parseNumber_81, eX5_parseNumber_83, eX5_parseNumber_85, eX5_parseNumber_88, eX5_parseNumber_89, eX5_parseNumber_90, eX5_parseNumber_91, eX5_parseNumber_94, eX5_parseNumber_97, eX5_parseNumber_98, eX5_parseNumber_101, cont_some, tl_some, tl_none, csum_nil, csum_i, csum_r, csum_j, isc2_i, isc2_r, isc2_n, va_rf_s, vfn_ite, true_and, and_true, true_or, or_true, eq_self, Bool.false_eq_true, not_false_eq_true, not_true_eq_false, if_true, if_false, Nat.reduceAdd, Nat.reduceLeDiff, reduceIte, v', shp_wrI, hT.1, f3, b3, rd]
          exact ⟨_, rfl, PN.fault h (by omega) (by unfold numF; rw [if_neg (fun z => z hf), if_neg v, if_pos e])⟩
        · have b3 : b2i (fig T (nE T (nQ T p))) = 0 := b2i_f e
          simp only [eX5_parseNumber_81, eX5_parseNumber_83, eX5_parseNumber_85, eX5_parseNumber_88, eX5_parseNumber_89, eX5_parseNumber_90, eX5_parseNumber_91, eX5_parseNumber_94, cont_some, tl_some, tl_none, csum_nil, csum_i, csum_r, csum_j, isc2_i, isc2_r, isc2_n, va_rf_s, vfn_ite, true_and, and_true, true_or, or_true, eq_self, Bool.false_eq_true, not_false_eq_true, not_true_eq_false, if_true, if_false, Nat.reduceAdd, Nat.reduceLeDiff, reduceIte, v', shp_wrI, hT.1, f3, b3]
          exact pn_end h hi hc hp h3 hf v e
    by_cases g : fig T (nQ T p + 1)
    · have b2 : ¬ b2i (fig T (nQ T p + 1)) = 0 := by rw [b2i_0]; exact fun y => y g
      have t2 := s_takeFig (h.pl (x := nI (nQ T p + 1))) (rd _) g
      rw [wrI_wrI] at t2
      have ev : nV T (nQ T p) = 10 * (T.2 (nQ T p) - 48) + (T.2 (nQ T p + 1) - 48) := if_pos g
      have ee : nE T (nQ T p) = nQ T p + 1 + 1 := if_pos g
      rw [ev, ee] at go
      have p10 : (10 : Int32) = nI 10 := rfl
      simp only [eX5_parseNumber_44, eX5_parseNumber_45, eX5_parseNumber_48, eX5_parseNumber_51, eX5_parseNumber_52, eX5_parseNumber_55, eX5_parseNumber_56, eX5_parseNumber_57, eX5_parseNumber_60, eX5_parseNumber_62, eX5_parseNumber_63, eX5_parseNumber_66, cont_some, tl_some, tl_none, csum_nil, csum_i, csum_r, csum_j, isc2_i, isc2_r, isc2_n, va_rf_s, vfn_ite, true_and, and_true, true_or, or_true, eq_self, Bool.false_eq_true, not_false_eq_true, not_true_eq_false, if_true, if_false, Nat.reduceAdd, Nat.reduceLeDiff, reduceIte, shp_wrI, hT.1, f1, b1, t1, f2, b2]
      simp only [eX5_parseNumber_69, eX5_parseNumber_71, eX5_parseNumber_73, eX5_parseNumber_74, eX5_parseNumber_75, eX5_parseNumber_78, eX5_parseNumber_79, cont_some, tl_some, tl_none, csum_nil, csum_i, csum_r, csum_j, isc2_i, isc2_r, isc2_n, va_rf_s, vfn_ite, true_and, and_true, true_or, or_true, eq_self, Bool.false_eq_true, not_false_eq_true, not_true_eq_false, if_true, if_false, Nat.reduceAdd, Nat.reduceLeDiff, reduceIte, shp_wrI, hT.1, t2, p10, pk_mul, nI_a]
      exact go
    · have b2 : b2i (fig T (nQ T p + 1)) = 0 := b2i_f g
      have ev : nV T (nQ T p) = T.2 (nQ T p) - 48 := if_neg g
      have ee : nE T (nQ T p) = nQ T p + 1 := if_neg g
      rw [ev, ee] at go
      simp only [eX5_parseNumber_44, eX5_parseNumber_45, eX5_parseNumber_48, eX5_parseNumber_51, eX5_parseNumber_52, eX5_parseNumber_55, eX5_parseNumber_56, eX5_parseNumber_57, eX5_parseNumber_60, eX5_parseNumber_62, eX5_parseNumber_63, eX5_parseNumber_66, cont_some, tl_some, tl_none, csum_nil, csum_i, csum_r, csum_j, isc2_i, isc2_r, isc2_n, va_rf_s, vfn_ite, true_and, and_true, true_or, or_true, eq_self, Bool.false_eq_true, not_false_eq_true, not_true_eq_false, if_true, if_false, Nat.reduceAdd, Nat.reduceLeDiff, reduceIte, shp_wrI, hT.1, f1, b1, t1, f2, b2]
      exact go
  · have b1 : b2i (fig T (nQ T p)) = 0 := b2i_f hf
    simp only [eX5_parseNumber_44, eX5_parseNumber_45, eX5_parseNumber_48, eX5_parseNumber_51, eX5_parseNumber_52, eX5_parseNumber_55, cont_some, tl_some, tl_none, csum_nil, csum_i, csum_r, csum_j, isc2_i, isc2_r, isc2_n, va_rf_s, vfn_ite, true_and, and_true, true_or, or_true, eq_self, Bool.false_eq_true, not_false_eq_true, not_true_eq_false, if_true, if_false, Nat.reduceAdd, Nat.reduceLeDiff, reduceIte, shp_wrI, hT.1, f1, b1, rd]
    exact ⟨_, rfl, PN.fault h (by omega) (by unfold numF; rw [if_pos hf])⟩
theorem s_parseNumber {w : Wd} {t i c p : Nat} {T : Tst} (h : CT w t T) (h4 : rdI w t 4 = nI p) (hi : i < 10) (hc : c < 3) (hp : p ≤ T.1) : ∃ x u, fX5_parseNumber [.ref t, .int (nI i), .int (nI c)] w = some (some (.int x), u) ∧ PN w t T (3 * i + c) p x u := by
  have hT := h.1
  have h9 := h.2.2.1
  have hs := sk_le hp
  have rd : ∀ n, rdI (wrI w t 4 (nI n)) t 4 = nI n := fun n => by rw [rdI_wrI, if_pos ⟨rfl, rfl⟩]
  have k1 := s_skip h h4 hp
  have l1 := s_letter (h.pl (x := nI (sk T p))) (rd _) hs.2
  have go := fun a5 => pn_44 (a5 := a5) h hi hc hp rfl
  have hh : wp mX5_parseNumber 0 [some (.ref t), some (.int (nI i)), some (.int (nI c)), none, none, none] [] w (fun r u => ∃ x, r = some (.int x) ∧ PN w t T (3 * i + c) p x u) := by
    by_cases g : nG T p
    · have e : ltr T (sk T p) 0 = 45 := by unfold ltr; rw [if_pos g.1, g.2]; rfl
      have k2 := s_skip (h.pl (x := nI (sk T p + 1))) (rd _) (show sk T p + 1 ≤ T.1 from g.1)
      rw [wrI_wrI] at k2
      have eb : b2i (nG T p) = 1 := b2i_t g
      have eq : nQ T p = sk T (sk T p + 1) := if_pos g
      rw [eb, eq] at go
      have n10 : ¬ (1 : Int32) = 0 := by decide
      simp only [eX5_parseNumber_0, eX5_parseNumber_1, eX5_parseNumber_4, eX5_parseNumber_5, eX5_parseNumber_8, eX5_parseNumber_9, eX5_parseNumber_10, eX5_parseNumber_13, eX5_parseNumber_15, eX5_parseNumber_18, eX5_parseNumber_19, eX5_parseNumber_22, eX5_parseNumber_23, eX5_parseNumber_25, eX5_parseNumber_27, eX5_parseNumber_30, eX5_parseNumber_31, eX5_parseNumber_31i, eX5_parseNumber_32, eX5_parseNumber_35, eX5_parseNumber_36, eX5_parseNumber_37, eX5_parseNumber_40, eX5_parseNumber_41, cont_some, tl_some, tl_none, csum_nil, csum_i, csum_r, csum_j, isc2_i, isc2_r, isc2_n, va_rf_s, vfn_ite, true_and, and_true, true_or, or_true, eq_self, Bool.false_eq_true, not_false_eq_true, not_true_eq_false, if_true, if_false, Nat.reduceAdd, Nat.reduceLeDiff, reduceIte, shp_wrI, hT.1, k1, rd, l1, e, n10, nI_1, wrI_wrI, k2]
      exact go _
    · have e : ¬ ltr T (sk T p) 0 = 45 := by
        unfold ltr
        by_cases q : sk T p < T.1
        · rw [if_pos q]
          exact fun z => g ⟨q, (nI_is (k := 45) (h.2.2.2 _ q).2.2 (by omega)).mp z⟩
        · rw [if_neg q]; decide
      have eb : b2i (nG T p) = 0 := b2i_f g
      have eq : nQ T p = sk T p := if_neg g
      rw [eb, eq] at go
      simp only [eX5_parseNumber_0, eX5_parseNumber_1, eX5_parseNumber_4, eX5_parseNumber_5, eX5_parseNumber_8, eX5_parseNumber_9, eX5_parseNumber_10, eX5_parseNumber_13, eX5_parseNumber_15, eX5_parseNumber_18, eX5_parseNumber_19, eX5_parseNumber_22, eX5_parseNumber_23, eX5_parseNumber_25, eX5_parseNumber_27, cont_some, tl_some, tl_none, csum_nil, csum_i, csum_r, csum_j, isc2_i, isc2_r, isc2_n, va_rf_s, vfn_ite, true_and, and_true, true_or, or_true, eq_self, Bool.false_eq_true, not_false_eq_true, not_true_eq_false, if_true, if_false, Nat.reduceAdd, Nat.reduceLeDiff, reduceIte, shp_wrI, hT.1, k1, rd, l1, e]
      exact go _
  obtain ⟨r, u, h1, x, rfl, h2⟩ := sem_wp (nL := 6) (as := [.ref t, .int (nI i), .int (nI c)]) (Nat.le_of_ble_eq_true rfl) hh
  exact ⟨x, u, h1, h2⟩
