/-! the whole tape, number by number -/
abbrev Rst : Type := Int32 × Nat × (Nat → Int32)
def parF (T : Tst) : Nat → Nat → (Nat → Int32) → Nat → Rst
  | 0, k, D, _ => (0, k, D)
  | f + 1, k, D, p => if ¬ numF T D k p = -1 then (numF T D k p, k, D) else
      if (k + 1) % 3 = 0 then (if sk T (nE T (nQ T p)) < T.1 then (if T.2 (sk T (nE T (nQ T p))) = 59 ∧ ¬ k + 1 = 30 then parF T f (k + 1) (updD D k (nX T p)) (sk T (nE T (nQ T p)) + 1) else (nI (sk T (nE T (nQ T p))), k + 1, updD D k (nX T p))) else (-1, k + 1, updD D k (nX T p)))
      else if sk T (nE T (nQ T p)) < T.1 ∧ T.2 (sk T (nE T (nQ T p))) = 44 then parF T f (k + 1) (updD D k (nX T p)) (sk T (nE T (nQ T p)) + 1) else (nI (sk T (nE T (nQ T p))), k + 1, updD D k (nX T p))
def aftF (T : Tst) (f k : Nat) (D : Nat → Int32) (e : Nat) : Rst :=
      if k % 3 = 0 then (if sk T e < T.1 then (if T.2 (sk T e) = 59 ∧ ¬ k = 30 then parF T f k D (sk T e + 1) else (nI (sk T e), k, D)) else (-1, k, D))
      else if sk T e < T.1 ∧ T.2 (sk T e) = 44 then parF T f k D (sk T e + 1) else (nI (sk T e), k, D)
theorem parF_s {T : Tst} {f k : Nat} {D : Nat → Int32} {p : Nat} : parF T (f + 1) k D p = if ¬ numF T D k p = -1 then (numF T D k p, k, D) else aftF T f (k + 1) (updD D k (nX T p)) (nE T (nQ T p)) := rfl
theorem numF_fig {T : Tst} {D : Nat → Int32} {k p : Nat} (hp : p ≤ T.1) (h9 : T.1 ≤ 90) (h : numF T D k p = -1) : fig T (nQ T p) ∧ ¬ 15 < nV T (nQ T p) := by
  have hq := nQ_le hp
  have hs := (sk_le hp).2
  unfold numF at h
  by_cases q : fig T (nQ T p)
  · rw [if_neg (fun z => z q)] at h
    by_cases v : 15 < nV T (nQ T p)
    · rw [if_pos v] at h
      exact absurd h (nI_nm1 (by omega))
    · exact ⟨q, v⟩
  · rw [if_pos q] at h
    exact absurd h (nI_nm1 (by omega))
def PQ (w0 : Wd) (t i : Nat) (T : Tst) (R : Rst) : Option Value → Wd → Prop := fun r u => ∃ x, r = some (.int x) ∧ CT u t T ∧ Fr t (t + 3) w0 u ∧ rdI u t 3 = rdI w0 t 3 ∧ ((¬ x = -1 ∧ R.1 = x) ∨ (x = -1 ∧ ∃ e, e ≤ T.1 ∧ rdI u t 4 = nI e ∧ aftF T (30 - (3 * i + 3)) (3 * i + 3) (rdI u (t + 2)) e = R))
theorem pp_39 {w0 w : Wd} {t i c p : Nat} {T : Tst} {R : Rst} {a3 : Option Value} (h : CT w t T) (hF : Fr t (t + 3) w0 w) (h3 : rdI w t 3 = rdI w0 t 3) (hi : i < 10) (hc : c < 3) (hp : p ≤ T.1) (h4 : rdI w t 4 = nI p) (hR : parF T (30 - (3 * i + c)) (3 * i + c) (rdI w (t + 2)) p = R)
    (next : ∀ u, CT u t T → Fr t (t + 3) w0 u → rdI u t 3 = rdI w0 t 3 → ∀ e, e ≤ T.1 → rdI u t 4 = nI e → aftF T (30 - (3 * i + c + 1)) (3 * i + c + 1) (rdI u (t + 2)) e = R → ∀ a3, wp mX5_parsePoint 2 [some (.ref t), some (.int (nI i)), some (.int (nI (c + 1))), a3] [] u (PQ w0 t i T R)) :
    wp mX5_parsePoint 39 [some (.ref t), some (.int (nI i)), some (.int (nI c)), a3] [] w (PQ w0 t i T R) := by
  have h1 := h.1
  obtain ⟨x, u, hx, p1, p2, p3, p4, p5⟩ := s_parseNumber h h4 hi hc hp
  obtain ⟨f, hf⟩ : ∃ f, 30 - (3 * i + c) = f + 1 := ⟨30 - (3 * i + c) - 1, by omega⟩
  have ef : f = 30 - (3 * i + c + 1) := by omega
  rw [hf, parF_s, ← p1] at hR
  by_cases q : x = -1
  · rw [if_neg (fun z => z q)] at hR
    obtain ⟨p6, p7⟩ := p5 q
    have hfg := (numF_fig hp h.2.2.1 (p1.symm.trans q)).1
    have nx := next u p2 (hF.tr p3) (p4.trans h3) _ (nE_le hfg) p6 (by rw [p7, ← ef]; exact hR)
    subst q
    simp only [eX5_parsePoint_39, eX5_parsePoint_40, eX5_parsePoint_41, eX5_parsePoint_42, eX5_parsePoint_45, eX5_parsePoint_46, eX5_parsePoint_47, eX5_parsePoint_48, eX5_parsePoint_51, eX5_parsePoint_52, eX5_parsePoint_53, cont_some, tl_some, tl_none, csum_nil, csum_i, csum_r, csum_j, isc2_i, isc2_r, isc2_n, va_rf_s, vfn_ite, true_and, and_true, true_or, or_true, eq_self, Bool.false_eq_true, not_false_eq_true, not_true_eq_false, if_true, if_false, Nat.reduceAdd, Nat.reduceLeDiff, reduceIte, h1.1, hx, nI_1]
    rw [eX5_parsePoint_56]
    exact nx _
  · rw [if_pos q] at hR
    simp only [eX5_parsePoint_39, eX5_parsePoint_40, eX5_parsePoint_41, eX5_parsePoint_42, eX5_parsePoint_45, eX5_parsePoint_46, eX5_parsePoint_47, eX5_parsePoint_48, eX5_parsePoint_51, eX5_parsePoint_52, cont_some, tl_some, tl_none, csum_nil, csum_i, csum_r, csum_j, isc2_i, isc2_r, isc2_n, va_rf_s, vfn_ite, true_and, and_true, true_or, or_true, eq_self, Bool.false_eq_true, not_false_eq_true, not_true_eq_false, if_true, if_false, Nat.reduceAdd, Nat.reduceLeDiff, reduceIte, h1.1, hx, q]
    exact ⟨x, rfl, p2, hF.tr p3, p4.trans h3, Or.inl ⟨q, by rw [← hR]⟩⟩
theorem pp_2 {w0 w : Wd} {t i c e : Nat} {T : Tst} {R : Rst} {a3 : Option Value} (h : CT w t T) (hF : Fr t (t + 3) w0 w) (h3 : rdI w t 3 = rdI w0 t 3) (hi : i < 10) (hc : c < 3) (hc0 : 0 < c) (he : e ≤ T.1) (h4 : rdI w t 4 = nI e) (hR : aftF T (30 - (3 * i + c)) (3 * i + c) (rdI w (t + 2)) e = R)
    (next : ∀ u, CT u t T → Fr t (t + 3) w0 u → rdI u t 3 = rdI w0 t 3 → ∀ e, e ≤ T.1 → rdI u t 4 = nI e → aftF T (30 - (3 * i + c + 1)) (3 * i + c + 1) (rdI u (t + 2)) e = R → ∀ a3, wp mX5_parsePoint 2 [some (.ref t), some (.int (nI i)), some (.int (nI (c + 1))), a3] [] u (PQ w0 t i T R)) :
    wp mX5_parsePoint 2 [some (.ref t), some (.int (nI i)), some (.int (nI c)), a3] [] w (PQ w0 t i T R) := by
  have h1 := h.1
  have hs := sk_le he
  have h9 := h.2.2.1
  have rd : ∀ n, rdI (wrI w t 4 (nI n)) t 4 = nI n := fun n => by rw [rdI_wrI, if_pos ⟨rfl, rfl⟩]
  have rt : ∀ n, rdI (wrI w t 4 (nI n)) (t + 2) = rdI w (t + 2) := fun n => by funext j; rw [rdI_wrI, if_neg (by omega)]
  have r3 : ∀ n, rdI (wrI w t 4 (nI n)) t 3 = rdI w0 t 3 := fun n => by rw [rdI_wrI, if_neg (by omega)]; exact h3
  have hF' : ∀ n, Fr t (t + 3) w0 (wrI w t 4 (nI n)) := fun n => hF.wrI ⟨by omega, by omega⟩
  have k1 := s_skip h h4 he
  have l1 := s_letter (h.pl (x := nI (sk T e))) (rd _) hs.2
  have c3 : nI c < 3 := nI_lt (b := 3) (by omega) (by decide)
  have c0 : 0 < nI c := nI_lt (a := 0) hc0 (by omega)
  unfold aftF at hR
  rw [if_neg (show ¬ (3 * i + c) % 3 = 0 by omega)] at hR
  by_cases q : sk T e < T.1 ∧ T.2 (sk T e) = 44
  · rw [if_pos q] at hR
    have el : ltr T (sk T e) 0 = 44 := by unfold ltr; rw [if_pos q.1, q.2]; rfl
    have go := fun a3 => pp_39 (a3 := a3) (h.pl (x := nI (sk T e + 1))) (hF' _) (r3 _) hi hc (show sk T e + 1 ≤ T.1 from q.1) (rd _) (by rw [rt]; exact hR) next
    simp only [eX5_parsePoint_2, eX5_parsePoint_3, eX5_parsePoint_4, eX5_parsePoint_7, eX5_parsePoint_8, eX5_parsePoint_11, eX5_parsePoint_12, eX5_parsePoint_15, eX5_parsePoint_16, eX5_parsePoint_19, eX5_parsePoint_21, eX5_parsePoint_24, eX5_parsePoint_25, eX5_parsePoint_28, eX5_parsePoint_29, eX5_parsePoint_30, eX5_parsePoint_30i, eX5_parsePoint_31, eX5_parsePoint_34, eX5_parsePoint_35, eX5_parsePoint_36, cont_some, tl_some, tl_none, csum_nil, csum_i, csum_r, csum_j, isc2_i, isc2_r, isc2_n, va_rf_s, vfn_ite, true_and, and_true, true_or, or_true, eq_self, Bool.false_eq_true, not_false_eq_true, not_true_eq_false, if_true, if_false, Nat.reduceAdd, Nat.reduceLeDiff, reduceIte, c3, c0, shp_wrI, h1.1, k1, l1, el, rd, nI_1, wrI_wrI]
    exact go _
  · rw [if_neg q] at hR
    have el : ¬ ltr T (sk T e) 0 = 44 := by
      unfold ltr
      by_cases z : sk T e < T.1
      · rw [if_pos z]
        exact fun y => q ⟨z, (nI_is (k := 44) (h.2.2.2 _ z).2.2 (by omega)).mp y⟩
      · rw [if_neg z]; decide
    simp only [eX5_parsePoint_2, eX5_parsePoint_3, eX5_parsePoint_4, eX5_parsePoint_7, eX5_parsePoint_8, eX5_parsePoint_11, eX5_parsePoint_12, eX5_parsePoint_15, eX5_parsePoint_16, eX5_parsePoint_19, eX5_parsePoint_21, eX5_parsePoint_24, eX5_parsePoint_25, eX5_parsePoint_28, cont_some, tl_some, tl_none, csum_nil, csum_i, csum_r, csum_j, isc2_i, isc2_r, isc2_n, va_rf_s, vfn_ite, true_and, and_true, true_or, or_true, eq_self, Bool.false_eq_true, not_false_eq_true, not_true_eq_false, if_true, if_false, Nat.reduceAdd, Nat.reduceLeDiff, reduceIte, c3, c0, shp_wrI, h1.1, k1, l1, el, rd]
    exact ⟨_, rfl, h.pl, hF' _, r3 _, Or.inl ⟨nI_nm1 (by omega), by rw [← hR]⟩⟩
theorem s_parsePoint {w : Wd} {t i p : Nat} {T : Tst} {R : Rst} (h : CT w t T) (hi : i < 10) (hp : p ≤ T.1) (h4 : rdI w t 4 = nI p) (hR : parF T (30 - 3 * i) (3 * i) (rdI w (t + 2)) p = R) : ∃ r u, fX5_parsePoint [.ref t, .int (nI i)] w = some (r, u) ∧ PQ w t i T R r u := by
  have hh : wp mX5_parsePoint 0 [some (.ref t), some (.int (nI i)), none, none] [] w (PQ w t i T R) := by
    have z3 : (0 : Int32) < 3 := by decide
    have z0 : ¬ (0 : Int32) < 0 := by decide
    simp only [eX5_parsePoint_0, eX5_parsePoint_1, eX5_parsePoint_2, eX5_parsePoint_3, eX5_parsePoint_4, eX5_parsePoint_7, eX5_parsePoint_8, cont_some, tl_some, tl_none, csum_nil, csum_i, csum_r, csum_j, isc2_i, isc2_r, isc2_n, va_rf_s, vfn_ite, true_and, and_true, true_or, or_true, eq_self, Bool.false_eq_true, not_false_eq_true, not_true_eq_false, if_true, if_false, Nat.reduceAdd, Nat.reduceLeDiff, reduceIte, z3, z0]
    refine pp_39 (c := 0) h Fr.rf rfl hi (by omega) hp h4 hR (fun u u1 u2 u3 e e1 e2 e3 a3 => ?_)
    refine pp_2 (c := 1) u1 u2 u3 hi (by omega) (by omega) e1 e2 e3 (fun u u1 u2 u3 e e1 e2 e3 a3 => ?_)
    refine pp_2 (c := 2) u1 u2 u3 hi (by omega) (by omega) e1 e2 e3 (fun u u1 u2 u3 e e1 e2 e3 a3 => ?_)
    have n3 : ¬ nI (2 + 1) < 3 := by decide
    simp only [eX5_parsePoint_2, eX5_parsePoint_3, eX5_parsePoint_4, eX5_parsePoint_59, eX5_parsePoint_60, cont_some, tl_some, tl_none, csum_nil, csum_i, csum_r, csum_j, isc2_i, isc2_r, isc2_n, va_rf_s, vfn_ite, true_and, and_true, true_or, or_true, eq_self, Bool.false_eq_true, not_false_eq_true, not_true_eq_false, if_true, if_false, Nat.reduceAdd, Nat.reduceLeDiff, reduceIte, n3]
    exact ⟨-1, rfl, u1, u2, u3, Or.inr ⟨rfl, e, e1, e2, e3⟩⟩
  obtain ⟨r, u, h1, h2⟩ := sem_wp (nL := 4) (as := [.ref t, .int (nI i)]) (Nat.le_of_ble_eq_true rfl) hh
  exact ⟨r, u, h1, h2⟩
theorem CT.at {w : Wd} {t j : Nat} {T : Tst} {x : Int32} (h : CT w t T) (hj : j ≠ 1) : CT (wrI w t j x) t T := by
  obtain ⟨h1, h2, h3, h4⟩ := h
  exact ⟨h1, by rw [rdI_wrI, if_neg (by omega)]; exact h2, h3, fun i hi => by rw [rdI_wrI, if_neg (by omega)]; exact h4 i hi⟩
def FQ (w0 : Wd) (t : Nat) (T : Tst) (R : Rst) : Option Value → Wd → Prop := fun r u => r = some (.int R.1) ∧ CT u t T ∧ Fr t (t + 3) w0 u ∧ (R.1 = -1 → ∃ n, R.2.1 = 3 * n ∧ n ≤ 10 ∧ rdI u t 3 = nI n ∧ rdI u (t + 2) = R.2.2)
theorem lo_parse {w0 : Wd} {t : Nat} {T : Tst} {R : Rst} : ∀ (d i p : Nat) (w : Wd) (a2 : Option Value), i + d = 9 → CT w t T → Fr t (t + 3) w0 w → p ≤ T.1 → rdI w t 4 = nI p → parF T (30 - 3 * i) (3 * i) (rdI w (t + 2)) p = R →
    wp mX5_parse 32 [some (.ref t), some (.int (nI i)), a2] [] w (FQ w0 t T R) := by
  intro d
  induction d with
  | zero =>
    intro i p w a2 hd h hF hp h4 hR
    have h9 := h.2.2.1
    obtain ⟨r, u, hx, x, rfl, p2, p3, p4, p5⟩ := s_parsePoint h (show i < 10 by omega) hp h4 hR
    rcases p5 with ⟨q, e⟩ | ⟨rfl, e, he, e4, eR⟩
    · simp only [eX5_parse_32, eX5_parse_33, eX5_parse_34, eX5_parse_37, eX5_parse_38, eX5_parse_39, eX5_parse_40, eX5_parse_43, eX5_parse_44, cont_some, tl_some, tl_none, csum_nil, csum_i, csum_r, csum_j, isc2_i, isc2_r, isc2_n, va_rf_s, vfn_ite, true_and, and_true, true_or, or_true, eq_self, Bool.false_eq_true, not_false_eq_true, not_true_eq_false, if_true, if_false, Nat.reduceAdd, Nat.reduceLeDiff, reduceIte, h.1.1, hx, q]
      exact ⟨by rw [e], p2, hF.tr p3, fun z => absurd (e.symm.trans z) q⟩
    · have u1 := p2.1
      have hs := sk_le he
      have v2 := p2.at (j := 3) (x := nI (i + 1)) (by omega)
      have v4 : rdI (wrI u t 3 (nI (i + 1))) t 4 = nI e := by rw [rdI_wrI, if_neg (by omega)]; exact e4
      have k1 := s_skip v2 v4 he
      obtain ⟨v, hv⟩ : ∃ v, v = wrI (wrI u t 3 (nI (i + 1))) t 4 (nI (sk T e)) := ⟨_, rfl⟩
      rw [← hv] at k1
      have hv2 : CT v t T := by rw [hv]; exact v2.pl
      have hv3 : rdI v t 3 = nI (i + 1) := by rw [hv, rdI_wrI, if_neg (by omega), rdI_wrI, if_pos ⟨rfl, rfl⟩]
      have hv4 : rdI v t 4 = nI (sk T e) := by rw [hv, rdI_wrI, if_pos ⟨rfl, rfl⟩]
      have hv5 : rdI v (t + 2) = rdI u (t + 2) := by funext j; rw [hv, rdI_wrI, if_neg (by omega), rdI_wrI, if_neg (by omega)]
      have hv6 : Fr t (t + 3) w0 v := by rw [hv]; exact ((hF.tr p3).wrI ⟨by omega, by omega⟩).wrI ⟨by omega, by omega⟩
      have hv1 := hv2.1
      have i9 : i = 9 := by omega
      subst i9
      unfold aftF at eR
      rw [if_pos (by omega)] at eR
      simp only [eX5_parse_32, eX5_parse_33, eX5_parse_34, eX5_parse_37, eX5_parse_38, eX5_parse_39, eX5_parse_40, eX5_parse_43, eX5_parse_44, eX5_parse_45, eX5_parse_46, eX5_parse_47, eX5_parse_48, eX5_parse_49, eX5_parse_52, eX5_parse_53, cont_some, tl_some, tl_none, csum_nil, csum_i, csum_r, csum_j, isc2_i, isc2_r, isc2_n, va_rf_s, vfn_ite, true_and, and_true, true_or, or_true, eq_self, Bool.false_eq_true, not_false_eq_true, not_true_eq_false, if_true, if_false, Nat.reduceAdd, Nat.reduceLeDiff, reduceIte, h.1.1, hx, u1.1, shp_wrI, nI_1, k1]
      by_cases q : sk T e < T.1
      · rw [if_pos q, if_neg (fun z => z.2 rfl)] at eR
        have l : nI (sk T e) < nI T.1 := nI_lt q (by omega)
        obtain ⟨g1, g2, g3⟩ := hv2.2.2.2 _ q
        have i90 := inA_nI (show sk T e < 90 by omega) (show 90 < 2147483648 by omega)
        have c90 := nI_clamp (show sk T e < 2 ^ 31 by omega)
        have nd : nI (sk T e) = R.1 := by rw [← eR]
        have n10 : ¬ nI (9 + 1) < 10 := by decide
        have fin_ : FQ w0 t T R (some (.int (nI (sk T e)))) v := ⟨by rw [nd], hv2, hv6, fun z => absurd (nd.trans z) (nI_nm1 (by omega))⟩
        by_cases s : nI (T.2 (sk T e)) = 59
        · simp only [eX5_parse_56, eX5_parse_57, eX5_parse_60, eX5_parse_61, eX5_parse_64, eX5_parse_67, eX5_parse_68, eX5_parse_69, eX5_parse_70, eX5_parse_73, eX5_parse_74, eX5_parse_77, eX5_parse_78, eX5_parse_80, eX5_parse_83, eX5_parse_84, eX5_parse_87, eX5_parse_88, cont_some, tl_some, tl_none, csum_nil, csum_i, csum_r, csum_j, isc2_i, isc2_r, isc2_n, va_rf_s, vfn_ite, true_and, and_true, true_or, or_true, eq_self, Bool.false_eq_true, not_false_eq_true, not_true_eq_false, if_true, if_false, Nat.reduceAdd, Nat.reduceLeDiff, reduceIte, hv1.1, hv1.2.1, hv1.2.2.2.1, hv4, hv2.2.1, l, i90, c90, g1, s, nI_1]
          rw [eX5_parse_91]
          simp only [eX5_parse_12, eX5_parse_13, eX5_parse_15, eX5_parse_94, eX5_parse_95, eX5_parse_98, cont_some, tl_some, tl_none, csum_nil, csum_i, csum_r, csum_j, isc2_i, isc2_r, isc2_n, va_rf_s, vfn_ite, true_and, and_true, true_or, or_true, eq_self, Bool.false_eq_true, not_false_eq_true, not_true_eq_false, if_true, if_false, Nat.reduceAdd, Nat.reduceLeDiff, reduceIte, n10, hv1.1, hv4]
          exact fin_
        · simp only [eX5_parse_56, eX5_parse_57, eX5_parse_60, eX5_parse_61, eX5_parse_64, eX5_parse_67, eX5_parse_68, eX5_parse_69, eX5_parse_70, eX5_parse_73, eX5_parse_74, eX5_parse_77, eX5_parse_78, eX5_parse_80, eX5_parse_83, eX5_parse_84, eX5_parse_87, cont_some, tl_some, tl_none, csum_nil, csum_i, csum_r, csum_j, isc2_i, isc2_r, isc2_n, va_rf_s, vfn_ite, true_and, and_true, true_or, or_true, eq_self, Bool.false_eq_true, not_false_eq_true, not_true_eq_false, if_true, if_false, Nat.reduceAdd, Nat.reduceLeDiff, reduceIte, hv1.1, hv1.2.1, hv1.2.2.2.1, hv4, hv2.2.1, l, i90, c90, g1, s]
          exact fin_
      · rw [if_neg q] at eR
        have l : ¬ nI (sk T e) < nI T.1 := by rw [show sk T e = T.1 by omega]; exact Int32.lt_irrefl
        simp only [eX5_parse_56, eX5_parse_57, eX5_parse_60, eX5_parse_61, eX5_parse_64, eX5_parse_67, eX5_parse_68, cont_some, tl_some, tl_none, csum_nil, csum_i, csum_r, csum_j, isc2_i, isc2_r, isc2_n, va_rf_s, vfn_ite, true_and, and_true, true_or, or_true, eq_self, Bool.false_eq_true, not_false_eq_true, not_true_eq_false, if_true, if_false, Nat.reduceAdd, Nat.reduceLeDiff, reduceIte, hv1.1, hv4, hv2.2.1, l]
        exact ⟨by rw [← eR], hv2, hv6, fun _ => ⟨10, by rw [← eR], by omega, hv3, by rw [← eR, hv5]⟩⟩
  | succ d ih =>
    intro i p w a2 hd h hF hp h4 hR
    have h9 := h.2.2.1
    obtain ⟨r, u, hx, x, rfl, p2, p3, p4, p5⟩ := s_parsePoint h (show i < 10 by omega) hp h4 hR
    rcases p5 with ⟨q, e⟩ | ⟨rfl, e, he, e4, eR⟩
    · simp only [eX5_parse_32, eX5_parse_33, eX5_parse_34, eX5_parse_37, eX5_parse_38, eX5_parse_39, eX5_parse_40, eX5_parse_43, eX5_parse_44, cont_some, tl_some, tl_none, csum_nil, csum_i, csum_r, csum_j, isc2_i, isc2_r, isc2_n, va_rf_s, vfn_ite, true_and, and_true, true_or, or_true, eq_self, Bool.false_eq_true, not_false_eq_true, not_true_eq_false, if_true, if_false, Nat.reduceAdd, Nat.reduceLeDiff, reduceIte, h.1.1, hx, q]
      exact ⟨by rw [e], p2, hF.tr p3, fun z => absurd (e.symm.trans z) q⟩
    · have u1 := p2.1
      have hs := sk_le he
      have v2 := p2.at (j := 3) (x := nI (i + 1)) (by omega)
      have v4 : rdI (wrI u t 3 (nI (i + 1))) t 4 = nI e := by rw [rdI_wrI, if_neg (by omega)]; exact e4
      have k1 := s_skip v2 v4 he
      obtain ⟨v, hv⟩ : ∃ v, v = wrI (wrI u t 3 (nI (i + 1))) t 4 (nI (sk T e)) := ⟨_, rfl⟩
      rw [← hv] at k1
      have hv2 : CT v t T := by rw [hv]; exact v2.pl
      have hv3 : rdI v t 3 = nI (i + 1) := by rw [hv, rdI_wrI, if_neg (by omega), rdI_wrI, if_pos ⟨rfl, rfl⟩]
      have hv4 : rdI v t 4 = nI (sk T e) := by rw [hv, rdI_wrI, if_pos ⟨rfl, rfl⟩]
      have hv5 : rdI v (t + 2) = rdI u (t + 2) := by funext j; rw [hv, rdI_wrI, if_neg (by omega), rdI_wrI, if_neg (by omega)]
      have hv6 : Fr t (t + 3) w0 v := by rw [hv]; exact ((hF.tr p3).wrI ⟨by omega, by omega⟩).wrI ⟨by omega, by omega⟩
      have hv1 := hv2.1
      unfold aftF at eR
      rw [if_pos (by omega)] at eR
      simp only [eX5_parse_32, eX5_parse_33, eX5_parse_34, eX5_parse_37, eX5_parse_38, eX5_parse_39, eX5_parse_40, eX5_parse_43, eX5_parse_44, eX5_parse_45, eX5_parse_46, eX5_parse_47, eX5_parse_48, eX5_parse_49, eX5_parse_52, eX5_parse_53, cont_some, tl_some, tl_none, csum_nil, csum_i, csum_r, csum_j, isc2_i, isc2_r, isc2_n, va_rf_s, vfn_ite, true_and, and_true, true_or, or_true, eq_self, Bool.false_eq_true, not_false_eq_true, not_true_eq_false, if_true, if_false, Nat.reduceAdd, Nat.reduceLeDiff, reduceIte, h.1.1, hx, u1.1, shp_wrI, nI_1, k1]
      by_cases q : sk T e < T.1
      · rw [if_pos q] at eR
        have l : nI (sk T e) < nI T.1 := nI_lt q (by omega)
        obtain ⟨g1, g2, g3⟩ := hv2.2.2.2 _ q
        have i90 := inA_nI (show sk T e < 90 by omega) (show 90 < 2147483648 by omega)
        have c90 := nI_clamp (show sk T e < 2 ^ 31 by omega)
        by_cases s : T.2 (sk T e) = 59
        · rw [if_pos ⟨s, by omega⟩] at eR
          have s' : nI (T.2 (sk T e)) = 59 := by rw [s]; rfl
          have n10 : nI (i + 1) < 10 := nI_lt (b := 10) (by omega) (by decide)
          have n0 : 0 < nI (i + 1) := nI_lt (a := 0) (by omega) (by omega)
          have rt : rdI (wrI v t 4 (nI (sk T e + 1))) (t + 2) = rdI u (t + 2) := by rw [← hv5]; funext j; rw [rdI_wrI, if_neg (by omega)]
          have go := fun a2 => ih (i + 1) (sk T e + 1) (wrI v t 4 (nI (sk T e + 1))) a2 (by omega) hv2.pl (hv6.wrI ⟨by omega, by omega⟩) q (by rw [rdI_wrI, if_pos ⟨rfl, rfl⟩]) (by rw [rt]; exact eR)
          simp only [eX5_parse_56, eX5_parse_57, eX5_parse_60, eX5_parse_61, eX5_parse_64, eX5_parse_67, eX5_parse_68, eX5_parse_69, eX5_parse_70, eX5_parse_73, eX5_parse_74, eX5_parse_77, eX5_parse_78, eX5_parse_80, eX5_parse_83, eX5_parse_84, eX5_parse_87, eX5_parse_88, cont_some, tl_some, tl_none, csum_nil, csum_i, csum_r, csum_j, isc2_i, isc2_r, isc2_n, va_rf_s, vfn_ite, true_and, and_true, true_or, or_true, eq_self, Bool.false_eq_true, not_false_eq_true, not_true_eq_false, if_true, if_false, Nat.reduceAdd, Nat.reduceLeDiff, reduceIte, hv1.1, hv1.2.1, hv1.2.2.2.1, hv4, hv2.2.1, l, i90, c90, g1, s', nI_1]
          rw [eX5_parse_91]
          simp only [eX5_parse_12, eX5_parse_13, eX5_parse_15, eX5_parse_18, eX5_parse_19, eX5_parse_22, eX5_parse_23, eX5_parse_23i, eX5_parse_24, eX5_parse_27, eX5_parse_28, eX5_parse_29, cont_some, tl_some, tl_none, csum_nil, csum_i, csum_r, csum_j, isc2_i, isc2_r, isc2_n, va_rf_s, vfn_ite, true_and, and_true, true_or, or_true, eq_self, Bool.false_eq_true, not_false_eq_true, not_true_eq_false, if_true, if_false, Nat.reduceAdd, Nat.reduceLeDiff, reduceIte, n10, n0, hv1.1, hv4, nI_1]
          exact go _
        · rw [if_neg (fun z => s z.1)] at eR
          have s' : ¬ nI (T.2 (sk T e)) = 59 := fun z => s ((nI_is (k := 59) g3 (by omega)).mp z)
          have nd : nI (sk T e) = R.1 := by rw [← eR]
          simp only [eX5_parse_56, eX5_parse_57, eX5_parse_60, eX5_parse_61, eX5_parse_64, eX5_parse_67, eX5_parse_68, eX5_parse_69, eX5_parse_70, eX5_parse_73, eX5_parse_74, eX5_parse_77, eX5_parse_78, eX5_parse_80, eX5_parse_83, eX5_parse_84, eX5_parse_87, cont_some, tl_some, tl_none, csum_nil, csum_i, csum_r, csum_j, isc2_i, isc2_r, isc2_n, va_rf_s, vfn_ite, true_and, and_true, true_or, or_true, eq_self, Bool.false_eq_true, not_false_eq_true, not_true_eq_false, if_true, if_false, Nat.reduceAdd, Nat.reduceLeDiff, reduceIte, hv1.1, hv1.2.1, hv1.2.2.2.1, hv4, hv2.2.1, l, i90, c90, g1, s']
          exact ⟨by rw [nd], hv2, hv6, fun z => absurd (nd.trans z) (nI_nm1 (by omega))⟩
      · rw [if_neg q] at eR
        have l : ¬ nI (sk T e) < nI T.1 := by rw [show sk T e = T.1 by omega]; exact Int32.lt_irrefl
        simp only [eX5_parse_56, eX5_parse_57, eX5_parse_60, eX5_parse_61, eX5_parse_64, eX5_parse_67, eX5_parse_68, cont_some, tl_some, tl_none, csum_nil, csum_i, csum_r, csum_j, isc2_i, isc2_r, isc2_n, va_rf_s, vfn_ite, true_and, and_true, true_or, or_true, eq_self, Bool.false_eq_true, not_false_eq_true, not_true_eq_false, if_true, if_false, Nat.reduceAdd, Nat.reduceLeDiff, reduceIte, hv1.1, hv4, hv2.2.1, l]
        exact ⟨by rw [← eR], hv2, hv6, fun _ => ⟨i + 1, by rw [← eR]; show 3 * i + 3 = _; omega, by omega, hv3, by rw [← eR, hv5]⟩⟩
theorem s_parse {w : Wd} {t : Nat} {T : Tst} (h : CT w t T) : ∃ r u, fX5_parse [.ref t] w = some (r, u) ∧ FQ w t T (parF T 30 0 (rdI w (t + 2)) 0) r u := by
  have h1 := h.1
  have hh : wp mX5_parse 0 [some (.ref t), none, none] [] w (FQ w t T (parF T 30 0 (rdI w (t + 2)) 0)) := by
    have z10 : (0 : Int32) < 10 := by decide
    have z0 : ¬ (0 : Int32) < 0 := by decide
    have rt : rdI (wrI (wrI w t 4 0) t 3 0) (t + 2) = rdI w (t + 2) := by funext j; rw [rdI_wrI, if_neg (by omega), rdI_wrI, if_neg (by omega)]
    have go := fun a2 => lo_parse (w0 := w) (R := parF T 30 0 (rdI w (t + 2)) 0) 9 0 0 (wrI (wrI w t 4 0) t 3 0) a2 (by omega) (h.pl.at (by omega)) ((Fr.rf.wrI ⟨by omega, by omega⟩).wrI ⟨by omega, by omega⟩) (by omega) (by rw [rdI_wrI, if_neg (by omega), rdI_wrI, if_pos ⟨rfl, rfl⟩]; rfl) (by rw [rt])
    simp only [eX5_parse_0, eX5_parse_1, eX5_parse_2, eX5_parse_5, eX5_parse_6, eX5_parse_7, eX5_parse_10, eX5_parse_11, eX5_parse_12, eX5_parse_13, eX5_parse_15, eX5_parse_18, eX5_parse_19, cont_some, tl_some, tl_none, csum_nil, csum_i, csum_r, csum_j, isc2_i, isc2_r, isc2_n, va_rf_s, vfn_ite, true_and, and_true, true_or, or_true, eq_self, Bool.false_eq_true, not_false_eq_true, not_true_eq_false, if_true, if_false, Nat.reduceAdd, Nat.reduceLeDiff, reduceIte, shp_wrI, h1.1, z10, z0]
    exact go _
  obtain ⟨r, u, h1, h2⟩ := sem_wp (nL := 3) (as := [.ref t]) (Nat.le_of_ble_eq_true rfl) hh
  exact ⟨r, u, h1, h2⟩
