/-! the whole tape, number by number -/
abbrev Rst : Type := Int32 × Nat × (Nat → Int32)
def parF (T : Tst) : Nat → Nat → (Nat → Int32) → Nat → Rst
  | 0, k, D, _ => (0, k, D)
  | f + 1, k, D, p => if ¬ numF T D k p = -1 then (numF T D k p, k, D) else
      if (k + 1) % 3 = 0 then (if sk T (nE T (nQ T p)) < T.1 then (if T.2 (sk T (nE T (nQ T p))) = 59 ∧ ¬ k + 1 = 30 then parF T f (k + 1) (updD D k (nX T p)) (sk T (nE T (nQ T p)) + 1) else (nI (sk T (nE T (nQ T p))), k + 1, updD D k (nX T p))) else (-1, k + 1, updD D k (nX T p)))
      else if sk T (nE T (nQ T p)) < T.1 ∧ T.2 (sk T (nE T (nQ T p))) = 44 then parF T f (k + 1) (updD D k (nX T p)) (sk T (nE T (nQ T p)) + 1) else (nI (sk T (nE T (nQ T p))), k + 1, updD D k (nX T p))
def aftF (T : Tst) (f k : Nat) (D : Nat → Int32) (e : Nat) : Rst :=
      if k % 3 = 0 then (if sk T e < T.1 then (if T.2 (sk T e) = 59 ∧ ¬ k = 30 then parF T f k D (sk T e + 1) else (nI (sk T e), k, D)) else (-1, k, D))
      else if sk T e < T.1 ∧ T.2 (sk T e) = 44 then parF T f k D (sk T e + 1) else (nI (sk T e), k, D)
theorem parF_s {T : Tst} {f k : Nat} {D : Nat → Int32} {p : Nat} : parF T (f + 1) k D p = if ¬ numF T D k p = -1 then (numF T D k p, k, D) else aftF T f (k + 1) (updD D k (nX T p)) (nE T (nQ T p)) := rfl
theorem numF_fig {T : Tst} {D : Nat → Int32} {k p : Nat} (hp : p ≤ T.1) (h9 : T.1 ≤ 90) (h : numF T D k p = -1) : fig T (nQ T p) ∧ ¬ 15 < nV T (nQ T p) := by
  have hq := nQ_le hp
  have hs := (sk_le hp).2
  unfold numF at h
  by_cases q : fig T (nQ T p)
  · rw [if_neg (fun z => z q)] at h
    by_cases v : 15 < nV T (nQ T p)
    · rw [if_pos v] at h
      exact absurd h (nI_nm1 (by omega))
    · exact ⟨q, v⟩
  · rw [if_pos q] at h
    exact absurd h (nI_nm1 (by omega))
def PQ (w0 : Wd) (t i : Nat) (T : Tst) (R : Rst) : Option Value → Wd → Prop := fun r u => ∃ x, r = some (.int x) ∧ CT u t T ∧ Fr t (t + 3) w0 u ∧ rdI u t 3 = rdI w0 t 3 ∧ ((¬ x = -1 ∧ R.1 = x) ∨ (x = -1 ∧ ∃ e, e ≤ T.1 ∧ rdI u t 4 = nI e ∧ aftF T (30 - (3 * i + 3)) (3 * i + 3) (rdI u (t + 2)) e = R))
theorem pp_39 {w0 w : Wd} {t i c p : Nat} {T : Tst} {R : Rst} {a3 : Option Value} (h : CT w t T) (hF : Fr t (t + 3) w0 w) (h3 : rdI w t 3 = rdI w0 t 3) (hi : i < 10) (hc : c < 3) (hp : p ≤ T.1) (h4 : rdI w t 4 = nI p) (hR : parF T (30 - (3 * i + c)) (3 * i + c) (rdI w (t + 2)) p = R)
    (next : ∀ u, CT u t T → Fr t (t + 3) w0 u → rdI u t 3 = rdI w0 t 3 → ∀ e, e ≤ T.1 → rdI u t 4 = nI e → aftF T (30 - (3 * i + c + 1)) (3 * i + c + 1) (rdI u (t + 2)) e = R → ∀ a3, wp mX5_parsePoint 2 [some (.ref t), some (.int (nI i)), some (.int (nI (c + 1))), a3] [] u (PQ w0 t i T R)) :
    wp mX5_parsePoint 39 [some (.ref t), some (.int (nI i)), some (.int (nI c)), a3] [] w (PQ w0 t i T R) := by
  have h1 := h.1
  obtain ⟨x, u, hx, p1, p2, p3, p4, p5⟩ := s_parseNumber h h4 hi hc hp
  obtain ⟨f, hf⟩ : ∃ f, 30 - (3 * i + c) = f + 1 := ⟨30 - (3 * i + c) - 1, by omega⟩
  have ef : f = 30 - (3 * i + c + 1) := by omega
  rw [hf, parF_s, ← p1] at hR
  by_cases q : x = -1
  · rw [if_neg (fun z => z q)] at hR
    obtain ⟨p6, p7⟩ := p5 q
    have hfg := (numF_fig hp h.2.2.1 (p1.symm.trans q)).1
    have nx := next u p2 (hF.tr p3) (p4.trans h3) _ (nE_le hfg) p6 (by rw [p7, ← ef]; exact hR)
    subst q
    simp only [eX5_parsePoint_39, eX5_parsePoint_40, eX5_parsePoint_41, eX5_parsePoint_42, eX5_parsePoint_45, eX5_parsePoint_46, eX5_parsePoint_47, eX5_parsePoint_48, eX5_parsePoint_51, eX5_parsePoint_52, eX5_parsePoint_53, cont_some, tl_some, tl_none, csum_nil, csum_i, csum_r, csum_j, isc2_i, isc2_r, isc2_n, va_rf_s, vfn_ite, true_and, and_true, true_or, or_true, eq_self, Bool.false_eq_true, not_false_eq_true, not_true_eq_false, if_true, if_false, Nat.reduceAdd, Nat.reduceLeDiff, reduceIte, h1.1, hx, nI_1]
    rw [eX5_parsePoint_56]
    exact nx _
  · rw [if_pos q] at hR
    simp only [eX5_parsePoint_39, eX5_parsePoint_40, eX5_parsePoint_41, eX5_parsePoint_42, eX5_parsePoint_45, eX5_parsePoint_46, eX5_parsePoint_47, eX5_parsePoint_48, eX5_parsePoint_51, eX5_parsePoint_52, cont_some, tl_some, tl_none, csum_nil, csum_i, csum_r, csum_j, isc2_i, isc2_r, isc2_n, va_rf_s, vfn_ite, true_and, and_true, true_or, or_true, eq_self, Bool.false_eq_true, not_false_eq_true, not_true_eq_false, if_true, if_false, Nat.reduceAdd, Nat.reduceLeDiff, reduceIte, h1.1, hx, q]
    exact ⟨x, rfl, p2, hF.tr p3, p4.trans h3, Or.inl ⟨q, by rw [← hR]⟩⟩
theorem pp_2 {w0 w : Wd} {t i c e : Nat} {T : Tst} {R : Rst} {a3 : Option Value} (h : CT w t T) (hF : Fr t (t + 3) w0 w) (h3 : rdI w t 3 = rdI w0 t 3) (hi : i < 10) (hc : c < 3) (hc0 : 0 < c) (he : e ≤ T.1) (h4 : rdI w t 4 = nI e) (hR : aftF T (30 - (3 * i + c)) (3 * i + c) (rdI w (t + 2)) e = R)
    (next : ∀ u, CT u t T → Fr t (t + 3) w0 u → rdI u t 3 = rdI w0 t 3 → ∀ e, e ≤ T.1 → rdI u t 4 = nI e → aftF T (30 - (3 * i + c + 1)) (3 * i + c + 1) (rdI u (t + 2)) e = R → ∀ a3, wp mX5_parsePoint 2 [some (.ref t), some (.int (nI i)), some (.int (nI (c + 1))), a3] [] u (PQ w0 t i T R)) :
    wp mX5_parsePoint 2 [some (.ref t), some (.int (nI i)), some (.int (nI c)), a3] [] w (PQ w0 t i T R) := by
  have h1 := h.1
  have hs := sk_le he
  have h9 := h.2.2.1
  have rd : ∀ n, rdI (wrI w t 4 (nI n)) t 4 = nI n := fun n => by rw [rdI_wrI, if_pos ⟨rfl, rfl⟩]
  have rt : ∀ n, rdI (wrI w t 4 (nI n)) (t + 2) = rdI w (t + 2) := fun n => by funext j; rw [rdI_wrI, if_neg (by omega)]
  have r3 : ∀ n, rdI (wrI w t 4 (nI n)) t 3 = rdI w0 t 3 := fun n => by rw [rdI_wrI, if_neg (by omega)]; exact h3
  have hF' : ∀ n, Fr t (t + 3) w0 (wrI w t 4 (nI n)) := fun n => hF.wrI ⟨by omega, by omega⟩
  have k1 := s_skip h h4 he
  have l1 := s_letter (h.pl (x := nI (sk T e))) (rd _) hs.2
  have c3 : nI c < 3 := nI_lt (b := 3) (by omega) (by decide)
  have c0 : 0 < nI c := nI_lt (a := 0) hc0 (by omega)
  unfold aftF at hR
  rw [if_neg (show ¬ (3 * i + c) % 3 = 0 by omega)] at hR
  by_cases q : sk T e < T.1 ∧ T.2 (sk T e) = 44
  · rw [if_pos q] at hR
    have el : ltr T (sk T e) 0 = 44 := by unfold ltr; rw [if_pos q.1, q.2]; rfl
    have go := fun a3 => pp_39 (a3 := a3) (h.pl (x := nI (sk T e + 1))) (hF' _) (r3 _) hi hc (show sk T e + 1 ≤ T.1 from q.1) (rd _) (by rw [rt]; exact hR) next
    simp only [eX5_parsePoint_2, eX5_parsePoint_3, eX5_parsePoint_4, eX5_parsePoint_7, eX5_parsePoint_8, eX5_parsePoint_11, eX5_parsePoint_12, eX5_parsePoint_15, eX5_parsePoint_16, eX5_parsePoint_19, eX5_parsePoint_21, eX5_parsePoint_24, eX5_parsePoint_25, eX5_parsePoint_28, eX5_parsePoint_29, eX5_parsePoint_30, eX5_parsePoint_30i, eX5_parsePoint_31, eX5_parsePoint_34, eX5_parsePoint_35, eX5_parsePoint_36, cont_some, tl_some, tl_none, csum_nil, csum_i, csum_r, csum_j, isc2_i, isc2_r, isc2_n, va_rf_s, vfn_ite, true_and, and_true, true_or, or_true, eq_self, Bool.false_eq_true, not_false_eq_true, not_true_eq_false, if_true, if_false, Nat.reduceAdd, Nat.reduceLeDiff, reduceIte, c3, c0, shp_wrI, h1.1, k1, l1, el, rd, nI_1, wrI_wrI]
    exact go _
  · rw [if_neg q] at hR
    have el : ¬ ltr T (sk T e) 0 = 44 := by
      unfold ltr
      by_cases z : sk T e < T.1
      · rw [if_pos z]
        exact fun y => q ⟨z, (nI_is (k := 44) (h.2.2.2 _ z).2.2 (by omega)).mp y⟩
      · rw [if_neg z]; decide
    simp only [eX5_parsePoint_2, eX5_parsePoint_3, eX5_parsePoint_4, eX5_parsePoint_7, eX5_parsePoint_8, eX5_parsePoint_11, eX5_parsePoint_12, eX5_parsePoint_15, eX5_parsePoint_16, eX5_parsePoint_19, eX5_parsePoint_21, eX5_parsePoint_24, eX5_parsePoint_25, eX5_parsePoint_28, cont_some, tl_some, tl_none, csum_nil, csum_i, csum_r, csum_j, isc2_i, isc2_r, isc2_n, va_rf_s, vfn_ite, true_and, and_true, true_or, or_true, eq_self, Bool.false_eq_true, not_false_eq_true, not_true_eq_false, if_true, if_false, Nat.reduceAdd, Nat.reduceLeDiff, reduceIte, c3, c0, shp_wrI, h1.1, k1, l1, el, rd]
    exact ⟨_, rfl, h.pl, hF' _, r3 _, Or.inl ⟨nI_nm1 (by omega), by rw [← hR]⟩⟩
theorem s_parsePoint {w : Wd} {t i p : Nat} {T : Tst} {R : Rst} (h : CT w t T) (hi : i < 10) (hp : p ≤ T.1) (h4 : rdI w t 4 = nI p) (hR : parF T (30 - 3 * i) (3 * i) (rdI w (t + 2)) p = R) : ∃ r u, fX5_parsePoint [.ref t, .int (nI i)] w = some (r, u) ∧ PQ w t i T R r u := by
  have hh : wp mX5_parsePoint 0 [some (.ref t), some (.int (nI i)), none, none] [] w (PQ w t i T R) := by
    have z3 : (0 : Int32) < 3 := by decide
    have z0 : ¬ (0 : Int32) < 0 := by decide
    simp only [eX5_parsePoint_0, eX5_parsePoint_1, eX5_parsePoint_2, eX5_parsePoint_3, eX5_parsePoint_4, eX5_parsePoint_7, eX5_parsePoint_8, cont_some, tl_some, tl_none, csum_nil, csum_i, csum_r, csum_j, isc2_i, isc2_r, isc2_n, va_rf_s, vfn_ite, true_and, and_true, true_or, or_true, eq_self, Bool.false_eq_true, not_false_eq_true, not_true_eq_false, if_true, if_false, Nat.reduceAdd, Nat.reduceLeDiff, reduceIte, z3, z0]
    refine pp_39 (c := 0) h Fr.rf rfl hi (by omega) hp h4 hR (fun u u1 u2 u3 e e1 e2 e3 a3 => ?_)
    refine pp_2 (c := 1) u1 u2 u3 hi (by omega) (by omega) e1 e2 e3 (fun u u1 u2 u3 e e1 e2 e3 a3 => ?_)
    refine pp_2 (c := 2) u1 u2 u3 hi (by omega) (by omega) e1 e2 e3 (fun u u1 u2 u3 e e1 e2 e3 a3 => ?_)
    have n3 : ¬ nI (2 + 1) < 3 := by decide
    simp only [eX5_parsePoint_2, eX5_parsePoint_3, eX5_parsePoint_4, eX5_parsePoint_59, eX5_parsePoint_60, cont_some, tl_some, tl_none, csum_nil, csum_i, csum_r, csum_j, isc2_i, isc2_r, isc2_n, va_rf_s, vfn_ite, true_and, and_true, true_or, or_true, eq_self, Bool.false_eq_true, not_false_eq_true, not_true_eq_false, if_true, if_false, Nat.reduceAdd, Nat.reduceLeDiff, reduceIte, n3]
    exact ⟨-1, rfl, u1, u2, u3, Or.inr ⟨rfl, e, e1, e2, e3⟩⟩
  obtain ⟨r, u, h1, h2⟩ := sem_wp (nL := 4) (as := [.ref t, .int (nI i)]) (Nat.le_of_ble_eq_true rfl) hh
  exact ⟨r, u, h1, h2⟩
