/-! the survey of a zone -/
def cN (n : Nat) (C : Nat → Int32) : Nat → Int32 := fun i => if i < 3 * n then C i else 0
theorem cN_at {n i : Nat} {C : Nat → Int32} (h : i < 3 * n) : cN n C i = C i := if_pos h
theorem cN_eq {n : Nat} {C D : Nat → Int32} (h : ∀ i, i < 3 * n → C i = D i) : cN n C = cN n D := by
  funext i
  unfold cN
  split
  · rename_i q; exact h i q
  · rfl
theorem cN_cN {n : Nat} {C : Nat → Int32} : cN n (cN n C) = cN n C := cN_eq (fun i hi => cN_at hi)
theorem cN_bd {S : Sst} (h : bdS S) : bdC S.1 (cN S.1 S.2.1) := fun i hi => by rw [cN_at hi]; exact h.1 i hi
def Xa (z : Nat) : Nat → Nat → Prop := fun c j => (c = z ∧ j ≠ 0) ∨ (z < c ∧ c < z + 18)
def LN (n : Nat) (C : Nat → Int32) : List V3 := (pcO n n 0).map (vcP 3 C)
theorem LN_ln {n : Nat} {C : Nat → Int32} (h10 : n ≤ 10) : LN n C = lnL (2 ^ n - 1) (vcP 3 C) 100 0 := by
  unfold LN; rw [lnL_map, pc_cd h10]
theorem LN_in {n : Nat} {C : Nat → Int32} (h10 : n ≤ 10) (hb : bdC n C) : ∀ x, x ∈ LN n C → in3 30 x := by
  rw [LN_ln h10]
  exact lnL_in hb (fun i hi h => (btF n h10 i hi).mp h)
theorem LN_2 {n : Nat} {C : Nat → Int32} (h : 0 < (LN n C).length) : 2 ≤ n := by
  rcases Nat.lt_or_ge n 2 with q | q
  · have : n = 0 ∨ n = 1 := by omega
    rcases this with rfl | rfl
    · have e : (LN 0 C).length = 0 := rfl
      omega
    · have e : (LN 1 C).length = 0 := rfl
      omega
  · exact q
theorem s_begin {w : Wd} {z sc : Nat} {S : Sst} (h : isZ w z) (hS : scIs w sc S) (hd : sc + 2 ≤ z ∨ z + 18 ≤ sc) : ∃ u, fX7_begin [.ref z, .ref sc] w = some (none, u) ∧ ZS u z S.1 (cN S.1 S.2.1) (LN S.1 (cN S.1 S.2.1)) [] ∧ FrX (Xa z) w u := by
  obtain ⟨s1, s2, s3, s4, -⟩ := hS
  obtain ⟨n, hn⟩ : ∃ n, n = S.1 := ⟨_, rfl⟩
  rw [← hn] at s2 s3 s4 ⊢
  have c0 : cpyFn [.ref (sc + 1), .int 0, .ref (z + 1), .int 0, .int (Int32.ofNat 30)] w = some (none, cpI w (sc + 1) 0 (z + 1) 0 30) := s_cpyI (sp := 0) (dp := 0) (n := 30) s1.2.2 h.2.2.2.2.2.2.2.2.1 (by omega) (by omega) (by omega) (by omega)
  obtain ⟨w1, hw1⟩ : ∃ w1, w1 = wrI (wrI (cpI w (sc + 1) 0 (z + 1) 0 30) z 2 (nI n)) z 5 0 := ⟨_, rfl⟩
  have F1 : FrX (Xa z) w w1 := by
    rw [hw1]
    exact ((FrX.rf.cpI (fun j _ _ => Or.inr (by omega))).wrI (Or.inl ⟨rfl, by omega⟩)).wrI (Or.inl ⟨rfl, by omega⟩)
  have h1 := h.fx F1
  have P1 : zP w1 z n (cN n S.2.1) := by
    rw [hw1]
    refine ⟨by rw [rdI_wrI, if_neg (by omega), rdI_wrI, if_pos ⟨rfl, rfl⟩], s3, fun i hi => ?_⟩
    rw [rdI_wrI, if_neg (by omega), rdI_wrI, if_neg (by omega), rdI_cpI, if_pos (by omega), cN_at hi]
    rw [show 0 + (i - 0) = i by omega]
    exact s4 i hi
  have B1 : rdI w1 z 5 = 0 := by rw [hw1, rdI_wrI, if_pos ⟨rfl, rfl⟩]
  obtain ⟨w2, k1, k2, k3, k4⟩ := s_widths (z := z) (A := 0) (B := 1) (by omega) (by omega) (by omega) h1
  have h2 := h1.fx k4
  obtain ⟨u, l1, l2, l3, l4⟩ := s_lines h2 (P1.fx k4 (fun q => by unfold Xw at q; omega) (fun i q => by unfold Xw at q; omega))
  have F2 : FrX (Xa z) w1 w2 := k4.wide (fun c j q => by unfold Xw at q; unfold Xa; omega)
  have F3 : FrX (Xa z) w2 u := l4.wide (fun c j q => by unfold Xl at q; unfold Xa; omega)
  refine ⟨u, ?_, ⟨h2.fx l4, l2, l3, fun _ => (0, 1), ?_, ?_, ?_, ?_⟩, (F1.tr F2).tr F3⟩
  · refine sem_eq (Nat.le_of_ble_eq_true rfl) ?_
    show wp mX7_begin 0 [some (.ref z), some (.ref sc)] [] _ _
    have n2 : ¬ (sc = z + 1) := fun q => by omega
    simp only [eX7_begin_0, eX7_begin_1, eX7_begin_4, eX7_begin_5, eX7_begin_6, eX7_begin_9, eX7_begin_10, eX7_begin_11, eX7_begin_14, eX7_begin_15, eX7_begin_18, eX7_begin_19, eX7_begin_20, eX7_begin_23, eX7_begin_26, eX7_begin_27, eX7_begin_28, cont_some, tl_some, tl_none, csum_nil, csum_i, csum_r, csum_j, isc2_i, isc2_r, isc2_n, va_rf_s, vfn_ite, true_and, and_true, true_or, or_true, eq_self, Bool.false_eq_true, not_false_eq_true, not_true_eq_false, if_true, if_false, Nat.reduceAdd, Nat.reduceLeDiff, reduceIte, h.1, h.2.1, h.2.2.2.2.2.2.2.2.1, s1.1, s1.2.1, c0, shp_cpI, shp_wrI, rdI_cpI, n2, false_and, s2]
    rw [← hw1]
    have kk : fX7_setAllWidths [.ref z, .long 0, .long 1] w1 = some (none, w2) := k1
    simp only [eX7_begin_31, eX7_begin_32, eX7_begin_33, eX7_begin_34, cont_some, tl_some, tl_none, csum_nil, csum_i, csum_r, csum_j, isc2_i, isc2_r, isc2_n, va_rf_s, vfn_ite, true_and, and_true, true_or, or_true, eq_self, Bool.false_eq_true, not_false_eq_true, not_true_eq_false, if_true, if_false, Nat.reduceAdd, Nat.reduceLeDiff, reduceIte, h1.1, kk]
    simp only [eX7_begin_37, eX7_begin_38, eX7_begin_41, cont_some, tl_some, tl_none, csum_nil, csum_i, csum_r, csum_j, isc2_i, isc2_r, isc2_n, va_rf_s, vfn_ite, true_and, and_true, true_or, or_true, eq_self, Bool.false_eq_true, not_false_eq_true, not_true_eq_false, if_true, if_false, Nat.reduceAdd, Nat.reduceLeDiff, reduceIte, h2.1, l1]
  · show rdI u z 5 = 0
    rw [l4.1 z 5 (fun q => by unfold Xl at q; omega), k4.1 z 5 (fun q => by unfold Xw at q; omega)]
    exact B1
  · exact k2.fx l4 (fun j q => by unfold Xl at q; omega)
  · intro k hk
    exact (k3 k hk).fx l4 (fun j q => by unfold Xl at q; omega)
  · have ok : fOK (0, 1) := ⟨by decide, by decide, by decide, by decide⟩
    exact ⟨fun _ => ⟨fun _ _ => rfl, fun t ht => (by cases ht)⟩, fun k hk => ok, fun q => absurd rfl q, fun k hk t ht => (by cases ht), fun e he => (by cases he)⟩
/-- what a zone tells at the end -/
def wFin (n : Nat) (C : Nat → Int32) (sn : List V3) (so : Option V3) (ww : Nat → Nat × Nat) : Prop :=
  (∀ k, k < 10 → fOK (ww k)) ∧ (so = none → ∀ k, k < n → ww k = (0, 1)) ∧
  (so ≠ none → ∀ k, k < n → (∃ t, t ∈ sn ∧ t ≠ (0, 0, 0) ∧ (wdK n C k t).natAbs * (ww k).2 ≤ (ww k).1 * (dt t t).natAbs) ∧ ∀ t, t ∈ sn → t ≠ (0, 0, 0) → (ww k).1 * (dt t t).natAbs ≤ (wdK n C k t).natAbs * (ww k).2)
def ZF (w : Wd) (z j n : Nat) (C : Nat → Int32) : Prop := isZ w z ∧ rdI w z 0 = nI j ∧ zP w z n C ∧ bdC n C ∧ C = cN n C ∧ zB w z (sfo (wdP n C) (cdP j (LN n C))) ∧ frIs w (z + 5) (frA (wdP n C) (sfo (wdP n C) (cdP j (LN n C)))) (frB (wdP n C) (sfo (wdP n C) (cdP j (LN n C)))) ∧ nzO (sfo (wdP n C) (cdP j (LN n C))) ∧ ∃ ww, wws w z ww ∧ wFin n C (cdP j (LN n C)) (sfo (wdP n C) (cdP j (LN n C))) ww
def wwE (ww : Nat → Nat × Nat) (k a b : Nat) : Nat → Nat × Nat := fun i => if i < k ∧ a * (ww i).2 < (ww i).1 * b then red a b else ww i
theorem wwE_s {ww : Nat → Nat × Nat} {k a b : Nat} : wwL (wwE ww k a b) k a b = wwE ww (k + 1) a b := by
  funext i
  unfold wwL wwE
  by_cases e : i = k
  · subst e
    have n1 : ¬ (i < i ∧ a * (ww i).2 < (ww i).1 * b) := fun q => by omega
    rw [if_neg n1]
    by_cases q : a * (ww i).2 < (ww i).1 * b
    · rw [if_pos ⟨rfl, q⟩, if_pos ⟨by omega, q⟩]
    · rw [if_neg (fun y => q y.2), if_neg (fun y => q y.2)]
  · rw [if_neg (fun y => e y.1)]
    by_cases q : i < k ∧ a * (ww i).2 < (ww i).1 * b
    · rw [if_pos q, if_pos ⟨by omega, q.2⟩]
    · rw [if_neg q, if_neg (fun y => q ⟨by omega, y.2⟩)]
theorem lo_fin {z n a b : Nat} {C : Nat → Int32} {ww : Nat → Nat × Nat} {w0 : Wd} {a1 : Option Value} {Q : Option Value → Wd → Prop} (h1 : isc2 (some a1) = false) (ha : a ≤ 26244000000) (hb : b ≤ 9720000) (h0 : 0 < b) : ∀ (e k : Nat) (w : Wd) (a3 a4 : Option Value), k + e = n → isZ w z → zP w z n C → frIs w (z + 5) a b → wws w z (wwE ww k a b) → (∀ i, i < 10 → fOK (wwE ww k a b i)) → FrX (fun c _ => z + 8 ≤ c ∧ c < z + 18) w0 w →
    (∀ u, wws u z (wwE ww n a b) → (∀ i, i < 10 → fOK (wwE ww n a b i)) → FrX (fun c _ => z + 8 ≤ c ∧ c < z + 18) w0 u → Q none u) →
    wp mX7_survey 139 [some (.ref z), a1, some (.int (nI k)), a3, a4] [] w Q := by
  have m14 : 14 ∈ [14, 15, 16, 17] := by decide
  intro e
  induction e with
  | zero =>
    intro k w a3 a4 hk h hP hw hww hok hF hQ
    have e : k = n := by omega
    subst e
    have lt : ¬ nI k < nI k := Int32.lt_irrefl
    simp only [eX7_survey_139, eX7_survey_140, eX7_survey_141, eX7_survey_144, eX7_survey_176, cont_some, tl_some, tl_none, csum_nil, csum_i, csum_r, csum_j, isc2_i, isc2_r, isc2_n, va_rf_s, vfn_ite, true_and, and_true, true_or, or_true, eq_self, Bool.false_eq_true, not_false_eq_true, not_true_eq_false, if_true, if_false, Nat.reduceAdd, Nat.reduceLeDiff, reduceIte, h.1, hP.1, lt]
    exact hQ w hww hok hF
  | succ e ih =>
    intro k w a3 a4 hk h hP hw hww hok hF hQ
    have h10 := hP.2.1
    have lt : nI k < nI n := nI_lt (by omega) (by omega)
    obtain ⟨g1, g2⟩ := h.2.2.2.2.2.2.2.2.2.2.2.2.2.2.2 k (by omega)
    obtain ⟨u, k1, k2, k3, k4⟩ := s_low1 hww (show k < 10 by omega) hok ha hb h0
    rw [wwE_s] at k2 k3
    simp only [eX7_survey_139, eX7_survey_140, eX7_survey_141, eX7_survey_144, eX7_survey_147, eX7_survey_148, eX7_survey_151, eX7_survey_152, eX7_survey_153, eX7_survey_154, eX7_survey_157, eX7_survey_160, eX7_survey_161, eX7_survey_164, eX7_survey_167, eX7_survey_170, cont_some, tl_some, tl_none, csum_nil, csum_i, csum_r, csum_j, isc2_i, isc2_r, isc2_n, va_rf_s, vfn_ite, true_and, and_true, true_or, or_true, eq_self, Bool.false_eq_true, not_false_eq_true, not_true_eq_false, if_true, if_false, Nat.reduceAdd, Nat.reduceLeDiff, reduceIte, h.1, hP.1, lt, h.2.2.2.2.2.2.1, h.2.2.2.2.2.2.2.2.2.2.2.2.2.1, h.2.2.2.2.2.1, m14, inA_nI (show k < 10 by omega) (show 10 < 2147483648 by omega), nI_clamp (show k < 2 ^ 31 by omega), g1, g2, hw.1, hw.2.1, hw.2.2, k1, nI_1, h1]
    rw [eX7_survey_173]
    exact ih (k + 1) u _ _ (by omega) (h.fx k4) (hP.fx k4 (fun q => by omega) (fun i q => by omega)) (hw.fx k4 (fun j q => by omega)) k2 k3 (hF.tr (k4.wide (fun c j q => by omega))) hQ
theorem ZS.fx {X : Nat → Nat → Prop} {w u : Wd} {z j : Nat} (f : FrX X w u) (h : ¬ X z j) : rdI u z j = rdI w z j := f.1 z j h
theorem lo_sv2 {z n k : Nat} {C : Nat → Int32} {L : List V3} {l : V3} {w0 : Wd} {a1 : Option Value} {Q : Option Value → Wd → Prop} {all : List V3} (hb : bdC n C) (hn : 2 ≤ n) (hl : L[k]? = some l) (hin : ∀ x, x ∈ L → in3 30 x) : ∀ (e o : Nat) (w : Wd) (sn : List V3) (a4 : Option Value), o + e = L.length → ZS w z n C L sn → sn ++ ((L.drop o).map (cx l) ++ cl3 (L.drop (k + 1))) = all → FrX (Xq z) w0 w →
    (∀ u sn' a3 a4, ZS u z n C L sn' → sn' ++ cl3 (L.drop (k + 1)) = all → FrX (Xq z) w0 u → wp mX7_survey 131 [some (.ref z), a1, some (.int (nI k)), some (.int a3), a4] [] u Q) →
    wp mX7_survey 82 [some (.ref z), a1, some (.int (nI k)), some (.int (nI o)), a4] [] w Q := by
  have hli : in3 30 l := hin l (List.mem_of_getElem? hl)
  intro e
  induction e with
  | zero =>
    intro o w sn a4 ho hZ hs hF hQ
    have e : o = L.length := by omega
    have lt : ¬ nI o < nI L.length := by rw [e]; exact Int32.lt_irrefl
    simp only [eX7_survey_82, eX7_survey_83, eX7_survey_84, eX7_survey_87, cont_some, tl_some, tl_none, csum_nil, csum_i, csum_r, csum_j, isc2_i, isc2_r, isc2_n, va_rf_s, vfn_ite, true_and, and_true, true_or, or_true, eq_self, Bool.false_eq_true, not_false_eq_true, not_true_eq_false, if_true, if_false, Nat.reduceAdd, Nat.reduceLeDiff, reduceIte, hZ.1.1, hZ.2.2.1.1, lt]
    refine hQ w sn _ _ hZ ?_ hF
    rw [e, List.drop_length] at hs
    exact hs
  | succ e ih =>
    intro o w sn a4 ho hZ hs hF hQ
    have h45 := hZ.2.2.1.2.1
    have lt : nI o < nI L.length := nI_lt (by omega) (by omega)
    have hx : L[o]? = some L[o] := List.getElem?_eq_getElem (by omega)
    obtain ⟨g0, g1, g2⟩ := hZ.2.2.1.2.2 o _ hx
    have hxi : in3 30 L[o] := hin _ (List.getElem_mem _)
    obtain ⟨u, t1, t2, t3⟩ := s_try hb hn hZ hl hli hxi
    have h := hZ.1
    simp only [eX7_survey_82, eX7_survey_83, eX7_survey_84, eX7_survey_87, eX7_survey_90, eX7_survey_91, eX7_survey_92, eX7_survey_93, eX7_survey_95, eX7_survey_96, eX7_survey_97, eX7_survey_98, eX7_survey_101, eX7_survey_103, eX7_survey_104, eX7_survey_105, eX7_survey_108, eX7_survey_110, eX7_survey_111, eX7_survey_112, eX7_survey_113, eX7_survey_114, eX7_survey_117, eX7_survey_119, eX7_survey_120, eX7_survey_121, eX7_survey_122, cont_some, tl_some, tl_none, csum_nil, csum_i, csum_r, csum_j, isc2_i, isc2_r, isc2_n, va_rf_s, vfn_ite, true_and, and_true, true_or, or_true, eq_self, Bool.false_eq_true, not_false_eq_true, not_true_eq_false, if_true, if_false, Nat.reduceAdd, Nat.reduceLeDiff, reduceIte, h.1, hZ.2.2.1.1, lt, h.2.2.1, h.2.2.2.2.2.2.2.2.2.1, nI_m3, nI_p1, nI_p2, nI_a, inA_nI (show 3 * o < 135 by omega) (show 135 < 2147483648 by omega), inA_nI (show 3 * o + 1 < 135 by omega) (show 135 < 2147483648 by omega), inA_nI (show 3 * o + 2 < 135 by omega) (show 135 < 2147483648 by omega), nI_clamp (show 3 * o < 2 ^ 31 by omega), nI_clamp (show 3 * o + 1 < 2 ^ 31 by omega), nI_clamp (show 3 * o + 2 < 2 ^ 31 by omega), g0, g1, g2, t1]
    simp only [eX7_survey_125, cont_some, tl_some, tl_none, csum_nil, csum_i, csum_r, csum_j, isc2_i, isc2_r, isc2_n, va_rf_s, vfn_ite, true_and, and_true, true_or, or_true, eq_self, Bool.false_eq_true, not_false_eq_true, not_true_eq_false, if_true, if_false, Nat.reduceAdd, Nat.reduceLeDiff, reduceIte, nI_1]
    rw [eX7_survey_128]
    refine ih (o + 1) u _ _ (by omega) t2 ?_ (hF.tr t3) hQ
    rw [List.drop_eq_getElem_cons (show o < L.length by omega)] at hs
    rw [← hs, List.map_cons, List.append_assoc]
    rfl
