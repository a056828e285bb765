theorem wdK_le {n k : Nat} {C : Nat → Int32} {t : V3} (h10 : n ≤ 10) (hn : 2 ≤ n) (hk : k < n) : (wdK n C k t).natAbs ≤ (wdP n C t).natAbs := by
  obtain ⟨j, hj⟩ : ∃ j, j < n ∧ j ≠ k := by
    by_cases q : k = 0
    · exact ⟨1, by omega, by omega⟩
    · exact ⟨0, by omega, by omega⟩
  obtain ⟨R, hR⟩ := rg_ex (n := n) (S := fun _ => True) (P := ptZ C) (v := t) (t := j) ⟨hj.1, trivial⟩
  obtain ⟨r, hr⟩ := rg_ex (n := n) (S := fun i => i ≠ k) (P := ptZ C) (v := t) (t := j) hj
  rw [wdP_eq h10 hR, wdK_eq h10 hk hr]
  obtain ⟨⟨a, b, ha, hb, er⟩, hr2⟩ := hr
  have l1 := hR.2 a b ha.1 trivial hb.1 trivial
  have l0 := hr2 a a ha.1 ha.2 ha.1 ha.2
  have z0 : dt t (sb (ptZ C a) (ptZ C a)) = 0 := by simp only [dt, sb]; grind
  have := sq_le (a := r) (r := R) (by omega) (by omega)
  have p1 := sqNN r
  have p2 := sqNN R
  omega
theorem wFin_of {n : Nat} {C : Nat → Int32} {sn : List V3} {ww : Nat → Nat × Nat} (h10 : n ≤ 10) (hn : sn ≠ [] → 2 ≤ n) (h : wInv n C sn (sfo (wdP n C) sn) ww) (hok : ∀ i, i < 10 → fOK (wwE ww n (frA (wdP n C) (sfo (wdP n C) sn)) (frB (wdP n C) (sfo (wdP n C) sn)) i)) : wFin n C sn (sfo (wdP n C) sn) (wwE ww n (frA (wdP n C) (sfo (wdP n C) sn)) (frB (wdP n C) (sfo (wdP n C) sn))) := by
  obtain ⟨h1, h2, h3, h4, h5⟩ := h
  have hm := sfo_min (A := wdP n C) (fun t => wd_scale) sn
  refine ⟨hok, fun e k hk => ?_, fun hne k hk => ?_⟩
  · have w1 := (h1 e).1 k (by omega)
    rw [e]
    unfold wwE
    rw [w1]
    rw [if_neg]
    rintro ⟨-, q⟩
    have q' : 0 / Nat.gcd 0 1 * 1 < 0 * (1 / Nat.gcd 0 1) := q
    exact absurd q' (by decide)
  · cases es : sfo (wdP n C) sn with
    | none => exact absurd es hne
    | some e =>
      rw [es] at hok h3
      obtain ⟨⟨t0, t1, t2, t3⟩, hmin⟩ := hm.2 e es
      have hn2 := hn (fun q => by rw [q] at t1; cases t1)
      have e0 : e ≠ (0, 0, 0) := by rw [t3]; exact nrm_ne t2
      have D0 : 0 < (dt e e).natAbs := by have := dt_p e0; omega
      have nA : ∀ x, ((wdP n C x).natAbs : Int) = wdP n C x := fun x => by have : 0 ≤ wdP n C x := wdA_nn; omega
      have nD : ∀ x : V3, ((dt x x).natAbs : Int) = dt x x := fun x => by have := dt_nn x; omega
      obtain ⟨a, ha⟩ : ∃ a, a = frA (wdP n C) (some e) := ⟨_, rfl⟩
      obtain ⟨b, hb⟩ : ∃ b, b = frB (wdP n C) (some e) := ⟨_, rfl⟩
      rw [← ha, ← hb] at hok ⊢
      have b0 : 0 < b := by rw [hb]; exact red_pos D0
      -- the width is below what any way tells
      have wmin : ∀ t, t ∈ sn → t ≠ (0, 0, 0) → a * (dt t t).natAbs ≤ (wdP n C t).natAbs * b := fun t ht hne => by
        rw [ha, hb]
        refine (red_le (N := (wdP n C e).natAbs) (D := (dt e e).natAbs) D0).mpr ?_
        have := hmin t ht hne
        refine Int.ofNat_le.mp ?_
        rw [Int.natCast_mul, Int.natCast_mul, nA, nA, nD, nD]
        exact this
      have watt : (wdK n C k t0).natAbs * b ≤ a * (dt t0 t0).natAbs := by
        have k1 := wdK_le (t := t0) (C := C) h10 hn2 hk
        rw [ha, hb]
        refine (red_le' (N := (wdP n C e).natAbs) (D := (dt e e).natAbs) D0).mpr ?_
        have own : wdP n C t0 * dt e e = wdP n C e * dt t0 t0 := by
          have q1 : wdP n C t0 = gv t0 * gv t0 * wdP n C (nrm t0) := wd_scale
          rw [q1, dt_nrm2 t0, t3]; grind
        have own' : (wdP n C t0).natAbs * (dt e e).natAbs = (wdP n C e).natAbs * (dt t0 t0).natAbs := by
          refine Int.ofNat.inj ?_
          show (((wdP n C t0).natAbs * (dt e e).natAbs : Nat) : Int) = (((wdP n C e).natAbs * (dt t0 t0).natAbs : Nat) : Int)
          rw [Int.natCast_mul, Int.natCast_mul, nA, nA, nD, nD]
          exact own
        rw [← own']
        exact Nat.mul_le_mul_right _ k1
      have p0 := (h2 k (by omega)).1
      by_cases q : a * (ww k).2 < (ww k).1 * b
      · have ew : wwE ww n a b k = red a b := by unfold wwE; rw [if_pos ⟨hk, q⟩]
        rw [ew]
        refine ⟨⟨t0, t1, t2, (red_le' b0).mpr watt⟩, fun t ht hne => (red_le b0).mpr ?_⟩
        rcases h4 k hk t ht hne with y | y
        · exact fr_tr p0 (Nat.le_of_lt q) y
        · rw [y]; exact wmin t ht hne
      · have ew : wwE ww n a b k = ww k := by unfold wwE; rw [if_neg (fun y => q y.2)]
        rw [ew]
        refine ⟨h3 (by simp) k hk, fun t ht hne => ?_⟩
        rcases h4 k hk t ht hne with y | y
        · exact y
        · rw [y]
          exact fr_tr b0 (by omega) (wmin t ht hne)
theorem lo_sv1 {z j n sc : Nat} {C : Nat → Int32} {L : List V3} {w0 : Wd} {Q : Option Value → Wd → Prop} (hb : bdC n C) (hj : j < 4) (hn : 0 < L.length → 2 ≤ n) (hin : ∀ x, x ∈ L → in3 30 x) : ∀ (e k : Nat) (w : Wd) (sn : List V3) (a3 a4 : Option Value), k + e = L.length → ZS w z n C L sn → rdI w z 0 = nI j → sn ++ cdP j (L.drop k) = cdP j L → FrX (Xq z) w0 w →
    (∀ u a3 a4, ZS u z n C L (cdP j L) → rdI u z 0 = nI j → FrX (Xq z) w0 u → wp mX7_survey 139 [some (.ref z), some (.ref sc), some (.int (nI 0)), a3, a4] [] u Q) →
    wp mX7_survey 16 [some (.ref z), some (.ref sc), some (.int (nI k)), a3, a4] [] w Q := by
  intro e
  induction e with
  | zero =>
    intro k w sn a3 a4 hk hZ hz0 hs hF hQ
    have e : k = L.length := by omega
    have lt : ¬ nI k < nI L.length := by rw [e]; exact Int32.lt_irrefl
    simp only [eX7_survey_16, eX7_survey_17, eX7_survey_18, eX7_survey_21, eX7_survey_137, eX7_survey_138, cont_some, tl_some, tl_none, csum_nil, csum_i, csum_r, csum_j, isc2_i, isc2_r, isc2_n, va_rf_s, vfn_ite, true_and, and_true, true_or, or_true, eq_self, Bool.false_eq_true, not_false_eq_true, not_true_eq_false, if_true, if_false, Nat.reduceAdd, Nat.reduceLeDiff, reduceIte, hZ.1.1, hZ.2.2.1.1, lt]
    refine hQ w _ _ ?_ hz0 hF
    rw [e, List.drop_length] at hs
    have : cdP j [] = [] := by unfold cdP; split <;> rfl
    rw [this, List.append_nil] at hs
    rw [← hs]
    exact hZ
  | succ e ih =>
    intro k w sn a3 a4 hk hZ hz0 hs hF hQ
    have h := hZ.1
    have h45 := hZ.2.2.1.2.1
    have lt : nI k < nI L.length := nI_lt (by omega) (by omega)
    have hl : L[k]? = some L[k] := List.getElem?_eq_getElem (by omega)
    have hli : in3 30 L[k] := hin _ (List.getElem_mem _)
    have hn2 := hn (by omega)
    rw [List.drop_eq_getElem_cons (show k < L.length by omega)] at hs
    have nx : ∀ u sn' a3 a4, ZS u z n C L sn' → sn' ++ cdP j (L.drop (k + 1)) = cdP j L → FrX (Xq z) w u → wp mX7_survey 131 [some (.ref z), some (.ref sc), some (.int (nI k)), a3, a4] [] u Q := by
      intro u sn' a3 a4 k1 k2 k3
      simp only [eX7_survey_131, cont_some, tl_some, tl_none, csum_nil, csum_i, csum_r, csum_j, isc2_i, isc2_r, isc2_n, va_rf_s, vfn_ite, true_and, and_true, true_or, or_true, eq_self, Bool.false_eq_true, not_false_eq_true, not_true_eq_false, if_true, if_false, Nat.reduceAdd, Nat.reduceLeDiff, reduceIte, nI_1]
      rw [eX7_survey_134]
      exact ih (k + 1) u sn' _ _ (by omega) k1 ((k3.1 z 0 (fun q => by unfold Xq at q; omega)).trans hz0) k2 (hF.tr k3) hQ
    simp only [eX7_survey_16, eX7_survey_17, eX7_survey_18, eX7_survey_21, eX7_survey_24, eX7_survey_25, cont_some, tl_some, tl_none, csum_nil, csum_i, csum_r, csum_j, isc2_i, isc2_r, isc2_n, va_rf_s, vfn_ite, true_and, and_true, true_or, or_true, eq_self, Bool.false_eq_true, not_false_eq_true, not_true_eq_false, if_true, if_false, Nat.reduceAdd, Nat.reduceLeDiff, reduceIte, h.1, hZ.2.2.1.1, lt, hz0]
    by_cases q3 : j = 3
    · subst q3
      simp only [eX7_survey_28, eX7_survey_29, cont_some, tl_some, tl_none, csum_nil, csum_i, csum_r, csum_j, isc2_i, isc2_r, isc2_n, va_rf_s, vfn_ite, true_and, and_true, true_or, or_true, eq_self, Bool.false_eq_true, not_false_eq_true, not_true_eq_false, if_true, if_false, Nat.reduceAdd, Nat.reduceLeDiff, reduceIte, nI3]
      simp only [eX7_survey_78, eX7_survey_79, eX7_survey_80, eX7_survey_81, cont_some, tl_some, tl_none, csum_nil, csum_i, csum_r, csum_j, isc2_i, isc2_r, isc2_n, va_rf_s, vfn_ite, true_and, and_true, true_or, or_true, eq_self, Bool.false_eq_true, not_false_eq_true, not_true_eq_false, if_true, if_false, Nat.reduceAdd, Nat.reduceLeDiff, reduceIte, nI_1]
      refine lo_sv2 (w0 := w) (all := cdP 3 L) hb hn2 hl hin (L.length - (k + 1)) (k + 1) w sn _ (by omega) hZ ?_ FrX.rf (fun u sn' a3 a4 k1 k2 k3 => nx u sn' _ _ k1 k2 k3)
      rw [← hs]
      rfl
    · have n3 : ¬ nI j = 3 := fun y => q3 ((nI_eq (b := 3) (by omega) (by omega)).mp y)
      have ax : in3 30 (axv j) := by
        unfold axv
        split
        · exact ⟨by decide, by decide, by decide⟩
        · split
          · exact ⟨by decide, by decide, by decide⟩
          · exact ⟨by decide, by decide, by decide⟩
      obtain ⟨u, t1, t2, t3⟩ := s_try hb hn2 hZ hl hli ax
      have hcd : ∀ M, cdP j M = M.map (fun l => cx l (axv j)) := fun M => if_neg q3
      have go : ∀ a3 a4, wp mX7_survey 131 [some (.ref z), some (.ref sc), some (.int (nI k)), a3, a4] [] u Q := fun a3 a4 => nx u _ a3 a4 t2 (by
        rw [hcd, hcd] at hs ⊢
        rw [← hs, List.map_cons, List.append_assoc]
        rfl) t3
      simp only [eX7_survey_28, eX7_survey_29, cont_some, tl_some, tl_none, csum_nil, csum_i, csum_r, csum_j, isc2_i, isc2_r, isc2_n, va_rf_s, vfn_ite, true_and, and_true, true_or, or_true, eq_self, Bool.false_eq_true, not_false_eq_true, not_true_eq_false, if_true, if_false, Nat.reduceAdd, Nat.reduceLeDiff, reduceIte, n3]
      have hj3 : j = 0 ∨ j = 1 ∨ j = 2 := by omega
      rcases hj3 with rfl | rfl | rfl
      · have t1' : fX7_trySquareTo [.ref z, .int (nI k), .int 1, .int 0, .int 0] w = some (none, u) := t1
        simp only [eX7_survey_32, eX7_survey_33, eX7_survey_34, eX7_survey_35, eX7_survey_38, eX7_survey_41, eX7_survey_42, eX7_survey_45, eX7_survey_46, eX7_survey_47, eX7_survey_50, eX7_survey_51, eX7_survey_54, eX7_survey_55, eX7_survey_58, eX7_survey_59, eX7_survey_60, eX7_survey_63, eX7_survey_64, eX7_survey_67, eX7_survey_68, eX7_survey_71, eX7_survey_72, eX7_survey_75, cont_some, tl_some, tl_none, csum_nil, csum_i, csum_r, csum_j, isc2_i, isc2_r, isc2_n, va_rf_s, vfn_ite, true_and, and_true, true_or, or_true, eq_self, Bool.false_eq_true, not_false_eq_true, not_true_eq_false, if_true, if_false, Nat.reduceAdd, Nat.reduceLeDiff, reduceIte, h.1, hz0, nI0, i01, i02, t1']
        exact go _ _
      · have t1' : fX7_trySquareTo [.ref z, .int (nI k), .int 0, .int 1, .int 0] w = some (none, u) := t1
        simp only [eX7_survey_32, eX7_survey_33, eX7_survey_34, eX7_survey_35, eX7_survey_38, eX7_survey_41, eX7_survey_42, eX7_survey_45, eX7_survey_46, eX7_survey_47, eX7_survey_50, eX7_survey_51, eX7_survey_54, eX7_survey_55, eX7_survey_58, eX7_survey_59, eX7_survey_60, eX7_survey_63, eX7_survey_64, eX7_survey_67, eX7_survey_68, eX7_survey_71, eX7_survey_72, eX7_survey_75, cont_some, tl_some, tl_none, csum_nil, csum_i, csum_r, csum_j, isc2_i, isc2_r, isc2_n, va_rf_s, vfn_ite, true_and, and_true, true_or, or_true, eq_self, Bool.false_eq_true, not_false_eq_true, not_true_eq_false, if_true, if_false, Nat.reduceAdd, Nat.reduceLeDiff, reduceIte, h.1, hz0, nI1, i10', i12, t1']
        exact go _ _
      · have t1' : fX7_trySquareTo [.ref z, .int (nI k), .int 0, .int 0, .int 1] w = some (none, u) := t1
        simp only [eX7_survey_32, eX7_survey_33, eX7_survey_34, eX7_survey_35, eX7_survey_38, eX7_survey_41, eX7_survey_42, eX7_survey_45, eX7_survey_46, eX7_survey_47, eX7_survey_50, eX7_survey_51, eX7_survey_54, eX7_survey_55, eX7_survey_58, eX7_survey_59, eX7_survey_60, eX7_survey_63, eX7_survey_64, eX7_survey_67, eX7_survey_68, eX7_survey_71, eX7_survey_72, eX7_survey_75, cont_some, tl_some, tl_none, csum_nil, csum_i, csum_r, csum_j, isc2_i, isc2_r, isc2_n, va_rf_s, vfn_ite, true_and, and_true, true_or, or_true, eq_self, Bool.false_eq_true, not_false_eq_true, not_true_eq_false, if_true, if_false, Nat.reduceAdd, Nat.reduceLeDiff, reduceIte, h.1, hz0, nI2, i20, i21, t1']
        exact go _ _
theorem cdP_ne {j : Nat} {L : List V3} (h : cdP j L ≠ []) : 0 < L.length := by
  cases L with
  | nil => exact absurd (by unfold cdP; split <;> rfl) h
  | cons x r => simp
theorem s_survey {w : Wd} {z j n sc : Nat} {C : Nat → Int32} {S : Sst} (hj : j < 4) (hZ : ZF w z j n C) (hS : scIs w sc S) (hbS : bdS S) (hd : sc + 2 ≤ z ∨ z + 18 ≤ sc) : ∃ u, fX7_survey [.ref z, .ref sc] w = some (none, u) ∧ ZF u z j S.1 (cN S.1 S.2.1) ∧ FrX (Xa z) w u := by
  obtain ⟨h, hz0, hP, hbC, hcan, hB, hw, hnz, ww, hww, hfin⟩ := id hZ
  have ho := s_isOf h hP hS
  by_cases q : n = S.1 ∧ ∀ i, i < 3 * n → C i = S.2.1 i
  · obtain ⟨q1, q2⟩ := q
    subst q1
    refine ⟨w, ?_, ?_, FrX.rf⟩
    · refine sem_eq (Nat.le_of_ble_eq_true rfl) ?_
      show wp mX7_survey 0 [some (.ref z), some (.ref sc), none, none, none] [] _ _
      rw [b2i_t ⟨rfl, q2⟩] at ho
      simp only [eX7_survey_0, eX7_survey_1, eX7_survey_2, eX7_survey_5, eX7_survey_8, cont_some, tl_some, tl_none, csum_nil, csum_i, csum_r, csum_j, isc2_i, isc2_r, isc2_n, va_rf_s, vfn_ite, true_and, and_true, true_or, or_true, eq_self, Bool.false_eq_true, not_false_eq_true, not_true_eq_false, if_true, if_false, Nat.reduceAdd, Nat.reduceLeDiff, reduceIte, h.1, ho, i10']
    · rw [← cN_eq q2, ← hcan]
      exact hZ
  · rw [b2i_f q] at ho
    obtain ⟨w1, k1, k2, k3⟩ := s_begin h hS hd
    obtain ⟨n', hn'⟩ : ∃ n', n' = S.1 := ⟨_, rfl⟩
    obtain ⟨D, hD⟩ : ∃ D, D = cN S.1 S.2.1 := ⟨_, rfl⟩
    have hbD : bdC n' D := by rw [hn', hD]; exact cN_bd hbS
    have hcanD : D = cN n' D := by rw [hn', hD, cN_cN]
    rw [← hD, ← hn'] at k2 ⊢
    have h10 := k2.2.1.2.1
    obtain ⟨L, hL⟩ : ∃ L, L = LN n' D := ⟨_, rfl⟩
    obtain ⟨A, hA⟩ : ∃ A, A = wdP n' D := ⟨_, rfl⟩
    obtain ⟨sn, hsn⟩ : ∃ sn, sn = cdP j L := ⟨_, rfl⟩
    have hh : wp mX7_survey 0 [some (.ref z), some (.ref sc), none, none, none] [] w (fun r u => r = none ∧ ZF u z j n' D ∧ FrX (Xa z) w u) := by
      simp only [eX7_survey_0, eX7_survey_1, eX7_survey_2, eX7_survey_5, eX7_survey_8, eX7_survey_9, eX7_survey_10, eX7_survey_11, cont_some, tl_some, tl_none, csum_nil, csum_i, csum_r, csum_j, isc2_i, isc2_r, isc2_n, va_rf_s, vfn_ite, true_and, and_true, true_or, or_true, eq_self, Bool.false_eq_true, not_false_eq_true, not_true_eq_false, if_true, if_false, Nat.reduceAdd, Nat.reduceLeDiff, reduceIte, h.1, ho, k1]
      simp only [eX7_survey_14, eX7_survey_15, cont_some, tl_some, tl_none, csum_nil, csum_i, csum_r, csum_j, isc2_i, isc2_r, isc2_n, va_rf_s, vfn_ite, true_and, and_true, true_or, or_true, eq_self, Bool.false_eq_true, not_false_eq_true, not_true_eq_false, if_true, if_false, Nat.reduceAdd, Nat.reduceLeDiff, reduceIte]
      refine lo_sv1 (w0 := w1) (j := j) hbD hj (fun y => LN_2 y) (LN_in h10 hbD) (LN n' D).length 0 w1 [] _ _ (by omega) k2 ((k3.1 z 0 (fun q => by unfold Xa at q; omega)).trans hz0) (by rw [List.drop_zero]; rfl) FrX.rf (fun u a3 a4 m1 m2 m3 => ?_)
      obtain ⟨u1, u2, u3, ww', u4, u5, u6, u7⟩ := m1
      have onz := u7.2.2.2.2
      have b9 : frA (wdP n' D) (sfo (wdP n' D) (cdP j (LN n' D))) ≤ 26244000000 ∧ frB (wdP n' D) (sfo (wdP n' D) (cdP j (LN n' D))) ≤ 9720000 ∧ 0 < frB (wdP n' D) (sfo (wdP n' D) (cdP j (LN n' D))) := by
        cases es : sfo (wdP n' D) (cdP j (LN n' D)) with
        | none => exact ⟨by show 0 / Nat.gcd 0 1 ≤ _; decide, by show 1 / Nat.gcd 0 1 ≤ _; decide, by show 0 < 1 / Nat.gcd 0 1; decide⟩
        | some e =>
          obtain ⟨e1, e2⟩ := onz e es
          have d0 := dt_p e2
          have d1 := dt_bb e1
          exact ⟨Nat.le_trans (Nat.div_le_self _ _) (wdA_b (j := 3) hbD e1), Nat.le_trans (Nat.div_le_self _ _) d1, red_pos (N := (wdP n' D e).natAbs) (D := (dt e e).natAbs) (by omega)⟩
      have w0' : wwE ww' 0 (frA (wdP n' D) (sfo (wdP n' D) (cdP j (LN n' D)))) (frB (wdP n' D) (sfo (wdP n' D) (cdP j (LN n' D)))) = ww' := by
        funext i
        unfold wwE
        rw [if_neg (fun q => by omega)]
      refine lo_fin (ww := ww') (w0 := u) rfl b9.1 b9.2.1 b9.2.2 n' 0 u _ _ (by omega) u1 u2 u5 (by rw [w0']; exact u6) (by rw [w0']; exact u7.2.1) FrX.rf (fun v v1 v2 v3 => ?_)
      have F : FrX (Xa z) w v := (k3.tr (m3.wide (fun c i q => by unfold Xq at q; unfold Xa; omega))).tr (v3.wide (fun c i q => by unfold Xa; omega))
      exact ⟨rfl, ⟨u1.fx v3, (v3.1 z 0 (fun q => by omega)).trans m2, u2.fx v3 (fun q => by omega) (fun i q => by omega), hbD, hcanD, u4.fx v3 (fun q => by omega) (fun i q => by omega), u5.fx v3 (fun i q => by omega), onz, _, v1, wFin_of h10 (fun q => LN_2 (cdP_ne q)) u7 v2⟩, F⟩
    obtain ⟨r, u, g1, rfl, g2, g3⟩ := sem_wp (nL := 5) (as := [.ref z, .ref sc]) (Nat.le_of_ble_eq_true rfl) hh
    exact ⟨u, g1, g2, g3⟩
