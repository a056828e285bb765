/-! what a zone tells -/
theorem ZF.fm {X : Nat → Nat → Prop} {w u : Wd} {z j n : Nat} {C : Nat → Int32} (h : ZF w z j n C) (f : FrX X w u) (hx : ∀ c i, X c i → (c = z ∧ 11 ≤ i) ∨ c = z + 7 ∨ c = z + 4 ∨ c < z ∨ z + 18 ≤ c) : ZF u z j n C := by
  obtain ⟨h1, h2, h3, h4, h5, h6, h7, h8, ww, h9, h10⟩ := h
  refine ⟨h1.fx f, (f.1 _ _ (fun q => by have := hx _ _ q; omega)).trans h2, h3.fx f (fun q => by have := hx _ _ q; omega) (fun i q => by have := hx _ _ q; omega), h4, h5, h6.fx f (fun q => by have := hx _ _ q; omega) (fun i q => by have := hx _ _ q; omega), h7.fx f (fun i q => by have := hx _ _ q; omega), h8, ww, h9.fx f (fun k i hk q => by have := hx _ _ q; omega), h10⟩
theorem lo_setAt {z n : Nat} {w : Wd} {f : Nat → Int} {v : Int} (h : isZ w z) (hn : rdI w z 2 = nI n) (h10 : n ≤ 10) (ha : ∀ i, i < n → rdI w (z + 7) i = iI (f i)) (hb : ∀ i, i < n → (f i).natAbs ≤ 81000) (hv : v.natAbs ≤ 81000) : ∀ (e k : Nat), k + e = n →
    wp mX7_setAt 4 [some (.ref z), some (.int (iI v)), some (.int (loS f v k)), some (.int (nI k))] [] w (fun r u => r = some (.int (loS f v n)) ∧ u = w) := by
  intro e
  induction e with
  | zero =>
    intro k hk
    have e : k = n := by omega
    subst e
    have l : ¬ nI k < nI k := Int32.lt_irrefl
    simp only [eX7_setAt_4, eX7_setAt_5, eX7_setAt_6, eX7_setAt_9, eX7_setAt_34, eX7_setAt_35, cont_some, tl_some, tl_none, csum_nil, csum_i, csum_r, csum_j, isc2_i, isc2_r, isc2_n, va_rf_s, vfn_ite, true_and, and_true, true_or, or_true, eq_self, Bool.false_eq_true, not_false_eq_true, not_true_eq_false, if_true, if_false, Nat.reduceAdd, Nat.reduceLeDiff, reduceIte, h.1, hn, l]
  | succ e ih =>
    intro k hk
    have l : nI k < nI n := nI_lt (by omega) (by omega)
    have hkb := hb k (by omega)
    have c : iI (f k) = iI v ↔ f k = v := iI_eq (by omega) (by omega)
    have hbk : (1 : Int32) <<< (nI k &&& 31) = bk k := rfl
    have go := ih (k + 1) (by omega)
    have es : loS f v (k + 1) = if f k = v then loS f v k ||| bk k else loS f v k := rfl
    rw [es] at go
    simp only [eX7_setAt_4, eX7_setAt_5, eX7_setAt_6, eX7_setAt_9, eX7_setAt_12, eX7_setAt_13, eX7_setAt_16, eX7_setAt_17, eX7_setAt_18, eX7_setAt_19, cont_some, tl_some, tl_none, csum_nil, csum_i, csum_r, csum_j, isc2_i, isc2_r, isc2_n, va_rf_s, vfn_ite, true_and, and_true, true_or, or_true, eq_self, Bool.false_eq_true, not_false_eq_true, not_true_eq_false, if_true, if_false, Nat.reduceAdd, Nat.reduceLeDiff, reduceIte, h.1, hn, l, h.2.2.2.2.2.2.2.1, h.2.2.2.2.2.2.2.2.2.2.2.2.2.2.1, inA_nI (show k < 10 by omega) (show 10 < 2147483648 by omega), nI_clamp (show k < 2 ^ 31 by omega), ha k (by omega), c]
    by_cases q : f k = v
    · rw [if_pos q] at go ⊢
      simp only [eX7_setAt_22, eX7_setAt_23, eX7_setAt_24, eX7_setAt_25, eX7_setAt_26, eX7_setAt_27, eX7_setAt_28, cont_some, tl_some, tl_none, csum_nil, csum_i, csum_r, csum_j, isc2_i, isc2_r, isc2_n, va_rf_s, vfn_ite, true_and, and_true, true_or, or_true, eq_self, Bool.false_eq_true, not_false_eq_true, not_true_eq_false, if_true, if_false, Nat.reduceAdd, Nat.reduceLeDiff, reduceIte, hbk, nI_1]
      rw [eX7_setAt_31]
      exact go
    · rw [if_neg q] at go ⊢
      simp only [eX7_setAt_28, cont_some, tl_some, tl_none, csum_nil, csum_i, csum_r, csum_j, isc2_i, isc2_r, isc2_n, va_rf_s, vfn_ite, true_and, and_true, true_or, or_true, eq_self, Bool.false_eq_true, not_false_eq_true, not_true_eq_false, if_true, if_false, Nat.reduceAdd, Nat.reduceLeDiff, reduceIte, nI_1]
      rw [eX7_setAt_31]
      exact go
theorem s_setAt {z n : Nat} {w : Wd} {f : Nat → Int} {v : Int} (h : isZ w z) (hn : rdI w z 2 = nI n) (h10 : n ≤ 10) (ha : ∀ i, i < n → rdI w (z + 7) i = iI (f i)) (hb : ∀ i, i < n → (f i).natAbs ≤ 81000) (hv : v.natAbs ≤ 81000) : fX7_setAt [.ref z, .int (iI v)] w = some (some (.int (loS f v n)), w) := by
  refine sem_eq (Nat.le_of_ble_eq_true rfl) ?_
  show wp mX7_setAt 0 [some (.ref z), some (.int (iI v)), none, none] [] _ _
  simp only [eX7_setAt_0, eX7_setAt_1, eX7_setAt_2, eX7_setAt_3, cont_some, tl_some, tl_none, csum_nil, csum_i, csum_r, csum_j, isc2_i, isc2_r, isc2_n, va_rf_s, vfn_ite, true_and, and_true, true_or, or_true, eq_self, Bool.false_eq_true, not_false_eq_true, not_true_eq_false, if_true, if_false, Nat.reduceAdd, Nat.reduceLeDiff, reduceIte]
  exact lo_setAt h hn h10 ha hb hv n 0 (by omega)
theorem so_2 {j n : Nat} {C : Nat → Int32} {e : V3} (h : sfo (wdP n C) (cdP j (LN n C)) = some e) : 2 ≤ n := by
  refine LN_2 (C := C) (cdP_ne (j := j) (fun q => ?_))
  rw [q] at h
  cases h
def lowA (n : Nat) (C : Nat → Int32) (s : Option V3) : Int32 := match s with
  | none => 0
  | some e => loS (dP C e) (lsA n (dP C e)).1 n
def highA (n : Nat) (C : Nat → Int32) (s : Option V3) : Int32 := match s with
  | none => 0
  | some e => loS (dP C e) (-(lsA n (fun i => -dP C e i)).1) n
theorem s_low {w : Wd} {z j n : Nat} {C : Nat → Int32} (hZ : ZF w z j n C) : ∃ u, fX7_low [.ref z] w = some (some (.int (lowA n C (sfo (wdP n C) (cdP j (LN n C))))), u) ∧ FrX (Xm z) w u := by
  obtain ⟨h, h0, hP, hb, hcan, hB, hw, hnz, -⟩ := id hZ
  cases es : sfo (wdP n C) (cdP j (LN n C)) with
  | none =>
    rw [es] at hB
    have h5 : rdI w z 5 = 0 := hB
    refine ⟨w, ?_, FrX.rf⟩
    refine sem_eq (Nat.le_of_ble_eq_true rfl) ?_
    show wp mX7_low 0 [some (.ref z)] [] _ _
    simp only [eX7_low_0, eX7_low_1, eX7_low_4, eX7_low_7, eX7_low_8, cont_some, tl_some, tl_none, csum_nil, csum_i, csum_r, csum_j, isc2_i, isc2_r, isc2_n, va_rf_s, vfn_ite, true_and, and_true, true_or, or_true, eq_self, Bool.false_eq_true, not_false_eq_true, not_true_eq_false, if_true, if_false, Nat.reduceAdd, Nat.reduceLeDiff, reduceIte, h.1, h5]
    rfl
  | some e =>
    rw [es] at hB
    have hn := so_2 es
    have he := (hnz e es).1
    have h5 : rdI w z 5 = 1 := hB.1
    obtain ⟨u, k1, k2, k3, k4⟩ := s_measure hb he h hP (Or.inl rfl) hB.2.1 hB.2.2.1 hB.2.2.2
    have hu := h.fx k4
    have bP : ∀ i, i < n → (dP C e i).natAbs ≤ 81000 := fun i hi => dP_b hb hi he
    have i1 := lsA_I (n := n) (f := dP C e) (fun i hi => by have := bP i hi; omega)
    have b1 := ls_bd hn i1 bP
    have hs := s_setAt (f := dP C e) (v := (lsA n (dP C e)).1) hu ((k4.1 z 2 (fun q => by unfold Xm at q; omega)).trans hP.1) hP.2.1 k3 bP b1.1
    refine ⟨u, ?_, k4⟩
    refine sem_eq (Nat.le_of_ble_eq_true rfl) ?_
    show wp mX7_low 0 [some (.ref z)] [] _ _
    simp only [eX7_low_0, eX7_low_1, eX7_low_4, eX7_low_7, eX7_low_8, eX7_low_9, eX7_low_10, eX7_low_11, eX7_low_14, cont_some, tl_some, tl_none, csum_nil, csum_i, csum_r, csum_j, isc2_i, isc2_r, isc2_n, va_rf_s, vfn_ite, true_and, and_true, true_or, or_true, eq_self, Bool.false_eq_true, not_false_eq_true, not_true_eq_false, if_true, if_false, Nat.reduceAdd, Nat.reduceLeDiff, reduceIte, h.1, h5, i10', h.2.2.2.1, k1]
    simp only [eX7_low_17, eX7_low_18, eX7_low_19, eX7_low_22, eX7_low_25, cont_some, tl_some, tl_none, csum_nil, csum_i, csum_r, csum_j, isc2_i, isc2_r, isc2_n, va_rf_s, vfn_ite, true_and, and_true, true_or, or_true, eq_self, Bool.false_eq_true, not_false_eq_true, not_true_eq_false, if_true, if_false, Nat.reduceAdd, Nat.reduceLeDiff, reduceIte, hu.1, k2.1, hs]
    rfl
theorem s_high {w : Wd} {z j n : Nat} {C : Nat → Int32} (hZ : ZF w z j n C) : ∃ u, fX7_high [.ref z] w = some (some (.int (highA n C (sfo (wdP n C) (cdP j (LN n C))))), u) ∧ FrX (Xm z) w u := by
  obtain ⟨h, h0, hP, hb, hcan, hB, hw, hnz, -⟩ := id hZ
  cases es : sfo (wdP n C) (cdP j (LN n C)) with
  | none =>
    rw [es] at hB
    have h5 : rdI w z 5 = 0 := hB
    refine ⟨w, ?_, FrX.rf⟩
    refine sem_eq (Nat.le_of_ble_eq_true rfl) ?_
    show wp mX7_high 0 [some (.ref z)] [] _ _
    simp only [eX7_high_0, eX7_high_1, eX7_high_4, eX7_high_7, eX7_high_8, cont_some, tl_some, tl_none, csum_nil, csum_i, csum_r, csum_j, isc2_i, isc2_r, isc2_n, va_rf_s, vfn_ite, true_and, and_true, true_or, or_true, eq_self, Bool.false_eq_true, not_false_eq_true, not_true_eq_false, if_true, if_false, Nat.reduceAdd, Nat.reduceLeDiff, reduceIte, h.1, h5]
    rfl
  | some e =>
    rw [es] at hB
    have hn := so_2 es
    have he := (hnz e es).1
    have h5 : rdI w z 5 = 1 := hB.1
    obtain ⟨u, k1, k2, k3, k4⟩ := s_measure hb he h hP (Or.inl rfl) hB.2.1 hB.2.2.1 hB.2.2.2
    have hu := h.fx k4
    have bP : ∀ i, i < n → (dP C e i).natAbs ≤ 81000 := fun i hi => dP_b hb hi he
    have bM : ∀ i, i < n → ((fun i => -dP C e i) i).natAbs ≤ 81000 := fun i hi => by have := bP i hi; show (-dP C e i).natAbs ≤ 81000; omega
    have i1 := lsA_I (n := n) (f := fun i => -dP C e i) (fun i hi => by have := bP i hi; show -dP C e i < 1000000; omega)
    have b1 := ls_bd hn i1 bM
    have hs := s_setAt (f := dP C e) (v := -(lsA n (fun i => -dP C e i)).1) hu ((k4.1 z 2 (fun q => by unfold Xm at q; omega)).trans hP.1) hP.2.1 k3 bP (by omega)
    refine ⟨u, ?_, k4⟩
    refine sem_eq (Nat.le_of_ble_eq_true rfl) ?_
    show wp mX7_high 0 [some (.ref z)] [] _ _
    simp only [eX7_high_0, eX7_high_1, eX7_high_4, eX7_high_7, eX7_high_8, eX7_high_9, eX7_high_10, eX7_high_11, eX7_high_14, cont_some, tl_some, tl_none, csum_nil, csum_i, csum_r, csum_j, isc2_i, isc2_r, isc2_n, va_rf_s, vfn_ite, true_and, and_true, true_or, or_true, eq_self, Bool.false_eq_true, not_false_eq_true, not_true_eq_false, if_true, if_false, Nat.reduceAdd, Nat.reduceLeDiff, reduceIte, h.1, h5, i10', h.2.2.2.1, k1]
    simp only [eX7_high_17, eX7_high_18, eX7_high_19, eX7_high_22, eX7_high_25, cont_some, tl_some, tl_none, csum_nil, csum_i, csum_r, csum_j, isc2_i, isc2_r, isc2_n, va_rf_s, vfn_ite, true_and, and_true, true_or, or_true, eq_self, Bool.false_eq_true, not_false_eq_true, not_true_eq_false, if_true, if_false, Nat.reduceAdd, Nat.reduceLeDiff, reduceIte, hu.1, k2.2.2.2.1, hs]
    rfl
/-- the reference's sets are these -/
theorem touch_eq {j n : Nat} {C : Nat → Int32} {e : V3} {lo hi : Int} (hj : j < 4) (hb : bdC n C) (hn : 2 ≤ n) (he : in3 1800 e) (hz : zax j e) (ht : tcI (fun i => dt (prj j e) (qZ j C i)) n lo hi) : loS (fun i => dt (prj j e) (qZ j C i)) lo n = lowA n C (some e) ∧ loS (fun i => dt (prj j e) (qZ j C i)) hi n = highA n C (some e) := by
  have ef : (fun i => dt (prj j e) (qZ j C i)) = dP C e := by
    funext i
    exact prj_dt hj hz _
  rw [ef] at ht ⊢
  have bP : ∀ i, i < n → (dP C e i).natAbs ≤ 81000 := fun i hi => dP_b hb hi he
  have i1 := lsA_I (n := n) (f := dP C e) (fun i hi => by have := bP i hi; omega)
  have i2 := lsA_I (n := n) (f := fun i => -dP C e i) (fun i hi => by have := bP i hi; show -dP C e i < 1000000; omega)
  rcases ht with ⟨q, -⟩ | ⟨-, ⟨x, x1, x2⟩, x3, ⟨y, y1, y2⟩, y3⟩
  · omega
  rcases i1 with ⟨q, -⟩ | ⟨a1, a2, a3, -⟩
  · omega
  rcases i2 with ⟨q, -⟩ | ⟨b1, b2', b3', -⟩
  · omega
  have b2 : -dP C e (lsA n (fun i => -dP C e i)).2.2 = (lsA n (fun i => -dP C e i)).1 := b2'
  have b3 : ∀ i, i < n → (lsA n (fun i => -dP C e i)).1 ≤ -dP C e i := b3'
  have e1 : lo = (lsA n (dP C e)).1 := by
    have := a3 x x1
    have := x3 _ a1
    omega
  have e2 : hi = -(lsA n (fun i => -dP C e i)).1 := by
    have := b3 y y1
    have := y3 _ b1
    omega
  rw [e1, e2]
  exact ⟨rfl, rfl⟩
def numA (j : Nat) (s : Option V3) (k : Nat) : Int := match s with
  | none => 0
  | some e => if k = 0 then (prj j e).1 else if k = 1 then (prj j e).2.1 else (prj j e).2.2
theorem s_znum {w : Wd} {z j k : Nat} {e : V3} (h : isZ w z) (h0 : rdI w z 0 = nI j) (hj : j < 4) (hT : zT w (z + 3) e) (hk : k < 2 ∨ (k = 2 ∧ j = 3)) : fX7_number [.ref z, .int (nI k)] w = some (some (.int (iI (numA j (some e) k))), w) := by
  obtain ⟨t0, t1, t2⟩ := hT
  have s3 : shp w (z + 3) = (10, 3) := h.2.2.2.2.2.2.2.2.2.2.1
  have r6 : rdR w z 6 = some (z + 3) := h.2.2.2.1
  have hk3 : k = 0 ∨ k = 1 ∨ k = 2 := by omega
  refine sem_eq (Nat.le_of_ble_eq_true rfl) ?_
  show wp mX7_number 0 [some (.ref z), some (.int (nI k))] [] _ _
  rcases j4 hj with rfl | rfl | rfl | rfl
  · rcases hk3 with rfl | rfl | rfl
    · have u0 := s_axU (a := 0) (w := w) (by omega)
      simp only [nI0, show axU 0 = 1 from rfl, nI1] at u0 h0
      simp only [eX7_number_0, eX7_number_1, eX7_number_4, eX7_number_5, eX7_number_8, eX7_number_9, eX7_number_12, eX7_number_13, eX7_number_14, eX7_number_15, eX7_number_16, eX7_number_19, eX7_number_20, eX7_number_23, eX7_number_24, eX7_number_27, eX7_number_30, eX7_number_33, eX7_number_34, eX7_number_37, eX7_number_40, eX7_number_41, cont_some, tl_some, tl_none, csum_nil, csum_i, csum_r, csum_j, isc2_i, isc2_r, isc2_n, va_rf_s, vfn_ite, true_and, and_true, true_or, or_true, eq_self, Bool.false_eq_true, not_false_eq_true, not_true_eq_false, if_true, if_false, Nat.reduceAdd, Nat.reduceLeDiff, reduceIte, h.1, h0, nI0, i03, r6, s3, u0, in1_3, cl1, t1]; rfl
    · have u0 := s_axV (a := 0) (w := w) (by omega)
      simp only [nI0, show axV 0 = 2 from rfl, nI2] at u0 h0
      simp only [eX7_number_0, eX7_number_1, eX7_number_4, eX7_number_5, eX7_number_8, eX7_number_9, eX7_number_12, eX7_number_13, eX7_number_14, eX7_number_15, eX7_number_16, eX7_number_19, eX7_number_20, eX7_number_23, eX7_number_24, eX7_number_27, eX7_number_30, eX7_number_33, eX7_number_34, eX7_number_37, eX7_number_40, eX7_number_41, cont_some, tl_some, tl_none, csum_nil, csum_i, csum_r, csum_j, isc2_i, isc2_r, isc2_n, va_rf_s, vfn_ite, true_and, and_true, true_or, or_true, eq_self, Bool.false_eq_true, not_false_eq_true, not_true_eq_false, if_true, if_false, Nat.reduceAdd, Nat.reduceLeDiff, reduceIte, h.1, h0, nI1, i03, i10', r6, s3, u0, in2_3, cl2, t2]; rfl
    · omega
  · rcases hk3 with rfl | rfl | rfl
    · have u0 := s_axU (a := 1) (w := w) (by omega)
      simp only [nI1, show axU 1 = 0 from rfl, nI0] at u0 h0
      simp only [eX7_number_0, eX7_number_1, eX7_number_4, eX7_number_5, eX7_number_8, eX7_number_9, eX7_number_12, eX7_number_13, eX7_number_14, eX7_number_15, eX7_number_16, eX7_number_19, eX7_number_20, eX7_number_23, eX7_number_24, eX7_number_27, eX7_number_30, eX7_number_33, eX7_number_34, eX7_number_37, eX7_number_40, eX7_number_41, cont_some, tl_some, tl_none, csum_nil, csum_i, csum_r, csum_j, isc2_i, isc2_r, isc2_n, va_rf_s, vfn_ite, true_and, and_true, true_or, or_true, eq_self, Bool.false_eq_true, not_false_eq_true, not_true_eq_false, if_true, if_false, Nat.reduceAdd, Nat.reduceLeDiff, reduceIte, h.1, h0, nI0, i13, r6, s3, u0, in0_3, cl0, t0]; rfl
    · have u0 := s_axV (a := 1) (w := w) (by omega)
      simp only [nI1, show axV 1 = 2 from rfl, nI2] at u0 h0
      simp only [eX7_number_0, eX7_number_1, eX7_number_4, eX7_number_5, eX7_number_8, eX7_number_9, eX7_number_12, eX7_number_13, eX7_number_14, eX7_number_15, eX7_number_16, eX7_number_19, eX7_number_20, eX7_number_23, eX7_number_24, eX7_number_27, eX7_number_30, eX7_number_33, eX7_number_34, eX7_number_37, eX7_number_40, eX7_number_41, cont_some, tl_some, tl_none, csum_nil, csum_i, csum_r, csum_j, isc2_i, isc2_r, isc2_n, va_rf_s, vfn_ite, true_and, and_true, true_or, or_true, eq_self, Bool.false_eq_true, not_false_eq_true, not_true_eq_false, if_true, if_false, Nat.reduceAdd, Nat.reduceLeDiff, reduceIte, h.1, h0, nI1, i13, i10', r6, s3, u0, in2_3, cl2, t2]; rfl
    · omega
  · rcases hk3 with rfl | rfl | rfl
    · have u0 := s_axU (a := 2) (w := w) (by omega)
      simp only [nI2, show axU 2 = 0 from rfl, nI0] at u0 h0
      simp only [eX7_number_0, eX7_number_1, eX7_number_4, eX7_number_5, eX7_number_8, eX7_number_9, eX7_number_12, eX7_number_13, eX7_number_14, eX7_number_15, eX7_number_16, eX7_number_19, eX7_number_20, eX7_number_23, eX7_number_24, eX7_number_27, eX7_number_30, eX7_number_33, eX7_number_34, eX7_number_37, eX7_number_40, eX7_number_41, cont_some, tl_some, tl_none, csum_nil, csum_i, csum_r, csum_j, isc2_i, isc2_r, isc2_n, va_rf_s, vfn_ite, true_and, and_true, true_or, or_true, eq_self, Bool.false_eq_true, not_false_eq_true, not_true_eq_false, if_true, if_false, Nat.reduceAdd, Nat.reduceLeDiff, reduceIte, h.1, h0, nI0, i23, r6, s3, u0, in0_3, cl0, t0]; rfl
    · have u0 := s_axV (a := 2) (w := w) (by omega)
      simp only [nI2, show axV 2 = 1 from rfl, nI1] at u0 h0
      simp only [eX7_number_0, eX7_number_1, eX7_number_4, eX7_number_5, eX7_number_8, eX7_number_9, eX7_number_12, eX7_number_13, eX7_number_14, eX7_number_15, eX7_number_16, eX7_number_19, eX7_number_20, eX7_number_23, eX7_number_24, eX7_number_27, eX7_number_30, eX7_number_33, eX7_number_34, eX7_number_37, eX7_number_40, eX7_number_41, cont_some, tl_some, tl_none, csum_nil, csum_i, csum_r, csum_j, isc2_i, isc2_r, isc2_n, va_rf_s, vfn_ite, true_and, and_true, true_or, or_true, eq_self, Bool.false_eq_true, not_false_eq_true, not_true_eq_false, if_true, if_false, Nat.reduceAdd, Nat.reduceLeDiff, reduceIte, h.1, h0, nI1, i23, i10', r6, s3, u0, in1_3, cl1, t1]; rfl
    · omega
  · simp only [nI3] at h0
    rcases hk3 with rfl | rfl | rfl
    · simp only [eX7_number_0, eX7_number_1, eX7_number_4, eX7_number_5, eX7_number_8, eX7_number_9, eX7_number_12, eX7_number_13, eX7_number_14, eX7_number_15, eX7_number_16, eX7_number_19, eX7_number_20, eX7_number_23, eX7_number_24, eX7_number_27, eX7_number_30, eX7_number_33, eX7_number_34, eX7_number_37, eX7_number_40, eX7_number_41, cont_some, tl_some, tl_none, csum_nil, csum_i, csum_r, csum_j, isc2_i, isc2_r, isc2_n, va_rf_s, vfn_ite, true_and, and_true, true_or, or_true, eq_self, Bool.false_eq_true, not_false_eq_true, not_true_eq_false, if_true, if_false, Nat.reduceAdd, Nat.reduceLeDiff, reduceIte, h.1, h0, nI0, r6, s3, in0_3, cl0, t0]; rfl
    · simp only [eX7_number_0, eX7_number_1, eX7_number_4, eX7_number_5, eX7_number_8, eX7_number_9, eX7_number_12, eX7_number_13, eX7_number_14, eX7_number_15, eX7_number_16, eX7_number_19, eX7_number_20, eX7_number_23, eX7_number_24, eX7_number_27, eX7_number_30, eX7_number_33, eX7_number_34, eX7_number_37, eX7_number_40, eX7_number_41, cont_some, tl_some, tl_none, csum_nil, csum_i, csum_r, csum_j, isc2_i, isc2_r, isc2_n, va_rf_s, vfn_ite, true_and, and_true, true_or, or_true, eq_self, Bool.false_eq_true, not_false_eq_true, not_true_eq_false, if_true, if_false, Nat.reduceAdd, Nat.reduceLeDiff, reduceIte, h.1, h0, nI1, r6, s3, in1_3, cl1, t1]; rfl
    · simp only [eX7_number_0, eX7_number_1, eX7_number_4, eX7_number_5, eX7_number_8, eX7_number_9, eX7_number_12, eX7_number_13, eX7_number_14, eX7_number_15, eX7_number_16, eX7_number_19, eX7_number_20, eX7_number_23, eX7_number_24, eX7_number_27, eX7_number_30, eX7_number_33, eX7_number_34, eX7_number_37, eX7_number_40, eX7_number_41, cont_some, tl_some, tl_none, csum_nil, csum_i, csum_r, csum_j, isc2_i, isc2_r, isc2_n, va_rf_s, vfn_ite, true_and, and_true, true_or, or_true, eq_self, Bool.false_eq_true, not_false_eq_true, not_true_eq_false, if_true, if_false, Nat.reduceAdd, Nat.reduceLeDiff, reduceIte, h.1, h0, nI2, r6, s3, in2_3, cl2, t2]; rfl
/-- whether a width is within a tolerance -/
def gdA (a b : Nat) (x : Int32) : Int32 := if 0 < lg_cmp (100 * lN a) (x.toInt64 * x.toInt64 * lN b) then 0 else 1
theorem s_isGood {w : Wd} {z a b : Nat} {x : Int32} (h : isZ w z) (hw : frIs w (z + 5) a b) : fX7_isGood [.ref z, .int x] w = some (some (.int (gdA a b x)), w) := by
  unfold gdA
  refine sem_eq (Nat.le_of_ble_eq_true rfl) ?_
  show wp mX7_isGood 0 [some (.ref z), some (.int x)] [] _ _
  simp only [eX7_isGood_0, eX7_isGood_3, eX7_isGood_4, eX7_isGood_7, eX7_isGood_10, eX7_isGood_11, eX7_isGood_12, eX7_isGood_15, eX7_isGood_16, eX7_isGood_19, eX7_isGood_22, eX7_isGood_23, eX7_isGood_24, eX7_isGood_27, eX7_isGood_28, eX7_isGood_31, eX7_isGood_32, cont_some, tl_some, tl_none, csum_nil, csum_i, csum_r, csum_j, isc2_i, isc2_r, isc2_n, va_rf_s, vfn_ite, true_and, and_true, true_or, or_true, eq_self, Bool.false_eq_true, not_false_eq_true, not_true_eq_false, if_true, if_false, Nat.reduceAdd, Nat.reduceLeDiff, reduceIte, h.1, h.2.2.2.2.2.1, hw.1, hw.2.1, hw.2.2, s_square]
  split <;> simp
theorem m_isGood {w : Wd} {o a b : Nat} {x : Int32} (hm : isMd w o) (h1 : rdI w (o + 1) 1 = x) (h2 : rdJ w o 12 = lN a) (h3 : rdJ w o 13 = lN b) : fX9_isGood [.ref o] w = some (some (.int (gdA a b x)), w) := by
  have i1 : inA 1 33 = true := by decide
  unfold gdA
  refine sem_eq (Nat.le_of_ble_eq_true rfl) ?_
  show wp mX9_isGood 0 [some (.ref o)] [] _ _
  simp only [eX9_isGood_0, eX9_isGood_3, eX9_isGood_4, eX9_isGood_7, eX9_isGood_8, eX9_isGood_9, eX9_isGood_12, eX9_isGood_13, eX9_isGood_14, eX9_isGood_15, eX9_isGood_16, eX9_isGood_19, eX9_isGood_20, eX9_isGood_21, eX9_isGood_22, eX9_isGood_23, eX9_isGood_24, eX9_isGood_27, eX9_isGood_28, eX9_isGood_29, eX9_isGood_32, eX9_isGood_33, eX9_isGood_36, eX9_isGood_37, cont_some, tl_some, tl_none, csum_nil, csum_i, csum_r, csum_j, isc2_i, isc2_r, isc2_n, va_rf_s, vfn_ite, true_and, and_true, true_or, or_true, eq_self, Bool.false_eq_true, not_false_eq_true, not_true_eq_false, if_true, if_false, Nat.reduceAdd, Nat.reduceLeDiff, reduceIte, hm.1, hm.2.1, hm.2.2.1, hm.2.2.2.1, hm.2.2.2.2.1, hm.2.2.2.2.2.1, hm.2.2.2.2.2.2.1, hm.2.2.2.2.2.2.2.1, hm.2.2.2.2.2.2.2.2.1, hm.2.2.2.2.2.2.2.2.2.1, hm.2.2.2.2.2.2.2.2.2.2.1, hm.2.2.2.2.2.2.2.2.2.2.2.1, hm.2.2.2.2.2.2.2.2.2.2.2.2.1, hm.2.2.2.2.2.2.2.2.2.2.2.2.2.1, hm.2.2.2.2.2.2.2.2.2.2.2.2.2.2.1, hm.2.2.2.2.2.2.2.2.2.2.2.2.2.2.2.1, hm.2.2.2.2.2.2.2.2.2.2.2.2.2.2.2.2.1, hm.2.2.2.2.2.2.2.2.2.2.2.2.2.2.2.2.2.1, hm.2.2.2.2.2.2.2.2.2.2.2.2.2.2.2.2.2.2.1, hm.2.2.2.2.2.2.2.2.2.2.2.2.2.2.2.2.2.2.2.1, hm.2.2.2.2.2.2.2.2.2.2.2.2.2.2.2.2.2.2.2.2.1, hm.2.2.2.2.2.2.2.2.2.2.2.2.2.2.2.2.2.2.2.2.2.1, hm.2.2.2.2.2.2.2.2.2.2.2.2.2.2.2.2.2.2.2.2.2.2.1, hm.2.2.2.2.2.2.2.2.2.2.2.2.2.2.2.2.2.2.2.2.2.2.2.1, hm.2.2.2.2.2.2.2.2.2.2.2.2.2.2.2.2.2.2.2.2.2.2.2.2, i1, cl1, h1, h2, h3]
  split <;> simp
