/-! whether a zone is of these points -/
def eqC (C D : Nat → Int32) : Nat → Nat → Bool
  | 0, _ => true
  | e + 1, i => decide (C i = D i) && eqC C D e (i + 1)
theorem eqC_iff {C D : Nat → Int32} : ∀ (e i : Nat), eqC C D e i = true ↔ ∀ k, i ≤ k → k < i + e → C k = D k := by
  intro e
  induction e with
  | zero => intro i; exact ⟨fun _ k h1 h2 => absurd h2 (by omega), fun _ => rfl⟩
  | succ e ih =>
    intro i
    unfold eqC
    rw [Bool.and_eq_true, decide_eq_true_eq, ih]
    constructor
    · rintro ⟨h1, h2⟩ k k1 k2
      by_cases q : k = i
      · rw [q]; exact h1
      · exact h2 k (by omega) (by omega)
    · intro h
      exact ⟨h i (by omega) (by omega), fun k k1 k2 => h k (by omega) (by omega)⟩
theorem lo_isOf {w : Wd} {z sc n : Nat} {C D : Nat → Int32} (h : isZ w z) (hP : zP w z n C) (hs : isSc w sc) (hD : ∀ i, i < 3 * n → rdI w (sc + 1) i = D i) : ∀ (e i : Nat), i + e = 3 * n →
    wp mX7_isOf 15 [some (.ref z), some (.ref sc), some (.int (nI i))] [] w (fun r u => r = some (.int (b2i (eqC C D e i = true))) ∧ u = w) := by
  have h10 := hP.2.1
  intro e
  induction e with
  | zero =>
    intro i hi
    have e : i = 3 * n := by omega
    subst e
    have l : ¬ nI (3 * n) < nI (3 * n) := Int32.lt_irrefl
    simp only [eX7_isOf_15, eX7_isOf_16, eX7_isOf_17, eX7_isOf_20, eX7_isOf_21, eX7_isOf_22, eX7_isOf_48, eX7_isOf_49, cont_some, tl_some, tl_none, csum_nil, csum_i, csum_r, csum_j, isc2_i, isc2_r, isc2_n, va_rf_s, vfn_ite, true_and, and_true, true_or, or_true, eq_self, Bool.false_eq_true, not_false_eq_true, not_true_eq_false, if_true, if_false, Nat.reduceAdd, Nat.reduceLeDiff, reduceIte, h.1, hP.1, nI_m3, l]
    rfl
  | succ e ih =>
    intro i hi
    have l : nI i < nI (3 * n) := nI_lt (by omega) (by omega)
    have a1 := hP.2.2 i (by omega)
    have a2 := hD i (by omega)
    simp only [eX7_isOf_15, eX7_isOf_16, eX7_isOf_17, eX7_isOf_20, eX7_isOf_21, eX7_isOf_22, eX7_isOf_25, eX7_isOf_26, eX7_isOf_29, eX7_isOf_30, eX7_isOf_31, eX7_isOf_32, eX7_isOf_35, eX7_isOf_36, eX7_isOf_37, cont_some, tl_some, tl_none, csum_nil, csum_i, csum_r, csum_j, isc2_i, isc2_r, isc2_n, va_rf_s, vfn_ite, true_and, and_true, true_or, or_true, eq_self, Bool.false_eq_true, not_false_eq_true, not_true_eq_false, if_true, if_false, Nat.reduceAdd, Nat.reduceLeDiff, reduceIte, h.1, h.2.1, h.2.2.2.2.2.2.2.2.1, hs.1, hs.2.1, hs.2.2, hP.1, nI_m3, l, inA_nI (show i < 30 by omega) (show 30 < 2147483648 by omega), nI_clamp (show i < 2 ^ 31 by omega), a1, a2]
    by_cases q : C i = D i
    · rw [if_pos q]
      simp only [eX7_isOf_42, cont_some, tl_some, tl_none, csum_nil, csum_i, csum_r, csum_j, isc2_i, isc2_r, isc2_n, va_rf_s, vfn_ite, true_and, and_true, true_or, or_true, eq_self, Bool.false_eq_true, not_false_eq_true, not_true_eq_false, if_true, if_false, Nat.reduceAdd, Nat.reduceLeDiff, reduceIte, nI_1]
      rw [eX7_isOf_45]
      have : eqC C D (e + 1) i = eqC C D e (i + 1) := by show (decide (C i = D i) && _) = _; simp [q]
      rw [this]
      exact ih (i + 1) (by omega)
    · rw [if_neg q]
      simp only [eX7_isOf_40, eX7_isOf_41, cont_some, tl_some, tl_none, csum_nil, csum_i, csum_r, csum_j, isc2_i, isc2_r, isc2_n, va_rf_s, vfn_ite, true_and, and_true, true_or, or_true, eq_self, Bool.false_eq_true, not_false_eq_true, not_true_eq_false, if_true, if_false, Nat.reduceAdd, Nat.reduceLeDiff, reduceIte]
      have : ¬ eqC C D (e + 1) i = true := by show ¬ (decide (C i = D i) && _) = true; simp [q]
      rw [b2i_f this]
theorem s_isOf {w : Wd} {z sc n : Nat} {C : Nat → Int32} {S : Sst} (h : isZ w z) (hP : zP w z n C) (hS : scIs w sc S) : fX7_isOf [.ref z, .ref sc] w = some (some (.int (b2i (n = S.1 ∧ ∀ i, i < 3 * n → C i = S.2.1 i))), w) := by
  obtain ⟨s1, s2, s3, s4, -⟩ := hS
  have h10 := hP.2.1
  have en : nI n = nI S.1 ↔ n = S.1 := nI_eq (by omega) (by omega)
  refine sem_eq (Nat.le_of_ble_eq_true rfl) ?_
  show wp mX7_isOf 0 [some (.ref z), some (.ref sc), none] [] _ _
  simp only [eX7_isOf_0, eX7_isOf_1, eX7_isOf_4, eX7_isOf_5, eX7_isOf_8, cont_some, tl_some, tl_none, csum_nil, csum_i, csum_r, csum_j, isc2_i, isc2_r, isc2_n, va_rf_s, vfn_ite, true_and, and_true, true_or, or_true, eq_self, Bool.false_eq_true, not_false_eq_true, not_true_eq_false, if_true, if_false, Nat.reduceAdd, Nat.reduceLeDiff, reduceIte, h.1, s1.1, hP.1, s2, en]
  by_cases q : n = S.1
  · rw [if_pos q]
    simp only [eX7_isOf_13, eX7_isOf_14, cont_some, tl_some, tl_none, csum_nil, csum_i, csum_r, csum_j, isc2_i, isc2_r, isc2_n, va_rf_s, vfn_ite, true_and, and_true, true_or, or_true, eq_self, Bool.false_eq_true, not_false_eq_true, not_true_eq_false, if_true, if_false, Nat.reduceAdd, Nat.reduceLeDiff, reduceIte]
    refine wp_mono (lo_isOf (D := S.2.1) h hP s1 (by rw [q]; exact s4) (3 * n) 0 (by omega)) ?_
    rintro r u ⟨rfl, rfl⟩
    refine ⟨?_, rfl⟩
    have := eqC_iff (C := C) (D := S.2.1) (3 * n) 0
    by_cases y : ∀ i, i < 3 * n → C i = S.2.1 i
    · rw [b2i_t (this.mpr (fun k _ k2 => y k (by omega))), b2i_t ⟨q, y⟩]
    · rw [b2i_f (fun x => y (fun i hi => this.mp x i (by omega) (by omega))), b2i_f (fun x => y x.2)]
  · rw [if_neg q]
    simp only [eX7_isOf_11, eX7_isOf_12, cont_some, tl_some, tl_none, csum_nil, csum_i, csum_r, csum_j, isc2_i, isc2_r, isc2_n, va_rf_s, vfn_ite, true_and, and_true, true_or, or_true, eq_self, Bool.false_eq_true, not_false_eq_true, not_true_eq_false, if_true, if_false, Nat.reduceAdd, Nat.reduceLeDiff, reduceIte]
    rw [b2i_f (fun x => q x.1)]
/-! lines through points -/
def Xl (z : Nat) : Nat → Nat → Prop := fun c j => (c = z ∧ j = 4) ∨ c = z + 2
def lnW (w : Wd) (z m : Nat) (v : V3) : Wd := wrI (wrI (wrI (wrI w (z + 2) (3 * m) (iI v.1)) (z + 2) (3 * m + 1) (iI v.2.1)) (z + 2) (3 * m + 2) (iI v.2.2)) z 4 (nI (m + 1))
theorem lnW_fx {w : Wd} {z m : Nat} {v : V3} : FrX (Xl z) w (lnW w z m v) := (((FrX.rf.wrI (Or.inr rfl)).wrI (Or.inr rfl)).wrI (Or.inr rfl)).wrI (Or.inl ⟨rfl, rfl⟩)
theorem lnW_is {w : Wd} {z : Nat} {L : List V3} {v : V3} (h : zL w z L) (h45 : L.length < 45) : zL (lnW w z L.length v) z (L ++ [v]) := by
  obtain ⟨h1, h2, h3⟩ := h
  unfold lnW
  refine ⟨?_, by rw [List.length_append]; simp; omega, fun i x hx => ?_⟩
  · rw [rdI_wrI, if_pos ⟨rfl, rfl⟩, List.length_append]; rfl
  · have hi : i < L.length + 1 := by
      obtain ⟨q, -⟩ := List.getElem?_eq_some_iff.mp hx
      rw [List.length_append] at q
      simpa using q
    by_cases e : i = L.length
    · have : x = v := by
        rw [List.getElem?_append_right (by omega), e, Nat.sub_self] at hx
        exact (Option.some.inj hx).symm
      subst this
      subst e
      refine ⟨?_, ?_, ?_⟩
      · rw [rdI_wrI, if_neg (by omega), rdI_wrI, if_neg (by omega), rdI_wrI, if_neg (by omega), rdI_wrI, if_pos ⟨rfl, rfl⟩]
      · rw [rdI_wrI, if_neg (by omega), rdI_wrI, if_neg (by omega), rdI_wrI, if_pos ⟨rfl, rfl⟩]
      · rw [rdI_wrI, if_neg (by omega), rdI_wrI, if_pos ⟨rfl, rfl⟩]
    · rw [List.getElem?_append_left (by omega)] at hx
      obtain ⟨k1, k2, k3⟩ := h3 i x hx
      refine ⟨?_, ?_, ?_⟩
      · rw [rdI_wrI, if_neg (by omega), rdI_wrI, if_neg (by omega), rdI_wrI, if_neg (by omega), rdI_wrI, if_neg (by omega)]; exact k1
      · rw [rdI_wrI, if_neg (by omega), rdI_wrI, if_neg (by omega), rdI_wrI, if_neg (by omega), rdI_wrI, if_neg (by omega)]; exact k2
      · rw [rdI_wrI, if_neg (by omega), rdI_wrI, if_neg (by omega), rdI_wrI, if_neg (by omega), rdI_wrI, if_neg (by omega)]; exact k3
theorem vc3 {C : Nat → Int32} {k l : Nat} (hl : l < 10) : vcP 3 C (10 * k + l) = sb (ptZ C l) (ptZ C k) := by
  unfold vcP qZ prj
  rw [show (10 * k + l) % 10 = l by omega, show (10 * k + l) / 10 = k by omega]
  rfl
theorem lo_dl3 {w : Wd} {z n k l : Nat} {C : Nat → Int32} {L : List V3} {a3 : Option Value} {Q : Option Value → Wd → Prop} (h : isZ w z) (hP : zP w z n C) (hL : zL w z L) (h45 : L.length < 45) (hk : k < n) (hl : l < n)
    (hQ : ∀ a3, wp mX7_drawLines 19 [some (.ref z), some (.int (nI k)), some (.int (nI (l + 1))), some (.int a3)] [] (lnW w z L.length (vcP 3 C (10 * k + l))) Q) :
    wp mX7_drawLines 27 [some (.ref z), some (.int (nI k)), some (.int (nI l)), a3] [] w Q := by
  have h10 := hP.2.1
  have r3 : rdR w z 3 = some (z + 2) := h.2.2.1
  have s2 : shp w (z + 2) = (10, 135) := h.2.2.2.2.2.2.2.2.2.1
  have r1 : rdR w z 1 = some (z + 1) := h.2.1
  have s1 : shp w (z + 1) = (10, 30) := h.2.2.2.2.2.2.2.2.1
  obtain ⟨m, hm⟩ : ∃ m, m = L.length := ⟨_, rfl⟩
  rw [← hm] at hQ h45
  have hL4 : rdI w z 4 = nI m := by rw [hm]; exact hL.1
  rw [vc3 (show l < 10 by omega)] at hQ
  have l0 : (0 : Int32) < 3 := by decide
  have l1 : (1 : Int32) < 3 := by decide
  have l2 : (2 : Int32) < 3 := by decide
  have l3 : ¬ (3 : Int32) < 3 := by decide
  have p1 : (0 : Int32) + 1 = 1 := by decide
  have p2 : (1 : Int32) + 1 = 2 := by decide
  have p3 : (2 : Int32) + 1 = 3 := by decide
  have z0 : ∀ a : Nat, nI a + 0 = nI a := fun a => nI_a a 0
  have z1 : ∀ a : Nat, nI a + 1 = nI (a + 1) := fun a => nI_a a 1
  have z2 : ∀ a : Nat, nI a + 2 = nI (a + 2) := fun a => nI_a a 2
  have f0 : ∀ k, k < n → rdI w (z + 1) (3 * k) = iI (ptZ C k).1 := fun k hk => by rw [hP.2.2 _ (by omega)]; exact iU C _
  have f1 : ∀ k, k < n → rdI w (z + 1) (3 * k + 1) = iI (ptZ C k).2.1 := fun k hk => by rw [hP.2.2 _ (by omega)]; exact iU C _
  have f2 : ∀ k, k < n → rdI w (z + 1) (3 * k + 2) = iI (ptZ C k).2.2 := fun k hk => by rw [hP.2.2 _ (by omega)]; exact iU C _
  have n12 : ∀ u : Wd, ∀ j x i, rdI (wrI u (z + 2) j x) (z + 1) i = rdI u (z + 1) i := fun u j x i => by rw [rdI_wrI, if_neg (by omega)]
  have n02 : ∀ u : Wd, ∀ j x i, rdI (wrI u (z + 2) j x) z i = rdI u z i := fun u j x i => by rw [rdI_wrI, if_neg (by omega)]
  simp only [eX7_drawLines_27, eX7_drawLines_28, eX7_drawLines_29, eX7_drawLines_30, eX7_drawLines_31, eX7_drawLines_34, eX7_drawLines_35, eX7_drawLines_38, eX7_drawLines_39, eX7_drawLines_42, eX7_drawLines_43, eX7_drawLines_44, eX7_drawLines_45, eX7_drawLines_46, eX7_drawLines_47, eX7_drawLines_50, eX7_drawLines_51, eX7_drawLines_52, eX7_drawLines_53, eX7_drawLines_54, eX7_drawLines_55, eX7_drawLines_56, eX7_drawLines_57, eX7_drawLines_60, eX7_drawLines_61, eX7_drawLines_62, eX7_drawLines_63, eX7_drawLines_64, eX7_drawLines_65, eX7_drawLines_66, eX7_drawLines_67, eX7_drawLines_68, cont_some, tl_some, tl_none, csum_nil, csum_i, csum_r, csum_j, isc2_i, isc2_r, isc2_n, va_rf_s, vfn_ite, true_and, and_true, true_or, or_true, eq_self, Bool.false_eq_true, not_false_eq_true, not_true_eq_false, if_true, if_false, Nat.reduceAdd, Nat.reduceLeDiff, reduceIte, l0, p1, h.1, r3, s2, r1, s1, hL4, nI_m3, z0, inA_nI (show 3 * m < 135 by omega) (show 135 < 2147483648 by omega), inA_nI (show 3 * k < 30 by omega) (show 30 < 2147483648 by omega), inA_nI (show 3 * l < 30 by omega) (show 30 < 2147483648 by omega), nI_clamp (show 3 * m < 2 ^ 31 by omega), nI_clamp (show 3 * k < 2 ^ 31 by omega), nI_clamp (show 3 * l < 2 ^ 31 by omega), f0 k hk, f0 l hl, iI_sub]
  rw [eX7_drawLines_71]
  simp only [eX7_drawLines_29, eX7_drawLines_30, eX7_drawLines_31, eX7_drawLines_34, eX7_drawLines_35, eX7_drawLines_38, eX7_drawLines_39, eX7_drawLines_42, eX7_drawLines_43, eX7_drawLines_44, eX7_drawLines_45, eX7_drawLines_46, eX7_drawLines_47, eX7_drawLines_50, eX7_drawLines_51, eX7_drawLines_52, eX7_drawLines_53, eX7_drawLines_54, eX7_drawLines_55, eX7_drawLines_56, eX7_drawLines_57, eX7_drawLines_60, eX7_drawLines_61, eX7_drawLines_62, eX7_drawLines_63, eX7_drawLines_64, eX7_drawLines_65, eX7_drawLines_66, eX7_drawLines_67, eX7_drawLines_68, cont_some, tl_some, tl_none, csum_nil, csum_i, csum_r, csum_j, isc2_i, isc2_r, isc2_n, va_rf_s, vfn_ite, true_and, and_true, true_or, or_true, eq_self, Bool.false_eq_true, not_false_eq_true, not_true_eq_false, if_true, if_false, Nat.reduceAdd, Nat.reduceLeDiff, reduceIte, l1, p2, h.1, r3, s2, r1, s1, shp_wrI, rdR_wrI, n12, n02, hL4, nI_m3, z1, inA_nI (show 3 * m + 1 < 135 by omega) (show 135 < 2147483648 by omega), inA_nI (show 3 * k + 1 < 30 by omega) (show 30 < 2147483648 by omega), inA_nI (show 3 * l + 1 < 30 by omega) (show 30 < 2147483648 by omega), nI_clamp (show 3 * m + 1 < 2 ^ 31 by omega), nI_clamp (show 3 * k + 1 < 2 ^ 31 by omega), nI_clamp (show 3 * l + 1 < 2 ^ 31 by omega), f1 k hk, f1 l hl, iI_sub]
  rw [eX7_drawLines_71]
  simp only [eX7_drawLines_29, eX7_drawLines_30, eX7_drawLines_31, eX7_drawLines_34, eX7_drawLines_35, eX7_drawLines_38, eX7_drawLines_39, eX7_drawLines_42, eX7_drawLines_43, eX7_drawLines_44, eX7_drawLines_45, eX7_drawLines_46, eX7_drawLines_47, eX7_drawLines_50, eX7_drawLines_51, eX7_drawLines_52, eX7_drawLines_53, eX7_drawLines_54, eX7_drawLines_55, eX7_drawLines_56, eX7_drawLines_57, eX7_drawLines_60, eX7_drawLines_61, eX7_drawLines_62, eX7_drawLines_63, eX7_drawLines_64, eX7_drawLines_65, eX7_drawLines_66, eX7_drawLines_67, eX7_drawLines_68, cont_some, tl_some, tl_none, csum_nil, csum_i, csum_r, csum_j, isc2_i, isc2_r, isc2_n, va_rf_s, vfn_ite, true_and, and_true, true_or, or_true, eq_self, Bool.false_eq_true, not_false_eq_true, not_true_eq_false, if_true, if_false, Nat.reduceAdd, Nat.reduceLeDiff, reduceIte, l2, p3, h.1, r3, s2, r1, s1, shp_wrI, rdR_wrI, n12, n02, hL4, nI_m3, z2, inA_nI (show 3 * m + 2 < 135 by omega) (show 135 < 2147483648 by omega), inA_nI (show 3 * k + 2 < 30 by omega) (show 30 < 2147483648 by omega), inA_nI (show 3 * l + 2 < 30 by omega) (show 30 < 2147483648 by omega), nI_clamp (show 3 * m + 2 < 2 ^ 31 by omega), nI_clamp (show 3 * k + 2 < 2 ^ 31 by omega), nI_clamp (show 3 * l + 2 < 2 ^ 31 by omega), f2 k hk, f2 l hl, iI_sub]
  rw [eX7_drawLines_71]
  simp only [eX7_drawLines_29, eX7_drawLines_30, eX7_drawLines_31, eX7_drawLines_74, eX7_drawLines_75, eX7_drawLines_75i, eX7_drawLines_76, eX7_drawLines_79, eX7_drawLines_80, eX7_drawLines_81, eX7_drawLines_84, cont_some, tl_some, tl_none, csum_nil, csum_i, csum_r, csum_j, isc2_i, isc2_r, isc2_n, va_rf_s, vfn_ite, true_and, and_true, true_or, or_true, eq_self, Bool.false_eq_true, not_false_eq_true, not_true_eq_false, if_true, if_false, Nat.reduceAdd, Nat.reduceLeDiff, reduceIte, l3, h.1, shp_wrI, n02, hL4, nI_1]
  rw [eX7_drawLines_87]
  exact hQ _
theorem lo_dl2 {z n k : Nat} {C : Nat → Int32} {w0 : Wd} {Q : Option Value → Wd → Prop} (hk : k < n) : ∀ (e l : Nat) (w : Wd) (L : List V3) (a3 : Option Value), l + e = n → isZ w z → zP w z n C → zL w z L → L.length + e ≤ 45 → FrX (Xl z) w0 w →
    (∀ u a2 a3, isZ u z → zP u z n C → zL u z (L ++ (pcI k e l).map (vcP 3 C)) → FrX (Xl z) w0 u → wp mX7_drawLines 90 [some (.ref z), some (.int (nI k)), some (.int a2), a3] [] u Q) →
    wp mX7_drawLines 19 [some (.ref z), some (.int (nI k)), some (.int (nI l)), a3] [] w Q := by
  intro e
  induction e with
  | zero =>
    intro l w L a3 hl h hP hL h45 hF hQ
    have e : l = n := by omega
    subst e
    have lt : ¬ nI l < nI l := Int32.lt_irrefl
    simp only [eX7_drawLines_19, eX7_drawLines_20, eX7_drawLines_21, eX7_drawLines_24, cont_some, tl_some, tl_none, csum_nil, csum_i, csum_r, csum_j, isc2_i, isc2_r, isc2_n, va_rf_s, vfn_ite, true_and, and_true, true_or, or_true, eq_self, Bool.false_eq_true, not_false_eq_true, not_true_eq_false, if_true, if_false, Nat.reduceAdd, Nat.reduceLeDiff, reduceIte, h.1, hP.1, lt]
    refine hQ w _ _ h hP ?_ hF
    show zL w z (L ++ [])
    rw [List.append_nil]
    exact hL
  | succ e ih =>
    intro l w L a3 hl h hP hL h45 hF hQ
    have h10 := hP.2.1
    have lt : nI l < nI n := nI_lt (by omega) (by omega)
    simp only [eX7_drawLines_19, eX7_drawLines_20, eX7_drawLines_21, eX7_drawLines_24, cont_some, tl_some, tl_none, csum_nil, csum_i, csum_r, csum_j, isc2_i, isc2_r, isc2_n, va_rf_s, vfn_ite, true_and, and_true, true_or, or_true, eq_self, Bool.false_eq_true, not_false_eq_true, not_true_eq_false, if_true, if_false, Nat.reduceAdd, Nat.reduceLeDiff, reduceIte, h.1, hP.1, lt]
    refine lo_dl3 h hP hL (by omega) hk (by omega) (fun a3 => ?_)
    have f := lnW_fx (w := w) (z := z) (m := L.length) (v := vcP 3 C (10 * k + l))
    refine ih (l + 1) _ (L ++ [vcP 3 C (10 * k + l)]) _ (by omega) (h.fx f) (hP.fx f (fun q => by unfold Xl at q; omega) (fun i q => by unfold Xl at q; omega)) (lnW_is hL (by omega)) (by rw [List.length_append]; simp; omega) (hF.tr f) (fun u a2 a3 k1 k2 k3 k4 => ?_)
    rw [List.append_assoc] at k3
    exact hQ u a2 a3 k1 k2 k3 k4
theorem lo_dl1 {z n : Nat} {C : Nat → Int32} {w0 : Wd} : ∀ (e k : Nat) (w : Wd) (L : List V3) (a2 a3 : Option Value), k + e = n → isZ w z → zP w z n C → zL w z L → L.length + lnT n e k ≤ 45 → FrX (Xl z) w0 w →
    wp mX7_drawLines 7 [some (.ref z), some (.int (nI k)), a2, a3] [] w (fun r u => r = none ∧ zP u z n C ∧ zL u z (L ++ (pcO n e k).map (vcP 3 C)) ∧ FrX (Xl z) w0 u) := by
  intro e
  induction e with
  | zero =>
    intro k w L a2 a3 hk h hP hL h45 hF
    have e : k = n := by omega
    subst e
    have lt : ¬ nI k < nI k := Int32.lt_irrefl
    simp only [eX7_drawLines_7, eX7_drawLines_8, eX7_drawLines_9, eX7_drawLines_12, eX7_drawLines_96, cont_some, tl_some, tl_none, csum_nil, csum_i, csum_r, csum_j, isc2_i, isc2_r, isc2_n, va_rf_s, vfn_ite, true_and, and_true, true_or, or_true, eq_self, Bool.false_eq_true, not_false_eq_true, not_true_eq_false, if_true, if_false, Nat.reduceAdd, Nat.reduceLeDiff, reduceIte, h.1, hP.1, lt]
    refine ⟨hP, ?_, hF⟩
    show zL w z (L ++ [])
    rw [List.append_nil]
    exact hL
  | succ e ih =>
    intro k w L a2 a3 hk h hP hL h45 hF
    have h10 := hP.2.1
    have lt : nI k < nI n := nI_lt (by omega) (by omega)
    have h45' : L.length + ((n - (k + 1)) + lnT n e (k + 1)) ≤ 45 := h45
    simp only [eX7_drawLines_7, eX7_drawLines_8, eX7_drawLines_9, eX7_drawLines_12, eX7_drawLines_15, eX7_drawLines_16, eX7_drawLines_17, eX7_drawLines_18, cont_some, tl_some, tl_none, csum_nil, csum_i, csum_r, csum_j, isc2_i, isc2_r, isc2_n, va_rf_s, vfn_ite, true_and, and_true, true_or, or_true, eq_self, Bool.false_eq_true, not_false_eq_true, not_true_eq_false, if_true, if_false, Nat.reduceAdd, Nat.reduceLeDiff, reduceIte, h.1, hP.1, lt, nI_1]
    refine lo_dl2 (show k < n by omega) (n - (k + 1)) (k + 1) w L _ (by omega) h hP hL (by omega) hF (fun u a2 a3 k1 k2 k3 k4 => ?_)
    simp only [eX7_drawLines_90, cont_some, tl_some, tl_none, csum_nil, csum_i, csum_r, csum_j, isc2_i, isc2_r, isc2_n, va_rf_s, vfn_ite, true_and, and_true, true_or, or_true, eq_self, Bool.false_eq_true, not_false_eq_true, not_true_eq_false, if_true, if_false, Nat.reduceAdd, Nat.reduceLeDiff, reduceIte, nI_1]
    rw [eX7_drawLines_93]
    have := ih (k + 1) u _ (some (.int a2)) a3 (by omega) k1 k2 k3 (by rw [List.length_append, List.length_map, pcI_len]; omega) k4
    rw [List.append_assoc, ← List.map_append] at this
    exact this
theorem s_lines {w : Wd} {z n : Nat} {C : Nat → Int32} (h : isZ w z) (hP : zP w z n C) : ∃ u, fX7_drawLines [.ref z] w = some (none, u) ∧ zP u z n C ∧ zL u z ((pcO n n 0).map (vcP 3 C)) ∧ FrX (Xl z) w u := by
  have h10 := hP.2.1
  have f : FrX (Xl z) w (wrI w z 4 0) := FrX.rf.wrI (Or.inl ⟨rfl, rfl⟩)
  have hh : wp mX7_drawLines 0 [some (.ref z), none, none, none] [] w (fun r u => r = none ∧ zP u z n C ∧ zL u z ((pcO n n 0).map (vcP 3 C)) ∧ FrX (Xl z) w u) := by
    simp only [eX7_drawLines_0, eX7_drawLines_1, eX7_drawLines_2, eX7_drawLines_5, eX7_drawLines_6, cont_some, tl_some, tl_none, csum_nil, csum_i, csum_r, csum_j, isc2_i, isc2_r, isc2_n, va_rf_s, vfn_ite, true_and, and_true, true_or, or_true, eq_self, Bool.false_eq_true, not_false_eq_true, not_true_eq_false, if_true, if_false, Nat.reduceAdd, Nat.reduceLeDiff, reduceIte, h.1]
    exact lo_dl1 n 0 _ [] _ _ (by omega) (h.fx f) (hP.fx f (fun q => by unfold Xl at q; omega) (fun i q => by unfold Xl at q; omega)) ⟨by rw [rdI_wrI, if_pos ⟨rfl, rfl⟩]; rfl, by simp, fun i v hv => by cases hv⟩ (by have := lnT_45 n h10; simp; omega) f
  obtain ⟨r, u, h1, rfl, h2, h3, h4⟩ := sem_wp (nL := 4) (as := [.ref z]) (Nat.le_of_ble_eq_true rfl) hh
  exact ⟨u, h1, h2, h3, h4⟩
