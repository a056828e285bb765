/-! lines, and a way tried -/
def zL (w : Wd) (z : Nat) (L : List V3) : Prop := rdI w z 4 = nI L.length ∧ L.length ≤ 45 ∧ ∀ (i : Nat) (v : V3), L[i]? = some v → rdI w (z + 2) (3 * i) = iI v.1 ∧ rdI w (z + 2) (3 * i + 1) = iI v.2.1 ∧ rdI w (z + 2) (3 * i + 2) = iI v.2.2
theorem zL.fx {X : Nat → Nat → Prop} {w u : Wd} {z : Nat} {L : List V3} (h : zL w z L) (f : FrX X w u) (h1 : ¬ X z 4) (h2 : ∀ i, ¬ X (z + 2) i) : zL u z L := by
  obtain ⟨a1, a2, a3⟩ := h
  refine ⟨by rw [f.1 _ _ h1]; exact a1, a2, fun i v hv => ?_⟩
  rw [f.1 _ _ (h2 _), f.1 _ _ (h2 _), f.1 _ _ (h2 _)]
  exact a3 i v hv
def Xq (z : Nat) : Nat → Nat → Prop := fun c j => (c = z ∧ (j = 5 ∨ (11 ≤ j ∧ j ≤ 16))) ∨ c = z + 3 ∨ c = z + 4 ∨ c = z + 5 ∨ c = z + 7 ∨ (z + 8 ≤ c ∧ c < z + 18)
def ZS (w : Wd) (z n : Nat) (C : Nat → Int32) (L : List V3) (sn : List V3) : Prop := isZ w z ∧ zP w z n C ∧ zL w z L ∧ ∃ ww, zB w z (sfo (wdP n C) sn) ∧ frIs w (z + 5) (frA (wdP n C) (sfo (wdP n C) sn)) (frB (wdP n C) (sfo (wdP n C) sn)) ∧ wws w z ww ∧ wInv n C sn (sfo (wdP n C) sn) ww
theorem zB.fx {X : Nat → Nat → Prop} {w u : Wd} {z : Nat} {s : Option V3} (h : zB w z s) (f : FrX X w u) (h1 : ¬ X z 5) (h2 : ∀ i, ¬ X (z + 3) i) : zB u z s := by
  cases s with
  | none => exact (f.1 _ _ h1).trans h
  | some e => exact ⟨(f.1 _ _ h1).trans h.1, h.2.fx f h2⟩
theorem lsA_I {n : Nat} {f : Nat → Int} (hb : ∀ i, i < n → f i < 1000000) : lsI f n (lsA n f) := ls_all hb n 0 _ (by omega) (Or.inl ⟨rfl, rfl, rfl⟩)
theorem ls_bd {n : Nat} {f : Nat → Int} {s : Ls} (hn : 2 ≤ n) (h : lsI f n s) (hb : ∀ i, i < n → (f i).natAbs ≤ 81000) : s.1.natAbs ≤ 81000 ∧ s.2.1.natAbs ≤ 81000 := by
  rcases h with ⟨q, -⟩ | ⟨a1, a2, -, -, a5⟩
  · omega
  · refine ⟨by rw [← a2]; exact hb _ a1, ?_⟩
    rcases a5 with ⟨q, -⟩ | ⟨i, i1, -, i3⟩
    · omega
    · rw [← i3]; exact hb i i1
theorem s_try {z n k : Nat} {C : Nat → Int32} {L sn : List V3} {l v : V3} {w : Wd} (hb : bdC n C) (hn : 2 ≤ n) (hZ : ZS w z n C L sn) (hk : L[k]? = some l) (hl : in3 30 l) (hv : in3 30 v) : ∃ u, fX7_trySquareTo [.ref z, .int (nI k), .int (iI v.1), .int (iI v.2.1), .int (iI v.2.2)] w = some (none, u) ∧ ZS u z n C L (sn ++ [cx l v]) ∧ FrX (Xq z) w u := by
  obtain ⟨h, hP, hL, ww, z1, z2, z3, z4⟩ := hZ
  have h10 := hP.2.1
  obtain ⟨t, ht⟩ : ∃ t, t = cx l v := ⟨_, rfl⟩
  have hti : in3 1800 t := by rw [ht]; exact in3_cx hl hv
  rw [← ht]
  have hk45 : k < 45 := by
    obtain ⟨q, -⟩ := List.getElem?_eq_some_iff.mp hk
    have := hL.2.1
    omega
  obtain ⟨g0, g1, g2⟩ := hL.2.2 k l hk
  have r3 : rdR w z 3 = some (z + 2) := h.2.2.1
  have s2 : shp w (z + 2) = (10, 135) := h.2.2.2.2.2.2.2.2.2.1
  have r7 : rdR w z 7 = some (z + 4) := h.2.2.2.2.1
  have s4 : shp w (z + 4) = (10, 3) := h.2.2.2.2.2.2.2.2.2.2.2.1
  have e0 : iI l.2.1 * iI v.2.2 - iI l.2.2 * iI v.2.1 = iI t.1 := by rw [iI_mul, iI_mul, iI_sub, ht]; rfl
  have e1 : iI l.2.2 * iI v.1 - iI l.1 * iI v.2.2 = iI t.2.1 := by rw [iI_mul, iI_mul, iI_sub, ht]; rfl
  have e2 : iI l.1 * iI v.2.1 - iI l.2.1 * iI v.1 = iI t.2.2 := by rw [iI_mul, iI_mul, iI_sub, ht]; rfl
  obtain ⟨w1, hw1⟩ : ∃ w1, w1 = trW w z t := ⟨_, rfl⟩
  have F1 : FrX (fun c _ => c = z + 4) w w1 := by rw [hw1]; exact trW_fx
  have T1 : zT w1 (z + 4) t := by rw [hw1]; exact trW_is
  have h1 := h.fx F1
  have P1 := hP.fx F1 (fun q => by omega) (fun i q => by omega)
  have f0 := iI_i2l (r32_of hti.1 (by omega))
  have f1 := iI_i2l (r32_of hti.2.1 (by omega))
  have f2 := iI_i2l (r32_of hti.2.2 (by omega))
  have eb : jJ t.1 * jJ t.1 + jJ t.2.1 * jJ t.2.1 + jJ t.2.2 * jJ t.2.2 = lN (dt t t).natAbs := by
    rw [jJ_mul, jJ_mul, jJ_mul, jJ_add, jJ_add, lN_jJ]
    congr 1
    have := dt_nn t
    have e : (dt t t : Int) = t.1 * t.1 + t.2.1 * t.2.1 + t.2.2 * t.2.2 := rfl
    omega
  have bt_ := dt_bb hti
  have beg : ∀ {Q : Option Value → Wd → Prop}, (t = (0, 0, 0) → Q none w1) → (t ≠ (0, 0, 0) → ∀ a5 a6 a7, wp mX7_trySquareTo 137 [some (.ref z), some (.int (nI k)), some (.int (iI v.1)), some (.int (iI v.2.1)), some (.int (iI v.2.2)), a5, a6, a7, some (.long (lN (dt t t).natAbs)), none] [] w1 Q) → wp mX7_trySquareTo 0 [some (.ref z), some (.int (nI k)), some (.int (iI v.1)), some (.int (iI v.2.1)), some (.int (iI v.2.2)), none, none, none, none, none] [] w Q := by
    intro Q hN hY
    simp only [eX7_trySquareTo_0, eX7_trySquareTo_1, eX7_trySquareTo_4, eX7_trySquareTo_5, eX7_trySquareTo_6, eX7_trySquareTo_7, eX7_trySquareTo_8, eX7_trySquareTo_10, eX7_trySquareTo_11, eX7_trySquareTo_14, eX7_trySquareTo_15, eX7_trySquareTo_16, eX7_trySquareTo_17, eX7_trySquareTo_18, eX7_trySquareTo_19, eX7_trySquareTo_20, eX7_trySquareTo_22, eX7_trySquareTo_23, eX7_trySquareTo_26, eX7_trySquareTo_27, eX7_trySquareTo_28, eX7_trySquareTo_29, eX7_trySquareTo_30, eX7_trySquareTo_31, eX7_trySquareTo_32, eX7_trySquareTo_34, eX7_trySquareTo_35, eX7_trySquareTo_38, eX7_trySquareTo_39, eX7_trySquareTo_41, eX7_trySquareTo_43, eX7_trySquareTo_44, eX7_trySquareTo_46, eX7_trySquareTo_47, eX7_trySquareTo_48, eX7_trySquareTo_49, eX7_trySquareTo_50, eX7_trySquareTo_51, eX7_trySquareTo_54, eX7_trySquareTo_55, eX7_trySquareTo_57, eX7_trySquareTo_58, eX7_trySquareTo_59, eX7_trySquareTo_61, eX7_trySquareTo_63, eX7_trySquareTo_64, eX7_trySquareTo_65, eX7_trySquareTo_66, eX7_trySquareTo_67, eX7_trySquareTo_70, eX7_trySquareTo_71, eX7_trySquareTo_73, eX7_trySquareTo_74, eX7_trySquareTo_75, eX7_trySquareTo_77, eX7_trySquareTo_78, eX7_trySquareTo_79, eX7_trySquareTo_80, cont_some, tl_some, tl_none, csum_nil, csum_i, csum_r, csum_j, isc2_i, isc2_r, isc2_n, va_rf_s, vfn_ite, true_and, and_true, true_or, or_true, eq_self, Bool.false_eq_true, not_false_eq_true, not_true_eq_false, if_true, if_false, Nat.reduceAdd, Nat.reduceLeDiff, reduceIte, h.1, r3, s2, r7, s4, nI_m3, nI_p1, nI_p2, nI_a, inA_nI (show 3 * k < 135 by omega) (show 135 < 2147483648 by omega), inA_nI (show 3 * k + 1 < 135 by omega) (show 135 < 2147483648 by omega), inA_nI (show 3 * k + 2 < 135 by omega) (show 135 < 2147483648 by omega), nI_clamp (show 3 * k < 2 ^ 31 by omega), nI_clamp (show 3 * k + 1 < 2 ^ 31 by omega), nI_clamp (show 3 * k + 2 < 2 ^ 31 by omega), g0, g1, g2, e0, e1, e2, shp_wrI, rdR_wrI, in0_3, cl0, inA_nI (show 1 < 3 by omega) (show 3 < 2147483648 by omega), inA_nI (show 2 < 3 by omega) (show 3 < 2147483648 by omega), nI_clamp (show 1 < 2 ^ 31 by omega), nI_clamp (show 2 < 2 ^ 31 by omega)]
    show wp mX7_trySquareTo 81 _ _ (trW w z t) Q
    rw [← hw1]
    have z0 : (0 : Int64) < lN (dt t t).natAbs ↔ 0 < (dt t t).natAbs := pk_lLT (a := 0) (by omega) (by omega)
    simp only [eX7_trySquareTo_81, eX7_trySquareTo_82, eX7_trySquareTo_85, eX7_trySquareTo_86, eX7_trySquareTo_87, eX7_trySquareTo_88, eX7_trySquareTo_89, eX7_trySquareTo_92, eX7_trySquareTo_93, eX7_trySquareTo_94, eX7_trySquareTo_95, eX7_trySquareTo_96, eX7_trySquareTo_97, eX7_trySquareTo_100, eX7_trySquareTo_101, eX7_trySquareTo_102, eX7_trySquareTo_103, eX7_trySquareTo_104, eX7_trySquareTo_107, eX7_trySquareTo_108, eX7_trySquareTo_109, eX7_trySquareTo_110, eX7_trySquareTo_111, eX7_trySquareTo_112, eX7_trySquareTo_113, eX7_trySquareTo_116, eX7_trySquareTo_117, eX7_trySquareTo_118, eX7_trySquareTo_119, eX7_trySquareTo_120, eX7_trySquareTo_123, eX7_trySquareTo_124, eX7_trySquareTo_125, eX7_trySquareTo_126, eX7_trySquareTo_127, eX7_trySquareTo_128, eX7_trySquareTo_130, eX7_trySquareTo_132, eX7_trySquareTo_133, eX7_trySquareTo_134, cont_some, tl_some, tl_none, csum_nil, csum_i, csum_r, csum_j, isc2_i, isc2_r, isc2_n, va_rf_s, vfn_ite, true_and, and_true, true_or, or_true, eq_self, Bool.false_eq_true, not_false_eq_true, not_true_eq_false, if_true, if_false, Nat.reduceAdd, Nat.reduceLeDiff, reduceIte, h1.1, h1.2.2.2.2.1, h1.2.2.2.2.2.2.2.2.2.2.2.1, in0_3, in1_3, in2_3, cl0, cl1, cl2, T1.1, T1.2.1, T1.2.2, f0, f1, f2, eb, lgc_gt, z0]
    by_cases q : 0 < (dt t t).natAbs
    · rw [if_pos q]
      exact hY (fun y => by rw [y] at q; exact absurd q (by decide)) _ _ _
    · rw [if_neg q]
      simp only [eX7_trySquareTo_151, cont_some, tl_some, tl_none, csum_nil, csum_i, csum_r, csum_j, isc2_i, isc2_r, isc2_n, va_rf_s, vfn_ite, true_and, and_true, true_or, or_true, eq_self, Bool.false_eq_true, not_false_eq_true, not_true_eq_false, if_true, if_false, Nat.reduceAdd, Nat.reduceLeDiff, reduceIte]
      exact hN (dt_0 (by omega))
  by_cases q : t = (0, 0, 0)
  · refine ⟨w1, ?_, ⟨h1, P1, hL.fx F1 (fun q => by omega) (fun i q => by omega), ww, ?_⟩, F1.wide (fun c j q => by unfold Xq; omega)⟩
    · refine sem_eq (Nat.le_of_ble_eq_true rfl) ?_
      show wp mX7_trySquareTo 0 [some (.ref z), some (.int (nI k)), some (.int (iI v.1)), some (.int (iI v.2.1)), some (.int (iI v.2.2)), none, none, none, none, none] [] _ _
      exact beg (fun _ => ⟨rfl, rfl⟩) (fun y => absurd q y)
    · have es : sfo (wdP n C) (sn ++ [t]) = sfo (wdP n C) sn := by rw [sfo_app]; unfold stW; rw [if_pos q]
      rw [es, q]
      exact ⟨z1.fx F1 (fun q => by omega) (fun i q => by omega), z2.fx F1 (fun j q => by omega), z3.fx F1 (fun k j hk q => by omega), wInv_zero z4⟩
  · obtain ⟨w2, k1, k2, -, k4⟩ := s_measure hb hti h1 P1 (Or.inr rfl) T1.1 T1.2.1 T1.2.2
    have h2 := h1.fx k4
    have F12 : FrX (Xq z) w w2 := (F1.wide (fun c j q => by unfold Xq; omega)).tr (k4.wide (fun c j q => by unfold Xm at q; unfold Xq; omega))
    have bP : ∀ i, i < n → (dP C t i).natAbs ≤ 81000 := fun i hi => dP_b hb hi hti
    have bM : ∀ i, i < n → ((fun i => -dP C t i) i).natAbs ≤ 81000 := fun i hi => by have := bP i hi; show (-dP C t i).natAbs ≤ 81000; omega
    have i1 := lsA_I (n := n) (f := dP C t) (fun i hi => by have := bP i hi; omega)
    have i2 := lsA_I (n := n) (f := fun i => -dP C t i) (fun i hi => by have := bP i hi; show -dP C t i < 1000000; omega)
    have bA : ∀ e, in3 1800 e → (wdP n C e).natAbs ≤ 26244000000 := fun e he => wdA_b (j := 3) (m := 2 ^ n - 1) hb he
    obtain ⟨u, c1, c2, c3, c4, ww1, c5, c6, c7⟩ := s_compare h10 hn h2 k2 i1 i2 (ls_bd hn i1 bP) (ls_bd hn i2 bM) hti q (T1.fx k4 (fun j y => by unfold Xm at y; omega)) ((z1.fx F1 (fun q => by omega) (fun i q => by omega)).fx k4 (fun y => by unfold Xm at y; omega) (fun i y => by unfold Xm at y; omega)) z4.2.2.2.2 bA ((z2.fx F1 (fun j q => by omega)).fx k4 (fun j y => by unfold Xm at y; omega)) ((z3.fx F1 (fun k j hk q => by omega)).fx k4 (fun k j hk y => by unfold Xm at y; omega)) z4.2.1
    have hfin : ∃ ww, zB u z (sfo (wdP n C) (sn ++ [t])) ∧ frIs u (z + 5) (frA (wdP n C) (sfo (wdP n C) (sn ++ [t]))) (frB (wdP n C) (sfo (wdP n C) (sn ++ [t]))) ∧ wws u z ww ∧ wInv n C (sn ++ [t]) (sfo (wdP n C) (sn ++ [t])) ww := by
      rw [sfo_app]
      exact ⟨_, c2, c3, c6, wInv_step h10 hn z4 hti q i1 i2 c5 c7⟩
    refine ⟨u, ?_, ⟨h2.fx c4, ((P1.fx k4 (fun y => by unfold Xm at y; omega) (fun i y => by unfold Xm at y; omega)).fx c4 (fun y => by unfold Xz at y; omega) (fun i y => by unfold Xz at y; omega)), (((hL.fx F1 (fun q => by omega) (fun i q => by omega)).fx k4 (fun y => by unfold Xm at y; omega) (fun i y => by unfold Xm at y; omega)).fx c4 (fun y => by unfold Xz at y; omega) (fun i y => by unfold Xz at y; omega)), hfin⟩, F12.tr (c4.wide (fun c j y => by unfold Xz at y; unfold Xq; omega))⟩
    refine sem_eq (Nat.le_of_ble_eq_true rfl) ?_
    show wp mX7_trySquareTo 0 [some (.ref z), some (.int (nI k)), some (.int (iI v.1)), some (.int (iI v.2.1)), some (.int (iI v.2.2)), none, none, none, none, none] [] _ _
    refine beg (fun y => absurd y q) (fun _ a5 a6 a7 => ?_)
    simp only [eX7_trySquareTo_137, eX7_trySquareTo_138, eX7_trySquareTo_139, eX7_trySquareTo_142, cont_some, tl_some, tl_none, csum_nil, csum_i, csum_r, csum_j, isc2_i, isc2_r, isc2_n, va_rf_s, vfn_ite, true_and, and_true, true_or, or_true, eq_self, Bool.false_eq_true, not_false_eq_true, not_true_eq_false, if_true, if_false, Nat.reduceAdd, Nat.reduceLeDiff, reduceIte, h1.1, h1.2.2.2.2.1, k1]
    simp only [eX7_trySquareTo_145, eX7_trySquareTo_146, eX7_trySquareTo_148, eX7_trySquareTo_151, cont_some, tl_some, tl_none, csum_nil, csum_i, csum_r, csum_j, isc2_i, isc2_r, isc2_n, va_rf_s, vfn_ite, true_and, and_true, true_or, or_true, eq_self, Bool.false_eq_true, not_false_eq_true, not_true_eq_false, if_true, if_false, Nat.reduceAdd, Nat.reduceLeDiff, reduceIte, h2.1, c1]
