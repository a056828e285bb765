/-! the corners by the class -/
def hIs (w : Wd) (v L : Nat) (O : Nat → Nat) : Prop := rdI w v 4 = nI L ∧ ∀ i, i < L → rdI w (v + 3) i = nI (O i)
/-- how many corners, for any number of places -/
def huL (U V : Nat → Int32) (n : Nat) (O : Nat → Nat) (L : Nat) : Prop := (n = 0 ∧ L = 0) ∨ ∃ f, lmF U V n 0 none = some f ∧ coZ n (uZ U) (uZ V) f ∧ O = orb U V n f ∧ cyL U V n f L
theorem hu_ex {n : Nat} {U V : Nat → Int32} (h : inZ n (uZ U) (uZ V)) : ∃ O L, huL U V n O L := by
  by_cases q : n = 0
  · exact ⟨fun _ => 0, 0, Or.inl ⟨q, rfl⟩⟩
  · obtain ⟨f, h1, h2⟩ := lm_co h (show 0 < n by omega)
    obtain ⟨L, hL⟩ := cy_ex h h2
    exact ⟨orb U V n f, L, Or.inr ⟨f, h1, h2, rfl, hL⟩⟩
theorem huL.lt {n L : Nat} {U V : Nat → Int32} {O : Nat → Nat} (h : inZ n (uZ U) (uZ V)) (hu : huL U V n O L) : L ≤ n ∧ ∀ i, O i < n ∨ L = 0 := by
  rcases hu with ⟨h1, h2⟩ | ⟨f, h1, h2, h3, h4⟩
  · exact ⟨by omega, fun i => Or.inr h2⟩
  · exact ⟨h4.2.1, fun i => Or.inl (by rw [h3]; exact (orb_co h h2 i).1)⟩
theorem lo_wrap {w0 : Wd} {v n f L : Nat} {U V : Nat → Int32} (hz : inZ n (uZ U) (uZ V)) (hf : coZ n (uZ U) (uZ V) f) (hL : cyL U V n f L) : ∀ (d s : Nat) (w : Wd) (x : Int32), s + d = L → vIs w v n U V → hIs w v s (orb U V n f) → x = (if s = L then -1 else nI (orb U V n f s)) → Fr v (v + 4) w0 w →
    wp mX6_wrap 14 [some (.ref v), some (.int (nI f)), some (.int x), some (.int (nI s))] [] w (fun r u => r = none ∧ vIs u v n U V ∧ hIs u v L (orb U V n f) ∧ Fr v (v + 4) w0 u) := by
  obtain ⟨l1, l2, l3, l4⟩ := hL
  intro d
  induction d with
  | zero =>
    intro s w x hs hv hh hx hF
    have e : s = L := by omega
    subst e
    rw [if_pos rfl] at hx
    subst hx
    have h := hv.1
    have m1 : (-1 : Int32) < 0 := by decide
    by_cases q : s < n
    · have l : nI s < nI n := nI_lt q (by have := hv.2.2.1; omega)
      simp only [eX6_wrap_14, eX6_wrap_15, eX6_wrap_16, eX6_wrap_19, eX6_wrap_22, eX6_wrap_23, eX6_wrap_65, cont_some, tl_some, tl_none, csum_nil, csum_i, csum_r, csum_j, isc2_i, isc2_r, isc2_n, va_rf_s, vfn_ite, true_and, and_true, true_or, or_true, eq_self, Bool.false_eq_true, not_false_eq_true, not_true_eq_false, if_true, if_false, Nat.reduceAdd, Nat.reduceLeDiff, reduceIte, h.1, hv.2.1, l, m1]
      exact ⟨hv, hh, hF⟩
    · have l : ¬ nI s < nI n := nI_nlt (by omega) (by have := hv.2.2.1; omega)
      simp only [eX6_wrap_14, eX6_wrap_15, eX6_wrap_16, eX6_wrap_19, eX6_wrap_22, eX6_wrap_23, eX6_wrap_65, cont_some, tl_some, tl_none, csum_nil, csum_i, csum_r, csum_j, isc2_i, isc2_r, isc2_n, va_rf_s, vfn_ite, true_and, and_true, true_or, or_true, eq_self, Bool.false_eq_true, not_false_eq_true, not_true_eq_false, if_true, if_false, Nat.reduceAdd, Nat.reduceLeDiff, reduceIte, h.1, hv.2.1, l]
      exact ⟨hv, hh, hF⟩
  | succ d ih =>
    intro s w x hs hv hh hx hF
    have h := hv.1
    have h10 := hv.2.2.1
    rw [if_neg (by omega)] at hx
    obtain ⟨c, hc⟩ : ∃ c, c = orb U V n f s := ⟨_, rfl⟩
    rw [← hc] at hx
    subst hx
    have hco : coZ n (uZ U) (uZ V) c := by rw [hc]; exact orb_co hz hf s
    have hcn := hco.1
    have l : nI s < nI n := nI_lt (by omega) (by omega)
    have c0 : ¬ nI c < 0 := by rw [lt0, nI_T (by omega)]; omega
    have n3 : ¬ v = v + 3 := by omega
    obtain ⟨w1, hw1⟩ : ∃ w1, w1 = wrI (wrI w (v + 3) s (nI c)) v 4 (nI (s + 1)) := ⟨_, rfl⟩
    have hv1 : vIs w1 v n U V := by
      subst hw1
      obtain ⟨g1, g2, g3, g4⟩ := hv
      refine ⟨g1, by rw [rdI_wrI, if_neg (by omega), rdI_wrI, if_neg (by omega)]; exact g2, g3, fun i hi => ?_⟩
      rw [rdI_wrI, if_neg (by omega), rdI_wrI, if_neg (by omega), rdI_wrI, if_neg (by omega), rdI_wrI, if_neg (by omega)]
      exact g4 i hi
    have hh1 : hIs w1 v (s + 1) (orb U V n f) := by
      subst hw1
      refine ⟨by rw [rdI_wrI, if_pos ⟨rfl, rfl⟩], fun i hi => ?_⟩
      rw [rdI_wrI, if_neg (by omega), rdI_wrI]
      by_cases e : i = s
      · rw [if_pos ⟨rfl, e⟩, e, hc]
      · rw [if_neg (fun z => e z.2)]; exact hh.2 i (by omega)
    have hF1 : Fr v (v + 4) w0 w1 := by
      subst hw1
      exact (hF.wrI ⟨by omega, by omega⟩).wrI ⟨by omega, by omega⟩
    have hnx := s_next hv1 hcn
    have go : ∀ x', x' = (if s + 1 = L then -1 else nI (orb U V n f (s + 1))) → wp mX6_wrap 59 [some (.ref v), some (.int (nI f)), some (.int x'), some (.int (nI s))] [] w1 (fun r u => r = none ∧ vIs u v n U V ∧ hIs u v L (orb U V n f) ∧ Fr v (v + 4) w0 u) := by
      intro x' hx'
      simp only [eX6_wrap_59, cont_some, tl_some, tl_none, csum_nil, csum_i, csum_r, csum_j, isc2_i, isc2_r, isc2_n, va_rf_s, vfn_ite, true_and, and_true, true_or, or_true, eq_self, Bool.false_eq_true, not_false_eq_true, not_true_eq_false, if_true, if_false, Nat.reduceAdd, Nat.reduceLeDiff, reduceIte, nI_1]
      rw [eX6_wrap_62]
      exact ih (s + 1) w1 x' (by omega) hv1 hh1 hx' hF1
    simp only [eX6_wrap_14, eX6_wrap_15, eX6_wrap_16, eX6_wrap_19, eX6_wrap_22, eX6_wrap_23, eX6_wrap_26, eX6_wrap_27, eX6_wrap_30, eX6_wrap_31, eX6_wrap_34, eX6_wrap_35, eX6_wrap_36, eX6_wrap_37, eX6_wrap_37i, eX6_wrap_38, eX6_wrap_41, eX6_wrap_42, eX6_wrap_43, eX6_wrap_46, cont_some, tl_some, tl_none, csum_nil, csum_i, csum_r, csum_j, isc2_i, isc2_r, isc2_n, va_rf_s, vfn_ite, true_and, and_true, true_or, or_true, eq_self, Bool.false_eq_true, not_false_eq_true, not_true_eq_false, if_true, if_false, Nat.reduceAdd, Nat.reduceLeDiff, reduceIte, h.1, h.2.2.2.1, h.2.2.2.2.2.2, hv.2.1, l, c0, hh.1, inA_nI (show s < 10 by omega) (show 10 < 2147483648 by omega), nI_clamp (show s < 2 ^ 31 by omega), shp_wrI, rdI_wrI, n3, false_and, nI_1]
    rw [← hw1]
    simp only [eX6_wrap_47, eX6_wrap_48, eX6_wrap_51, eX6_wrap_52, eX6_wrap_53, eX6_wrap_54, cont_some, tl_some, tl_none, csum_nil, csum_i, csum_r, csum_j, isc2_i, isc2_r, isc2_n, va_rf_s, vfn_ite, true_and, and_true, true_or, or_true, eq_self, Bool.false_eq_true, not_false_eq_true, not_true_eq_false, if_true, if_false, Nat.reduceAdd, Nat.reduceLeDiff, reduceIte, hv1.1.1, hnx]
    have hsp := nx_spec hz hcn hco.2.1
    have ho : orb U V n f (s + 1) = gtD c (nxF U V c n 0 none) := by rw [hc]; rfl
    cases e : nxF U V c n 0 none with
    | none =>
      rw [e] at hsp ho
      have hcf : c = f := fi_eq hco.2.2 hf.2.2 (hsp f hf.1)
      have hsL : s + 1 = L := by
        have ho' : orb U V n f (s + 1) = f := ho.trans hcf
        rcases Nat.lt_or_ge (s + 1) L with z | z
        · exact absurd ho' (l4 (s + 1) (by omega) z)
        · omega
      have m1 : ¬ (-1 : Int32) = nI f := fun z => by
        have : ¬ nI f < 0 := by rw [lt0, nI_T (by have := hf.1; omega)]; omega
        rw [← z] at this; exact this (by decide)
      simp only [oI, m1, not_false_eq_true, if_true]
      exact go (-1) (by rw [if_pos hsL])
    | some b =>
      rw [e] at hsp ho
      have ho' : orb U V n f (s + 1) = b := ho
      have hb : b < n := hsp.1
      by_cases q : b = f
      · have hsL : s + 1 = L := by
          rcases Nat.lt_or_ge (s + 1) L with z | z
          · exact absurd (ho'.trans q) (l4 (s + 1) (by omega) z)
          · omega
        simp only [oI, q, not_true_eq_false, if_false]
        simp only [eX6_wrap_57, eX6_wrap_58, cont_some, tl_some, tl_none, csum_nil, csum_i, csum_r, csum_j, isc2_i, isc2_r, isc2_n, va_rf_s, vfn_ite, true_and, and_true, true_or, or_true, eq_self, Bool.false_eq_true, not_false_eq_true, not_true_eq_false, if_true, if_false, Nat.reduceAdd, Nat.reduceLeDiff, reduceIte]
        exact go (-1) (by rw [if_pos hsL])
      · have hf1 := hf.1
        have q' : ¬ nI b = nI f := fun z => q ((nI_eq (by omega) (by omega)).mp z)
        have hsL : ¬ s + 1 = L := fun z => q (by rw [← ho', z]; exact l3)
        simp only [oI, q', not_false_eq_true, if_true]
        exact go (nI b) (by rw [if_neg hsL, ho'])
theorem s_wrap {w : Wd} {v n L : Nat} {U V : Nat → Int32} {O : Nat → Nat} (hz : inZ n (uZ U) (uZ V)) (hu : huL U V n O L) (hv : vIs w v n U V) : ∃ u, fX6_wrap [.ref v] w = some (none, u) ∧ vIs u v n U V ∧ hIs u v L O ∧ Fr v (v + 4) w u := by
  have h := hv.1
  have hv0 : vIs (wrI w v 4 0) v n U V := by
    obtain ⟨g1, g2, g3, g4⟩ := hv
    refine ⟨g1, by rw [rdI_wrI, if_neg (by omega)]; exact g2, g3, fun i hi => ?_⟩
    rw [rdI_wrI, if_neg (by omega), rdI_wrI, if_neg (by omega)]
    exact g4 i hi
  have hF : Fr v (v + 4) w (wrI w v 4 0) := Fr.rf.wrI ⟨by omega, by omega⟩
  have hl := s_left hv0
  have hh : wp mX6_wrap 0 [some (.ref v), none, none, none] [] w (fun r u => r = none ∧ vIs u v n U V ∧ hIs u v L O ∧ Fr v (v + 4) w u) := by
    simp only [eX6_wrap_0, eX6_wrap_1, eX6_wrap_2, eX6_wrap_5, eX6_wrap_6, eX6_wrap_9, eX6_wrap_10, eX6_wrap_11, eX6_wrap_12, eX6_wrap_13, cont_some, tl_some, tl_none, csum_nil, csum_i, csum_r, csum_j, isc2_i, isc2_r, isc2_n, va_rf_s, vfn_ite, true_and, and_true, true_or, or_true, eq_self, Bool.false_eq_true, not_false_eq_true, not_true_eq_false, if_true, if_false, Nat.reduceAdd, Nat.reduceLeDiff, reduceIte, h.1, shp_wrI, hl]
    rcases hu with ⟨rfl, rfl⟩ | ⟨f, h1, h2, rfl, h4⟩
    · have l : ¬ (0 : Int32) < nI 0 := by decide
      simp only [eX6_wrap_14, eX6_wrap_15, eX6_wrap_16, eX6_wrap_19, eX6_wrap_65, cont_some, tl_some, tl_none, csum_nil, csum_i, csum_r, csum_j, isc2_i, isc2_r, isc2_n, va_rf_s, vfn_ite, true_and, and_true, true_or, or_true, eq_self, Bool.false_eq_true, not_false_eq_true, not_true_eq_false, if_true, if_false, Nat.reduceAdd, Nat.reduceLeDiff, reduceIte, hv0.1.1, hv0.2.1, l]
      exact ⟨hv0, ⟨by rw [rdI_wrI, if_pos ⟨rfl, rfl⟩]; rfl, fun i hi => absurd hi (by omega)⟩, hF⟩
    · rw [h1]
      exact lo_wrap hz h2 h4 L 0 _ (nI f) (by omega) hv0 ⟨by rw [rdI_wrI, if_pos ⟨rfl, rfl⟩]; rfl, fun i hi => absurd hi (by omega)⟩ (by rw [if_neg (by have := h4.1; omega)]; rfl) hF
  obtain ⟨r, u, h1, rfl, h2, h3, h4⟩ := sem_wp (nL := 4) (as := [.ref v]) (Nat.le_of_ble_eq_true rfl) hh
  exact ⟨u, h1, h2, h3, h4⟩
