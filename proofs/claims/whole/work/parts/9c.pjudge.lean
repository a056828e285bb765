/-! judge, way, without: both sides -/
def ZZ (w : Wd) (b : Nat) : Prop := shp w (b + 37) = (16, 4) ∧ ∀ j, j < 4 → rdR w (b + 37) j = some (b + 53 + 18 * j) ∧ ∃ n C, ZF w (b + 53 + 18 * j) j n C
theorem ZF.frr {w u : Wd} {z j n lo hi : Nat} {C : Nat → Int32} (h : ZF w z j n C) (f : Fr lo hi w u) (hd : z + 18 ≤ lo ∨ hi ≤ z) : ZF u z j n C := by
  obtain ⟨h1, h2, h3, h4, h5, h6, h7, h8, ww, h9, h10⟩ := h
  have I : ∀ c i, z ≤ c → c < z + 18 → rdI u c i = rdI w c i := fun c i c1 c2 => f.I (by omega)
  have R : ∀ c i, z ≤ c → c < z + 18 → rdR u c i = rdR w c i := fun c i c1 c2 => f.R (by omega)
  refine ⟨?_, (I z 0 (by omega) (by omega)).trans h2, ⟨(I z 2 (by omega) (by omega)).trans h3.1, h3.2.1, fun i hi => (I (z + 1) i (by omega) (by omega)).trans (h3.2.2 i hi)⟩, h4, h5, ?_, h7.fr f (by omega), h8, ww, fun k hk => (h9 k hk).fr f (by omega), h10⟩
  · unfold isZ
    simp only [f.shp, R z _ (Nat.le_refl _) (by omega)]
    refine ⟨h1.1, h1.2.1, h1.2.2.1, h1.2.2.2.1, h1.2.2.2.2.1, h1.2.2.2.2.2.1, h1.2.2.2.2.2.2.1, h1.2.2.2.2.2.2.2.1, h1.2.2.2.2.2.2.2.2.1, h1.2.2.2.2.2.2.2.2.2.1, h1.2.2.2.2.2.2.2.2.2.2.1, h1.2.2.2.2.2.2.2.2.2.2.2.1, h1.2.2.2.2.2.2.2.2.2.2.2.2.1, h1.2.2.2.2.2.2.2.2.2.2.2.2.2.1, h1.2.2.2.2.2.2.2.2.2.2.2.2.2.2.1, fun k hk => ?_⟩
    rw [R (z + 6) k (by omega) (by omega)]
    exact h1.2.2.2.2.2.2.2.2.2.2.2.2.2.2.2 k hk
  · cases es : sfo (wdP n C) (cdP j (LN n C)) with
    | none => rw [es] at h6; exact (I z 5 (by omega) (by omega)).trans h6
    | some e =>
      rw [es] at h6
      exact ⟨(I z 5 (by omega) (by omega)).trans h6.1, (I (z + 3) 0 (by omega) (by omega)).trans h6.2.1, (I (z + 3) 1 (by omega) (by omega)).trans h6.2.2.1, (I (z + 3) 2 (by omega) (by omega)).trans h6.2.2.2⟩
theorem ZZ.fr {w u : Wd} {b lo hi : Nat} (h : ZZ w b) (f : Fr lo hi w u) (h1 : b + 37 < lo ∨ hi ≤ b + 37) (h2 : b + 125 ≤ lo ∨ hi ≤ b + 53) : ZZ u b := by
  refine ⟨by rw [f.shp]; exact h.1, fun j hj => ?_⟩
  obtain ⟨g1, n, C, g2⟩ := h.2 j hj
  exact ⟨by rw [f.R (by omega)]; exact g1, n, C, g2.frr f (by omega)⟩
/-- one zone changes -/
theorem ZZ.set {X : Nat → Nat → Prop} {w u : Wd} {b j n : Nat} {C : Nat → Int32} (h : ZZ w b) (f : FrX X w u) (hj : j < 4) (hx : ∀ c i, X c i → b + 53 + 18 * j ≤ c ∧ c < b + 53 + 18 * j + 18) (hz : ZF u (b + 53 + 18 * j) j n C) : ZZ u b := by
  refine ⟨by rw [f.sh]; exact h.1, fun i hi => ?_⟩
  obtain ⟨g1, n', C', g2⟩ := h.2 i hi
  refine ⟨by rw [f.R]; exact g1, ?_⟩
  by_cases e : i = j
  · subst e; exact ⟨n, C, hz⟩
  · exact ⟨n', C', g2.fm f (fun c k q => by have := hx c k q; omega)⟩
theorem c_surv {w : Wd} {b j : Nat} {c : Cst} (hj : j < 4) (hC : CC w b c) (hZ : ZZ w b) (hb : bdS c.1) : ∃ u, fX7_survey [.ref (b + 53 + 18 * j), .ref (b + 1)] w = some (none, u) ∧ ZF u (b + 53 + 18 * j) j c.1.1 (cN c.1.1 c.1.2.1) ∧ ZZ u b ∧ Fr (b + 53) (b + 125) w u := by
  obtain ⟨g1, n, C, g2⟩ := hZ.2 j hj
  obtain ⟨u, k1, k2, k3⟩ := s_survey hj g2 hC.2.1 hb (by omega)
  exact ⟨u, k1, k2, hZ.set k3 hj (fun c i q => by unfold Xa at q; omega) k2, k3.fr (fun c i q => by unfold Xa at q; omega)⟩
theorem MB.cn {w : Wd} {o n : Nat} {C : Nat → Int32} (h : MB w o n C) : MB w o n (cN n C) := ⟨h.1, h.2.1, h.2.2.1, fun i hi => by rw [cN_at hi]; exact h.2.2.2 i hi⟩
theorem in05 {x : Int32} {w : Wd} : fX9_in [.long x.toInt64, .long 0, .long 5] w = some (some (.int (b2i (0 ≤ x ∧ x ≤ 5))), w) := s_inI (by decide) (by decide)
theorem in01 {x : Int32} {w : Wd} : fX9_in [.long x.toInt64, .long 0, .long 1] w = some (some (.int (b2i (0 ≤ x ∧ x ≤ 1))), w) := s_inI (by decide) (by decide)
theorem in010 {x : Int32} {w : Wd} : fX9_in [.long x.toInt64, .long 0, .long 10] w = some (some (.int (b2i (0 ≤ x ∧ x ≤ 10))), w) := s_inI (by decide) (by decide)
theorem fullF {n : Nat} (h10 : n ≤ 10) : (2 ^ n - 1 < 2 ^ 31) ∧ ∀ i, i < 10 → bt (2 ^ n - 1) i → i < n := by
  have := pw_lt h10
  exact ⟨by omega, fun i hi hb => (btF n h10 i hi).mp hb⟩
/-- the reference's judgement of all: what its fields hold -/
theorem m_all {w : Wd} {o n j : Nat} {C : Nat → Int32} (h : MB w o n C) (hb : bdC n C) (hj : j < 4) : ∃ u, fX9_judges [.ref o, .int (nI j), .int (nI (2 ^ n - 1))] w = some (none, u) ∧ rdJ u o 12 = lN (frA (wdP n C) (sfo (wdP n C) (cdP j (LN n C)))) ∧ rdJ u o 13 = lN (frB (wdP n C) (sfo (wdP n C) (cdP j (LN n C)))) ∧ mrI u o (wdA n (2 ^ n - 1) (qZ j C)) ((sfo (wdP n C) (cdP j (LN n C))).map (prj j)) ∧ nzO ((sfo (wdP n C) (cdP j (LN n C))).map (prj j)) ∧ zaxO j (sfo (wdP n C) (cdP j (LN n C))) ∧ FrX (Xj o) w u := by
  have h10 := h.2.2.1
  obtain ⟨f1, f2⟩ := fullF h10
  obtain ⟨u, k1, k2, k3⟩ := m_judges h hb hj f1 f2
  obtain ⟨t1, t2⟩ := tie (C := C) hj h10
  have t3 := tie_fr (n := n) (C := C) hj t2
  have nz := jd_nz (j := j) (n := n) (m := 2 ^ n - 1) (C := C) hb f2
  rw [t1] at k2 nz
  refine ⟨u, k1, by rw [← t3.1]; exact k2.1, by rw [← t3.2]; exact k2.2.1, k2, nz, t2, k3⟩
theorem six {x : Int32} (h : 0 ≤ x ∧ x ≤ 5) : x = 0 ∨ x = 1 ∨ x = 2 ∨ x = 3 ∨ x = 4 ∨ x = 5 := by
  obtain ⟨i, hi, rfl⟩ := nI_of2 (M := 5) (n := 5) (by decide) (Int32.not_lt.mpr h.1) h.2
  have : i = 0 ∨ i = 1 ∨ i = 2 ∨ i = 3 ∨ i = 4 ∨ i = 5 := by omega
  rcases this with rfl | rfl | rfl | rfl | rfl | rfl <;> decide
theorem p_judge {w w' : Wd} {b o : Nat} {c : Cst} {x k : Int32} (hb : bdS c.1) (hC : CC w b c) (hZ : ZZ w b) (hM : MC w' o c) : ∃ r u u', fX8_judge [.ref b, .int x, .int k] w = some (some (.long r), u) ∧ fX9_judge [.ref o, .int x, .int k] w' = some (some (.long r), u') ∧ ZZ u b ∧ Fr (b + 53) (b + 125) w u ∧ FrX (Xj o) w' u' := by
  have hc := hC.1
  have hm := hM.1
  by_cases q : 0 ≤ x ∧ x ≤ 3
  · by_cases qk : 0 ≤ k ∧ k ≤ 5
    · have q0 := q
      obtain ⟨j, hj, rfl⟩ := sh_iff.mp q
      obtain ⟨v, s1, s2, s3, s4⟩ := c_surv hj hC hZ hb
      obtain ⟨z, hz⟩ : ∃ z, z = b + 53 + 18 * j := ⟨_, rfl⟩
      have hz0 : rdR w (b + 37) j = some z := by rw [hz]; exact (hZ.2 j hj).1
      rw [← hz] at s1 s2
      have m16 : 16 ∈ [14, 15, 16, 17] := by decide
      obtain ⟨n, hn⟩ : ∃ n, n = c.1.1 := ⟨_, rfl⟩
      obtain ⟨C, hCd⟩ : ∃ C, C = cN c.1.1 c.1.2.1 := ⟨_, rfl⟩
      have hbC : bdC n C := by rw [hn, hCd]; exact cN_bd hb
      have hMB : MB w' o n C := by rw [hn, hCd]; exact hM.mb.cn
      rw [← hCd, ← hn] at s2
      have h10 := hMB.2.2.1
      have hcv := hc.fr s4 (by omega)
      have hsv := hC.2.1.fr s4 (by omega)
      have hzs : shp w z = (7, 0) := by
        obtain ⟨-, n', C', g⟩ := hZ.2 j hj
        rw [hz]; exact g.1.1
      obtain ⟨so, hso⟩ : ∃ so, so = sfo (wdP n C) (cdP j (LN n C)) := ⟨_, rfl⟩
      have cbeg : ∀ {Q : Option Value → Wd → Prop}, wp mX8_judge 35 [some (.ref b), some (.int (nI j)), some (.int k), some (.ref z)] [] v Q → wp mX8_judge 0 [some (.ref b), some (.int (nI j)), some (.int k), none] [] w Q := by
        intro Q hQ
        simp only [eX8_judge_0, eX8_judge_1, eX8_judge_4, eX8_judge_7, eX8_judge_8, eX8_judge_9, eX8_judge_10, eX8_judge_13, eX8_judge_16, eX8_judge_19, eX8_judge_20, eX8_judge_21, eX8_judge_24, eX8_judge_25, eX8_judge_26, eX8_judge_27, eX8_judge_28, eX8_judge_29, eX8_judge_32, cont_some, tl_some, tl_none, csum_nil, csum_i, csum_r, csum_j, isc2_i, isc2_r, isc2_n, va_rf_s, vfn_ite, true_and, and_true, true_or, or_true, eq_self, Bool.false_eq_true, not_false_eq_true, not_true_eq_false, if_true, if_false, Nat.reduceAdd, Nat.reduceLeDiff, reduceIte, s_isJudge, s_isIn, b2i_0, q0, qk, and_self, hc.1, hc.2.1, hc.2.2.1, hc.2.2.2.1, hc.2.2.2.2.1, hc.2.2.2.2.2.1, hc.2.2.2.2.2.2.1, hc.2.2.2.2.2.2.2.1, hc.2.2.2.2.2.2.2.2.1, hc.2.2.2.2.2.2.2.2.2.1, hc.2.2.2.2.2.2.2.2.2.2, hZ.1, m16, inA_nI hj (show 4 < 2147483648 by omega), nI_clamp (show j < 2 ^ 31 by omega), hz0, hzs, s1]
        exact hQ
      have hw5 := s2.2.2.2.2.2.2.1
      rw [← hso] at hw5
      have zsv : shp v z = (7, 0) := s2.1.1
      by_cases q5 : k = 5
      · subst q5
        obtain ⟨ww, g1, g2⟩ := s2.2.2.2.2.2.2.2.2
        have hok := g2.1
        have hrv : ∀ i, i < n → ww i = (frA (wdA n (2 ^ n - 1 - 2 ^ i) (qZ j C)) (jdS j n (2 ^ n - 1 - 2 ^ i) C), frB (wdA n (2 ^ n - 1 - 2 ^ i) (qZ j C)) (jdS j n (2 ^ n - 1 - 2 ^ i) C)) := fun i hi => wo_eq hj h10 hbC hi g2
        obtain ⟨u', m1, m2⟩ := m_worst hMB hbC hj hrv (fun i hi => hok i (by omega))
        refine ⟨(if n = 0 then (-4 : Int32) else nI (wrF ww (n - 1) 1 0)).toInt64, v, u', ?_, ?_, s3, s4, m2⟩
        · refine sem_eq (Nat.le_of_ble_eq_true rfl) ?_
          show wp mX8_judge 0 [some (.ref b), some (.int (nI j)), some (.int 5), none] [] _ _
          refine cbeg ?_
          have e5 : (5 : Int32) = 5 := rfl
          simp only [eX8_judge_35, eX8_judge_36, cont_some, tl_some, tl_none, csum_nil, csum_i, csum_r, csum_j, isc2_i, isc2_r, isc2_n, va_rf_s, vfn_ite, true_and, and_true, true_or, or_true, eq_self, Bool.false_eq_true, not_false_eq_true, not_true_eq_false, if_true, if_false, Nat.reduceAdd, Nat.reduceLeDiff, reduceIte, show ¬ (5 : Int32) = 0 by decide, show ¬ (5 : Int32) = 1 by decide, show ¬ (5 : Int32) = 2 by decide, show ¬ (5 : Int32) = 3 by decide, show ¬ (5 : Int32) = 4 by decide]
          have sp : rdI v (b + 1) 1 = nI n := by rw [hn]; exact hsv.2.1
          simp only [eX8_judge_113, eX8_judge_114, eX8_judge_117, eX8_judge_120, cont_some, tl_some, tl_none, csum_nil, csum_i, csum_r, csum_j, isc2_i, isc2_r, isc2_n, va_rf_s, vfn_ite, true_and, and_true, true_or, or_true, eq_self, Bool.false_eq_true, not_false_eq_true, not_true_eq_false, if_true, if_false, Nat.reduceAdd, Nat.reduceLeDiff, reduceIte, hcv.1, hcv.2.1, hcv.2.2.1, hcv.2.2.2.1, hcv.2.2.2.2.1, hcv.2.2.2.2.2.1, hcv.2.2.2.2.2.2.1, hcv.2.2.2.2.2.2.2.1, hcv.2.2.2.2.2.2.2.2.1, hcv.2.2.2.2.2.2.2.2.2.1, hcv.2.2.2.2.2.2.2.2.2.2, hsv.1.1, sp]
          by_cases q0' : n = 0
          · have e : nI n = 0 := by rw [q0']; rfl
            simp only [e, not_true_eq_false, if_false]
            simp only [eX8_judge_123, eX8_judge_126, eX8_judge_129, eX8_judge_130, eX8_judge_133, eX8_judge_134, cont_some, tl_some, tl_none, csum_nil, csum_i, csum_r, csum_j, isc2_i, isc2_r, isc2_n, va_rf_s, vfn_ite, true_and, and_true, true_or, or_true, eq_self, Bool.false_eq_true, not_false_eq_true, not_true_eq_false, if_true, if_false, Nat.reduceAdd, Nat.reduceLeDiff, reduceIte, q0', if_true]
            decide
          · have e : ¬ nI n = 0 := fun y => q0' ((nI_eq (b := 0) (by omega) (by omega)).mp y)
            simp only [e, not_false_eq_true, if_true]
            simp only [eX8_judge_129, eX8_judge_130, eX8_judge_133, eX8_judge_134, cont_some, tl_some, tl_none, csum_nil, csum_i, csum_r, csum_j, isc2_i, isc2_r, isc2_n, va_rf_s, vfn_ite, true_and, and_true, true_or, or_true, eq_self, Bool.false_eq_true, not_false_eq_true, not_true_eq_false, if_true, if_false, Nat.reduceAdd, Nat.reduceLeDiff, reduceIte, zsv, s_worst s2.1 s2.2.2.1.1 h10 (by omega) g1 hok, q0', if_false]
        · refine sem_eq (Nat.le_of_ble_eq_true rfl) ?_
          show wp mX9_judge 0 [some (.ref o), some (.int (nI j)), some (.int 5)] [] _ _
          simp only [eX9_judge_0, eX9_judge_1, eX9_judge_2, eX9_judge_3, eX9_judge_6, eX9_judge_9, eX9_judge_12, eX9_judge_13, eX9_judge_14, eX9_judge_15, eX9_judge_18, eX9_judge_21, eX9_judge_24, eX9_judge_27, eX9_judge_28, eX9_judge_29, eX9_judge_30, eX9_judge_33, eX9_judge_34, eX9_judge_35, eX9_judge_38, eX9_judge_39, cont_some, tl_some, tl_none, csum_nil, csum_i, csum_r, csum_j, isc2_i, isc2_r, isc2_n, va_rf_s, vfn_ite, true_and, and_true, true_or, or_true, eq_self, Bool.false_eq_true, not_false_eq_true, not_true_eq_false, if_true, if_false, Nat.reduceAdd, Nat.reduceLeDiff, reduceIte, in03, in05, b2i_0, q0, qk, and_self, hm.1, hm.2.1, hm.2.2.1, hm.2.2.2.1, hm.2.2.2.2.1, hm.2.2.2.2.2.1, hm.2.2.2.2.2.2.1, hm.2.2.2.2.2.2.2.1, hm.2.2.2.2.2.2.2.2.1, hm.2.2.2.2.2.2.2.2.2.1, hm.2.2.2.2.2.2.2.2.2.2.1, hm.2.2.2.2.2.2.2.2.2.2.2.1, hm.2.2.2.2.2.2.2.2.2.2.2.2.1, hm.2.2.2.2.2.2.2.2.2.2.2.2.2.1, hm.2.2.2.2.2.2.2.2.2.2.2.2.2.2.1, hm.2.2.2.2.2.2.2.2.2.2.2.2.2.2.2.1, hm.2.2.2.2.2.2.2.2.2.2.2.2.2.2.2.2.1, hm.2.2.2.2.2.2.2.2.2.2.2.2.2.2.2.2.2.1, hm.2.2.2.2.2.2.2.2.2.2.2.2.2.2.2.2.2.2.1, hm.2.2.2.2.2.2.2.2.2.2.2.2.2.2.2.2.2.2.2.1, hm.2.2.2.2.2.2.2.2.2.2.2.2.2.2.2.2.2.2.2.2.1, hm.2.2.2.2.2.2.2.2.2.2.2.2.2.2.2.2.2.2.2.2.2.1, hm.2.2.2.2.2.2.2.2.2.2.2.2.2.2.2.2.2.2.2.2.2.2.1, hm.2.2.2.2.2.2.2.2.2.2.2.2.2.2.2.2.2.2.2.2.2.2.2.1, hm.2.2.2.2.2.2.2.2.2.2.2.2.2.2.2.2.2.2.2.2.2.2.2.2, m1]
      · obtain ⟨u1, m1, m2, m3, m4, m5, m6, m7⟩ := m_all hMB hbC hj
        have hMu := hMB.frX m7
        have hmu := hMu.1
        obtain ⟨u2, t1, t2, t3⟩ := m_touches hMu hbC hj m4 m5
        have hMu2 := hMu.fh t3
        have hmu2 := hMu2.1
        have m2' : rdJ u2 o 12 = lN (frA (wdP n C) so) := by rw [hso, ← m2]; exact t3.2.1 o 12 (fun y => by unfold Xh at y; omega)
        have m3' : rdJ u2 o 13 = lN (frB (wdP n C) so) := by rw [hso, ← m3]; exact t3.2.1 o 13 (fun y => by unfold Xh at y; omega)
        have FM : FrX (Xj o) w' u2 := m7.tr (t3.wide (fun c i y => by unfold Xh at y; unfold Xj; omega))
        have htol : rdI u2 (o + 1) 1 = c.1.2.2.1 := by
          rw [FM.1 (o + 1) 1 (fun y => by unfold Xj at y; omega)]
          exact hM.2.1.2.2.1
        have mg := m_isGood hmu2 htol m2' m3'
        have lh : rdI u2 o 17 = lowA n C so ∧ rdI u2 o 18 = highA n C so := by
          rw [← hso] at t2 m5 m6
          cases es : so with
          | none => rw [es] at t2; exact t2
          | some e =>
            rw [es] at t2 m5 m6 hso
            obtain ⟨lo, hi, k1, k2, k3⟩ := t2
            have he : in3 1800 e := (s2.2.2.2.2.2.2.2.1 e hso.symm).1
            have := touch_eq hj hbC (so_2 hso.symm) he (m6 e rfl) k1
            rw [k2, k3]
            exact this
        have mbeg : ∀ {Q : Option Value → Wd → Prop}, wp mX9_judge 54 [some (.ref o), some (.int (nI j)), some (.int k)] [] u2 Q → wp mX9_judge 0 [some (.ref o), some (.int (nI j)), some (.int k)] [] w' Q := by
          intro Q hQ
          simp only [eX9_judge_0, eX9_judge_1, eX9_judge_2, eX9_judge_3, eX9_judge_6, eX9_judge_9, eX9_judge_12, eX9_judge_13, eX9_judge_14, eX9_judge_15, eX9_judge_18, eX9_judge_21, eX9_judge_24, eX9_judge_27, eX9_judge_28, eX9_judge_29, eX9_judge_30, cont_some, tl_some, tl_none, csum_nil, csum_i, csum_r, csum_j, isc2_i, isc2_r, isc2_n, va_rf_s, vfn_ite, true_and, and_true, true_or, or_true, eq_self, Bool.false_eq_true, not_false_eq_true, not_true_eq_false, if_true, if_false, Nat.reduceAdd, Nat.reduceLeDiff, reduceIte, in03, in05, b2i_0, q0, qk, and_self, q5]
          simp only [eX9_judge_40, eX9_judge_41, eX9_judge_42, eX9_judge_43, eX9_judge_46, cont_some, tl_some, tl_none, csum_nil, csum_i, csum_r, csum_j, isc2_i, isc2_r, isc2_n, va_rf_s, vfn_ite, true_and, and_true, true_or, or_true, eq_self, Bool.false_eq_true, not_false_eq_true, not_true_eq_false, if_true, if_false, Nat.reduceAdd, Nat.reduceLeDiff, reduceIte, hm.1, hm.2.1, hm.2.2.1, hm.2.2.2.1, hm.2.2.2.2.1, hm.2.2.2.2.2.1, hm.2.2.2.2.2.2.1, hm.2.2.2.2.2.2.2.1, hm.2.2.2.2.2.2.2.2.1, hm.2.2.2.2.2.2.2.2.2.1, hm.2.2.2.2.2.2.2.2.2.2.1, hm.2.2.2.2.2.2.2.2.2.2.2.1, hm.2.2.2.2.2.2.2.2.2.2.2.2.1, hm.2.2.2.2.2.2.2.2.2.2.2.2.2.1, hm.2.2.2.2.2.2.2.2.2.2.2.2.2.2.1, hm.2.2.2.2.2.2.2.2.2.2.2.2.2.2.2.1, hm.2.2.2.2.2.2.2.2.2.2.2.2.2.2.2.2.1, hm.2.2.2.2.2.2.2.2.2.2.2.2.2.2.2.2.2.1, hm.2.2.2.2.2.2.2.2.2.2.2.2.2.2.2.2.2.2.1, hm.2.2.2.2.2.2.2.2.2.2.2.2.2.2.2.2.2.2.2.1, hm.2.2.2.2.2.2.2.2.2.2.2.2.2.2.2.2.2.2.2.2.1, hm.2.2.2.2.2.2.2.2.2.2.2.2.2.2.2.2.2.2.2.2.2.1, hm.2.2.2.2.2.2.2.2.2.2.2.2.2.2.2.2.2.2.2.2.2.2.1, hm.2.2.2.2.2.2.2.2.2.2.2.2.2.2.2.2.2.2.2.2.2.2.2.1, hm.2.2.2.2.2.2.2.2.2.2.2.2.2.2.2.2.2.2.2.2.2.2.2.2, m_every hMB, m1]
          simp only [eX9_judge_49, eX9_judge_50, eX9_judge_51, cont_some, tl_some, tl_none, csum_nil, csum_i, csum_r, csum_j, isc2_i, isc2_r, isc2_n, va_rf_s, vfn_ite, true_and, and_true, true_or, or_true, eq_self, Bool.false_eq_true, not_false_eq_true, not_true_eq_false, if_true, if_false, Nat.reduceAdd, Nat.reduceLeDiff, reduceIte, hmu.1, hmu.2.1, hmu.2.2.1, hmu.2.2.2.1, hmu.2.2.2.2.1, hmu.2.2.2.2.2.1, hmu.2.2.2.2.2.2.1, hmu.2.2.2.2.2.2.2.1, hmu.2.2.2.2.2.2.2.2.1, hmu.2.2.2.2.2.2.2.2.2.1, hmu.2.2.2.2.2.2.2.2.2.2.1, hmu.2.2.2.2.2.2.2.2.2.2.2.1, hmu.2.2.2.2.2.2.2.2.2.2.2.2.1, hmu.2.2.2.2.2.2.2.2.2.2.2.2.2.1, hmu.2.2.2.2.2.2.2.2.2.2.2.2.2.2.1, hmu.2.2.2.2.2.2.2.2.2.2.2.2.2.2.2.1, hmu.2.2.2.2.2.2.2.2.2.2.2.2.2.2.2.2.1, hmu.2.2.2.2.2.2.2.2.2.2.2.2.2.2.2.2.2.1, hmu.2.2.2.2.2.2.2.2.2.2.2.2.2.2.2.2.2.2.1, hmu.2.2.2.2.2.2.2.2.2.2.2.2.2.2.2.2.2.2.2.1, hmu.2.2.2.2.2.2.2.2.2.2.2.2.2.2.2.2.2.2.2.2.1, hmu.2.2.2.2.2.2.2.2.2.2.2.2.2.2.2.2.2.2.2.2.2.1, hmu.2.2.2.2.2.2.2.2.2.2.2.2.2.2.2.2.2.2.2.2.2.2.1, hmu.2.2.2.2.2.2.2.2.2.2.2.2.2.2.2.2.2.2.2.2.2.2.2.1, hmu.2.2.2.2.2.2.2.2.2.2.2.2.2.2.2.2.2.2.2.2.2.2.2.2, t1]
          exact hQ
        rcases six qk with rfl | rfl | rfl | rfl | rfl | rfl
        · refine ⟨lN (frA (wdP n C) so), v, u2, ?_, ?_, s3, s4, FM⟩
          · refine sem_eq (Nat.le_of_ble_eq_true rfl) ?_
            show wp mX8_judge 0 [some (.ref b), some (.int (nI j)), some (.int 0), none] [] _ _
            refine cbeg ?_
            simp only [eX8_judge_35, eX8_judge_36, eX8_judge_72, eX8_judge_73, eX8_judge_76, eX8_judge_77, eX8_judge_80, cont_some, tl_some, tl_none, csum_nil, csum_i, csum_r, csum_j, isc2_i, isc2_r, isc2_n, va_rf_s, vfn_ite, true_and, and_true, true_or, or_true, eq_self, Bool.false_eq_true, not_false_eq_true, not_true_eq_false, if_true, if_false, Nat.reduceAdd, Nat.reduceLeDiff, reduceIte, zsv, s2.1.2.2.2.2.2.1, hw5.1, s_fr_part hw5]
          · refine sem_eq (Nat.le_of_ble_eq_true rfl) ?_
            show wp mX9_judge 0 [some (.ref o), some (.int (nI j)), some (.int 0)] [] _ _
            refine mbeg ?_
            simp only [eX9_judge_54, eX9_judge_55, eX9_judge_58, eX9_judge_59, eX9_judge_62, eX9_judge_65, eX9_judge_66, eX9_judge_67, eX9_judge_70, eX9_judge_71, eX9_judge_74, eX9_judge_77, eX9_judge_78, eX9_judge_79, eX9_judge_82, eX9_judge_83, eX9_judge_86, eX9_judge_87, eX9_judge_90, eX9_judge_91, eX9_judge_92, eX9_judge_95, eX9_judge_96, eX9_judge_99, eX9_judge_100, eX9_judge_103, eX9_judge_104, eX9_judge_107, eX9_judge_110, eX9_judge_111, eX9_judge_114, eX9_judge_115, cont_some, tl_some, tl_none, csum_nil, csum_i, csum_r, csum_j, isc2_i, isc2_r, isc2_n, va_rf_s, vfn_ite, true_and, and_true, true_or, or_true, eq_self, Bool.false_eq_true, not_false_eq_true, not_true_eq_false, if_true, if_false, Nat.reduceAdd, Nat.reduceLeDiff, reduceIte, hmu2.1, hmu2.2.1, hmu2.2.2.1, hmu2.2.2.2.1, hmu2.2.2.2.2.1, hmu2.2.2.2.2.2.1, hmu2.2.2.2.2.2.2.1, hmu2.2.2.2.2.2.2.2.1, hmu2.2.2.2.2.2.2.2.2.1, hmu2.2.2.2.2.2.2.2.2.2.1, hmu2.2.2.2.2.2.2.2.2.2.2.1, hmu2.2.2.2.2.2.2.2.2.2.2.2.1, hmu2.2.2.2.2.2.2.2.2.2.2.2.2.1, hmu2.2.2.2.2.2.2.2.2.2.2.2.2.2.1, hmu2.2.2.2.2.2.2.2.2.2.2.2.2.2.2.1, hmu2.2.2.2.2.2.2.2.2.2.2.2.2.2.2.2.1, hmu2.2.2.2.2.2.2.2.2.2.2.2.2.2.2.2.2.1, hmu2.2.2.2.2.2.2.2.2.2.2.2.2.2.2.2.2.2.1, hmu2.2.2.2.2.2.2.2.2.2.2.2.2.2.2.2.2.2.2.1, hmu2.2.2.2.2.2.2.2.2.2.2.2.2.2.2.2.2.2.2.2.1, hmu2.2.2.2.2.2.2.2.2.2.2.2.2.2.2.2.2.2.2.2.2.1, hmu2.2.2.2.2.2.2.2.2.2.2.2.2.2.2.2.2.2.2.2.2.2.1, hmu2.2.2.2.2.2.2.2.2.2.2.2.2.2.2.2.2.2.2.2.2.2.2.1, hmu2.2.2.2.2.2.2.2.2.2.2.2.2.2.2.2.2.2.2.2.2.2.2.2.1, hmu2.2.2.2.2.2.2.2.2.2.2.2.2.2.2.2.2.2.2.2.2.2.2.2.2, m2']
        · refine ⟨lN (frB (wdP n C) so), v, u2, ?_, ?_, s3, s4, FM⟩
          · refine sem_eq (Nat.le_of_ble_eq_true rfl) ?_
            show wp mX8_judge 0 [some (.ref b), some (.int (nI j)), some (.int 1), none] [] _ _
            refine cbeg ?_
            simp only [eX8_judge_35, eX8_judge_36, eX8_judge_72, eX8_judge_73, eX8_judge_76, eX8_judge_77, eX8_judge_80, cont_some, tl_some, tl_none, csum_nil, csum_i, csum_r, csum_j, isc2_i, isc2_r, isc2_n, va_rf_s, vfn_ite, true_and, and_true, true_or, or_true, eq_self, Bool.false_eq_true, not_false_eq_true, not_true_eq_false, if_true, if_false, Nat.reduceAdd, Nat.reduceLeDiff, reduceIte, i10', zsv, s2.1.2.2.2.2.2.1, hw5.1, s_fr_part hw5]
          · refine sem_eq (Nat.le_of_ble_eq_true rfl) ?_
            show wp mX9_judge 0 [some (.ref o), some (.int (nI j)), some (.int 1)] [] _ _
            refine mbeg ?_
            simp only [eX9_judge_54, eX9_judge_55, eX9_judge_58, eX9_judge_59, eX9_judge_62, eX9_judge_65, eX9_judge_66, eX9_judge_67, eX9_judge_70, eX9_judge_71, eX9_judge_74, eX9_judge_77, eX9_judge_78, eX9_judge_79, eX9_judge_82, eX9_judge_83, eX9_judge_86, eX9_judge_87, eX9_judge_90, eX9_judge_91, eX9_judge_92, eX9_judge_95, eX9_judge_96, eX9_judge_99, eX9_judge_100, eX9_judge_103, eX9_judge_104, eX9_judge_107, eX9_judge_110, eX9_judge_111, eX9_judge_114, eX9_judge_115, cont_some, tl_some, tl_none, csum_nil, csum_i, csum_r, csum_j, isc2_i, isc2_r, isc2_n, va_rf_s, vfn_ite, true_and, and_true, true_or, or_true, eq_self, Bool.false_eq_true, not_false_eq_true, not_true_eq_false, if_true, if_false, Nat.reduceAdd, Nat.reduceLeDiff, reduceIte, i10', hmu2.1, hmu2.2.1, hmu2.2.2.1, hmu2.2.2.2.1, hmu2.2.2.2.2.1, hmu2.2.2.2.2.2.1, hmu2.2.2.2.2.2.2.1, hmu2.2.2.2.2.2.2.2.1, hmu2.2.2.2.2.2.2.2.2.1, hmu2.2.2.2.2.2.2.2.2.2.1, hmu2.2.2.2.2.2.2.2.2.2.2.1, hmu2.2.2.2.2.2.2.2.2.2.2.2.1, hmu2.2.2.2.2.2.2.2.2.2.2.2.2.1, hmu2.2.2.2.2.2.2.2.2.2.2.2.2.2.1, hmu2.2.2.2.2.2.2.2.2.2.2.2.2.2.2.1, hmu2.2.2.2.2.2.2.2.2.2.2.2.2.2.2.2.1, hmu2.2.2.2.2.2.2.2.2.2.2.2.2.2.2.2.2.1, hmu2.2.2.2.2.2.2.2.2.2.2.2.2.2.2.2.2.2.1, hmu2.2.2.2.2.2.2.2.2.2.2.2.2.2.2.2.2.2.2.1, hmu2.2.2.2.2.2.2.2.2.2.2.2.2.2.2.2.2.2.2.2.1, hmu2.2.2.2.2.2.2.2.2.2.2.2.2.2.2.2.2.2.2.2.2.1, hmu2.2.2.2.2.2.2.2.2.2.2.2.2.2.2.2.2.2.2.2.2.2.1, hmu2.2.2.2.2.2.2.2.2.2.2.2.2.2.2.2.2.2.2.2.2.2.2.1, hmu2.2.2.2.2.2.2.2.2.2.2.2.2.2.2.2.2.2.2.2.2.2.2.2.1, hmu2.2.2.2.2.2.2.2.2.2.2.2.2.2.2.2.2.2.2.2.2.2.2.2.2, m3']
        · obtain ⟨v2, l1, l2⟩ := s_low s2
          rw [← hso] at l1
          refine ⟨(lowA n C so).toInt64, v2, u2, ?_, ?_, s3.set l2 hj (fun c i y => by unfold Xm at y; omega) (by rw [← hz]; exact s2.fm l2 (fun c i y => by unfold Xm at y; omega)), s4.tr (l2.fr (fun c i y => by unfold Xm at y; omega)), FM⟩
          · refine sem_eq (Nat.le_of_ble_eq_true rfl) ?_
            show wp mX8_judge 0 [some (.ref b), some (.int (nI j)), some (.int 2), none] [] _ _
            refine cbeg ?_
            simp only [eX8_judge_35, eX8_judge_36, eX8_judge_81, eX8_judge_82, eX8_judge_85, eX8_judge_86, cont_some, tl_some, tl_none, csum_nil, csum_i, csum_r, csum_j, isc2_i, isc2_r, isc2_n, va_rf_s, vfn_ite, true_and, and_true, true_or, or_true, eq_self, Bool.false_eq_true, not_false_eq_true, not_true_eq_false, if_true, if_false, Nat.reduceAdd, Nat.reduceLeDiff, reduceIte, i20, i21, zsv, l1]
          · refine sem_eq (Nat.le_of_ble_eq_true rfl) ?_
            show wp mX9_judge 0 [some (.ref o), some (.int (nI j)), some (.int 2)] [] _ _
            refine mbeg ?_
            simp only [eX9_judge_54, eX9_judge_55, eX9_judge_58, eX9_judge_59, eX9_judge_62, eX9_judge_65, eX9_judge_66, eX9_judge_67, eX9_judge_70, eX9_judge_71, eX9_judge_74, eX9_judge_77, eX9_judge_78, eX9_judge_79, eX9_judge_82, eX9_judge_83, eX9_judge_86, eX9_judge_87, eX9_judge_90, eX9_judge_91, eX9_judge_92, eX9_judge_95, eX9_judge_96, eX9_judge_99, eX9_judge_100, eX9_judge_103, eX9_judge_104, eX9_judge_107, eX9_judge_110, eX9_judge_111, eX9_judge_114, eX9_judge_115, cont_some, tl_some, tl_none, csum_nil, csum_i, csum_r, csum_j, isc2_i, isc2_r, isc2_n, va_rf_s, vfn_ite, true_and, and_true, true_or, or_true, eq_self, Bool.false_eq_true, not_false_eq_true, not_true_eq_false, if_true, if_false, Nat.reduceAdd, Nat.reduceLeDiff, reduceIte, i20, i21, hmu2.1, hmu2.2.1, hmu2.2.2.1, hmu2.2.2.2.1, hmu2.2.2.2.2.1, hmu2.2.2.2.2.2.1, hmu2.2.2.2.2.2.2.1, hmu2.2.2.2.2.2.2.2.1, hmu2.2.2.2.2.2.2.2.2.1, hmu2.2.2.2.2.2.2.2.2.2.1, hmu2.2.2.2.2.2.2.2.2.2.2.1, hmu2.2.2.2.2.2.2.2.2.2.2.2.1, hmu2.2.2.2.2.2.2.2.2.2.2.2.2.1, hmu2.2.2.2.2.2.2.2.2.2.2.2.2.2.1, hmu2.2.2.2.2.2.2.2.2.2.2.2.2.2.2.1, hmu2.2.2.2.2.2.2.2.2.2.2.2.2.2.2.2.1, hmu2.2.2.2.2.2.2.2.2.2.2.2.2.2.2.2.2.1, hmu2.2.2.2.2.2.2.2.2.2.2.2.2.2.2.2.2.2.1, hmu2.2.2.2.2.2.2.2.2.2.2.2.2.2.2.2.2.2.2.1, hmu2.2.2.2.2.2.2.2.2.2.2.2.2.2.2.2.2.2.2.2.1, hmu2.2.2.2.2.2.2.2.2.2.2.2.2.2.2.2.2.2.2.2.2.1, hmu2.2.2.2.2.2.2.2.2.2.2.2.2.2.2.2.2.2.2.2.2.2.1, hmu2.2.2.2.2.2.2.2.2.2.2.2.2.2.2.2.2.2.2.2.2.2.2.1, hmu2.2.2.2.2.2.2.2.2.2.2.2.2.2.2.2.2.2.2.2.2.2.2.2.1, hmu2.2.2.2.2.2.2.2.2.2.2.2.2.2.2.2.2.2.2.2.2.2.2.2.2, lh.1]
        · obtain ⟨v2, l1, l2⟩ := s_high s2
          rw [← hso] at l1
          refine ⟨(highA n C so).toInt64, v2, u2, ?_, ?_, s3.set l2 hj (fun c i y => by unfold Xm at y; omega) (by rw [← hz]; exact s2.fm l2 (fun c i y => by unfold Xm at y; omega)), s4.tr (l2.fr (fun c i y => by unfold Xm at y; omega)), FM⟩
          · refine sem_eq (Nat.le_of_ble_eq_true rfl) ?_
            show wp mX8_judge 0 [some (.ref b), some (.int (nI j)), some (.int 3), none] [] _ _
            refine cbeg ?_
            simp only [eX8_judge_35, eX8_judge_36, eX8_judge_87, eX8_judge_88, eX8_judge_91, eX8_judge_92, cont_some, tl_some, tl_none, csum_nil, csum_i, csum_r, csum_j, isc2_i, isc2_r, isc2_n, va_rf_s, vfn_ite, true_and, and_true, true_or, or_true, eq_self, Bool.false_eq_true, not_false_eq_true, not_true_eq_false, if_true, if_false, Nat.reduceAdd, Nat.reduceLeDiff, reduceIte, i30, i31, i32, zsv, l1]
          · refine sem_eq (Nat.le_of_ble_eq_true rfl) ?_
            show wp mX9_judge 0 [some (.ref o), some (.int (nI j)), some (.int 3)] [] _ _
            refine mbeg ?_
            simp only [eX9_judge_54, eX9_judge_55, eX9_judge_58, eX9_judge_59, eX9_judge_62, eX9_judge_65, eX9_judge_66, eX9_judge_67, eX9_judge_70, eX9_judge_71, eX9_judge_74, eX9_judge_77, eX9_judge_78, eX9_judge_79, eX9_judge_82, eX9_judge_83, eX9_judge_86, eX9_judge_87, eX9_judge_90, eX9_judge_91, eX9_judge_92, eX9_judge_95, eX9_judge_96, eX9_judge_99, eX9_judge_100, eX9_judge_103, eX9_judge_104, eX9_judge_107, eX9_judge_110, eX9_judge_111, eX9_judge_114, eX9_judge_115, cont_some, tl_some, tl_none, csum_nil, csum_i, csum_r, csum_j, isc2_i, isc2_r, isc2_n, va_rf_s, vfn_ite, true_and, and_true, true_or, or_true, eq_self, Bool.false_eq_true, not_false_eq_true, not_true_eq_false, if_true, if_false, Nat.reduceAdd, Nat.reduceLeDiff, reduceIte, i30, i31, i32, hmu2.1, hmu2.2.1, hmu2.2.2.1, hmu2.2.2.2.1, hmu2.2.2.2.2.1, hmu2.2.2.2.2.2.1, hmu2.2.2.2.2.2.2.1, hmu2.2.2.2.2.2.2.2.1, hmu2.2.2.2.2.2.2.2.2.1, hmu2.2.2.2.2.2.2.2.2.2.1, hmu2.2.2.2.2.2.2.2.2.2.2.1, hmu2.2.2.2.2.2.2.2.2.2.2.2.1, hmu2.2.2.2.2.2.2.2.2.2.2.2.2.1, hmu2.2.2.2.2.2.2.2.2.2.2.2.2.2.1, hmu2.2.2.2.2.2.2.2.2.2.2.2.2.2.2.1, hmu2.2.2.2.2.2.2.2.2.2.2.2.2.2.2.2.1, hmu2.2.2.2.2.2.2.2.2.2.2.2.2.2.2.2.2.1, hmu2.2.2.2.2.2.2.2.2.2.2.2.2.2.2.2.2.2.1, hmu2.2.2.2.2.2.2.2.2.2.2.2.2.2.2.2.2.2.2.1, hmu2.2.2.2.2.2.2.2.2.2.2.2.2.2.2.2.2.2.2.2.1, hmu2.2.2.2.2.2.2.2.2.2.2.2.2.2.2.2.2.2.2.2.2.1, hmu2.2.2.2.2.2.2.2.2.2.2.2.2.2.2.2.2.2.2.2.2.2.1, hmu2.2.2.2.2.2.2.2.2.2.2.2.2.2.2.2.2.2.2.2.2.2.2.1, hmu2.2.2.2.2.2.2.2.2.2.2.2.2.2.2.2.2.2.2.2.2.2.2.2.1, hmu2.2.2.2.2.2.2.2.2.2.2.2.2.2.2.2.2.2.2.2.2.2.2.2.2, lh.2]
        · have n40 : ¬ (4 : Int32) = 0 := by decide
          have n41 : ¬ (4 : Int32) = 1 := by decide
          have n42 : ¬ (4 : Int32) = 2 := by decide
          have n43 : ¬ (4 : Int32) = 3 := by decide
          have cg := s_isGood (x := c.1.2.2.1) s2.1 hw5
          have stl : rdI v (b + 1) 2 = c.1.2.2.1 := hsv.2.2.2.2.1
          refine ⟨if gdA (frA (wdP n C) so) (frB (wdP n C) so) c.1.2.2.1 = 0 then 0 else 1, v, u2, ?_, ?_, s3, s4, FM⟩
          · refine sem_eq (Nat.le_of_ble_eq_true rfl) ?_
            show wp mX8_judge 0 [some (.ref b), some (.int (nI j)), some (.int 4), none] [] _ _
            refine cbeg ?_
            simp only [eX8_judge_35, eX8_judge_36, eX8_judge_93, eX8_judge_94, eX8_judge_95, eX8_judge_98, eX8_judge_101, eX8_judge_104, cont_some, tl_some, tl_none, csum_nil, csum_i, csum_r, csum_j, isc2_i, isc2_r, isc2_n, va_rf_s, vfn_ite, true_and, and_true, true_or, or_true, eq_self, Bool.false_eq_true, not_false_eq_true, not_true_eq_false, if_true, if_false, Nat.reduceAdd, Nat.reduceLeDiff, reduceIte, n40, n41, n42, n43, zsv, hcv.1, hcv.2.1, hcv.2.2.1, hcv.2.2.2.1, hcv.2.2.2.2.1, hcv.2.2.2.2.2.1, hcv.2.2.2.2.2.2.1, hcv.2.2.2.2.2.2.2.1, hcv.2.2.2.2.2.2.2.2.1, hcv.2.2.2.2.2.2.2.2.2.1, hcv.2.2.2.2.2.2.2.2.2.2, hsv.1.1, stl, cg]
            by_cases y : gdA (frA (wdP n C) so) (frB (wdP n C) so) c.1.2.2.1 = 0
            · simp only [eX8_judge_107, eX8_judge_108, eX8_judge_111, eX8_judge_112, cont_some, tl_some, tl_none, csum_nil, csum_i, csum_r, csum_j, isc2_i, isc2_r, isc2_n, va_rf_s, vfn_ite, true_and, and_true, true_or, or_true, eq_self, Bool.false_eq_true, not_false_eq_true, not_true_eq_false, if_true, if_false, Nat.reduceAdd, Nat.reduceLeDiff, reduceIte, y]
            · simp only [eX8_judge_107, eX8_judge_108, eX8_judge_111, eX8_judge_112, cont_some, tl_some, tl_none, csum_nil, csum_i, csum_r, csum_j, isc2_i, isc2_r, isc2_n, va_rf_s, vfn_ite, true_and, and_true, true_or, or_true, eq_self, Bool.false_eq_true, not_false_eq_true, not_true_eq_false, if_true, if_false, Nat.reduceAdd, Nat.reduceLeDiff, reduceIte, y]
          · refine sem_eq (Nat.le_of_ble_eq_true rfl) ?_
            show wp mX9_judge 0 [some (.ref o), some (.int (nI j)), some (.int 4)] [] _ _
            refine mbeg ?_
            simp only [eX9_judge_54, eX9_judge_55, eX9_judge_58, eX9_judge_59, eX9_judge_62, eX9_judge_65, eX9_judge_66, eX9_judge_67, eX9_judge_70, eX9_judge_71, eX9_judge_74, eX9_judge_77, eX9_judge_78, eX9_judge_79, eX9_judge_82, eX9_judge_83, eX9_judge_86, eX9_judge_87, eX9_judge_90, eX9_judge_91, eX9_judge_92, eX9_judge_95, eX9_judge_96, eX9_judge_99, eX9_judge_100, eX9_judge_103, eX9_judge_104, eX9_judge_107, cont_some, tl_some, tl_none, csum_nil, csum_i, csum_r, csum_j, isc2_i, isc2_r, isc2_n, va_rf_s, vfn_ite, true_and, and_true, true_or, or_true, eq_self, Bool.false_eq_true, not_false_eq_true, not_true_eq_false, if_true, if_false, Nat.reduceAdd, Nat.reduceLeDiff, reduceIte, n40, n41, n42, n43, hmu2.1, hmu2.2.1, hmu2.2.2.1, hmu2.2.2.2.1, hmu2.2.2.2.2.1, hmu2.2.2.2.2.2.1, hmu2.2.2.2.2.2.2.1, hmu2.2.2.2.2.2.2.2.1, hmu2.2.2.2.2.2.2.2.2.1, hmu2.2.2.2.2.2.2.2.2.2.1, hmu2.2.2.2.2.2.2.2.2.2.2.1, hmu2.2.2.2.2.2.2.2.2.2.2.2.1, hmu2.2.2.2.2.2.2.2.2.2.2.2.2.1, hmu2.2.2.2.2.2.2.2.2.2.2.2.2.2.1, hmu2.2.2.2.2.2.2.2.2.2.2.2.2.2.2.1, hmu2.2.2.2.2.2.2.2.2.2.2.2.2.2.2.2.1, hmu2.2.2.2.2.2.2.2.2.2.2.2.2.2.2.2.2.1, hmu2.2.2.2.2.2.2.2.2.2.2.2.2.2.2.2.2.2.1, hmu2.2.2.2.2.2.2.2.2.2.2.2.2.2.2.2.2.2.2.1, hmu2.2.2.2.2.2.2.2.2.2.2.2.2.2.2.2.2.2.2.2.1, hmu2.2.2.2.2.2.2.2.2.2.2.2.2.2.2.2.2.2.2.2.2.1, hmu2.2.2.2.2.2.2.2.2.2.2.2.2.2.2.2.2.2.2.2.2.2.1, hmu2.2.2.2.2.2.2.2.2.2.2.2.2.2.2.2.2.2.2.2.2.2.2.1, hmu2.2.2.2.2.2.2.2.2.2.2.2.2.2.2.2.2.2.2.2.2.2.2.2.1, hmu2.2.2.2.2.2.2.2.2.2.2.2.2.2.2.2.2.2.2.2.2.2.2.2.2, mg]
            by_cases y : gdA (frA (wdP n C) so) (frB (wdP n C) so) c.1.2.2.1 = 0
            · simp only [eX9_judge_110, eX9_judge_111, eX9_judge_114, eX9_judge_115, cont_some, tl_some, tl_none, csum_nil, csum_i, csum_r, csum_j, isc2_i, isc2_r, isc2_n, va_rf_s, vfn_ite, true_and, and_true, true_or, or_true, eq_self, Bool.false_eq_true, not_false_eq_true, not_true_eq_false, if_true, if_false, Nat.reduceAdd, Nat.reduceLeDiff, reduceIte, y]
            · simp only [eX9_judge_110, eX9_judge_111, eX9_judge_114, eX9_judge_115, cont_some, tl_some, tl_none, csum_nil, csum_i, csum_r, csum_j, isc2_i, isc2_r, isc2_n, va_rf_s, vfn_ite, true_and, and_true, true_or, or_true, eq_self, Bool.false_eq_true, not_false_eq_true, not_true_eq_false, if_true, if_false, Nat.reduceAdd, Nat.reduceLeDiff, reduceIte, y]
        · exact absurd rfl q5
    · refine ⟨-1, w, w', ?_, ?_, hZ, Fr.rf, FrX.rf⟩
      · refine sem_eq (Nat.le_of_ble_eq_true rfl) ?_
        show wp mX8_judge 0 [some (.ref b), some (.int x), some (.int k), none] [] _ _
        simp only [eX8_judge_0, eX8_judge_1, eX8_judge_4, eX8_judge_7, eX8_judge_8, eX8_judge_9, eX8_judge_10, eX8_judge_13, eX8_judge_16, eX8_judge_19, cont_some, tl_some, tl_none, csum_nil, csum_i, csum_r, csum_j, isc2_i, isc2_r, isc2_n, va_rf_s, vfn_ite, true_and, and_true, true_or, or_true, eq_self, Bool.false_eq_true, not_false_eq_true, not_true_eq_false, if_true, if_false, Nat.reduceAdd, Nat.reduceLeDiff, reduceIte, s_isJudge, s_isIn, b2i_0, q, qk, and_self]
      · refine sem_eq (Nat.le_of_ble_eq_true rfl) ?_
        show wp mX9_judge 0 [some (.ref o), some (.int x), some (.int k)] [] _ _
        simp only [eX9_judge_0, eX9_judge_1, eX9_judge_2, eX9_judge_3, eX9_judge_6, eX9_judge_9, eX9_judge_12, eX9_judge_13, eX9_judge_14, eX9_judge_15, eX9_judge_18, eX9_judge_21, eX9_judge_24, eX9_judge_27, cont_some, tl_some, tl_none, csum_nil, csum_i, csum_r, csum_j, isc2_i, isc2_r, isc2_n, va_rf_s, vfn_ite, true_and, and_true, true_or, or_true, eq_self, Bool.false_eq_true, not_false_eq_true, not_true_eq_false, if_true, if_false, Nat.reduceAdd, Nat.reduceLeDiff, reduceIte, in03, in05, b2i_0, q, qk, and_self]
  · refine ⟨-1, w, w', ?_, ?_, hZ, Fr.rf, FrX.rf⟩
    · refine sem_eq (Nat.le_of_ble_eq_true rfl) ?_
      show wp mX8_judge 0 [some (.ref b), some (.int x), some (.int k), none] [] _ _
      simp only [eX8_judge_0, eX8_judge_1, eX8_judge_4, eX8_judge_7, eX8_judge_8, eX8_judge_9, eX8_judge_10, eX8_judge_13, eX8_judge_16, eX8_judge_19, cont_some, tl_some, tl_none, csum_nil, csum_i, csum_r, csum_j, isc2_i, isc2_r, isc2_n, va_rf_s, vfn_ite, true_and, and_true, true_or, or_true, eq_self, Bool.false_eq_true, not_false_eq_true, not_true_eq_false, if_true, if_false, Nat.reduceAdd, Nat.reduceLeDiff, reduceIte, s_isJudge, b2i_0, q]
    · refine sem_eq (Nat.le_of_ble_eq_true rfl) ?_
      show wp mX9_judge 0 [some (.ref o), some (.int x), some (.int k)] [] _ _
      simp only [eX9_judge_0, eX9_judge_1, eX9_judge_2, eX9_judge_3, eX9_judge_6, eX9_judge_9, eX9_judge_12, eX9_judge_13, eX9_judge_14, eX9_judge_15, eX9_judge_18, eX9_judge_21, eX9_judge_24, eX9_judge_27, cont_some, tl_some, tl_none, csum_nil, csum_i, csum_r, csum_j, isc2_i, isc2_r, isc2_n, va_rf_s, vfn_ite, true_and, and_true, true_or, or_true, eq_self, Bool.false_eq_true, not_false_eq_true, not_true_eq_false, if_true, if_false, Nat.reduceAdd, Nat.reduceLeDiff, reduceIte, in03, b2i_0, q]
