/-! one number of the tape, by the reference -/
theorem skF_end {T : Tst} : ∀ (d p : Nat), p + d = T.1 → skF T d p < T.1 → ¬ T.2 (skF T d p) = 32 := by
  intro d
  induction d with
  | zero => intro p hp h; simp only [skF] at h; omega
  | succ d ih =>
    intro p hp h
    by_cases q : T.2 p = 32
    · simp only [skF, q, if_true] at h ⊢
      exact ih (p + 1) (by omega) h
    · simp only [skF, q, if_false]
      exact not_false
theorem sk_sk {T : Tst} {p : Nat} (h : p ≤ T.1) : sk T (sk T p) = sk T p := by
  have h1 := sk_le h
  by_cases q : sk T p < T.1
  · have hne : ¬ T.2 (sk T p) = 32 := skF_end (T.1 - p) p (by omega) q
    have e : sk T (sk T p) = skF T (T.1 - sk T p) (sk T p) := rfl
    obtain ⟨d, hd⟩ : ∃ d, T.1 - sk T p = d + 1 := ⟨T.1 - sk T p - 1, by omega⟩
    rw [e, hd]
    simp only [skF, hne, if_false]
  · have e : sk T (sk T p) = skF T (T.1 - sk T p) (sk T p) := rfl
    rw [e, show T.1 - sk T p = 0 by omega]
    rfl
theorem rem3 : ∀ k, k < 31 → (nI k - nI k / 3 * 3 = 0 ↔ k % 3 = 0) := by decide
def MN (w : Wd) (o : Nat) (T : Tst) (k p : Nat) (x : Int32) (u : Wd) : Prop := x = b2i (numF T (rdI w (o + 12)) k p = -1) ∧ MT u o T ∧ FrX (Xt o) w u ∧ (¬ numF T (rdI w (o + 12)) k p = -1 → rdI u o 27 = numF T (rdI w (o + 12)) k p) ∧ (numF T (rdI w (o + 12)) k p = -1 → rdI u o 26 = nI (nE T (nQ T p)) ∧ rdI u o 25 = nI (k + 1) ∧ rdI u (o + 12) = updD (rdI w (o + 12)) k (nX T p))
theorem MN.fault {w : Wd} {o k p n : Nat} {T : Tst} {q : Int32} (h : MT w o T) (hn : n ≤ 90) (e : nI n = numF T (rdI w (o + 12)) k p) : MN w o T k p 0 (wrI (wrI w o 26 q) o 27 (nI n)) :=
  ⟨by rw [← e, b2i_f (nI_nm1 hn)], (h.at (by omega)).at (by omega), (FrX.rf.wrI (Or.inl ⟨rfl, by omega⟩)).wrI (Or.inl ⟨rfl, by omega⟩), fun _ => by rw [rdI_wrI, if_pos ⟨rfl, rfl⟩]; exact e, fun z => absurd (e.trans z) (nI_nm1 hn)⟩
theorem mn_end {w : Wd} {o k p : Nat} {T : Tst} {a1 : Int32} (h : MT w o T) (hk : k < 30) (h25 : rdI w o 25 = nI k) (hp : p ≤ T.1) (h1' : a1 = nI (sk T p)) (hf : fig T (nQ T p)) (hv : ¬ 15 < nV T (nQ T p)) (he : ¬ fig T (nE T (nQ T p))) :
    wp mX9_number 174 [some (.ref o), some (.int a1), some (.int (b2i (nG T p))), some (.int (nI (nV T (nQ T p))))] [] (wrI w o 26 (nI (nE T (nQ T p)))) (fun r u => ∃ x, r = some (.int x) ∧ MN w o T k p x u) := by
  obtain ⟨h1, h2, h3, h5⟩ := h
  have ik := inA_nI hk (show 30 < 2147483648 by omega)
  have ck := nI_clamp (show k < 2 ^ 31 by omega)
  have n1 : ¬ o = o + 12 := by omega
  have hs9 : sk T p ≤ 90 := Nat.le_trans (sk_le hp).2 h3
  obtain ⟨u, hu⟩ : ∃ u, u = wrI (wrI (wrI w o 26 (nI (nE T (nQ T p)))) (o + 12) k (nX T p)) o 25 (nI (k + 1)) := ⟨_, rfl⟩
  have hu1 : isMd u o := by rw [hu]; exact h1
  have hu2 : MT u o T := by
    rw [hu]
    refine ⟨h1, ?_, h3, fun j hj => ?_⟩
    · rw [rdI_wrI, if_neg (by omega), rdI_wrI, if_neg (by omega), rdI_wrI, if_neg (by omega)]; exact h2
    · rw [rdI_wrI, if_neg (by omega), rdI_wrI, if_neg (by omega), rdI_wrI, if_neg (by omega)]; exact h5 j hj
  have hu3 : rdI u (o + 12) = updD (rdI w (o + 12)) k (nX T p) := by
    funext j
    rw [hu, rdI_wrI, if_neg (by omega), rdI_wrI]
    unfold updD
    by_cases e : j = k
    · rw [if_pos ⟨rfl, e⟩, if_pos e]
    · rw [if_neg (fun z => e z.2), if_neg e, rdI_wrI, if_neg (by omega)]
  have hu4 : rdI u o 26 = nI (nE T (nQ T p)) := by rw [hu, rdI_wrI, if_neg (by omega), rdI_wrI, if_neg (by omega), rdI_wrI, if_pos ⟨rfl, rfl⟩]
  have hu5 : rdI u o 25 = nI (k + 1) := by rw [hu, rdI_wrI, if_pos ⟨rfl, rfl⟩]
  have hu6 : FrX (Xt o) w u := by rw [hu]; exact ((FrX.rf.wrI (Or.inl ⟨rfl, by omega⟩)).wrI (Or.inr (Or.inr rfl))).wrI (Or.inl ⟨rfl, by omega⟩)
  have hnum : numF T (rdI w (o + 12)) k p = if k % 3 = 2 ∧ tldF (updD (rdI w (o + 12)) k (nX T p)) (k / 3) (k / 3) = true then nI (sk T p) else -1 := by
    unfold numF
    rw [if_neg (fun z => z hf), if_neg hv, if_neg he]
  have ok1 : numF T (rdI w (o + 12)) k p = -1 → MN w o T k p 1 u := fun z => ⟨(b2i_t z).symm, hu2, hu6, fun y => absurd z y, fun _ => ⟨hu4, hu5, hu3⟩⟩
  have rem := rem3 (k + 1) (by omega)
  have fin_ : wp mX9_number 203 [some (.ref o), some (.int a1), some (.int (b2i (nG T p))), some (.int (nI (nV T (nQ T p))))] [] u (fun r u => ∃ x, r = some (.int x) ∧ MN w o T k p x u) := by
    have n3 : ¬ (3 : Int32) = 0 := by decide
    by_cases q : k % 3 = 2
    · have r0 : nI (k + 1) - nI (k + 1) / 3 * 3 = 0 := rem.mpr (by omega)
      have m3 : k / 3 < 10 := by omega
      have ht := m_isTold hu1 m3 (by rw [hu5]; congr 1; omega)
      by_cases z : tldF (updD (rdI w (o + 12)) k (nX T p)) (k / 3) (k / 3) = true
      · rw [if_pos ⟨q, z⟩] at hnum
        have b0 : ¬ b2i (tldF (rdI u (o + 12)) (k / 3) (k / 3) = true) = 0 := by rw [b2i_0, hu3]; exact fun y => y z
        simp only [eX9_number_203, eX9_number_204, eX9_number_207, eX9_number_208, eX9_number_209, eX9_number_212, eX9_number_213, eX9_number_216, eX9_number_219, eX9_number_220, eX9_number_221, eX9_number_224, eX9_number_227, eX9_number_228, eX9_number_231, eX9_number_232, cont_some, tl_some, tl_none, csum_nil, csum_i, csum_r, csum_j, isc2_i, isc2_r, isc2_n, va_rf_s, vfn_ite, true_and, and_true, true_or, or_true, eq_self, Bool.false_eq_true, not_false_eq_true, not_true_eq_false, if_true, if_false, Nat.reduceAdd, Nat.reduceLeDiff, reduceIte, hu1.1, hu1.2.1, hu1.2.2.1, hu1.2.2.2.1, hu1.2.2.2.2.1, hu1.2.2.2.2.2.1, hu1.2.2.2.2.2.2.1, hu1.2.2.2.2.2.2.2.1, hu1.2.2.2.2.2.2.2.2.1, hu1.2.2.2.2.2.2.2.2.2.1, hu1.2.2.2.2.2.2.2.2.2.2.1, hu1.2.2.2.2.2.2.2.2.2.2.2.1, hu1.2.2.2.2.2.2.2.2.2.2.2.2.1, hu1.2.2.2.2.2.2.2.2.2.2.2.2.2.1, hu1.2.2.2.2.2.2.2.2.2.2.2.2.2.2.1, hu1.2.2.2.2.2.2.2.2.2.2.2.2.2.2.2.1, hu1.2.2.2.2.2.2.2.2.2.2.2.2.2.2.2.2.1, hu1.2.2.2.2.2.2.2.2.2.2.2.2.2.2.2.2.2.1, hu1.2.2.2.2.2.2.2.2.2.2.2.2.2.2.2.2.2.2.1, hu1.2.2.2.2.2.2.2.2.2.2.2.2.2.2.2.2.2.2.2.1, hu1.2.2.2.2.2.2.2.2.2.2.2.2.2.2.2.2.2.2.2.2.1, hu1.2.2.2.2.2.2.2.2.2.2.2.2.2.2.2.2.2.2.2.2.2.1, hu1.2.2.2.2.2.2.2.2.2.2.2.2.2.2.2.2.2.2.2.2.2.2.1, hu1.2.2.2.2.2.2.2.2.2.2.2.2.2.2.2.2.2.2.2.2.2.2.2.1, hu1.2.2.2.2.2.2.2.2.2.2.2.2.2.2.2.2.2.2.2.2.2.2.2.2, hu5, n3, r0, ht, b0, m_faults hu1]
        refine ⟨0, rfl, by rw [hnum, b2i_f (nI_nm1 hs9)], hu2.at (by omega), hu6.wrI (Or.inl ⟨rfl, by omega⟩), fun _ => by rw [rdI_wrI, if_pos ⟨rfl, rfl⟩, hnum, h1'], fun y => absurd (hnum.symm.trans y) (nI_nm1 hs9)⟩
      · rw [if_neg (fun y => z y.2)] at hnum
        have b0 : b2i (tldF (rdI u (o + 12)) (k / 3) (k / 3) = true) = 0 := by rw [b2i_0, hu3]; exact z
        simp only [eX9_number_203, eX9_number_204, eX9_number_207, eX9_number_208, eX9_number_209, eX9_number_212, eX9_number_213, eX9_number_216, eX9_number_219, eX9_number_220, eX9_number_221, eX9_number_224, eX9_number_227, eX9_number_228, eX9_number_231, eX9_number_232, cont_some, tl_some, tl_none, csum_nil, csum_i, csum_r, csum_j, isc2_i, isc2_r, isc2_n, va_rf_s, vfn_ite, true_and, and_true, true_or, or_true, eq_self, Bool.false_eq_true, not_false_eq_true, not_true_eq_false, if_true, if_false, Nat.reduceAdd, Nat.reduceLeDiff, reduceIte, hu1.1, hu1.2.1, hu1.2.2.1, hu1.2.2.2.1, hu1.2.2.2.2.1, hu1.2.2.2.2.2.1, hu1.2.2.2.2.2.2.1, hu1.2.2.2.2.2.2.2.1, hu1.2.2.2.2.2.2.2.2.1, hu1.2.2.2.2.2.2.2.2.2.1, hu1.2.2.2.2.2.2.2.2.2.2.1, hu1.2.2.2.2.2.2.2.2.2.2.2.1, hu1.2.2.2.2.2.2.2.2.2.2.2.2.1, hu1.2.2.2.2.2.2.2.2.2.2.2.2.2.1, hu1.2.2.2.2.2.2.2.2.2.2.2.2.2.2.1, hu1.2.2.2.2.2.2.2.2.2.2.2.2.2.2.2.1, hu1.2.2.2.2.2.2.2.2.2.2.2.2.2.2.2.2.1, hu1.2.2.2.2.2.2.2.2.2.2.2.2.2.2.2.2.2.1, hu1.2.2.2.2.2.2.2.2.2.2.2.2.2.2.2.2.2.2.1, hu1.2.2.2.2.2.2.2.2.2.2.2.2.2.2.2.2.2.2.2.1, hu1.2.2.2.2.2.2.2.2.2.2.2.2.2.2.2.2.2.2.2.2.1, hu1.2.2.2.2.2.2.2.2.2.2.2.2.2.2.2.2.2.2.2.2.2.1, hu1.2.2.2.2.2.2.2.2.2.2.2.2.2.2.2.2.2.2.2.2.2.2.1, hu1.2.2.2.2.2.2.2.2.2.2.2.2.2.2.2.2.2.2.2.2.2.2.2.1, hu1.2.2.2.2.2.2.2.2.2.2.2.2.2.2.2.2.2.2.2.2.2.2.2.2, hu5, n3, r0, ht, b0]
        exact ⟨1, rfl, ok1 hnum⟩
    · have r0 : ¬ nI (k + 1) - nI (k + 1) / 3 * 3 = 0 := fun z => q (by have := rem.mp z; omega)
      rw [if_neg (fun y => q y.1)] at hnum
      simp only [eX9_number_203, eX9_number_204, eX9_number_207, eX9_number_208, eX9_number_209, eX9_number_212, eX9_number_213, eX9_number_216, eX9_number_219, eX9_number_220, eX9_number_221, eX9_number_224, eX9_number_227, eX9_number_228, eX9_number_231, eX9_number_232, cont_some, tl_some, tl_none, csum_nil, csum_i, csum_r, csum_j, isc2_i, isc2_r, isc2_n, va_rf_s, vfn_ite, true_and, and_true, true_or, or_true, eq_self, Bool.false_eq_true, not_false_eq_true, not_true_eq_false, if_true, if_false, Nat.reduceAdd, Nat.reduceLeDiff, reduceIte, hu1.1, hu1.2.1, hu1.2.2.1, hu1.2.2.2.1, hu1.2.2.2.2.1, hu1.2.2.2.2.2.1, hu1.2.2.2.2.2.2.1, hu1.2.2.2.2.2.2.2.1, hu1.2.2.2.2.2.2.2.2.1, hu1.2.2.2.2.2.2.2.2.2.1, hu1.2.2.2.2.2.2.2.2.2.2.1, hu1.2.2.2.2.2.2.2.2.2.2.2.1, hu1.2.2.2.2.2.2.2.2.2.2.2.2.1, hu1.2.2.2.2.2.2.2.2.2.2.2.2.2.1, hu1.2.2.2.2.2.2.2.2.2.2.2.2.2.2.1, hu1.2.2.2.2.2.2.2.2.2.2.2.2.2.2.2.1, hu1.2.2.2.2.2.2.2.2.2.2.2.2.2.2.2.2.1, hu1.2.2.2.2.2.2.2.2.2.2.2.2.2.2.2.2.2.1, hu1.2.2.2.2.2.2.2.2.2.2.2.2.2.2.2.2.2.2.1, hu1.2.2.2.2.2.2.2.2.2.2.2.2.2.2.2.2.2.2.2.1, hu1.2.2.2.2.2.2.2.2.2.2.2.2.2.2.2.2.2.2.2.2.1, hu1.2.2.2.2.2.2.2.2.2.2.2.2.2.2.2.2.2.2.2.2.2.1, hu1.2.2.2.2.2.2.2.2.2.2.2.2.2.2.2.2.2.2.2.2.2.2.1, hu1.2.2.2.2.2.2.2.2.2.2.2.2.2.2.2.2.2.2.2.2.2.2.2.1, hu1.2.2.2.2.2.2.2.2.2.2.2.2.2.2.2.2.2.2.2.2.2.2.2.2, hu5, n3, r0]
      exact ⟨1, rfl, ok1 hnum⟩
  rw [hu] at fin_
  have n0 : ¬ ((25 : Nat) = 26) := by decide
  by_cases g : nG T p
  · have b0 : ¬ b2i (nG T p) = 0 := by rw [b2i_0]; exact fun y => y g
    have ex : nX T p = -nI (nV T (nQ T p)) := if_pos g
    rw [ex] at fin_
    simp only [eX9_number_174, eX9_number_175, eX9_number_178, eX9_number_179, eX9_number_182, eX9_number_183, eX9_number_186, eX9_number_187, eX9_number_188, eX9_number_191, eX9_number_192, eX9_number_193, eX9_number_194, eX9_number_194i, eX9_number_195, eX9_number_198, eX9_number_199, eX9_number_200, cont_some, tl_some, tl_none, csum_nil, csum_i, csum_r, csum_j, isc2_i, isc2_r, isc2_n, va_rf_s, vfn_ite, true_and, and_true, true_or, or_true, eq_self, Bool.false_eq_true, not_false_eq_true, not_true_eq_false, if_true, if_false, Nat.reduceAdd, Nat.reduceLeDiff, reduceIte, shp_wrI, rdR_wrI, rdI_wrI, h1.1, h1.2.1, h1.2.2.1, h1.2.2.2.1, h1.2.2.2.2.1, h1.2.2.2.2.2.1, h1.2.2.2.2.2.2.1, h1.2.2.2.2.2.2.2.1, h1.2.2.2.2.2.2.2.2.1, h1.2.2.2.2.2.2.2.2.2.1, h1.2.2.2.2.2.2.2.2.2.2.1, h1.2.2.2.2.2.2.2.2.2.2.2.1, h1.2.2.2.2.2.2.2.2.2.2.2.2.1, h1.2.2.2.2.2.2.2.2.2.2.2.2.2.1, h1.2.2.2.2.2.2.2.2.2.2.2.2.2.2.1, h1.2.2.2.2.2.2.2.2.2.2.2.2.2.2.2.1, h1.2.2.2.2.2.2.2.2.2.2.2.2.2.2.2.2.1, h1.2.2.2.2.2.2.2.2.2.2.2.2.2.2.2.2.2.1, h1.2.2.2.2.2.2.2.2.2.2.2.2.2.2.2.2.2.2.1, h1.2.2.2.2.2.2.2.2.2.2.2.2.2.2.2.2.2.2.2.1, h1.2.2.2.2.2.2.2.2.2.2.2.2.2.2.2.2.2.2.2.2.1, h1.2.2.2.2.2.2.2.2.2.2.2.2.2.2.2.2.2.2.2.2.2.1, h1.2.2.2.2.2.2.2.2.2.2.2.2.2.2.2.2.2.2.2.2.2.2.1, h1.2.2.2.2.2.2.2.2.2.2.2.2.2.2.2.2.2.2.2.2.2.2.2.1, h1.2.2.2.2.2.2.2.2.2.2.2.2.2.2.2.2.2.2.2.2.2.2.2.2, h25, b0, ik, ck, n1, n0, false_and, and_false, nI_1]
    exact fin_
  · have b0 : b2i (nG T p) = 0 := b2i_f g
    have ex : nX T p = nI (nV T (nQ T p)) := if_neg g
    rw [ex] at fin_
    rw [b0] at fin_ ⊢
    simp only [eX9_number_174, eX9_number_175, eX9_number_178, eX9_number_179, eX9_number_182, eX9_number_183, eX9_number_186, eX9_number_187, eX9_number_188, eX9_number_191, eX9_number_192, eX9_number_193, eX9_number_194, eX9_number_194i, eX9_number_195, eX9_number_198, eX9_number_199, eX9_number_200, cont_some, tl_some, tl_none, csum_nil, csum_i, csum_r, csum_j, isc2_i, isc2_r, isc2_n, va_rf_s, vfn_ite, true_and, and_true, true_or, or_true, eq_self, Bool.false_eq_true, not_false_eq_true, not_true_eq_false, if_true, if_false, Nat.reduceAdd, Nat.reduceLeDiff, reduceIte, shp_wrI, rdR_wrI, rdI_wrI, h1.1, h1.2.1, h1.2.2.1, h1.2.2.2.1, h1.2.2.2.2.1, h1.2.2.2.2.2.1, h1.2.2.2.2.2.2.1, h1.2.2.2.2.2.2.2.1, h1.2.2.2.2.2.2.2.2.1, h1.2.2.2.2.2.2.2.2.2.1, h1.2.2.2.2.2.2.2.2.2.2.1, h1.2.2.2.2.2.2.2.2.2.2.2.1, h1.2.2.2.2.2.2.2.2.2.2.2.2.1, h1.2.2.2.2.2.2.2.2.2.2.2.2.2.1, h1.2.2.2.2.2.2.2.2.2.2.2.2.2.2.1, h1.2.2.2.2.2.2.2.2.2.2.2.2.2.2.2.1, h1.2.2.2.2.2.2.2.2.2.2.2.2.2.2.2.2.1, h1.2.2.2.2.2.2.2.2.2.2.2.2.2.2.2.2.2.1, h1.2.2.2.2.2.2.2.2.2.2.2.2.2.2.2.2.2.2.1, h1.2.2.2.2.2.2.2.2.2.2.2.2.2.2.2.2.2.2.2.1, h1.2.2.2.2.2.2.2.2.2.2.2.2.2.2.2.2.2.2.2.2.1, h1.2.2.2.2.2.2.2.2.2.2.2.2.2.2.2.2.2.2.2.2.2.1, h1.2.2.2.2.2.2.2.2.2.2.2.2.2.2.2.2.2.2.2.2.2.2.1, h1.2.2.2.2.2.2.2.2.2.2.2.2.2.2.2.2.2.2.2.2.2.2.2.1, h1.2.2.2.2.2.2.2.2.2.2.2.2.2.2.2.2.2.2.2.2.2.2.2.2, h25, ik, ck, n1, n0, false_and, and_false, nI_1]
    exact fin_
theorem mn_142 {w : Wd} {o k p : Nat} {T : Tst} {a1 : Int32} (h : MT w o T) (hk : k < 30) (h25 : rdI w o 25 = nI k) (hp : p ≤ T.1) (h1' : a1 = nI (sk T p)) (hf : fig T (nQ T p)) :
    wp mX9_number 142 [some (.ref o), some (.int a1), some (.int (b2i (nG T p))), some (.int (nI (nV T (nQ T p))))] [] (wrI w o 26 (nI (nE T (nQ T p)))) (fun r u => ∃ x, r = some (.int x) ∧ MN w o T k p x u) := by
  have h1 := h.1
  have h9 := h.2.2.1
  have hs := (sk_le hp).2
  have rd : ∀ n, rdI (wrI w o 26 (nI n)) o 26 = nI n := fun n => by rw [rdI_wrI, if_pos ⟨rfl, rfl⟩]
  have hx : isMd (wrI w o 26 (nI (nE T (nQ T p)))) o := h1
  have vle := nV_le hf
  have e15 : 15 < nI (nV T (nQ T p)) ↔ 15 < nV T (nQ T p) := nI_lti (a := 15) (by omega) (by omega)
  have ele := nE_le hf
  have f3 := m_isFig (h.at (x := nI (nE T (nQ T p))) (j := 26) (by omega)) ele
  by_cases v : 15 < nV T (nQ T p)
  · have v' := e15.mpr v
    simp only [eX9_number_142, eX9_number_143, eX9_number_145, eX9_number_148, eX9_number_149, eX9_number_150, eX9_number_153, cont_some, tl_some, tl_none, csum_nil, csum_i, csum_r, csum_j, isc2_i, isc2_r, isc2_n, va_rf_s, vfn_ite, true_and, and_true, true_or, or_true, eq_self, Bool.false_eq_true, not_false_eq_true, not_true_eq_false, if_true, if_false, Nat.reduceAdd, Nat.reduceLeDiff, reduceIte, shp_wrI, h1.1, h1.2.1, h1.2.2.1, h1.2.2.2.1, h1.2.2.2.2.1, h1.2.2.2.2.2.1, h1.2.2.2.2.2.2.1, h1.2.2.2.2.2.2.2.1, h1.2.2.2.2.2.2.2.2.1, h1.2.2.2.2.2.2.2.2.2.1, h1.2.2.2.2.2.2.2.2.2.2.1, h1.2.2.2.2.2.2.2.2.2.2.2.1, h1.2.2.2.2.2.2.2.2.2.2.2.2.1, h1.2.2.2.2.2.2.2.2.2.2.2.2.2.1, h1.2.2.2.2.2.2.2.2.2.2.2.2.2.2.1, h1.2.2.2.2.2.2.2.2.2.2.2.2.2.2.2.1, h1.2.2.2.2.2.2.2.2.2.2.2.2.2.2.2.2.1, h1.2.2.2.2.2.2.2.2.2.2.2.2.2.2.2.2.2.1, h1.2.2.2.2.2.2.2.2.2.2.2.2.2.2.2.2.2.2.1, h1.2.2.2.2.2.2.2.2.2.2.2.2.2.2.2.2.2.2.2.1, h1.2.2.2.2.2.2.2.2.2.2.2.2.2.2.2.2.2.2.2.2.1, h1.2.2.2.2.2.2.2.2.2.2.2.2.2.2.2.2.2.2.2.2.2.1, h1.2.2.2.2.2.2.2.2.2.2.2.2.2.2.2.2.2.2.2.2.2.2.1, h1.2.2.2.2.2.2.2.2.2.2.2.2.2.2.2.2.2.2.2.2.2.2.2.1, h1.2.2.2.2.2.2.2.2.2.2.2.2.2.2.2.2.2.2.2.2.2.2.2.2, v', m_faults hx]
    refine ⟨0, rfl, ?_⟩
    rw [h1']
    exact MN.fault h (by omega) (by unfold numF; rw [if_neg (fun z => z hf), if_pos v])
  · have v' : ¬ 15 < nI (nV T (nQ T p)) := fun z => v (e15.mp z)
    by_cases e : fig T (nE T (nQ T p))
    · have b3 : ¬ b2i (fig T (nE T (nQ T p))) = 0 := by rw [b2i_0]; exact fun y => y e
      simp only [eX9_number_142, eX9_number_143, eX9_number_145, eX9_number_148, eX9_number_149, eX9_number_150, eX9_number_153, eX9_number_154, eX9_number_155, eX9_number_156, eX9_number_159, eX9_number_162, eX9_number_165, eX9_number_166, eX9_number_167, eX9_number_170, eX9_number_173, cont_some, tl_some, tl_none, csum_nil, csum_i, csum_r, csum_j, isc2_i, isc2_r, isc2_n, va_rf_s, vfn_ite, true_and, and_true, true_or, or_true, eq_self, Bool.false_eq_true, not_false_eq_true, not_true_eq_false, if_true, if_false, Nat.reduceAdd, Nat.reduceLeDiff, reduceIte, shp_wrI, h1.1, h1.2.1, h1.2.2.1, h1.2.2.2.1, h1.2.2.2.2.1, h1.2.2.2.2.2.1, h1.2.2.2.2.2.2.1, h1.2.2.2.2.2.2.2.1, h1.2.2.2.2.2.2.2.2.1, h1.2.2.2.2.2.2.2.2.2.1, h1.2.2.2.2.2.2.2.2.2.2.1, h1.2.2.2.2.2.2.2.2.2.2.2.1, h1.2.2.2.2.2.2.2.2.2.2.2.2.1, h1.2.2.2.2.2.2.2.2.2.2.2.2.2.1, h1.2.2.2.2.2.2.2.2.2.2.2.2.2.2.1, h1.2.2.2.2.2.2.2.2.2.2.2.2.2.2.2.1, h1.2.2.2.2.2.2.2.2.2.2.2.2.2.2.2.2.1, h1.2.2.2.2.2.2.2.2.2.2.2.2.2.2.2.2.2.1, h1.2.2.2.2.2.2.2.2.2.2.2.2.2.2.2.2.2.2.1, h1.2.2.2.2.2.2.2.2.2.2.2.2.2.2.2.2.2.2.2.1, h1.2.2.2.2.2.2.2.2.2.2.2.2.2.2.2.2.2.2.2.2.1, h1.2.2.2.2.2.2.2.2.2.2.2.2.2.2.2.2.2.2.2.2.2.1, h1.2.2.2.2.2.2.2.2.2.2.2.2.2.2.2.2.2.2.2.2.2.2.1, h1.2.2.2.2.2.2.2.2.2.2.2.2.2.2.2.2.2.2.2.2.2.2.2.1, h1.2.2.2.2.2.2.2.2.2.2.2.2.2.2.2.2.2.2.2.2.2.2.2.2, v', rd, f3, b3, m_faults hx]
      exact ⟨0, rfl, MN.fault h (by omega) (by unfold numF; rw [if_neg (fun z => z hf), if_neg v, if_pos e])⟩
    · have b3 : b2i (fig T (nE T (nQ T p))) = 0 := b2i_f e
      simp only [eX9_number_142, eX9_number_143, eX9_number_145, eX9_number_148, eX9_number_149, eX9_number_150, eX9_number_153, eX9_number_154, eX9_number_155, eX9_number_156, eX9_number_159, eX9_number_162, cont_some, tl_some, tl_none, csum_nil, csum_i, csum_r, csum_j, isc2_i, isc2_r, isc2_n, va_rf_s, vfn_ite, true_and, and_true, true_or, or_true, eq_self, Bool.false_eq_true, not_false_eq_true, not_true_eq_false, if_true, if_false, Nat.reduceAdd, Nat.reduceLeDiff, reduceIte, shp_wrI, h1.1, h1.2.1, h1.2.2.1, h1.2.2.2.1, h1.2.2.2.2.1, h1.2.2.2.2.2.1, h1.2.2.2.2.2.2.1, h1.2.2.2.2.2.2.2.1, h1.2.2.2.2.2.2.2.2.1, h1.2.2.2.2.2.2.2.2.2.1, h1.2.2.2.2.2.2.2.2.2.2.1, h1.2.2.2.2.2.2.2.2.2.2.2.1, h1.2.2.2.2.2.2.2.2.2.2.2.2.1, h1.2.2.2.2.2.2.2.2.2.2.2.2.2.1, h1.2.2.2.2.2.2.2.2.2.2.2.2.2.2.1, h1.2.2.2.2.2.2.2.2.2.2.2.2.2.2.2.1, h1.2.2.2.2.2.2.2.2.2.2.2.2.2.2.2.2.1, h1.2.2.2.2.2.2.2.2.2.2.2.2.2.2.2.2.2.1, h1.2.2.2.2.2.2.2.2.2.2.2.2.2.2.2.2.2.2.1, h1.2.2.2.2.2.2.2.2.2.2.2.2.2.2.2.2.2.2.2.1, h1.2.2.2.2.2.2.2.2.2.2.2.2.2.2.2.2.2.2.2.2.1, h1.2.2.2.2.2.2.2.2.2.2.2.2.2.2.2.2.2.2.2.2.2.1, h1.2.2.2.2.2.2.2.2.2.2.2.2.2.2.2.2.2.2.2.2.2.2.1, h1.2.2.2.2.2.2.2.2.2.2.2.2.2.2.2.2.2.2.2.2.2.2.2.1, h1.2.2.2.2.2.2.2.2.2.2.2.2.2.2.2.2.2.2.2.2.2.2.2.2, v', rd, f3, b3]
      exact mn_end h hk h25 hp h1' hf v e
theorem mn_54 {w : Wd} {o k p y : Nat} {T : Tst} {a1 : Int32} {a3 : Option Value} (h : MT w o T) (hk : k < 30) (h25 : rdI w o 25 = nI k) (hp : p ≤ T.1) (h1' : a1 = nI (sk T p)) (hy : y ≤ T.1) (hyq : sk T y = nQ T p) :
    wp mX9_number 54 [some (.ref o), some (.int a1), some (.int (b2i (nG T p))), a3] [] (wrI w o 26 (nI y)) (fun r u => ∃ x, r = some (.int x) ∧ MN w o T k p x u) := by
  have h1 := h.1
  have h9 := h.2.2.1
  have hq := nQ_le hp
  have rd : ∀ n, rdI (wrI w o 26 (nI n)) o 26 = nI n := fun n => by rw [rdI_wrI, if_pos ⟨rfl, rfl⟩]
  have n1 : ¬ o + 4 = o := by omega
  have rt : ∀ n j, rdI (wrI w o 26 (nI n)) (o + 4) j = rdI w (o + 4) j := fun n j => by rw [rdI_wrI, if_neg (fun z => n1 z.1)]
  have hx : ∀ n, isMd (wrI w o 26 (nI n)) o := fun n => h1
  have hh := m_here (h.at (x := nI y) (j := 26) (by omega)) (rd _) hy
  rw [wrI_wrI, hyq] at hh
  by_cases hf : fig T (nQ T p)
  · have el : ltr T (nQ T p) (-4) = nI (T.2 (nQ T p)) := if_pos hf.1
    obtain ⟨g1, g2, g3⟩ := h.2.2.2 _ hf.1
    have e1 : nI (T.2 (nQ T p)) < 48 ↔ T.2 (nQ T p) < 48 := nI_lti (b := 48) (by omega) (by omega)
    have e2 : 57 < nI (T.2 (nQ T p)) ↔ 57 < T.2 (nQ T p) := nI_lti (a := 57) (by omega) (by omega)
    have z : 48 ≤ nI (T.2 (nQ T p)) ∧ nI (T.2 (nQ T p)) ≤ 57 := ⟨Int32.not_lt.mp (fun z => by have := e1.mp z; have := hf.2.1; omega), Int32.not_lt.mp (fun z => by have := e2.mp z; have := hf.2.2; omega)⟩
    rw [el] at hh
    have f2 := m_isFig (h.at (x := nI (nQ T p + 1)) (j := 26) (by omega)) hf.1
    have go := mn_142 h hk h25 hp h1' hf
    have i9 := inA_nI (show nQ T p < 90 by have := hf.1; omega) (show 90 < 2147483648 by omega)
    have c9 := nI_clamp (show nQ T p < 2 ^ 31 by omega)
    simp only [eX9_number_54, eX9_number_55, eX9_number_58, eX9_number_59, eX9_number_62, eX9_number_65, eX9_number_68, cont_some, tl_some, tl_none, csum_nil, csum_i, csum_r, csum_j, isc2_i, isc2_r, isc2_n, va_rf_s, vfn_ite, true_and, and_true, true_or, or_true, eq_self, Bool.false_eq_true, not_false_eq_true, not_true_eq_false, if_true, if_false, Nat.reduceAdd, Nat.reduceLeDiff, reduceIte, shp_wrI, h1.1, h1.2.1, h1.2.2.1, h1.2.2.2.1, h1.2.2.2.2.1, h1.2.2.2.2.2.1, h1.2.2.2.2.2.2.1, h1.2.2.2.2.2.2.2.1, h1.2.2.2.2.2.2.2.2.1, h1.2.2.2.2.2.2.2.2.2.1, h1.2.2.2.2.2.2.2.2.2.2.1, h1.2.2.2.2.2.2.2.2.2.2.2.1, h1.2.2.2.2.2.2.2.2.2.2.2.2.1, h1.2.2.2.2.2.2.2.2.2.2.2.2.2.1, h1.2.2.2.2.2.2.2.2.2.2.2.2.2.2.1, h1.2.2.2.2.2.2.2.2.2.2.2.2.2.2.2.1, h1.2.2.2.2.2.2.2.2.2.2.2.2.2.2.2.2.1, h1.2.2.2.2.2.2.2.2.2.2.2.2.2.2.2.2.2.1, h1.2.2.2.2.2.2.2.2.2.2.2.2.2.2.2.2.2.2.1, h1.2.2.2.2.2.2.2.2.2.2.2.2.2.2.2.2.2.2.2.1, h1.2.2.2.2.2.2.2.2.2.2.2.2.2.2.2.2.2.2.2.2.1, h1.2.2.2.2.2.2.2.2.2.2.2.2.2.2.2.2.2.2.2.2.2.1, h1.2.2.2.2.2.2.2.2.2.2.2.2.2.2.2.2.2.2.2.2.2.2.1, h1.2.2.2.2.2.2.2.2.2.2.2.2.2.2.2.2.2.2.2.2.2.2.2.1, h1.2.2.2.2.2.2.2.2.2.2.2.2.2.2.2.2.2.2.2.2.2.2.2.2, hh, in48, b2i_0, z, and_self]
    simp only [eX9_number_80, eX9_number_81, eX9_number_84, eX9_number_85, eX9_number_88, eX9_number_89, eX9_number_91, eX9_number_92, eX9_number_93, eX9_number_94, eX9_number_94i, eX9_number_95, eX9_number_98, eX9_number_99, eX9_number_100, eX9_number_103, eX9_number_104, eX9_number_105, eX9_number_108, cont_some, tl_some, tl_none, csum_nil, csum_i, csum_r, csum_j, isc2_i, isc2_r, isc2_n, va_rf_s, vfn_ite, true_and, and_true, true_or, or_true, eq_self, Bool.false_eq_true, not_false_eq_true, not_true_eq_false, if_true, if_false, Nat.reduceAdd, Nat.reduceLeDiff, reduceIte, shp_wrI, rdR_wrI, h1.1, h1.2.1, h1.2.2.1, h1.2.2.2.1, h1.2.2.2.2.1, h1.2.2.2.2.2.1, h1.2.2.2.2.2.2.1, h1.2.2.2.2.2.2.2.1, h1.2.2.2.2.2.2.2.2.1, h1.2.2.2.2.2.2.2.2.2.1, h1.2.2.2.2.2.2.2.2.2.2.1, h1.2.2.2.2.2.2.2.2.2.2.2.1, h1.2.2.2.2.2.2.2.2.2.2.2.2.1, h1.2.2.2.2.2.2.2.2.2.2.2.2.2.1, h1.2.2.2.2.2.2.2.2.2.2.2.2.2.2.1, h1.2.2.2.2.2.2.2.2.2.2.2.2.2.2.2.1, h1.2.2.2.2.2.2.2.2.2.2.2.2.2.2.2.2.1, h1.2.2.2.2.2.2.2.2.2.2.2.2.2.2.2.2.2.1, h1.2.2.2.2.2.2.2.2.2.2.2.2.2.2.2.2.2.2.1, h1.2.2.2.2.2.2.2.2.2.2.2.2.2.2.2.2.2.2.2.1, h1.2.2.2.2.2.2.2.2.2.2.2.2.2.2.2.2.2.2.2.2.1, h1.2.2.2.2.2.2.2.2.2.2.2.2.2.2.2.2.2.2.2.2.2.1, h1.2.2.2.2.2.2.2.2.2.2.2.2.2.2.2.2.2.2.2.2.2.2.1, h1.2.2.2.2.2.2.2.2.2.2.2.2.2.2.2.2.2.2.2.2.2.2.2.1, h1.2.2.2.2.2.2.2.2.2.2.2.2.2.2.2.2.2.2.2.2.2.2.2.2, rd, rt, i9, c9, g1, nI_m48 hf.2.1, nI_1, wrI_wrI, f2]
    by_cases g : fig T (nQ T p + 1)
    · have b2 : ¬ b2i (fig T (nQ T p + 1)) = 0 := by rw [b2i_0]; exact fun y => y g
      obtain ⟨k1, k2, k3⟩ := h.2.2.2 _ g.1
      have j9 := inA_nI (show nQ T p + 1 < 90 by have := g.1; omega) (show 90 < 2147483648 by omega)
      have d9 := nI_clamp (show nQ T p + 1 < 2 ^ 31 by omega)
      have ev : nV T (nQ T p) = 10 * (T.2 (nQ T p) - 48) + T.2 (nQ T p + 1) - 48 := by
        unfold nV
        rw [if_pos g]
        have := g.2.1
        omega
      have ee : nE T (nQ T p) = nQ T p + 1 + 1 := if_pos g
      rw [ev, ee] at go
      have p10 : (10 : Int32) = nI 10 := rfl
      have m48 := nI_m48 (a := 10 * (T.2 (nQ T p) - 48) + T.2 (nQ T p + 1)) (by have := g.2.1; omega)
      rw [eX9_number_111, if_neg b2]
      simp only [eX9_number_114, eX9_number_116, eX9_number_117, eX9_number_118, eX9_number_119, eX9_number_122, eX9_number_123, eX9_number_126, eX9_number_127, eX9_number_128, eX9_number_130, eX9_number_131, eX9_number_132, eX9_number_133, eX9_number_133i, eX9_number_134, eX9_number_137, eX9_number_138, eX9_number_139, cont_some, tl_some, tl_none, csum_nil, csum_i, csum_r, csum_j, isc2_i, isc2_r, isc2_n, va_rf_s, vfn_ite, true_and, and_true, true_or, or_true, eq_self, Bool.false_eq_true, not_false_eq_true, not_true_eq_false, if_true, if_false, Nat.reduceAdd, Nat.reduceLeDiff, reduceIte, shp_wrI, rdR_wrI, h1.1, h1.2.1, h1.2.2.1, h1.2.2.2.1, h1.2.2.2.2.1, h1.2.2.2.2.2.1, h1.2.2.2.2.2.2.1, h1.2.2.2.2.2.2.2.1, h1.2.2.2.2.2.2.2.2.1, h1.2.2.2.2.2.2.2.2.2.1, h1.2.2.2.2.2.2.2.2.2.2.1, h1.2.2.2.2.2.2.2.2.2.2.2.1, h1.2.2.2.2.2.2.2.2.2.2.2.2.1, h1.2.2.2.2.2.2.2.2.2.2.2.2.2.1, h1.2.2.2.2.2.2.2.2.2.2.2.2.2.2.1, h1.2.2.2.2.2.2.2.2.2.2.2.2.2.2.2.1, h1.2.2.2.2.2.2.2.2.2.2.2.2.2.2.2.2.1, h1.2.2.2.2.2.2.2.2.2.2.2.2.2.2.2.2.2.1, h1.2.2.2.2.2.2.2.2.2.2.2.2.2.2.2.2.2.2.1, h1.2.2.2.2.2.2.2.2.2.2.2.2.2.2.2.2.2.2.2.1, h1.2.2.2.2.2.2.2.2.2.2.2.2.2.2.2.2.2.2.2.2.1, h1.2.2.2.2.2.2.2.2.2.2.2.2.2.2.2.2.2.2.2.2.2.1, h1.2.2.2.2.2.2.2.2.2.2.2.2.2.2.2.2.2.2.2.2.2.2.1, h1.2.2.2.2.2.2.2.2.2.2.2.2.2.2.2.2.2.2.2.2.2.2.2.1, h1.2.2.2.2.2.2.2.2.2.2.2.2.2.2.2.2.2.2.2.2.2.2.2.2, rd, rt, j9, d9, k1, p10, pk_mul, nI_a, m48, nI_1, wrI_wrI]
      exact go
    · have b2 : b2i (fig T (nQ T p + 1)) = 0 := b2i_f g
      have ev : nV T (nQ T p) = T.2 (nQ T p) - 48 := if_neg g
      have ee : nE T (nQ T p) = nQ T p + 1 := if_neg g
      rw [ev, ee] at go
      rw [eX9_number_111, if_pos b2]
      exact go
  · have z : ¬ (48 ≤ ltr T (nQ T p) (-4) ∧ ltr T (nQ T p) (-4) ≤ 57) := by
      unfold ltr
      by_cases q : nQ T p < T.1
      · rw [if_pos q]
        obtain ⟨g1, g2, g3⟩ := h.2.2.2 _ q
        have e1 : nI (T.2 (nQ T p)) < 48 ↔ T.2 (nQ T p) < 48 := nI_lti (b := 48) (by omega) (by omega)
        have e2 : 57 < nI (T.2 (nQ T p)) ↔ 57 < T.2 (nQ T p) := nI_lti (a := 57) (by omega) (by omega)
        exact fun z => hf ⟨q, Nat.not_lt.mp (fun y => Int32.not_lt.mpr z.1 (e1.mpr y)), Nat.not_lt.mp (fun y => Int32.not_lt.mpr z.2 (e2.mpr y))⟩
      · rw [if_neg q]; decide
    simp only [eX9_number_54, eX9_number_55, eX9_number_58, eX9_number_59, eX9_number_62, eX9_number_65, eX9_number_68, eX9_number_71, eX9_number_72, eX9_number_73, eX9_number_76, eX9_number_79, cont_some, tl_some, tl_none, csum_nil, csum_i, csum_r, csum_j, isc2_i, isc2_r, isc2_n, va_rf_s, vfn_ite, true_and, and_true, true_or, or_true, eq_self, Bool.false_eq_true, not_false_eq_true, not_true_eq_false, if_true, if_false, Nat.reduceAdd, Nat.reduceLeDiff, reduceIte, shp_wrI, h1.1, h1.2.1, h1.2.2.1, h1.2.2.2.1, h1.2.2.2.2.1, h1.2.2.2.2.2.1, h1.2.2.2.2.2.2.1, h1.2.2.2.2.2.2.2.1, h1.2.2.2.2.2.2.2.2.1, h1.2.2.2.2.2.2.2.2.2.1, h1.2.2.2.2.2.2.2.2.2.2.1, h1.2.2.2.2.2.2.2.2.2.2.2.1, h1.2.2.2.2.2.2.2.2.2.2.2.2.1, h1.2.2.2.2.2.2.2.2.2.2.2.2.2.1, h1.2.2.2.2.2.2.2.2.2.2.2.2.2.2.1, h1.2.2.2.2.2.2.2.2.2.2.2.2.2.2.2.1, h1.2.2.2.2.2.2.2.2.2.2.2.2.2.2.2.2.1, h1.2.2.2.2.2.2.2.2.2.2.2.2.2.2.2.2.2.1, h1.2.2.2.2.2.2.2.2.2.2.2.2.2.2.2.2.2.2.1, h1.2.2.2.2.2.2.2.2.2.2.2.2.2.2.2.2.2.2.2.1, h1.2.2.2.2.2.2.2.2.2.2.2.2.2.2.2.2.2.2.2.2.1, h1.2.2.2.2.2.2.2.2.2.2.2.2.2.2.2.2.2.2.2.2.2.1, h1.2.2.2.2.2.2.2.2.2.2.2.2.2.2.2.2.2.2.2.2.2.2.1, h1.2.2.2.2.2.2.2.2.2.2.2.2.2.2.2.2.2.2.2.2.2.2.2.1, h1.2.2.2.2.2.2.2.2.2.2.2.2.2.2.2.2.2.2.2.2.2.2.2.2, hh, in48, b2i_0, z, rd, m_faults (hx _)]
    exact ⟨0, rfl, MN.fault h (by omega) (by unfold numF; rw [if_pos hf])⟩
theorem m_number {w : Wd} {o k p : Nat} {T : Tst} (h : MT w o T) (hk : k < 30) (h25 : rdI w o 25 = nI k) (h26 : rdI w o 26 = nI p) (hp : p ≤ T.1) : ∃ x u, fX9_number [.ref o] w = some (some (.int x), u) ∧ MN w o T k p x u := by
  have h1 := h.1
  have h9 := h.2.2.1
  have hs := sk_le hp
  have rd : ∀ n, rdI (wrI w o 26 (nI n)) o 26 = nI n := fun n => by rw [rdI_wrI, if_pos ⟨rfl, rfl⟩]
  have r6 : ∀ n, rdI (wrI w o 26 (nI n)) o 6 = nI T.1 := fun n => by rw [rdI_wrI, if_neg (by omega)]; exact h.2.1
  have k1 := m_here h h26 hp
  have k2 := m_here (h.at (x := nI (sk T p)) (j := 26) (by omega)) (rd _) hs.2
  rw [wrI_wrI, sk_sk hp] at k2
  have hh : wp mX9_number 0 [some (.ref o), none, none, none] [] w (fun r u => ∃ x, r = some (.int x) ∧ MN w o T k p x u) := by
    by_cases q : sk T p < T.1
    · have el : ltr T (sk T p) (-4) = nI (T.2 (sk T p)) := if_pos q
      obtain ⟨g1, g2, g3⟩ := h.2.2.2 _ q
      have n4 : ¬ nI (T.2 (sk T p)) = -4 := fun z => by
        have := congrArg Int32.toInt z
        rw [nI_toInt (by omega)] at this
        have e : (-4 : Int32).toInt = -4 := by decide
        omega
      rw [el] at k1 k2
      by_cases g : nG T p
      · have e : nI (T.2 (sk T p)) = 45 := by rw [g.2]; rfl
        have eb : b2i (nG T p) = 1 := b2i_t g
        have go := fun a3 => mn_54 (a3 := a3) (y := sk T p + 1) h hk h25 hp rfl g.1 (show sk T (sk T p + 1) = nQ T p from (if_pos g).symm)
        rw [eb] at go
        have n10 : ¬ (1 : Int32) = 0 := by decide
        have n45 : ¬ (45 : Int32) = -4 := by decide
        rw [e] at k1 k2
        simp only [eX9_number_0, eX9_number_1, eX9_number_4, eX9_number_6, eX9_number_9, eX9_number_10, eX9_number_13, eX9_number_16, eX9_number_17, eX9_number_20, cont_some, tl_some, tl_none, csum_nil, csum_i, csum_r, csum_j, isc2_i, isc2_r, isc2_n, va_rf_s, vfn_ite, true_and, and_true, true_or, or_true, eq_self, Bool.false_eq_true, not_false_eq_true, not_true_eq_false, if_true, if_false, Nat.reduceAdd, Nat.reduceLeDiff, reduceIte, shp_wrI, h1.1, h1.2.1, h1.2.2.1, h1.2.2.2.1, h1.2.2.2.2.1, h1.2.2.2.2.2.1, h1.2.2.2.2.2.2.1, h1.2.2.2.2.2.2.2.1, h1.2.2.2.2.2.2.2.2.1, h1.2.2.2.2.2.2.2.2.2.1, h1.2.2.2.2.2.2.2.2.2.2.1, h1.2.2.2.2.2.2.2.2.2.2.2.1, h1.2.2.2.2.2.2.2.2.2.2.2.2.1, h1.2.2.2.2.2.2.2.2.2.2.2.2.2.1, h1.2.2.2.2.2.2.2.2.2.2.2.2.2.2.1, h1.2.2.2.2.2.2.2.2.2.2.2.2.2.2.2.1, h1.2.2.2.2.2.2.2.2.2.2.2.2.2.2.2.2.1, h1.2.2.2.2.2.2.2.2.2.2.2.2.2.2.2.2.2.1, h1.2.2.2.2.2.2.2.2.2.2.2.2.2.2.2.2.2.2.1, h1.2.2.2.2.2.2.2.2.2.2.2.2.2.2.2.2.2.2.2.1, h1.2.2.2.2.2.2.2.2.2.2.2.2.2.2.2.2.2.2.2.2.1, h1.2.2.2.2.2.2.2.2.2.2.2.2.2.2.2.2.2.2.2.2.2.1, h1.2.2.2.2.2.2.2.2.2.2.2.2.2.2.2.2.2.2.2.2.2.2.1, h1.2.2.2.2.2.2.2.2.2.2.2.2.2.2.2.2.2.2.2.2.2.2.2.1, h1.2.2.2.2.2.2.2.2.2.2.2.2.2.2.2.2.2.2.2.2.2.2.2.2, k1, n45, rd]
        simp only [eX9_number_21, eX9_number_22, eX9_number_25, eX9_number_27, eX9_number_30, eX9_number_31, eX9_number_34, eX9_number_35, eX9_number_36, eX9_number_37, eX9_number_37i, eX9_number_38, eX9_number_41, eX9_number_42, eX9_number_45, eX9_number_46, eX9_number_49, eX9_number_50, eX9_number_51, cont_some, tl_some, tl_none, csum_nil, csum_i, csum_r, csum_j, isc2_i, isc2_r, isc2_n, va_rf_s, vfn_ite, true_and, and_true, true_or, or_true, eq_self, Bool.false_eq_true, not_false_eq_true, not_true_eq_false, if_true, if_false, Nat.reduceAdd, Nat.reduceLeDiff, reduceIte, shp_wrI, h1.1, h1.2.1, h1.2.2.1, h1.2.2.2.1, h1.2.2.2.2.1, h1.2.2.2.2.2.1, h1.2.2.2.2.2.2.1, h1.2.2.2.2.2.2.2.1, h1.2.2.2.2.2.2.2.2.1, h1.2.2.2.2.2.2.2.2.2.1, h1.2.2.2.2.2.2.2.2.2.2.1, h1.2.2.2.2.2.2.2.2.2.2.2.1, h1.2.2.2.2.2.2.2.2.2.2.2.2.1, h1.2.2.2.2.2.2.2.2.2.2.2.2.2.1, h1.2.2.2.2.2.2.2.2.2.2.2.2.2.2.1, h1.2.2.2.2.2.2.2.2.2.2.2.2.2.2.2.1, h1.2.2.2.2.2.2.2.2.2.2.2.2.2.2.2.2.1, h1.2.2.2.2.2.2.2.2.2.2.2.2.2.2.2.2.2.1, h1.2.2.2.2.2.2.2.2.2.2.2.2.2.2.2.2.2.2.1, h1.2.2.2.2.2.2.2.2.2.2.2.2.2.2.2.2.2.2.2.1, h1.2.2.2.2.2.2.2.2.2.2.2.2.2.2.2.2.2.2.2.2.1, h1.2.2.2.2.2.2.2.2.2.2.2.2.2.2.2.2.2.2.2.2.2.1, h1.2.2.2.2.2.2.2.2.2.2.2.2.2.2.2.2.2.2.2.2.2.2.1, h1.2.2.2.2.2.2.2.2.2.2.2.2.2.2.2.2.2.2.2.2.2.2.2.1, h1.2.2.2.2.2.2.2.2.2.2.2.2.2.2.2.2.2.2.2.2.2.2.2.2, k2, n10, rd, nI_1, wrI_wrI]
        exact go _
      · have e : ¬ nI (T.2 (sk T p)) = 45 := fun z => g ⟨q, (nI_is (k := 45) g3 (by omega)).mp z⟩
        have eb : b2i (nG T p) = 0 := b2i_f g
        have go := fun a3 => mn_54 (a3 := a3) (y := sk T p) h hk h25 hp rfl hs.2 (show sk T (sk T p) = nQ T p by rw [sk_sk hp]; exact (if_neg g).symm)
        rw [eb] at go
        simp only [eX9_number_0, eX9_number_1, eX9_number_4, eX9_number_6, eX9_number_9, eX9_number_10, eX9_number_13, eX9_number_16, eX9_number_17, eX9_number_20, cont_some, tl_some, tl_none, csum_nil, csum_i, csum_r, csum_j, isc2_i, isc2_r, isc2_n, va_rf_s, vfn_ite, true_and, and_true, true_or, or_true, eq_self, Bool.false_eq_true, not_false_eq_true, not_true_eq_false, if_true, if_false, Nat.reduceAdd, Nat.reduceLeDiff, reduceIte, shp_wrI, h1.1, h1.2.1, h1.2.2.1, h1.2.2.2.1, h1.2.2.2.2.1, h1.2.2.2.2.2.1, h1.2.2.2.2.2.2.1, h1.2.2.2.2.2.2.2.1, h1.2.2.2.2.2.2.2.2.1, h1.2.2.2.2.2.2.2.2.2.1, h1.2.2.2.2.2.2.2.2.2.2.1, h1.2.2.2.2.2.2.2.2.2.2.2.1, h1.2.2.2.2.2.2.2.2.2.2.2.2.1, h1.2.2.2.2.2.2.2.2.2.2.2.2.2.1, h1.2.2.2.2.2.2.2.2.2.2.2.2.2.2.1, h1.2.2.2.2.2.2.2.2.2.2.2.2.2.2.2.1, h1.2.2.2.2.2.2.2.2.2.2.2.2.2.2.2.2.1, h1.2.2.2.2.2.2.2.2.2.2.2.2.2.2.2.2.2.1, h1.2.2.2.2.2.2.2.2.2.2.2.2.2.2.2.2.2.2.1, h1.2.2.2.2.2.2.2.2.2.2.2.2.2.2.2.2.2.2.2.1, h1.2.2.2.2.2.2.2.2.2.2.2.2.2.2.2.2.2.2.2.2.1, h1.2.2.2.2.2.2.2.2.2.2.2.2.2.2.2.2.2.2.2.2.2.1, h1.2.2.2.2.2.2.2.2.2.2.2.2.2.2.2.2.2.2.2.2.2.2.1, h1.2.2.2.2.2.2.2.2.2.2.2.2.2.2.2.2.2.2.2.2.2.2.2.1, h1.2.2.2.2.2.2.2.2.2.2.2.2.2.2.2.2.2.2.2.2.2.2.2.2, k1, n4, rd]
        simp only [eX9_number_21, eX9_number_22, eX9_number_25, eX9_number_27, eX9_number_30, eX9_number_31, eX9_number_34, eX9_number_35, eX9_number_36, eX9_number_37, eX9_number_37i, eX9_number_38, eX9_number_41, eX9_number_42, eX9_number_45, eX9_number_46, eX9_number_49, eX9_number_50, eX9_number_51, cont_some, tl_some, tl_none, csum_nil, csum_i, csum_r, csum_j, isc2_i, isc2_r, isc2_n, va_rf_s, vfn_ite, true_and, and_true, true_or, or_true, eq_self, Bool.false_eq_true, not_false_eq_true, not_true_eq_false, if_true, if_false, Nat.reduceAdd, Nat.reduceLeDiff, reduceIte, shp_wrI, h1.1, h1.2.1, h1.2.2.1, h1.2.2.2.1, h1.2.2.2.2.1, h1.2.2.2.2.2.1, h1.2.2.2.2.2.2.1, h1.2.2.2.2.2.2.2.1, h1.2.2.2.2.2.2.2.2.1, h1.2.2.2.2.2.2.2.2.2.1, h1.2.2.2.2.2.2.2.2.2.2.1, h1.2.2.2.2.2.2.2.2.2.2.2.1, h1.2.2.2.2.2.2.2.2.2.2.2.2.1, h1.2.2.2.2.2.2.2.2.2.2.2.2.2.1, h1.2.2.2.2.2.2.2.2.2.2.2.2.2.2.1, h1.2.2.2.2.2.2.2.2.2.2.2.2.2.2.2.1, h1.2.2.2.2.2.2.2.2.2.2.2.2.2.2.2.2.1, h1.2.2.2.2.2.2.2.2.2.2.2.2.2.2.2.2.2.1, h1.2.2.2.2.2.2.2.2.2.2.2.2.2.2.2.2.2.2.1, h1.2.2.2.2.2.2.2.2.2.2.2.2.2.2.2.2.2.2.2.1, h1.2.2.2.2.2.2.2.2.2.2.2.2.2.2.2.2.2.2.2.2.1, h1.2.2.2.2.2.2.2.2.2.2.2.2.2.2.2.2.2.2.2.2.2.1, h1.2.2.2.2.2.2.2.2.2.2.2.2.2.2.2.2.2.2.2.2.2.2.1, h1.2.2.2.2.2.2.2.2.2.2.2.2.2.2.2.2.2.2.2.2.2.2.2.1, h1.2.2.2.2.2.2.2.2.2.2.2.2.2.2.2.2.2.2.2.2.2.2.2.2, k2, e, rd, Int32.add_zero, wrI_wrI]
        exact go _
    · have g : ¬ nG T p := fun z => q z.1
      have el : ltr T (sk T p) (-4) = -4 := if_neg q
      have e : ¬ (-4 : Int32) = 45 := by decide
      have es : sk T p = T.1 := by omega
      have eb : b2i (nG T p) = 0 := b2i_f g
      have go := fun a3 => mn_54 (a3 := a3) (a1 := nI T.1) (y := sk T p) h hk h25 hp (by rw [es]) hs.2 (show sk T (sk T p) = nQ T p by rw [sk_sk hp]; exact (if_neg g).symm)
      rw [eb] at go
      rw [el] at k1 k2
      simp only [eX9_number_0, eX9_number_1, eX9_number_4, eX9_number_6, eX9_number_9, eX9_number_10, eX9_number_13, eX9_number_16, eX9_number_17, eX9_number_20, cont_some, tl_some, tl_none, csum_nil, csum_i, csum_r, csum_j, isc2_i, isc2_r, isc2_n, va_rf_s, vfn_ite, true_and, and_true, true_or, or_true, eq_self, Bool.false_eq_true, not_false_eq_true, not_true_eq_false, if_true, if_false, Nat.reduceAdd, Nat.reduceLeDiff, reduceIte, shp_wrI, h1.1, h1.2.1, h1.2.2.1, h1.2.2.2.1, h1.2.2.2.2.1, h1.2.2.2.2.2.1, h1.2.2.2.2.2.2.1, h1.2.2.2.2.2.2.2.1, h1.2.2.2.2.2.2.2.2.1, h1.2.2.2.2.2.2.2.2.2.1, h1.2.2.2.2.2.2.2.2.2.2.1, h1.2.2.2.2.2.2.2.2.2.2.2.1, h1.2.2.2.2.2.2.2.2.2.2.2.2.1, h1.2.2.2.2.2.2.2.2.2.2.2.2.2.1, h1.2.2.2.2.2.2.2.2.2.2.2.2.2.2.1, h1.2.2.2.2.2.2.2.2.2.2.2.2.2.2.2.1, h1.2.2.2.2.2.2.2.2.2.2.2.2.2.2.2.2.1, h1.2.2.2.2.2.2.2.2.2.2.2.2.2.2.2.2.2.1, h1.2.2.2.2.2.2.2.2.2.2.2.2.2.2.2.2.2.2.1, h1.2.2.2.2.2.2.2.2.2.2.2.2.2.2.2.2.2.2.2.1, h1.2.2.2.2.2.2.2.2.2.2.2.2.2.2.2.2.2.2.2.2.1, h1.2.2.2.2.2.2.2.2.2.2.2.2.2.2.2.2.2.2.2.2.2.1, h1.2.2.2.2.2.2.2.2.2.2.2.2.2.2.2.2.2.2.2.2.2.2.1, h1.2.2.2.2.2.2.2.2.2.2.2.2.2.2.2.2.2.2.2.2.2.2.2.1, h1.2.2.2.2.2.2.2.2.2.2.2.2.2.2.2.2.2.2.2.2.2.2.2.2, k1, r6]
      simp only [eX9_number_21, eX9_number_22, eX9_number_25, eX9_number_27, eX9_number_30, eX9_number_31, eX9_number_34, eX9_number_35, eX9_number_36, eX9_number_37, eX9_number_37i, eX9_number_38, eX9_number_41, eX9_number_42, eX9_number_45, eX9_number_46, eX9_number_49, eX9_number_50, eX9_number_51, cont_some, tl_some, tl_none, csum_nil, csum_i, csum_r, csum_j, isc2_i, isc2_r, isc2_n, va_rf_s, vfn_ite, true_and, and_true, true_or, or_true, eq_self, Bool.false_eq_true, not_false_eq_true, not_true_eq_false, if_true, if_false, Nat.reduceAdd, Nat.reduceLeDiff, reduceIte, shp_wrI, h1.1, h1.2.1, h1.2.2.1, h1.2.2.2.1, h1.2.2.2.2.1, h1.2.2.2.2.2.1, h1.2.2.2.2.2.2.1, h1.2.2.2.2.2.2.2.1, h1.2.2.2.2.2.2.2.2.1, h1.2.2.2.2.2.2.2.2.2.1, h1.2.2.2.2.2.2.2.2.2.2.1, h1.2.2.2.2.2.2.2.2.2.2.2.1, h1.2.2.2.2.2.2.2.2.2.2.2.2.1, h1.2.2.2.2.2.2.2.2.2.2.2.2.2.1, h1.2.2.2.2.2.2.2.2.2.2.2.2.2.2.1, h1.2.2.2.2.2.2.2.2.2.2.2.2.2.2.2.1, h1.2.2.2.2.2.2.2.2.2.2.2.2.2.2.2.2.1, h1.2.2.2.2.2.2.2.2.2.2.2.2.2.2.2.2.2.1, h1.2.2.2.2.2.2.2.2.2.2.2.2.2.2.2.2.2.2.1, h1.2.2.2.2.2.2.2.2.2.2.2.2.2.2.2.2.2.2.2.1, h1.2.2.2.2.2.2.2.2.2.2.2.2.2.2.2.2.2.2.2.2.1, h1.2.2.2.2.2.2.2.2.2.2.2.2.2.2.2.2.2.2.2.2.2.1, h1.2.2.2.2.2.2.2.2.2.2.2.2.2.2.2.2.2.2.2.2.2.2.1, h1.2.2.2.2.2.2.2.2.2.2.2.2.2.2.2.2.2.2.2.2.2.2.2.1, h1.2.2.2.2.2.2.2.2.2.2.2.2.2.2.2.2.2.2.2.2.2.2.2.2, k2, e, rd, Int32.add_zero, wrI_wrI]
      exact go _
  obtain ⟨r, u, h1, x, rfl, h2⟩ := sem_wp (nL := 4) (as := [.ref o]) (Nat.le_of_ble_eq_true rfl) hh
  exact ⟨x, u, h1, h2⟩
