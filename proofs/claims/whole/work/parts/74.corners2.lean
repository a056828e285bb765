/-! corners by the reference -/
theorem in15J {x : Int64} {w : Wd} : fX9_in [.long x, .long (-15), .long 15] w = some (some (.int (b2i (-15 ≤ x ∧ x ≤ 15))), w) := s_in
theorem in110 {x : Int32} {w : Wd} : fX9_in [.long x.toInt64, .long 1, .long 10] w = some (some (.int (b2i (1 ≤ x ∧ x ≤ 10))), w) := s_inI (by decide) (by decide)
theorem ixE {k p j : Nat} : (24 : Int32) * nI k + nI p + nI j = nI (24 * k + p + j) := by rw [nI_p24, pk_mul, nI_a, nI_a]
theorem lo_mchk {w : Wd} {o k p m : Nat} {h : Sht} {a2 a5 a7 : Option Value} {Q : Option Value → Wd → Prop} (hm : isMd w o) (hS : MS w o h) (hk : k < 4) (hp : p + 2 * m ≤ 24) (h5 : isc2 (some a5) = false)
    (hN : ¬ okB (h.2 k) p m → Q (some (.int (-2))) w) (hY : okB (h.2 k) p m → ∀ a6, wp mX9_corners 106 [some (.ref o), some (.int (nI k)), a2, some (.int (nI p)), some (.int (nI m)), a5, some (.int a6), a7] [] w Q) : ∀ (d j : Nat), j + d = 2 * m → (∀ i, i < j → -15 ≤ h.2 k (p + i) ∧ h.2 k (p + i) ≤ 15) →
    wp mX9_corners 62 [some (.ref o), some (.int (nI k)), a2, some (.int (nI p)), some (.int (nI m)), a5, some (.int (nI j)), a7] [] w Q := by
  intro d
  induction d with
  | zero =>
    intro j hj hok
    have e : j = 2 * m := by omega
    subst e
    have l : ¬ nI (2 * m) < nI (2 * m) := Int32.lt_irrefl
    simp only [eX9_corners_62, eX9_corners_64, eX9_corners_65, eX9_corners_67, eX9_corners_68, cont_some, tl_some, tl_none, csum_nil, csum_i, csum_r, csum_j, isc2_i, isc2_r, isc2_n, va_rf_s, vfn_ite, true_and, and_true, true_or, or_true, eq_self, Bool.false_eq_true, not_false_eq_true, not_true_eq_false, if_true, if_false, Nat.reduceAdd, Nat.reduceLeDiff, reduceIte, nI_2m, l]
    exact hY (fun i hi => hok i hi) _
  | succ d ih =>
    intro j hj hok
    have l : nI j < nI (2 * m) := nI_lt (by omega) (by omega)
    have hJ := (hS.2 k hk).2 (p + j) (by omega)
    rw [← Nat.add_assoc] at hJ
    simp only [eX9_corners_62, eX9_corners_64, eX9_corners_65, eX9_corners_67, eX9_corners_68, cont_some, tl_some, tl_none, csum_nil, csum_i, csum_r, csum_j, isc2_i, isc2_r, isc2_n, va_rf_s, vfn_ite, true_and, and_true, true_or, or_true, eq_self, Bool.false_eq_true, not_false_eq_true, not_true_eq_false, if_true, if_false, Nat.reduceAdd, Nat.reduceLeDiff, reduceIte, nI_2m, l]
    simp only [eX9_corners_71, eX9_corners_72, eX9_corners_75, eX9_corners_77, eX9_corners_78, eX9_corners_79, eX9_corners_80, eX9_corners_81, eX9_corners_83, eX9_corners_84, eX9_corners_85, eX9_corners_88, eX9_corners_91, eX9_corners_94, cont_some, tl_some, tl_none, csum_nil, csum_i, csum_r, csum_j, isc2_i, isc2_r, isc2_n, va_rf_s, vfn_ite, true_and, and_true, true_or, or_true, eq_self, Bool.false_eq_true, not_false_eq_true, not_true_eq_false, if_true, if_false, Nat.reduceAdd, Nat.reduceLeDiff, reduceIte, hm.1, hm.2.1, hm.2.2.1, hm.2.2.2.1, hm.2.2.2.2.1, hm.2.2.2.2.2.1, hm.2.2.2.2.2.2.1, hm.2.2.2.2.2.2.2.1, hm.2.2.2.2.2.2.2.2.1, hm.2.2.2.2.2.2.2.2.2.1, hm.2.2.2.2.2.2.2.2.2.2.1, hm.2.2.2.2.2.2.2.2.2.2.2.1, hm.2.2.2.2.2.2.2.2.2.2.2.2.1, hm.2.2.2.2.2.2.2.2.2.2.2.2.2.1, hm.2.2.2.2.2.2.2.2.2.2.2.2.2.2.1, hm.2.2.2.2.2.2.2.2.2.2.2.2.2.2.2.1, hm.2.2.2.2.2.2.2.2.2.2.2.2.2.2.2.2.1, hm.2.2.2.2.2.2.2.2.2.2.2.2.2.2.2.2.2.1, hm.2.2.2.2.2.2.2.2.2.2.2.2.2.2.2.2.2.2.1, hm.2.2.2.2.2.2.2.2.2.2.2.2.2.2.2.2.2.2.2.1, hm.2.2.2.2.2.2.2.2.2.2.2.2.2.2.2.2.2.2.2.2.1, hm.2.2.2.2.2.2.2.2.2.2.2.2.2.2.2.2.2.2.2.2.2.1, hm.2.2.2.2.2.2.2.2.2.2.2.2.2.2.2.2.2.2.2.2.2.2.1, hm.2.2.2.2.2.2.2.2.2.2.2.2.2.2.2.2.2.2.2.2.2.2.2.1, hm.2.2.2.2.2.2.2.2.2.2.2.2.2.2.2.2.2.2.2.2.2.2.2.2, ixE, inA_nI (show 24 * k + p + j < 96 by omega) (show 96 < 2147483648 by omega), nI_clamp (show 24 * k + p + j < 2 ^ 31 by omega), hJ, in15J, b2i_0]
    by_cases q : -15 ≤ h.2 k (p + j) ∧ h.2 k (p + j) ≤ 15
    · simp only [q, and_self, not_true_eq_false, not_false_eq_true, if_true, if_false]
      simp only [eX9_corners_100, cont_some, tl_some, tl_none, csum_nil, csum_i, csum_r, csum_j, isc2_i, isc2_r, isc2_n, va_rf_s, vfn_ite, true_and, and_true, true_or, or_true, eq_self, Bool.false_eq_true, not_false_eq_true, not_true_eq_false, if_true, if_false, Nat.reduceAdd, Nat.reduceLeDiff, reduceIte, nI_1, h5]
      rw [eX9_corners_103]
      refine ih (j + 1) (by omega) (fun i hi => ?_)
      by_cases e : i = j
      · rw [e]; exact q
      · exact hok i (by omega)
    · simp only [q, not_true_eq_false, not_false_eq_true, if_true, if_false]
      simp only [eX9_corners_97, eX9_corners_99, cont_some, tl_some, tl_none, csum_nil, csum_i, csum_r, csum_j, isc2_i, isc2_r, isc2_n, va_rf_s, vfn_ite, true_and, and_true, true_or, or_true, eq_self, Bool.false_eq_true, not_false_eq_true, not_true_eq_false, if_true, if_false, Nat.reduceAdd, Nat.reduceLeDiff, reduceIte]
      exact hN (fun z => q (z j (by omega)))
theorem lo_mapp {w0 : Wd} {o k p m : Nat} {h : Sht} {a2 a5 a7 : Option Value} {Q : Option Value → Wd → Prop} (hk : k < 4) (hp : p + 2 * m ≤ 24) (h10 : m ≤ 10) (h5 : isc2 (some a5) = false)
    (hQ : ∀ u a6, isMd u o → mvIs u o m (uC (h.2 k) p) (vC (h.2 k) p) → FrX (Xv o) w0 u → wp mX9_corners 178 [some (.ref o), some (.int (nI k)), a2, some (.int (nI p)), some (.int (nI m)), a5, some (.int a6), a7] [] u Q) : ∀ (d j : Nat) (w : Wd), j + d = m → isMd w o → (∀ i, i < 24 → rdJ w (o + 7) (24 * k + i) = h.2 k i) → rdI w o 21 = nI m → (∀ i, i < j → rdI w (o + 9) i = uC (h.2 k) p i ∧ rdI w (o + 10) i = vC (h.2 k) p i) → FrX (Xv o) w0 w →
    wp mX9_corners 115 [some (.ref o), some (.int (nI k)), a2, some (.int (nI p)), some (.int (nI m)), a5, some (.int (nI j)), a7] [] w Q := by
  intro d
  induction d with
  | zero =>
    intro j w hj hm hJ hn hv hF
    have e : j = m := by omega
    subst e
    have l : ¬ nI j < nI j := Int32.lt_irrefl
    simp only [eX9_corners_115, eX9_corners_117, eX9_corners_119, cont_some, tl_some, tl_none, csum_nil, csum_i, csum_r, csum_j, isc2_i, isc2_r, isc2_n, va_rf_s, vfn_ite, true_and, and_true, true_or, or_true, eq_self, Bool.false_eq_true, not_false_eq_true, not_true_eq_false, if_true, if_false, Nat.reduceAdd, Nat.reduceLeDiff, reduceIte, l]
    exact hQ _ _ hm ⟨hn, h10, hv⟩ hF
  | succ d ih =>
    intro j w hj hm hJ hn hv hF
    have l : nI j < nI m := nI_lt (by omega) (by omega)
    have j0 := hJ (p + 2 * j) (by omega)
    have j1 := hJ (p + 2 * j + 1) (by omega)
    rw [← Nat.add_assoc] at j0
    rw [show 24 * k + (p + 2 * j + 1) = 24 * k + p + 2 * j + 1 by omega] at j1
    have n1 : ¬ o = o + 9 := by omega
    have i10 := inA_nI (show j < 10 by omega) (show 10 < 2147483648 by omega)
    have cj := nI_clamp (show j < 2 ^ 31 by omega)
    simp only [eX9_corners_115, eX9_corners_117, eX9_corners_119, eX9_corners_122, eX9_corners_123, eX9_corners_126, eX9_corners_128, eX9_corners_129, eX9_corners_132, eX9_corners_134, eX9_corners_135, eX9_corners_136, eX9_corners_137, eX9_corners_138, eX9_corners_139, eX9_corners_141, eX9_corners_142, eX9_corners_143, eX9_corners_144, eX9_corners_145, eX9_corners_146, eX9_corners_147, eX9_corners_150, eX9_corners_152, eX9_corners_153, eX9_corners_156, eX9_corners_158, eX9_corners_159, eX9_corners_160, eX9_corners_161, eX9_corners_162, eX9_corners_163, eX9_corners_165, eX9_corners_166, eX9_corners_167, eX9_corners_168, eX9_corners_169, eX9_corners_170, eX9_corners_171, eX9_corners_172, cont_some, tl_some, tl_none, csum_nil, csum_i, csum_r, csum_j, isc2_i, isc2_r, isc2_n, va_rf_s, vfn_ite, true_and, and_true, true_or, or_true, eq_self, Bool.false_eq_true, not_false_eq_true, not_true_eq_false, if_true, if_false, Nat.reduceAdd, Nat.reduceLeDiff, reduceIte, l, hm.1, hm.2.1, hm.2.2.1, hm.2.2.2.1, hm.2.2.2.2.1, hm.2.2.2.2.2.1, hm.2.2.2.2.2.2.1, hm.2.2.2.2.2.2.2.1, hm.2.2.2.2.2.2.2.2.1, hm.2.2.2.2.2.2.2.2.2.1, hm.2.2.2.2.2.2.2.2.2.2.1, hm.2.2.2.2.2.2.2.2.2.2.2.1, hm.2.2.2.2.2.2.2.2.2.2.2.2.1, hm.2.2.2.2.2.2.2.2.2.2.2.2.2.1, hm.2.2.2.2.2.2.2.2.2.2.2.2.2.2.1, hm.2.2.2.2.2.2.2.2.2.2.2.2.2.2.2.1, hm.2.2.2.2.2.2.2.2.2.2.2.2.2.2.2.2.1, hm.2.2.2.2.2.2.2.2.2.2.2.2.2.2.2.2.2.1, hm.2.2.2.2.2.2.2.2.2.2.2.2.2.2.2.2.2.2.1, hm.2.2.2.2.2.2.2.2.2.2.2.2.2.2.2.2.2.2.2.1, hm.2.2.2.2.2.2.2.2.2.2.2.2.2.2.2.2.2.2.2.2.1, hm.2.2.2.2.2.2.2.2.2.2.2.2.2.2.2.2.2.2.2.2.2.1, hm.2.2.2.2.2.2.2.2.2.2.2.2.2.2.2.2.2.2.2.2.2.2.1, hm.2.2.2.2.2.2.2.2.2.2.2.2.2.2.2.2.2.2.2.2.2.2.2.1, hm.2.2.2.2.2.2.2.2.2.2.2.2.2.2.2.2.2.2.2.2.2.2.2.2, nI_2m, ixE, nI_1, inA_nI (show 24 * k + p + 2 * j < 96 by omega) (show 96 < 2147483648 by omega), nI_clamp (show 24 * k + p + 2 * j < 2 ^ 31 by omega), inA_nI (show 24 * k + p + 2 * j + 1 < 96 by omega) (show 96 < 2147483648 by omega), nI_clamp (show 24 * k + p + 2 * j + 1 < 2 ^ 31 by omega), shp_wrI, rdR_wrI, rdJ_wrI, j0, j1, i10, cj, h5]
    rw [eX9_corners_175]
    refine ih (j + 1) _ (by omega) hm (fun i hi => hJ i hi) ?_ (fun i hi => ?_) ((hF.wrI (Or.inr ⟨by omega, by omega⟩)).wrI (Or.inr ⟨by omega, by omega⟩))
    · rw [rdI_wrI, if_neg (by omega), rdI_wrI, if_neg (by omega)]; exact hn
    · rw [rdI_wrI, if_neg (by omega), rdI_wrI, rdI_wrI]
      by_cases e : i = j
      · subst e
        rw [if_pos ⟨rfl, rfl⟩, if_pos ⟨rfl, rfl⟩]
        exact ⟨rfl, rfl⟩
      · rw [if_neg (fun z => e z.2), if_neg (fun z => e z.2), rdI_wrI, if_neg (by omega)]
        exact hv i (by omega)
theorem lo_mcset {w : Wd} {o L : Nat} {O : Nat → Nat} {a1 a2 a3 a4 a5 : Option Value} (h5 : isc2 (some a5) = false) (hm : isMd w o) (hh : mhIs w o L O) (h10 : L ≤ 10) : ∀ (d k : Nat) (s : Int32), k + d = L →
    wp mX9_corners 188 [some (.ref o), a1, a2, a3, a4, a5, some (.int s), some (.int (nI k))] [] w (fun q u => q = some (.int (setF O d k s)) ∧ u = w) := by
  intro d
  induction d with
  | zero =>
    intro k s hk
    have e : k = L := by omega
    subst e
    have l : ¬ nI k < nI k := Int32.lt_irrefl
    simp only [eX9_corners_188, eX9_corners_190, eX9_corners_191, eX9_corners_194, eX9_corners_217, eX9_corners_219, cont_some, tl_some, tl_none, csum_nil, csum_i, csum_r, csum_j, isc2_i, isc2_r, isc2_n, va_rf_s, vfn_ite, true_and, and_true, true_or, or_true, eq_self, Bool.false_eq_true, not_false_eq_true, not_true_eq_false, if_true, if_false, Nat.reduceAdd, Nat.reduceLeDiff, reduceIte, hm.1, hm.2.1, hm.2.2.1, hm.2.2.2.1, hm.2.2.2.2.1, hm.2.2.2.2.2.1, hm.2.2.2.2.2.2.1, hm.2.2.2.2.2.2.2.1, hm.2.2.2.2.2.2.2.2.1, hm.2.2.2.2.2.2.2.2.2.1, hm.2.2.2.2.2.2.2.2.2.2.1, hm.2.2.2.2.2.2.2.2.2.2.2.1, hm.2.2.2.2.2.2.2.2.2.2.2.2.1, hm.2.2.2.2.2.2.2.2.2.2.2.2.2.1, hm.2.2.2.2.2.2.2.2.2.2.2.2.2.2.1, hm.2.2.2.2.2.2.2.2.2.2.2.2.2.2.2.1, hm.2.2.2.2.2.2.2.2.2.2.2.2.2.2.2.2.1, hm.2.2.2.2.2.2.2.2.2.2.2.2.2.2.2.2.2.1, hm.2.2.2.2.2.2.2.2.2.2.2.2.2.2.2.2.2.2.1, hm.2.2.2.2.2.2.2.2.2.2.2.2.2.2.2.2.2.2.2.1, hm.2.2.2.2.2.2.2.2.2.2.2.2.2.2.2.2.2.2.2.2.1, hm.2.2.2.2.2.2.2.2.2.2.2.2.2.2.2.2.2.2.2.2.2.1, hm.2.2.2.2.2.2.2.2.2.2.2.2.2.2.2.2.2.2.2.2.2.2.1, hm.2.2.2.2.2.2.2.2.2.2.2.2.2.2.2.2.2.2.2.2.2.2.2.1, hm.2.2.2.2.2.2.2.2.2.2.2.2.2.2.2.2.2.2.2.2.2.2.2.2, hh.1, l, setF]
  | succ d ih =>
    intro k s hk
    have l : nI k < nI L := nI_lt (by omega) (by omega)
    simp only [eX9_corners_188, eX9_corners_190, eX9_corners_191, eX9_corners_194, eX9_corners_197, eX9_corners_199, eX9_corners_200, eX9_corners_201, eX9_corners_204, eX9_corners_206, eX9_corners_207, eX9_corners_208, eX9_corners_209, eX9_corners_211, cont_some, tl_some, tl_none, csum_nil, csum_i, csum_r, csum_j, isc2_i, isc2_r, isc2_n, va_rf_s, vfn_ite, true_and, and_true, true_or, or_true, eq_self, Bool.false_eq_true, not_false_eq_true, not_true_eq_false, if_true, if_false, Nat.reduceAdd, Nat.reduceLeDiff, reduceIte, hm.1, hm.2.1, hm.2.2.1, hm.2.2.2.1, hm.2.2.2.2.1, hm.2.2.2.2.2.1, hm.2.2.2.2.2.2.1, hm.2.2.2.2.2.2.2.1, hm.2.2.2.2.2.2.2.2.1, hm.2.2.2.2.2.2.2.2.2.1, hm.2.2.2.2.2.2.2.2.2.2.1, hm.2.2.2.2.2.2.2.2.2.2.2.1, hm.2.2.2.2.2.2.2.2.2.2.2.2.1, hm.2.2.2.2.2.2.2.2.2.2.2.2.2.1, hm.2.2.2.2.2.2.2.2.2.2.2.2.2.2.1, hm.2.2.2.2.2.2.2.2.2.2.2.2.2.2.2.1, hm.2.2.2.2.2.2.2.2.2.2.2.2.2.2.2.2.1, hm.2.2.2.2.2.2.2.2.2.2.2.2.2.2.2.2.2.1, hm.2.2.2.2.2.2.2.2.2.2.2.2.2.2.2.2.2.2.1, hm.2.2.2.2.2.2.2.2.2.2.2.2.2.2.2.2.2.2.2.1, hm.2.2.2.2.2.2.2.2.2.2.2.2.2.2.2.2.2.2.2.2.1, hm.2.2.2.2.2.2.2.2.2.2.2.2.2.2.2.2.2.2.2.2.2.1, hm.2.2.2.2.2.2.2.2.2.2.2.2.2.2.2.2.2.2.2.2.2.2.1, hm.2.2.2.2.2.2.2.2.2.2.2.2.2.2.2.2.2.2.2.2.2.2.2.1, hm.2.2.2.2.2.2.2.2.2.2.2.2.2.2.2.2.2.2.2.2.2.2.2.2, hh.1, l, inA_nI (show k < 11 by omega) (show 11 < 2147483648 by omega), nI_clamp (show k < 2 ^ 31 by omega), hh.2 k (by omega), nI_1, h5]
    rw [eX9_corners_214]
    exact ih (k + 1) _ (by omega)
theorem m_corners {w : Wd} {o : Nat} {h : Sht} {s l i n : Int32} (hS : MS w o h) : ∃ x u, fX9_corners [.ref o, .int s, .int l, .int i, .int n] w = some (some (.int x), u) ∧ rCor h s l i n x ∧ FrX (Xv o) w u := by
  have hm := hS.1
  by_cases q : 1 ≤ n ∧ n ≤ 10
  · obtain ⟨y, hy, hr⟩ := m_lacks (s := s) (l := l) hS
    obtain ⟨m, hmm, rfl⟩ := one10.mp q
    have low : ∀ z : Int32, z < 0 → refu h s l i (2 * nI m) z → y = z → ∃ x u, fX9_corners [.ref o, .int s, .int l, .int i, .int (nI m)] w = some (some (.int x), u) ∧ rCor h s l i (nI m) x ∧ FrX (Xv o) w u := by
      intro z hz hrf hyz
      subst hyz
      refine ⟨y, w, ?_, Or.inr ⟨q, Or.inl ⟨y, hrf, fun e => by subst e; exact absurd hz (by decide), rfl⟩⟩, FrX.rf⟩
      refine sem_eq (Nat.le_of_ble_eq_true rfl) ?_
      show wp mX9_corners 0 [some (.ref o), some (.int s), some (.int l), some (.int i), some (.int (nI m)), none, none, none] [] _ _
      simp only [eX9_corners_0, eX9_corners_2, eX9_corners_3, eX9_corners_4, eX9_corners_7, eX9_corners_10, eX9_corners_13, eX9_corners_14, eX9_corners_15, eX9_corners_16, eX9_corners_19, eX9_corners_22, eX9_corners_23, eX9_corners_25, eX9_corners_27, eX9_corners_30, eX9_corners_32, cont_some, tl_some, tl_none, csum_nil, csum_i, csum_r, csum_j, isc2_i, isc2_r, isc2_n, va_rf_s, vfn_ite, true_and, and_true, true_or, or_true, eq_self, Bool.false_eq_true, not_false_eq_true, not_true_eq_false, if_true, if_false, Nat.reduceAdd, Nat.reduceLeDiff, reduceIte, in110, b2i_0, q, and_self, hm.1, hm.2.1, hm.2.2.1, hm.2.2.2.1, hm.2.2.2.2.1, hm.2.2.2.2.2.1, hm.2.2.2.2.2.2.1, hm.2.2.2.2.2.2.2.1, hm.2.2.2.2.2.2.2.2.1, hm.2.2.2.2.2.2.2.2.2.1, hm.2.2.2.2.2.2.2.2.2.2.1, hm.2.2.2.2.2.2.2.2.2.2.2.1, hm.2.2.2.2.2.2.2.2.2.2.2.2.1, hm.2.2.2.2.2.2.2.2.2.2.2.2.2.1, hm.2.2.2.2.2.2.2.2.2.2.2.2.2.2.1, hm.2.2.2.2.2.2.2.2.2.2.2.2.2.2.2.1, hm.2.2.2.2.2.2.2.2.2.2.2.2.2.2.2.2.1, hm.2.2.2.2.2.2.2.2.2.2.2.2.2.2.2.2.2.1, hm.2.2.2.2.2.2.2.2.2.2.2.2.2.2.2.2.2.2.1, hm.2.2.2.2.2.2.2.2.2.2.2.2.2.2.2.2.2.2.2.1, hm.2.2.2.2.2.2.2.2.2.2.2.2.2.2.2.2.2.2.2.2.1, hm.2.2.2.2.2.2.2.2.2.2.2.2.2.2.2.2.2.2.2.2.2.1, hm.2.2.2.2.2.2.2.2.2.2.2.2.2.2.2.2.2.2.2.2.2.2.1, hm.2.2.2.2.2.2.2.2.2.2.2.2.2.2.2.2.2.2.2.2.2.2.2.1, hm.2.2.2.2.2.2.2.2.2.2.2.2.2.2.2.2.2.2.2.2.2.2.2.2, hy, hz]
    rcases hr with ⟨z, e⟩ | ⟨k, hk4, rfl, hl, ⟨z, e⟩ | ⟨l', len, hi, ⟨z, e⟩ | ⟨rfl, e⟩⟩⟩
    · exact low (-1) (by decide) (Or.inl ⟨z, rfl⟩) e
    · exact low (-11) (by decide) (Or.inr ⟨k, hk4, rfl, hl, Or.inl ⟨z, rfl⟩⟩) e
    · exact low (-12) (by decide) (Or.inr ⟨k, hk4, rfl, hl, Or.inr ⟨l', len, hi, Or.inl ⟨z, rfl⟩⟩⟩) e
    · subst e
      have hck := (hS.2 k hk4).1
      rw [hi] at hck
      obtain ⟨g1, g2, g3, g4⟩ := hck
      have ck := nI_clamp (show k < 2 ^ 31 by omega)
      have i4 := inA_nI hk4 (show 4 < 2147483648 by omega)
      have z0 : ¬ (0 : Int32) < 0 := by decide
      have b1 := i.toInt_lt
      have b2 := i.le_toInt
      have e : 0 < lg_cmp (i.toInt64 + (nI (2 * m)).toInt64) (nI len).toInt64 ↔ (len : Int) < i.toInt + (2 * m : Nat) := by
        rw [lgc_gt, i2l_jJ, i2l_jJ, i2l_jJ, jJ_add, nI_T (by omega), nI_T (by omega), jJ_lt ⟨by omega, by omega⟩ ⟨by omega, by omega⟩]
      have bad : ¬ okIx len i (nI (2 * m)) → refu h (nI k) (nI l') i (2 * nI m) (-13) := fun z => Or.inr ⟨k, hk4, rfl, hl, Or.inr ⟨l', len, hi, Or.inr (Or.inl ⟨rfl, by rw [nI_2m]; exact z, rfl⟩)⟩⟩
      by_cases q1 : i < 0
      · have q1' := lt0.mp q1
        refine ⟨-13, w, ?_, Or.inr ⟨q, Or.inl ⟨-13, bad (fun z => by have := z.1; omega), by decide, rfl⟩⟩, FrX.rf⟩
        refine sem_eq (Nat.le_of_ble_eq_true rfl) ?_
        show wp mX9_corners 0 [some (.ref o), some (.int (nI k)), some (.int (nI l')), some (.int i), some (.int (nI m)), none, none, none] [] _ _
        simp only [eX9_corners_0, eX9_corners_2, eX9_corners_3, eX9_corners_4, eX9_corners_7, eX9_corners_10, eX9_corners_13, eX9_corners_14, eX9_corners_15, eX9_corners_16, eX9_corners_19, eX9_corners_22, eX9_corners_23, eX9_corners_25, eX9_corners_27, eX9_corners_30, eX9_corners_32, eX9_corners_33, eX9_corners_34, eX9_corners_37, eX9_corners_38, eX9_corners_39, eX9_corners_40, eX9_corners_42, eX9_corners_43, eX9_corners_44, eX9_corners_45, eX9_corners_46, eX9_corners_49, eX9_corners_50, eX9_corners_51, eX9_corners_52, eX9_corners_53, eX9_corners_56, eX9_corners_58, cont_some, tl_some, tl_none, csum_nil, csum_i, csum_r, csum_j, isc2_i, isc2_r, isc2_n, va_rf_s, vfn_ite, true_and, and_true, true_or, or_true, eq_self, Bool.false_eq_true, not_false_eq_true, not_true_eq_false, if_true, if_false, Nat.reduceAdd, Nat.reduceLeDiff, reduceIte, in110, b2i_0, q, and_self, hm.1, hm.2.1, hm.2.2.1, hm.2.2.2.1, hm.2.2.2.2.1, hm.2.2.2.2.2.1, hm.2.2.2.2.2.2.1, hm.2.2.2.2.2.2.2.1, hm.2.2.2.2.2.2.2.2.1, hm.2.2.2.2.2.2.2.2.2.1, hm.2.2.2.2.2.2.2.2.2.2.1, hm.2.2.2.2.2.2.2.2.2.2.2.1, hm.2.2.2.2.2.2.2.2.2.2.2.2.1, hm.2.2.2.2.2.2.2.2.2.2.2.2.2.1, hm.2.2.2.2.2.2.2.2.2.2.2.2.2.2.1, hm.2.2.2.2.2.2.2.2.2.2.2.2.2.2.2.1, hm.2.2.2.2.2.2.2.2.2.2.2.2.2.2.2.2.1, hm.2.2.2.2.2.2.2.2.2.2.2.2.2.2.2.2.2.1, hm.2.2.2.2.2.2.2.2.2.2.2.2.2.2.2.2.2.2.1, hm.2.2.2.2.2.2.2.2.2.2.2.2.2.2.2.2.2.2.2.1, hm.2.2.2.2.2.2.2.2.2.2.2.2.2.2.2.2.2.2.2.2.1, hm.2.2.2.2.2.2.2.2.2.2.2.2.2.2.2.2.2.2.2.2.2.1, hm.2.2.2.2.2.2.2.2.2.2.2.2.2.2.2.2.2.2.2.2.2.2.1, hm.2.2.2.2.2.2.2.2.2.2.2.2.2.2.2.2.2.2.2.2.2.2.2.1, hm.2.2.2.2.2.2.2.2.2.2.2.2.2.2.2.2.2.2.2.2.2.2.2.2, hy, z0, q1]
      · have q1' : ¬ i.toInt < 0 := fun z => q1 (lt0.mpr z)
        by_cases q2 : 0 < lg_cmp (i.toInt64 + (nI (2 * m)).toInt64) (nI len).toInt64
        · have q2' := e.mp q2
          refine ⟨-13, w, ?_, Or.inr ⟨q, Or.inl ⟨-13, bad (fun z => by have := z.2.2; rw [nI_T (by omega)] at this; omega), by decide, rfl⟩⟩, FrX.rf⟩
          refine sem_eq (Nat.le_of_ble_eq_true rfl) ?_
          show wp mX9_corners 0 [some (.ref o), some (.int (nI k)), some (.int (nI l')), some (.int i), some (.int (nI m)), none, none, none] [] _ _
          simp only [eX9_corners_0, eX9_corners_2, eX9_corners_3, eX9_corners_4, eX9_corners_7, eX9_corners_10, eX9_corners_13, eX9_corners_14, eX9_corners_15, eX9_corners_16, eX9_corners_19, eX9_corners_22, eX9_corners_23, eX9_corners_25, eX9_corners_27, eX9_corners_30, eX9_corners_32, eX9_corners_33, eX9_corners_34, eX9_corners_37, eX9_corners_38, eX9_corners_39, eX9_corners_40, eX9_corners_42, eX9_corners_43, eX9_corners_44, eX9_corners_45, eX9_corners_46, eX9_corners_49, eX9_corners_50, eX9_corners_51, eX9_corners_52, eX9_corners_53, eX9_corners_56, eX9_corners_58, cont_some, tl_some, tl_none, csum_nil, csum_i, csum_r, csum_j, isc2_i, isc2_r, isc2_n, va_rf_s, vfn_ite, true_and, and_true, true_or, or_true, eq_self, Bool.false_eq_true, not_false_eq_true, not_true_eq_false, if_true, if_false, Nat.reduceAdd, Nat.reduceLeDiff, reduceIte, in110, b2i_0, q, and_self, hm.1, hm.2.1, hm.2.2.1, hm.2.2.2.1, hm.2.2.2.2.1, hm.2.2.2.2.2.1, hm.2.2.2.2.2.2.1, hm.2.2.2.2.2.2.2.1, hm.2.2.2.2.2.2.2.2.1, hm.2.2.2.2.2.2.2.2.2.1, hm.2.2.2.2.2.2.2.2.2.2.1, hm.2.2.2.2.2.2.2.2.2.2.2.1, hm.2.2.2.2.2.2.2.2.2.2.2.2.1, hm.2.2.2.2.2.2.2.2.2.2.2.2.2.1, hm.2.2.2.2.2.2.2.2.2.2.2.2.2.2.1, hm.2.2.2.2.2.2.2.2.2.2.2.2.2.2.2.1, hm.2.2.2.2.2.2.2.2.2.2.2.2.2.2.2.2.1, hm.2.2.2.2.2.2.2.2.2.2.2.2.2.2.2.2.2.1, hm.2.2.2.2.2.2.2.2.2.2.2.2.2.2.2.2.2.2.1, hm.2.2.2.2.2.2.2.2.2.2.2.2.2.2.2.2.2.2.2.1, hm.2.2.2.2.2.2.2.2.2.2.2.2.2.2.2.2.2.2.2.2.1, hm.2.2.2.2.2.2.2.2.2.2.2.2.2.2.2.2.2.2.2.2.2.1, hm.2.2.2.2.2.2.2.2.2.2.2.2.2.2.2.2.2.2.2.2.2.2.1, hm.2.2.2.2.2.2.2.2.2.2.2.2.2.2.2.2.2.2.2.2.2.2.2.1, hm.2.2.2.2.2.2.2.2.2.2.2.2.2.2.2.2.2.2.2.2.2.2.2.2, hy, z0, q1, nI_2m, i4, ck, g4, q2]
        · have q2' : ¬ (len : Int) < i.toInt + (2 * m : Nat) := fun z => q2 (e.mpr z)
          have ok : okIx len i (nI (2 * m)) := by
            unfold okIx
            rw [nI_T (by omega)]
            exact ⟨by omega, by omega, by omega⟩
          have hr0 : refu h (nI k) (nI l') i (2 * nI m) 0 := Or.inr ⟨k, hk4, rfl, hl, Or.inr ⟨l', len, hi, Or.inr (Or.inr ⟨rfl, by rw [nI_2m]; exact ok, rfl⟩)⟩⟩
          obtain ⟨p, m', rfl, em, hpm⟩ := okIx_n g2 ok
          have : 2 * m = m' := (nI_eq (by omega) (by omega)).mp em
          subst this
          have hm0 : isMd (wrI w o 21 (nI m)) o := hm
          have hh : wp mX9_corners 0 [some (.ref o), some (.int (nI k)), some (.int (nI l')), some (.int (nI p)), some (.int (nI m)), none, none, none] [] w (fun r u => ∃ x, r = some (.int x) ∧ corR (h.2 k) p m x ∧ FrX (Xv o) w u) := by
            simp only [eX9_corners_0, eX9_corners_2, eX9_corners_3, eX9_corners_4, eX9_corners_7, eX9_corners_10, eX9_corners_13, eX9_corners_14, eX9_corners_15, eX9_corners_16, eX9_corners_19, eX9_corners_22, eX9_corners_23, eX9_corners_25, eX9_corners_27, eX9_corners_30, eX9_corners_32, eX9_corners_33, eX9_corners_34, eX9_corners_37, eX9_corners_38, eX9_corners_39, eX9_corners_40, eX9_corners_42, eX9_corners_43, eX9_corners_44, eX9_corners_45, eX9_corners_46, eX9_corners_49, eX9_corners_50, eX9_corners_51, eX9_corners_52, eX9_corners_53, eX9_corners_56, eX9_corners_58, eX9_corners_59, eX9_corners_60, cont_some, tl_some, tl_none, csum_nil, csum_i, csum_r, csum_j, isc2_i, isc2_r, isc2_n, va_rf_s, vfn_ite, true_and, and_true, true_or, or_true, eq_self, Bool.false_eq_true, not_false_eq_true, not_true_eq_false, if_true, if_false, Nat.reduceAdd, Nat.reduceLeDiff, reduceIte, in110, b2i_0, q, and_self, hm.1, hm.2.1, hm.2.2.1, hm.2.2.2.1, hm.2.2.2.2.1, hm.2.2.2.2.2.1, hm.2.2.2.2.2.2.1, hm.2.2.2.2.2.2.2.1, hm.2.2.2.2.2.2.2.2.1, hm.2.2.2.2.2.2.2.2.2.1, hm.2.2.2.2.2.2.2.2.2.2.1, hm.2.2.2.2.2.2.2.2.2.2.2.1, hm.2.2.2.2.2.2.2.2.2.2.2.2.1, hm.2.2.2.2.2.2.2.2.2.2.2.2.2.1, hm.2.2.2.2.2.2.2.2.2.2.2.2.2.2.1, hm.2.2.2.2.2.2.2.2.2.2.2.2.2.2.2.1, hm.2.2.2.2.2.2.2.2.2.2.2.2.2.2.2.2.1, hm.2.2.2.2.2.2.2.2.2.2.2.2.2.2.2.2.2.1, hm.2.2.2.2.2.2.2.2.2.2.2.2.2.2.2.2.2.2.1, hm.2.2.2.2.2.2.2.2.2.2.2.2.2.2.2.2.2.2.2.1, hm.2.2.2.2.2.2.2.2.2.2.2.2.2.2.2.2.2.2.2.2.1, hm.2.2.2.2.2.2.2.2.2.2.2.2.2.2.2.2.2.2.2.2.2.1, hm.2.2.2.2.2.2.2.2.2.2.2.2.2.2.2.2.2.2.2.2.2.2.1, hm.2.2.2.2.2.2.2.2.2.2.2.2.2.2.2.2.2.2.2.2.2.2.2.1, hm.2.2.2.2.2.2.2.2.2.2.2.2.2.2.2.2.2.2.2.2.2.2.2.2, hy, z0, q1, nI_2m, i4, ck, g4, q2]
            refine lo_mchk (j := 0) hm hS hk4 (by omega) rfl (fun z => ⟨-2, rfl, Or.inl ⟨z, rfl⟩, FrX.rf⟩) (fun z a6 => ?_) (2 * m) (by omega) (fun i hi => absurd hi (by omega))
            simp only [eX9_corners_106, eX9_corners_107, eX9_corners_109, eX9_corners_112, eX9_corners_113, cont_some, tl_some, tl_none, csum_nil, csum_i, csum_r, csum_j, isc2_i, isc2_r, isc2_n, va_rf_s, vfn_ite, true_and, and_true, true_or, or_true, eq_self, Bool.false_eq_true, not_false_eq_true, not_true_eq_false, if_true, if_false, Nat.reduceAdd, Nat.reduceLeDiff, reduceIte, hm.1, hm.2.1, hm.2.2.1, hm.2.2.2.1, hm.2.2.2.2.1, hm.2.2.2.2.2.1, hm.2.2.2.2.2.2.1, hm.2.2.2.2.2.2.2.1, hm.2.2.2.2.2.2.2.2.1, hm.2.2.2.2.2.2.2.2.2.1, hm.2.2.2.2.2.2.2.2.2.2.1, hm.2.2.2.2.2.2.2.2.2.2.2.1, hm.2.2.2.2.2.2.2.2.2.2.2.2.1, hm.2.2.2.2.2.2.2.2.2.2.2.2.2.1, hm.2.2.2.2.2.2.2.2.2.2.2.2.2.2.1, hm.2.2.2.2.2.2.2.2.2.2.2.2.2.2.2.1, hm.2.2.2.2.2.2.2.2.2.2.2.2.2.2.2.2.1, hm.2.2.2.2.2.2.2.2.2.2.2.2.2.2.2.2.2.1, hm.2.2.2.2.2.2.2.2.2.2.2.2.2.2.2.2.2.2.1, hm.2.2.2.2.2.2.2.2.2.2.2.2.2.2.2.2.2.2.2.1, hm.2.2.2.2.2.2.2.2.2.2.2.2.2.2.2.2.2.2.2.2.1, hm.2.2.2.2.2.2.2.2.2.2.2.2.2.2.2.2.2.2.2.2.2.1, hm.2.2.2.2.2.2.2.2.2.2.2.2.2.2.2.2.2.2.2.2.2.2.1, hm.2.2.2.2.2.2.2.2.2.2.2.2.2.2.2.2.2.2.2.2.2.2.2.1, hm.2.2.2.2.2.2.2.2.2.2.2.2.2.2.2.2.2.2.2.2.2.2.2.2]
            have hin := okB_in z
            obtain ⟨O, L, hu⟩ := hu_ex hin
            obtain ⟨l1, l2⟩ := hu.lt hin
            refine lo_mapp (j := 0) (w0 := w) hk4 (show p + 2 * m ≤ 24 by omega) (by omega) rfl (fun u a6 hmu hvu hF => ?_) m _ (by omega) hm0 (fun i hi => (hS.2 k hk4).2 i hi) (by rw [rdI_wrI, if_pos ⟨rfl, rfl⟩]) (fun i hi => absurd hi (by omega)) (FrX.rf.wrI (Or.inl ⟨rfl, Or.inl rfl⟩))
            obtain ⟨u2, k1, k2, k3, k4⟩ := m_round hin hu hmu hvu
            have hm2 := k4.md hmu
            simp only [eX9_corners_178, eX9_corners_179, eX9_corners_182, eX9_corners_183, eX9_corners_185, eX9_corners_186, cont_some, tl_some, tl_none, csum_nil, csum_i, csum_r, csum_j, isc2_i, isc2_r, isc2_n, va_rf_s, vfn_ite, true_and, and_true, true_or, or_true, eq_self, Bool.false_eq_true, not_false_eq_true, not_true_eq_false, if_true, if_false, Nat.reduceAdd, Nat.reduceLeDiff, reduceIte, hmu.1, hmu.2.1, hmu.2.2.1, hmu.2.2.2.1, hmu.2.2.2.2.1, hmu.2.2.2.2.2.1, hmu.2.2.2.2.2.2.1, hmu.2.2.2.2.2.2.2.1, hmu.2.2.2.2.2.2.2.2.1, hmu.2.2.2.2.2.2.2.2.2.1, hmu.2.2.2.2.2.2.2.2.2.2.1, hmu.2.2.2.2.2.2.2.2.2.2.2.1, hmu.2.2.2.2.2.2.2.2.2.2.2.2.1, hmu.2.2.2.2.2.2.2.2.2.2.2.2.2.1, hmu.2.2.2.2.2.2.2.2.2.2.2.2.2.2.1, hmu.2.2.2.2.2.2.2.2.2.2.2.2.2.2.2.1, hmu.2.2.2.2.2.2.2.2.2.2.2.2.2.2.2.2.1, hmu.2.2.2.2.2.2.2.2.2.2.2.2.2.2.2.2.2.1, hmu.2.2.2.2.2.2.2.2.2.2.2.2.2.2.2.2.2.2.1, hmu.2.2.2.2.2.2.2.2.2.2.2.2.2.2.2.2.2.2.2.1, hmu.2.2.2.2.2.2.2.2.2.2.2.2.2.2.2.2.2.2.2.2.1, hmu.2.2.2.2.2.2.2.2.2.2.2.2.2.2.2.2.2.2.2.2.2.1, hmu.2.2.2.2.2.2.2.2.2.2.2.2.2.2.2.2.2.2.2.2.2.2.1, hmu.2.2.2.2.2.2.2.2.2.2.2.2.2.2.2.2.2.2.2.2.2.2.2.1, hmu.2.2.2.2.2.2.2.2.2.2.2.2.2.2.2.2.2.2.2.2.2.2.2.2, k1]
            have fin_ := lo_mcset (a1 := some (.int (nI k))) (a2 := some (.int (nI l'))) (a3 := some (.int (nI p))) (a4 := some (.int (nI m))) (a5 := some (.int 0)) rfl hm2 k3 (by omega) L 0 0 (by omega)
            refine wp_mono fin_ ?_
            rintro r v ⟨rfl, rfl⟩
            exact ⟨_, rfl, Or.inr ⟨z, O, L, hu, rfl⟩, hF.tr k4⟩
          obtain ⟨r, u, h1, x, rfl, h2, h3⟩ := sem_wp (nL := 8) (as := [.ref o, .int (nI k), .int (nI l'), .int (nI p), .int (nI m)]) (Nat.le_of_ble_eq_true rfl) hh
          refine ⟨x, u, h1, Or.inr ⟨q, Or.inr ⟨hr0, ?_⟩⟩, h3⟩
          rw [ck, nI_clamp (show p < 2 ^ 31 by omega), nI_clamp (show m < 2 ^ 31 by omega)]
          exact h2
  · refine ⟨-1, w, ?_, Or.inl ⟨q, rfl⟩, FrX.rf⟩
    have m1 : (-1 : Int32) < 0 := by decide
    refine sem_eq (Nat.le_of_ble_eq_true rfl) ?_
    show wp mX9_corners 0 [some (.ref o), some (.int s), some (.int l), some (.int i), some (.int n), none, none, none] [] _ _
    simp only [eX9_corners_0, eX9_corners_2, eX9_corners_3, eX9_corners_4, eX9_corners_7, eX9_corners_10, eX9_corners_13, eX9_corners_14, eX9_corners_15, eX9_corners_16, eX9_corners_19, eX9_corners_22, eX9_corners_23, eX9_corners_25, eX9_corners_27, eX9_corners_30, eX9_corners_32, cont_some, tl_some, tl_none, csum_nil, csum_i, csum_r, csum_j, isc2_i, isc2_r, isc2_n, va_rf_s, vfn_ite, true_and, and_true, true_or, or_true, eq_self, Bool.false_eq_true, not_false_eq_true, not_true_eq_false, if_true, if_false, Nat.reduceAdd, Nat.reduceLeDiff, reduceIte, in110, b2i_0, q, m1]
