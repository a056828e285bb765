/-! corners of a row -/
def setF (O : Nat → Nat) : Nat → Nat → Int32 → Int32
  | 0, _, s => s
  | d + 1, k, s => setF O d (k + 1) (s ||| ((1 : Int32) <<< (nI (O k) &&& 31)))
theorem hu_set {n L L' : Nat} {U V : Nat → Int32} {O O' : Nat → Nat} (h : huL U V n O L) (h' : huL U V n O' L') : setF O L 0 0 = setF O' L' 0 0 := by
  rcases h with ⟨a1, rfl⟩ | ⟨f, a1, a2, rfl, a4⟩ <;> rcases h' with ⟨c1, rfl⟩ | ⟨f', c1, c2, rfl, c4⟩
  · rfl
  · have := c2.1; omega
  · have := a2.1; omega
  · have e : f = f' := Option.some.inj (a1.symm.trans c1)
    subst e
    have eL : L = L' := by
      rcases Nat.lt_trichotomy L L' with z | z | z
      · exact absurd a4.2.2.1 (c4.2.2.2 L a4.1 z)
      · exact z
      · exact absurd c4.2.2.1 (a4.2.2.2 L' c4.1 z)
    rw [eL]
def okB (D : Nat → Int64) (p m : Nat) : Prop := ∀ j, j < 2 * m → -15 ≤ D (p + j) ∧ D (p + j) ≤ 15
def uC (D : Nat → Int64) (p : Nat) : Nat → Int32 := fun j => (D (p + 2 * j)).toInt32
def vC (D : Nat → Int64) (p : Nat) : Nat → Int32 := fun j => (D (p + 2 * j + 1)).toInt32
theorem abs15J {x : Int64} (h : -15 ≤ x ∧ x ≤ 15) : x.toInt32.toInt.natAbs ≤ 15 := by
  have h1 := Int64.le_iff_toInt_le.mp h.1
  have h2 := Int64.le_iff_toInt_le.mp h.2
  have e1 : (-15 : Int64).toInt = -15 := by decide
  have e2 : (15 : Int64).toInt = 15 := by decide
  have e : x = jJ x.toInt := (Int64.ofInt_toInt x).symm
  rw [e, jJ_l2i, iI_toInt ⟨by omega, by omega⟩]
  omega
theorem okB_in {D : Nat → Int64} {p m : Nat} (h : okB D p m) : inZ m (uZ (uC D p)) (uZ (vC D p)) := fun i hi => ⟨abs15J (h (2 * i) (by omega)), abs15J (h (2 * i + 1) (by omega))⟩
def corR (D : Nat → Int64) (p m : Nat) (x : Int32) : Prop := (¬ okB D p m ∧ x = -2) ∨ (okB D p m ∧ ∃ O L, huL (uC D p) (vC D p) m O L ∧ x = setF O L 0 0)
def rCor (h : Sht) (s l i n x : Int32) : Prop := (¬ (1 ≤ n ∧ n ≤ 10) ∧ x = -1) ∨ ((1 ≤ n ∧ n ≤ 10) ∧ ((∃ y, refu h s l i (2 * n) y ∧ y ≠ 0 ∧ x = y) ∨ (refu h s l i (2 * n) 0 ∧ corR (h.2 s.toNatClampNeg) i.toNatClampNeg n.toNatClampNeg x)))
theorem rCor_fun {h : Sht} {s l i n x y : Int32} (p : rCor h s l i n x) (c : rCor h s l i n y) : x = y := by
  rcases p with ⟨n1, rfl⟩ | ⟨n1, p⟩ <;> rcases c with ⟨n2, rfl⟩ | ⟨n2, c⟩
  · rfl
  · exact absurd n2 n1
  · exact absurd n1 n2
  · rcases p with ⟨z, a1, a2, rfl⟩ | ⟨a1, a2⟩ <;> rcases c with ⟨z', c1, c2, rfl⟩ | ⟨c1, c2⟩
    · exact refu_fun a1 c1
    · exact absurd (refu_fun a1 c1) a2
    · exact absurd (refu_fun c1 a1) c2
    · rcases a2 with ⟨o1, rfl⟩ | ⟨o1, O, L, h1, rfl⟩ <;> rcases c2 with ⟨o2, rfl⟩ | ⟨o2, O', L', h2, rfl⟩
      · rfl
      · exact absurd o2 o1
      · exact absurd o1 o2
      · exact hu_set h1 h2
theorem one10 {n : Int32} : 1 ≤ n ∧ n ≤ 10 ↔ ∃ m, (1 ≤ m ∧ m ≤ 10) ∧ n = nI m := by
  constructor
  · rintro ⟨h1, h2⟩
    have : ¬ n < 0 := fun z => by
      have a1 := Int32.le_iff_toInt_le.mp h1
      have a2 := Int32.lt_iff_toInt_lt.mp z
      have e1 : (1 : Int32).toInt = 1 := by decide
      have e2 : (0 : Int32).toInt = 0 := by decide
      omega
    obtain ⟨j, hj, rfl⟩ := nI_of2 (M := 10) (n := 10) (by decide) this h2
    refine ⟨j, ⟨?_, hj⟩, rfl⟩
    have a1 := Int32.le_iff_toInt_le.mp h1
    rw [nI_T (by omega)] at a1
    have e1 : (1 : Int32).toInt = 1 := by decide
    omega
  · rintro ⟨m, ⟨h1, h2⟩, rfl⟩
    constructor
    · rw [Int32.le_iff_toInt_le, nI_T (by omega)]
      have e1 : (1 : Int32).toInt = 1 := by decide
      omega
    · rw [Int32.le_iff_toInt_le, nI_T (by omega)]
      have e1 : (10 : Int32).toInt = 10 := by decide
      omega
theorem lo_cset {w : Wd} {v L : Nat} {O : Nat → Nat} (h : isV w v) (hh : hIs w v L O) (h10 : L ≤ 10) : ∀ (d k : Nat) (s : Int32), k + d = L →
    wp mX6_cornerSet 4 [some (.ref v), some (.int s), some (.int (nI k))] [] w (fun q u => q = some (.int (setF O d k s)) ∧ u = w) := by
  intro d
  induction d with
  | zero =>
    intro k s hk
    have e : k = L := by omega
    subst e
    have l : ¬ nI k < nI k := Int32.lt_irrefl
    simp only [eX6_cornerSet_4, eX6_cornerSet_5, eX6_cornerSet_6, eX6_cornerSet_9, eX6_cornerSet_29, eX6_cornerSet_30, cont_some, tl_some, tl_none, csum_nil, csum_i, csum_r, csum_j, isc2_i, isc2_r, isc2_n, va_rf_s, vfn_ite, true_and, and_true, true_or, or_true, eq_self, Bool.false_eq_true, not_false_eq_true, not_true_eq_false, if_true, if_false, Nat.reduceAdd, Nat.reduceLeDiff, reduceIte, h.1, hh.1, l, setF]
  | succ d ih =>
    intro k s hk
    have l : nI k < nI L := nI_lt (by omega) (by omega)
    simp only [eX6_cornerSet_4, eX6_cornerSet_5, eX6_cornerSet_6, eX6_cornerSet_9, eX6_cornerSet_12, eX6_cornerSet_13, eX6_cornerSet_14, eX6_cornerSet_15, eX6_cornerSet_18, eX6_cornerSet_19, eX6_cornerSet_20, eX6_cornerSet_21, eX6_cornerSet_22, eX6_cornerSet_23, cont_some, tl_some, tl_none, csum_nil, csum_i, csum_r, csum_j, isc2_i, isc2_r, isc2_n, va_rf_s, vfn_ite, true_and, and_true, true_or, or_true, eq_self, Bool.false_eq_true, not_false_eq_true, not_true_eq_false, if_true, if_false, Nat.reduceAdd, Nat.reduceLeDiff, reduceIte, h.1, h.2.2.2.1, h.2.2.2.2.2.2, hh.1, l, inA_nI (show k < 10 by omega) (show 10 < 2147483648 by omega), nI_clamp (show k < 2 ^ 31 by omega), hh.2 k (by omega), nI_1]
    rw [eX6_cornerSet_26]
    exact ih (k + 1) _ (by omega)
theorem s_cset {w : Wd} {v L : Nat} {O : Nat → Nat} (h : isV w v) (hh : hIs w v L O) (h10 : L ≤ 10) : fX6_cornerSet [.ref v] w = some (some (.int (setF O L 0 0)), w) := by
  refine sem_eq (Nat.le_of_ble_eq_true rfl) ?_
  show wp mX6_cornerSet 0 [some (.ref v), none, none] [] _ _
  simp only [eX6_cornerSet_0, eX6_cornerSet_1, eX6_cornerSet_2, eX6_cornerSet_3, cont_some, tl_some, tl_none, csum_nil, csum_i, csum_r, csum_j, isc2_i, isc2_r, isc2_n, va_rf_s, vfn_ite, true_and, and_true, true_or, or_true, eq_self, Bool.false_eq_true, not_false_eq_true, not_true_eq_false, if_true, if_false, Nat.reduceAdd, Nat.reduceLeDiff, reduceIte]
  exact lo_cset h hh h10 L 0 0 (by omega)
/-- class: are all items within reach -/
theorem lo_cchk {w : Wd} {b k p m : Nat} {h : Sht} {a2 a5 : Option Value} {Q : Option Value → Wd → Prop} (hc : isCl w b) (hS : CS w (b + 44) h) (hk : k < 4) (hp : p + 2 * m ≤ 24) (h5 : isc2 (some a5) = false)
    (hN : ¬ okB (h.2 k) p m → Q (some (.int (-2))) w) (hY : okB (h.2 k) p m → ∀ a6 a7 a8, wp mX8_corners 92 [some (.ref b), some (.int (nI k)), a2, some (.int (nI p)), some (.int (nI m)), a5, some (.int a6), a7, a8] [] w Q) : ∀ (d j : Nat) (a7 a8 : Option Value), j + d = 2 * m → (∀ i, i < j → -15 ≤ h.2 k (p + i) ∧ h.2 k (p + i) ≤ 15) →
    wp mX8_corners 40 [some (.ref b), some (.int (nI k)), a2, some (.int (nI p)), some (.int (nI m)), a5, some (.int (nI (p + j))), a7, a8] [] w Q := by
  have hr := hS.1
  have m17 : 17 ∈ [14, 15, 16, 17] := by decide
  obtain ⟨g1, g2⟩ := hr.2.2.2.2.2.2.2 k hk
  intro d
  induction d with
  | zero =>
    intro j a7 a8 hj hok
    have e : j = 2 * m := by omega
    subst e
    have l : ¬ nI (p + 2 * m) < nI (p + 2 * m) := Int32.lt_irrefl
    simp only [eX8_corners_40, eX8_corners_42, eX8_corners_43, eX8_corners_44, eX8_corners_46, eX8_corners_47, eX8_corners_48, cont_some, tl_some, tl_none, csum_nil, csum_i, csum_r, csum_j, isc2_i, isc2_r, isc2_n, va_rf_s, vfn_ite, true_and, and_true, true_or, or_true, eq_self, Bool.false_eq_true, not_false_eq_true, not_true_eq_false, if_true, if_false, Nat.reduceAdd, Nat.reduceLeDiff, reduceIte, nI_2m, nI_a, l]
    exact hY (fun i hi => hok i hi) _ _ _
  | succ d ih =>
    intro j a7 a8 hj hok
    have l : nI (p + j) < nI (p + 2 * m) := nI_lt (by omega) (by omega)
    have hJ := (hS.2 k hk).2 (p + j) (by omega)
    simp only [eX8_corners_40, eX8_corners_42, eX8_corners_43, eX8_corners_44, eX8_corners_46, eX8_corners_47, eX8_corners_48, cont_some, tl_some, tl_none, csum_nil, csum_i, csum_r, csum_j, isc2_i, isc2_r, isc2_n, va_rf_s, vfn_ite, true_and, and_true, true_or, or_true, eq_self, Bool.false_eq_true, not_false_eq_true, not_true_eq_false, if_true, if_false, Nat.reduceAdd, Nat.reduceLeDiff, reduceIte, nI_2m, nI_a, l]
    simp only [eX8_corners_51, eX8_corners_52, eX8_corners_55, eX8_corners_58, eX8_corners_59, eX8_corners_60, eX8_corners_62, eX8_corners_63, eX8_corners_65, eX8_corners_67, eX8_corners_70, eX8_corners_71, cont_some, tl_some, tl_none, csum_nil, csum_i, csum_r, csum_j, isc2_i, isc2_r, isc2_n, va_rf_s, vfn_ite, true_and, and_true, true_or, or_true, eq_self, Bool.false_eq_true, not_false_eq_true, not_true_eq_false, if_true, if_false, Nat.reduceAdd, Nat.reduceLeDiff, reduceIte, hc.1, hc.2.1, hc.2.2.1, hc.2.2.2.1, hc.2.2.2.2.1, hc.2.2.2.2.2.1, hc.2.2.2.2.2.2.1, hc.2.2.2.2.2.2.2.1, hc.2.2.2.2.2.2.2.2.1, hc.2.2.2.2.2.2.2.2.2.1, hc.2.2.2.2.2.2.2.2.2.2, hr.1, hr.2.1, hr.2.2.2.2.1, inA_nI hk (show 4 < 2147483648 by omega), nI_clamp (show k < 2 ^ 31 by omega), m17, g1, g2, inA_nI (show p + j < 24 by omega) (show 24 < 2147483648 by omega), nI_clamp (show p + j < 2 ^ 31 by omega), hJ, lgc_lt, h5]
    by_cases q1 : h.2 k (p + j) < -15
    · rw [if_pos q1]
      simp only [eX8_corners_83, eX8_corners_85, cont_some, tl_some, tl_none, csum_nil, csum_i, csum_r, csum_j, isc2_i, isc2_r, isc2_n, va_rf_s, vfn_ite, true_and, and_true, true_or, or_true, eq_self, Bool.false_eq_true, not_false_eq_true, not_true_eq_false, if_true, if_false, Nat.reduceAdd, Nat.reduceLeDiff, reduceIte]
      exact hN (fun z => Int64.not_le.mpr q1 (z j (by omega)).1)
    · rw [if_neg q1]
      simp only [eX8_corners_74, eX8_corners_76, eX8_corners_79, eX8_corners_80, cont_some, tl_some, tl_none, csum_nil, csum_i, csum_r, csum_j, isc2_i, isc2_r, isc2_n, va_rf_s, vfn_ite, true_and, and_true, true_or, or_true, eq_self, Bool.false_eq_true, not_false_eq_true, not_true_eq_false, if_true, if_false, Nat.reduceAdd, Nat.reduceLeDiff, reduceIte, lgc_gt]
      by_cases q2 : 15 < h.2 k (p + j)
      · rw [if_pos q2]
        simp only [eX8_corners_83, eX8_corners_85, cont_some, tl_some, tl_none, csum_nil, csum_i, csum_r, csum_j, isc2_i, isc2_r, isc2_n, va_rf_s, vfn_ite, true_and, and_true, true_or, or_true, eq_self, Bool.false_eq_true, not_false_eq_true, not_true_eq_false, if_true, if_false, Nat.reduceAdd, Nat.reduceLeDiff, reduceIte]
        exact hN (fun z => Int64.not_le.mpr q2 (z j (by omega)).2)
      · rw [if_neg q2]
        simp only [eX8_corners_86, cont_some, tl_some, tl_none, csum_nil, csum_i, csum_r, csum_j, isc2_i, isc2_r, isc2_n, va_rf_s, vfn_ite, true_and, and_true, true_or, or_true, eq_self, Bool.false_eq_true, not_false_eq_true, not_true_eq_false, if_true, if_false, Nat.reduceAdd, Nat.reduceLeDiff, reduceIte, nI_1, h5]
        rw [eX8_corners_89]
        refine ih (j + 1) _ _ (by omega) (fun i hi => ?_)
        by_cases e : i = j
        · rw [e]; exact ⟨Int64.not_lt.mp q1, Int64.not_lt.mp q2⟩
        · exact hok i (by omega)
theorem lo_capp {w0 : Wd} {b k p m : Nat} {h : Sht} {a2 a5 a7 a8 : Option Value} {Q : Option Value → Wd → Prop} (hk : k < 4) (hp : p + 2 * m ≤ 24) (h10 : m ≤ 10) (h5 : isc2 (some a5) = false)
    (hQ : ∀ u a6, isCl u b → vIs u (b + 33) m (uC (h.2 k) p) (vC (h.2 k) p) → Fr (b + 33) (b + 36) w0 u → wp mX8_corners 154 [some (.ref b), some (.int (nI k)), a2, some (.int (nI p)), some (.int (nI m)), a5, some (.int a6), a7, a8] [] u Q) : ∀ (d j : Nat) (w : Wd), j + d = m → isCl w b → CS w (b + 44) h → vIs w (b + 33) j (uC (h.2 k) p) (vC (h.2 k) p) → Fr (b + 33) (b + 36) w0 w →
    wp mX8_corners 102 [some (.ref b), some (.int (nI k)), a2, some (.int (nI p)), some (.int (nI m)), a5, some (.int (nI (p + 2 * j))), a7, a8] [] w Q := by
  have m17 : 17 ∈ [14, 15, 16, 17] := by decide
  intro d
  induction d with
  | zero =>
    intro j w hj hc hS hv hF
    have e : j = m := by omega
    subst e
    have l : ¬ nI (p + 2 * j) < nI (p + 2 * j) := Int32.lt_irrefl
    simp only [eX8_corners_102, eX8_corners_104, eX8_corners_105, eX8_corners_106, eX8_corners_108, eX8_corners_109, eX8_corners_110, cont_some, tl_some, tl_none, csum_nil, csum_i, csum_r, csum_j, isc2_i, isc2_r, isc2_n, va_rf_s, vfn_ite, true_and, and_true, true_or, or_true, eq_self, Bool.false_eq_true, not_false_eq_true, not_true_eq_false, if_true, if_false, Nat.reduceAdd, Nat.reduceLeDiff, reduceIte, nI_2m, nI_a, l]
    exact hQ _ _ hc hv hF
  | succ d ih =>
    intro j w hj hc hS hv hF
    have hr := hS.1
    obtain ⟨g1, g2⟩ := hr.2.2.2.2.2.2.2 k hk
    have l : nI (p + 2 * j) < nI (p + 2 * m) := nI_lt (by omega) (by omega)
    have hJ := (hS.2 k hk).2 (p + 2 * j) (by omega)
    have hJ1 := (hS.2 k hk).2 (p + 2 * j + 1) (by omega)
    have ap := s_v_append (x := (h.2 k (p + 2 * j)).toInt32) (y := (h.2 k (p + 2 * j + 1)).toInt32) hv.1 hv.2.1 (by omega)
    have f : Fr (b + 33) (b + 36) w (apV w (b + 33) j (uC (h.2 k) p j) (vC (h.2 k) p j)) := apV_fr
    have go := ih (j + 1) _ (by omega) (hc.fr f (by omega)) (hS.fr f (by omega)) (apV_is hv (by omega)) (hF.tr f)
    simp only [eX8_corners_102, eX8_corners_104, eX8_corners_105, eX8_corners_106, eX8_corners_108, eX8_corners_109, eX8_corners_110, cont_some, tl_some, tl_none, csum_nil, csum_i, csum_r, csum_j, isc2_i, isc2_r, isc2_n, va_rf_s, vfn_ite, true_and, and_true, true_or, or_true, eq_self, Bool.false_eq_true, not_false_eq_true, not_true_eq_false, if_true, if_false, Nat.reduceAdd, Nat.reduceLeDiff, reduceIte, nI_2m, nI_a, l]
    simp only [eX8_corners_113, eX8_corners_114, eX8_corners_117, eX8_corners_118, eX8_corners_121, eX8_corners_124, eX8_corners_125, eX8_corners_126, eX8_corners_128, eX8_corners_129, eX8_corners_130, eX8_corners_131, eX8_corners_134, eX8_corners_137, eX8_corners_138, eX8_corners_139, eX8_corners_141, eX8_corners_142, eX8_corners_143, eX8_corners_144, eX8_corners_145, eX8_corners_148, cont_some, tl_some, tl_none, csum_nil, csum_i, csum_r, csum_j, isc2_i, isc2_r, isc2_n, va_rf_s, vfn_ite, true_and, and_true, true_or, or_true, eq_self, Bool.false_eq_true, not_false_eq_true, not_true_eq_false, if_true, if_false, Nat.reduceAdd, Nat.reduceLeDiff, reduceIte, hc.1, hc.2.1, hc.2.2.1, hc.2.2.2.1, hc.2.2.2.2.1, hc.2.2.2.2.2.1, hc.2.2.2.2.2.2.1, hc.2.2.2.2.2.2.2.1, hc.2.2.2.2.2.2.2.2.1, hc.2.2.2.2.2.2.2.2.2.1, hc.2.2.2.2.2.2.2.2.2.2, hv.1.1, hr.1, hr.2.1, hr.2.2.2.2.1, inA_nI hk (show 4 < 2147483648 by omega), nI_clamp (show k < 2 ^ 31 by omega), m17, g1, g2, inA_nI (show p + 2 * j < 24 by omega) (show 24 < 2147483648 by omega), nI_clamp (show p + 2 * j < 2 ^ 31 by omega), hJ, nI_1, inA_nI (show p + 2 * j + 1 < 24 by omega) (show 24 < 2147483648 by omega), nI_clamp (show p + 2 * j + 1 < 2 ^ 31 by omega), hJ1, ap, nI_p2, nI_a, h5]
    rw [eX8_corners_151]
    exact go
theorem c_corners {w : Wd} {b : Nat} {h : Sht} {s l i n : Int32} (hc : isCl w b) (hV : isV w (b + 33)) (hS : CS w (b + 44) h) : ∃ x u, fX8_corners [.ref b, .int s, .int l, .int i, .int n] w = some (some (.int x), u) ∧ rCor h s l i n x ∧ Fr (b + 33) (b + 37) w u ∧ isV u (b + 33) := by
  have hr := hS.1
  by_cases q : 1 ≤ n ∧ n ≤ 10
  · obtain ⟨y, hy, hrf⟩ := s_refusal (s := s) (l := l) (i := i) (n := 2 * n) hS
    by_cases y0 : y = 0
    · subst y0
      have hr0 := hrf
      obtain ⟨m, hm, rfl⟩ := one10.mp q
      rw [nI_2m] at hrf
      obtain ⟨k, p, l', len, hk, rfl, rfl, hi, rfl, hpl⟩ := refu_0 (by omega) hrf
      have g2 : len ≤ 24 := by
        have := (hS.2 k hk).1
        rw [hi] at this
        exact this.2.1
      have ck := nI_clamp (show k < 2 ^ 31 by omega)
      have cp := nI_clamp (show p < 2 ^ 31 by omega)
      have cm := nI_clamp (show m < 2 ^ 31 by omega)
      have hcl : fX6_clear [.ref (b + 33)] w = some (none, wrI w (b + 33) 3 0) := by
        refine sem_eq (Nat.le_of_ble_eq_true rfl) ?_
        show wp mX6_clear 0 [some (.ref (b + 33))] [] _ _
        simp only [eX6_clear_0, eX6_clear_1, eX6_clear_2, eX6_clear_5, cont_some, tl_some, tl_none, csum_nil, csum_i, csum_r, csum_j, isc2_i, isc2_r, isc2_n, va_rf_s, vfn_ite, true_and, and_true, true_or, or_true, eq_self, Bool.false_eq_true, not_false_eq_true, not_true_eq_false, if_true, if_false, Nat.reduceAdd, Nat.reduceLeDiff, reduceIte, hV.1]
      have f0 : Fr (b + 33) (b + 36) w (wrI w (b + 33) 3 0) := Fr.rf.wrI ⟨by omega, by omega⟩
      have hc0 := hc.fr f0 (by omega)
      have hh : wp mX8_corners 0 [some (.ref b), some (.int (nI k)), some (.int (nI l')), some (.int (nI p)), some (.int (nI m)), none, none, none, none] [] w (fun r u => ∃ x, r = some (.int x) ∧ corR (h.2 k) p m x ∧ Fr (b + 33) (b + 37) w u ∧ isV u (b + 33)) := by
        simp only [eX8_corners_0, eX8_corners_2, eX8_corners_3, eX8_corners_5, eX8_corners_8, eX8_corners_11, eX8_corners_12, eX8_corners_13, eX8_corners_14, eX8_corners_17, eX8_corners_18, eX8_corners_19, eX8_corners_20, eX8_corners_21, eX8_corners_23, eX8_corners_24, eX8_corners_27, eX8_corners_29, eX8_corners_31, eX8_corners_34, eX8_corners_36, eX8_corners_37, eX8_corners_38, cont_some, tl_some, tl_none, csum_nil, csum_i, csum_r, csum_j, isc2_i, isc2_r, isc2_n, va_rf_s, vfn_ite, true_and, and_true, true_or, or_true, eq_self, Bool.false_eq_true, not_false_eq_true, not_true_eq_false, if_true, if_false, Nat.reduceAdd, Nat.reduceLeDiff, reduceIte, s_isIn, b2i_0, q, and_self, hc.1, hc.2.1, hc.2.2.1, hc.2.2.2.1, hc.2.2.2.2.1, hc.2.2.2.2.2.1, hc.2.2.2.2.2.2.1, hc.2.2.2.2.2.2.2.1, hc.2.2.2.2.2.2.2.2.1, hc.2.2.2.2.2.2.2.2.2.1, hc.2.2.2.2.2.2.2.2.2.2, hr.1, hy]
        refine lo_cchk (j := 0) hc hS hk (by omega) rfl (fun z => ⟨-2, rfl, Or.inl ⟨z, rfl⟩, Fr.rf, hV⟩) (fun z a6 a7 a8 => ?_) (2 * m) _ _ (by omega) (fun i hi => absurd hi (by omega))
        simp only [eX8_corners_92, eX8_corners_93, eX8_corners_96, eX8_corners_99, eX8_corners_100, cont_some, tl_some, tl_none, csum_nil, csum_i, csum_r, csum_j, isc2_i, isc2_r, isc2_n, va_rf_s, vfn_ite, true_and, and_true, true_or, or_true, eq_self, Bool.false_eq_true, not_false_eq_true, not_true_eq_false, if_true, if_false, Nat.reduceAdd, Nat.reduceLeDiff, reduceIte, hc.1, hc.2.1, hc.2.2.1, hc.2.2.2.1, hc.2.2.2.2.1, hc.2.2.2.2.2.1, hc.2.2.2.2.2.2.1, hc.2.2.2.2.2.2.2.1, hc.2.2.2.2.2.2.2.2.1, hc.2.2.2.2.2.2.2.2.2.1, hc.2.2.2.2.2.2.2.2.2.2, hV.1, hcl]
        have hin := okB_in z
        obtain ⟨O, L, hu⟩ := hu_ex hin
        obtain ⟨l1, l2⟩ := hu.lt hin
        refine lo_capp (j := 0) (w0 := w) hk (show p + 2 * m ≤ 24 by omega) (by omega) rfl (fun u a6 hcu hvu hF => ?_) m _ (by omega) hc0 (hS.fr f0 (by omega)) ⟨hV, by rw [rdI_wrI, if_pos ⟨rfl, rfl⟩]; rfl, by omega, fun i hi => absurd hi (by omega)⟩ f0
        obtain ⟨u2, k1, k2, k3, k4⟩ := s_wrap hin hu hvu
        have hc2 := hcu.fr k4 (by omega)
        simp only [eX8_corners_154, eX8_corners_155, eX8_corners_158, cont_some, tl_some, tl_none, csum_nil, csum_i, csum_r, csum_j, isc2_i, isc2_r, isc2_n, va_rf_s, vfn_ite, true_and, and_true, true_or, or_true, eq_self, Bool.false_eq_true, not_false_eq_true, not_true_eq_false, if_true, if_false, Nat.reduceAdd, Nat.reduceLeDiff, reduceIte, hcu.1, hcu.2.1, hcu.2.2.1, hcu.2.2.2.1, hcu.2.2.2.2.1, hcu.2.2.2.2.2.1, hcu.2.2.2.2.2.2.1, hcu.2.2.2.2.2.2.2.1, hcu.2.2.2.2.2.2.2.2.1, hcu.2.2.2.2.2.2.2.2.2.1, hcu.2.2.2.2.2.2.2.2.2.2, hvu.1.1, k1]
        simp only [eX8_corners_161, eX8_corners_162, eX8_corners_165, eX8_corners_168, cont_some, tl_some, tl_none, csum_nil, csum_i, csum_r, csum_j, isc2_i, isc2_r, isc2_n, va_rf_s, vfn_ite, true_and, and_true, true_or, or_true, eq_self, Bool.false_eq_true, not_false_eq_true, not_true_eq_false, if_true, if_false, Nat.reduceAdd, Nat.reduceLeDiff, reduceIte, hc2.1, hc2.2.1, hc2.2.2.1, hc2.2.2.2.1, hc2.2.2.2.2.1, hc2.2.2.2.2.2.1, hc2.2.2.2.2.2.2.1, hc2.2.2.2.2.2.2.2.1, hc2.2.2.2.2.2.2.2.2.1, hc2.2.2.2.2.2.2.2.2.2.1, hc2.2.2.2.2.2.2.2.2.2.2, k2.1.1, s_cset k2.1 k3 (by omega)]
        exact ⟨_, rfl, Or.inr ⟨z, O, L, hu, rfl⟩, (hF.wide (by omega) (by omega)).tr (k4.wide (by omega) (by omega)), k2.1⟩
      obtain ⟨r, u, h1, x, rfl, h2, h3⟩ := sem_wp (nL := 9) (as := [.ref b, .int (nI k), .int (nI l'), .int (nI p), .int (nI m)]) (Nat.le_of_ble_eq_true rfl) hh
      refine ⟨x, u, h1, Or.inr ⟨q, Or.inr ⟨hr0, ?_⟩⟩, h3⟩
      rw [ck, cp, cm]
      exact h2
    · refine ⟨y, w, ?_, Or.inr ⟨q, Or.inl ⟨y, hrf, y0, rfl⟩⟩, Fr.rf, hV⟩
      refine sem_eq (Nat.le_of_ble_eq_true rfl) ?_
      show wp mX8_corners 0 [some (.ref b), some (.int s), some (.int l), some (.int i), some (.int n), none, none, none, none] [] _ _
      simp only [eX8_corners_0, eX8_corners_2, eX8_corners_3, eX8_corners_5, eX8_corners_8, eX8_corners_11, eX8_corners_12, eX8_corners_13, eX8_corners_14, eX8_corners_17, eX8_corners_18, eX8_corners_19, eX8_corners_20, eX8_corners_21, eX8_corners_23, eX8_corners_24, eX8_corners_27, eX8_corners_29, eX8_corners_31, eX8_corners_34, eX8_corners_36, cont_some, tl_some, tl_none, csum_nil, csum_i, csum_r, csum_j, isc2_i, isc2_r, isc2_n, va_rf_s, vfn_ite, true_and, and_true, true_or, or_true, eq_self, Bool.false_eq_true, not_false_eq_true, not_true_eq_false, if_true, if_false, Nat.reduceAdd, Nat.reduceLeDiff, reduceIte, s_isIn, b2i_0, q, and_self, hc.1, hc.2.1, hc.2.2.1, hc.2.2.2.1, hc.2.2.2.2.1, hc.2.2.2.2.2.1, hc.2.2.2.2.2.2.1, hc.2.2.2.2.2.2.2.1, hc.2.2.2.2.2.2.2.2.1, hc.2.2.2.2.2.2.2.2.2.1, hc.2.2.2.2.2.2.2.2.2.2, hr.1, hy, y0]
  · refine ⟨-1, w, ?_, Or.inl ⟨q, rfl⟩, Fr.rf, hV⟩
    refine sem_eq (Nat.le_of_ble_eq_true rfl) ?_
    show wp mX8_corners 0 [some (.ref b), some (.int s), some (.int l), some (.int i), some (.int n), none, none, none, none] [] _ _
    simp only [eX8_corners_0, eX8_corners_2, eX8_corners_3, eX8_corners_5, eX8_corners_8, eX8_corners_11, eX8_corners_12, cont_some, tl_some, tl_none, csum_nil, csum_i, csum_r, csum_j, isc2_i, isc2_r, isc2_n, va_rf_s, vfn_ite, true_and, and_true, true_or, or_true, eq_self, Bool.false_eq_true, not_false_eq_true, not_true_eq_false, if_true, if_false, Nat.reduceAdd, Nat.reduceLeDiff, reduceIte, s_isIn, b2i_0, q]
