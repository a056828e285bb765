/-! all ways of a set -/
abbrev prP (m p : Nat) : Prop := p / 10 < p % 10 ∧ bt m (p / 10) ∧ bt m (p % 10)
def vcP (j : Nat) (C : Nat → Int32) (p : Nat) : V3 := sb (qZ j C (p % 10)) (qZ j C (p / 10))
def c1 (v : V3) : V3 := (v.2.1, -v.1, 0)
def lnL (m : Nat) (f : Nat → V3) : Nat → Nat → List V3
  | 0, _ => []
  | e + 1, p => if prP m p then f p :: lnL m f e (p + 1) else lnL m f e (p + 1)
def twF (A : V3 → Int) (l : V3) : List V3 → Option V3 → Option V3
  | [], s => s
  | x :: r, s => twF A l r (stW A (cx l x) s)
def jd3 (A : V3 → Int) : List V3 → Option V3 → Option V3
  | [], s => s
  | l :: r, s => jd3 A r (twF A l r s)
def jd2 (A : V3 → Int) : List V3 → Option V3 → Option V3
  | [], s => s
  | l :: r, s => jd2 A r (stW A (c1 l) s)
def jdF (j : Nat) (A : V3 → Int) (L : List V3) (s : Option V3) : Option V3 := if j = 3 then jd3 A L s else jd2 A L s
section
variable {w : Wd} {o n j m : Nat} {C : Nat → Int32}
theorem dv10 {p : Nat} (h : p < 100) : nI p / 10 = nI (p / 10) := pk_div (d := 10) (by omega) (by omega) (by omega)
theorem md10 {p : Nat} (h : p < 100) : nI p - nI p / 10 * 10 = nI (p % 10) := pk_rem (d := 10) (by omega) (by omega) (by omega)
theorem md10' {p : Nat} (h : p < 100) : nI p - nI (p / 10) * 10 = nI (p % 10) := by rw [← dv10 h]; exact md10 h
theorem ten0 : ¬ (10 : Int32) = 0 := by decide
theorem m_isPair {p : Nat} (hmd : isMd w o) (hm : m < 2 ^ 31) (hp : p < 100) : fX9_isPair [.ref o, .int (nI m), .int (nI p)] w = some (some (.int (b2i (prP m p))), w) := by
  have l1 : nI (p / 10) < nI (p % 10) ↔ p / 10 < p % 10 := nI_ltj (by omega) (by omega)
  have b1 := bit_nI hm (show p / 10 < 10 by omega)
  have b2 := bit_nI hm (show p % 10 < 10 by omega)
  refine sem_eq (Nat.le_of_ble_eq_true rfl) ?_
  show wp mX9_isPair 0 [some (.ref o), some (.int (nI m)), some (.int (nI p))] [] _ _
  simp only [eX9_isPair_0, eX9_isPair_1, eX9_isPair_3, eX9_isPair_4, eX9_isPair_5, eX9_isPair_7, eX9_isPair_8, cont_some, tl_some, tl_none, csum_nil, csum_i, csum_r, csum_j, isc2_i, isc2_r, isc2_n, va_rf_s, vfn_ite, true_and, and_true, true_or, or_true, eq_self, Bool.false_eq_true, not_false_eq_true, not_true_eq_false, if_true, if_false, Nat.reduceAdd, Nat.reduceLeDiff, reduceIte, ten0, dv10 hp, md10' hp, l1]
  by_cases q1 : p / 10 < p % 10
  · rw [if_pos q1]
    simp only [eX9_isPair_11, eX9_isPair_12, eX9_isPair_13, eX9_isPair_15, eX9_isPair_16, eX9_isPair_17, eX9_isPair_18, eX9_isPair_19, eX9_isPair_20, cont_some, tl_some, tl_none, csum_nil, csum_i, csum_r, csum_j, isc2_i, isc2_r, isc2_n, va_rf_s, vfn_ite, true_and, and_true, true_or, or_true, eq_self, Bool.false_eq_true, not_false_eq_true, not_true_eq_false, if_true, if_false, Nat.reduceAdd, Nat.reduceLeDiff, reduceIte, ten0, dv10 hp, b1]
    by_cases q2 : bt m (p / 10)
    · rw [if_pos q2]
      simp only [eX9_isPair_23, eX9_isPair_24, eX9_isPair_25, eX9_isPair_27, eX9_isPair_28, eX9_isPair_29, eX9_isPair_30, eX9_isPair_31, eX9_isPair_32, cont_some, tl_some, tl_none, csum_nil, csum_i, csum_r, csum_j, isc2_i, isc2_r, isc2_n, va_rf_s, vfn_ite, true_and, and_true, true_or, or_true, eq_self, Bool.false_eq_true, not_false_eq_true, not_true_eq_false, if_true, if_false, Nat.reduceAdd, Nat.reduceLeDiff, reduceIte, ten0, dv10 hp, md10' hp, b2]
      by_cases q3 : bt m (p % 10)
      · rw [if_pos q3, b2i_t ⟨q1, q2, q3⟩]
        simp only [eX9_isPair_35, eX9_isPair_36, eX9_isPair_39, eX9_isPair_40, cont_some, tl_some, tl_none, csum_nil, csum_i, csum_r, csum_j, isc2_i, isc2_r, isc2_n, va_rf_s, vfn_ite, true_and, and_true, true_or, or_true, eq_self, Bool.false_eq_true, not_false_eq_true, not_true_eq_false, if_true, if_false, Nat.reduceAdd, Nat.reduceLeDiff, reduceIte]
      · rw [if_neg q3, b2i_f (fun z => q3 z.2.2)]
        simp only [eX9_isPair_39, eX9_isPair_40, cont_some, tl_some, tl_none, csum_nil, csum_i, csum_r, csum_j, isc2_i, isc2_r, isc2_n, va_rf_s, vfn_ite, true_and, and_true, true_or, or_true, eq_self, Bool.false_eq_true, not_false_eq_true, not_true_eq_false, if_true, if_false, Nat.reduceAdd, Nat.reduceLeDiff, reduceIte]
    · rw [if_neg q2]
      simp only [eX9_isPair_39, eX9_isPair_40, cont_some, tl_some, tl_none, csum_nil, csum_i, csum_r, csum_j, isc2_i, isc2_r, isc2_n, va_rf_s, vfn_ite, true_and, and_true, true_or, or_true, eq_self, Bool.false_eq_true, not_false_eq_true, not_true_eq_false, if_true, if_false, Nat.reduceAdd, Nat.reduceLeDiff, reduceIte]
      rw [b2i_f (fun z => q2 z.2.1)]
  · rw [if_neg q1]
    simp only [eX9_isPair_39, eX9_isPair_40, cont_some, tl_some, tl_none, csum_nil, csum_i, csum_r, csum_j, isc2_i, isc2_r, isc2_n, va_rf_s, vfn_ite, true_and, and_true, true_or, or_true, eq_self, Bool.false_eq_true, not_false_eq_true, not_true_eq_false, if_true, if_false, Nat.reduceAdd, Nat.reduceLeDiff, reduceIte]
    rw [b2i_f (fun z => q1 z.1)]
theorem m_ap0 {p : Nat} (h : MB w o n C) (hp : p < 100) (h1 : p % 10 < n) (h2 : p / 10 < n) (hj : j < 4) : fX9_apart [.ref o, .int (nI j), .int (nI p), .int 0] w = some (some (.int (iI (vcP j C p).1)), w) := by
  have hm := h.1
  refine sem_eq (Nat.le_of_ble_eq_true rfl) ?_
  show wp mX9_apart 0 [some (.ref o), some (.int (nI j)), some (.int (nI p)), some (.int 0)] [] _ _
  simp only [eX9_apart_0, eX9_apart_1, eX9_apart_2, eX9_apart_3, eX9_apart_5, eX9_apart_6, eX9_apart_7, eX9_apart_10, eX9_apart_11, eX9_apart_12, eX9_apart_13, eX9_apart_15, eX9_apart_16, eX9_apart_17, eX9_apart_20, eX9_apart_21, cont_some, tl_some, tl_none, csum_nil, csum_i, csum_r, csum_j, isc2_i, isc2_r, isc2_n, va_rf_s, vfn_ite, true_and, and_true, true_or, or_true, eq_self, Bool.false_eq_true, not_false_eq_true, not_true_eq_false, if_true, if_false, Nat.reduceAdd, Nat.reduceLeDiff, reduceIte, ten0, dv10 hp, md10' hp, hm.1, hm.2.1, hm.2.2.1, hm.2.2.2.1, hm.2.2.2.2.1, hm.2.2.2.2.2.1, hm.2.2.2.2.2.2.1, hm.2.2.2.2.2.2.2.1, hm.2.2.2.2.2.2.2.2.1, hm.2.2.2.2.2.2.2.2.2.1, hm.2.2.2.2.2.2.2.2.2.2.1, hm.2.2.2.2.2.2.2.2.2.2.2.1, hm.2.2.2.2.2.2.2.2.2.2.2.2.1, hm.2.2.2.2.2.2.2.2.2.2.2.2.2.1, hm.2.2.2.2.2.2.2.2.2.2.2.2.2.2.1, hm.2.2.2.2.2.2.2.2.2.2.2.2.2.2.2.1, hm.2.2.2.2.2.2.2.2.2.2.2.2.2.2.2.2.1, hm.2.2.2.2.2.2.2.2.2.2.2.2.2.2.2.2.2.1, hm.2.2.2.2.2.2.2.2.2.2.2.2.2.2.2.2.2.2.1, hm.2.2.2.2.2.2.2.2.2.2.2.2.2.2.2.2.2.2.2.1, hm.2.2.2.2.2.2.2.2.2.2.2.2.2.2.2.2.2.2.2.2.1, hm.2.2.2.2.2.2.2.2.2.2.2.2.2.2.2.2.2.2.2.2.2.1, hm.2.2.2.2.2.2.2.2.2.2.2.2.2.2.2.2.2.2.2.2.2.2.1, hm.2.2.2.2.2.2.2.2.2.2.2.2.2.2.2.2.2.2.2.2.2.2.2.1, hm.2.2.2.2.2.2.2.2.2.2.2.2.2.2.2.2.2.2.2.2.2.2.2.2, m_see0 h h1 hj, m_see0 h h2 hj, iI_sub]
  rfl
theorem m_ap1 {p : Nat} (h : MB w o n C) (hp : p < 100) (h1 : p % 10 < n) (h2 : p / 10 < n) (hj : j < 4) : fX9_apart [.ref o, .int (nI j), .int (nI p), .int 1] w = some (some (.int (iI (vcP j C p).2.1)), w) := by
  have hm := h.1
  refine sem_eq (Nat.le_of_ble_eq_true rfl) ?_
  show wp mX9_apart 0 [some (.ref o), some (.int (nI j)), some (.int (nI p)), some (.int 1)] [] _ _
  simp only [eX9_apart_0, eX9_apart_1, eX9_apart_2, eX9_apart_3, eX9_apart_5, eX9_apart_6, eX9_apart_7, eX9_apart_10, eX9_apart_11, eX9_apart_12, eX9_apart_13, eX9_apart_15, eX9_apart_16, eX9_apart_17, eX9_apart_20, eX9_apart_21, cont_some, tl_some, tl_none, csum_nil, csum_i, csum_r, csum_j, isc2_i, isc2_r, isc2_n, va_rf_s, vfn_ite, true_and, and_true, true_or, or_true, eq_self, Bool.false_eq_true, not_false_eq_true, not_true_eq_false, if_true, if_false, Nat.reduceAdd, Nat.reduceLeDiff, reduceIte, ten0, dv10 hp, md10' hp, hm.1, hm.2.1, hm.2.2.1, hm.2.2.2.1, hm.2.2.2.2.1, hm.2.2.2.2.2.1, hm.2.2.2.2.2.2.1, hm.2.2.2.2.2.2.2.1, hm.2.2.2.2.2.2.2.2.1, hm.2.2.2.2.2.2.2.2.2.1, hm.2.2.2.2.2.2.2.2.2.2.1, hm.2.2.2.2.2.2.2.2.2.2.2.1, hm.2.2.2.2.2.2.2.2.2.2.2.2.1, hm.2.2.2.2.2.2.2.2.2.2.2.2.2.1, hm.2.2.2.2.2.2.2.2.2.2.2.2.2.2.1, hm.2.2.2.2.2.2.2.2.2.2.2.2.2.2.2.1, hm.2.2.2.2.2.2.2.2.2.2.2.2.2.2.2.2.1, hm.2.2.2.2.2.2.2.2.2.2.2.2.2.2.2.2.2.1, hm.2.2.2.2.2.2.2.2.2.2.2.2.2.2.2.2.2.2.1, hm.2.2.2.2.2.2.2.2.2.2.2.2.2.2.2.2.2.2.2.1, hm.2.2.2.2.2.2.2.2.2.2.2.2.2.2.2.2.2.2.2.2.1, hm.2.2.2.2.2.2.2.2.2.2.2.2.2.2.2.2.2.2.2.2.2.1, hm.2.2.2.2.2.2.2.2.2.2.2.2.2.2.2.2.2.2.2.2.2.2.1, hm.2.2.2.2.2.2.2.2.2.2.2.2.2.2.2.2.2.2.2.2.2.2.2.1, hm.2.2.2.2.2.2.2.2.2.2.2.2.2.2.2.2.2.2.2.2.2.2.2.2, m_see1 h h1 hj, m_see1 h h2 hj, iI_sub]
  rfl
theorem m_ap2 {p : Nat} (h : MB w o n C) (hp : p < 100) (h1 : p % 10 < n) (h2 : p / 10 < n) (hj : j < 4) : fX9_apart [.ref o, .int (nI j), .int (nI p), .int 2] w = some (some (.int (iI (vcP j C p).2.2)), w) := by
  have hm := h.1
  refine sem_eq (Nat.le_of_ble_eq_true rfl) ?_
  show wp mX9_apart 0 [some (.ref o), some (.int (nI j)), some (.int (nI p)), some (.int 2)] [] _ _
  simp only [eX9_apart_0, eX9_apart_1, eX9_apart_2, eX9_apart_3, eX9_apart_5, eX9_apart_6, eX9_apart_7, eX9_apart_10, eX9_apart_11, eX9_apart_12, eX9_apart_13, eX9_apart_15, eX9_apart_16, eX9_apart_17, eX9_apart_20, eX9_apart_21, cont_some, tl_some, tl_none, csum_nil, csum_i, csum_r, csum_j, isc2_i, isc2_r, isc2_n, va_rf_s, vfn_ite, true_and, and_true, true_or, or_true, eq_self, Bool.false_eq_true, not_false_eq_true, not_true_eq_false, if_true, if_false, Nat.reduceAdd, Nat.reduceLeDiff, reduceIte, ten0, dv10 hp, md10' hp, hm.1, hm.2.1, hm.2.2.1, hm.2.2.2.1, hm.2.2.2.2.1, hm.2.2.2.2.2.1, hm.2.2.2.2.2.2.1, hm.2.2.2.2.2.2.2.1, hm.2.2.2.2.2.2.2.2.1, hm.2.2.2.2.2.2.2.2.2.1, hm.2.2.2.2.2.2.2.2.2.2.1, hm.2.2.2.2.2.2.2.2.2.2.2.1, hm.2.2.2.2.2.2.2.2.2.2.2.2.1, hm.2.2.2.2.2.2.2.2.2.2.2.2.2.1, hm.2.2.2.2.2.2.2.2.2.2.2.2.2.2.1, hm.2.2.2.2.2.2.2.2.2.2.2.2.2.2.2.1, hm.2.2.2.2.2.2.2.2.2.2.2.2.2.2.2.2.1, hm.2.2.2.2.2.2.2.2.2.2.2.2.2.2.2.2.2.1, hm.2.2.2.2.2.2.2.2.2.2.2.2.2.2.2.2.2.2.1, hm.2.2.2.2.2.2.2.2.2.2.2.2.2.2.2.2.2.2.2.1, hm.2.2.2.2.2.2.2.2.2.2.2.2.2.2.2.2.2.2.2.2.1, hm.2.2.2.2.2.2.2.2.2.2.2.2.2.2.2.2.2.2.2.2.2.1, hm.2.2.2.2.2.2.2.2.2.2.2.2.2.2.2.2.2.2.2.2.2.2.1, hm.2.2.2.2.2.2.2.2.2.2.2.2.2.2.2.2.2.2.2.2.2.2.2.1, hm.2.2.2.2.2.2.2.2.2.2.2.2.2.2.2.2.2.2.2.2.2.2.2.2, m_see2 h h1 hj, m_see2 h h2 hj, iI_sub]
  rfl
theorem vc_in {p : Nat} (hb : bdC n C) (h1 : p % 10 < n) (h2 : p / 10 < n) : in3 30 (vcP j C p) := in3_sb (q_in hb h1) (q_in hb h2)
theorem c1_in {v : V3} (h : in3 30 v) : in3 1800 (c1 v) := by
  unfold in3 c1 at *
  simp only
  omega
theorem m_triesTwo {p q : Nat} {s : Option V3} (h : MB w o n C) (hb : bdC n C) (hm : m < 2 ^ 31) (hp : p < 100) (h1 : p % 10 < n) (h2 : p / 10 < n) (hq : q < 100) (h3 : q % 10 < n) (h4 : q / 10 < n) (hs : mjI w o (wdA n m (qZ 3 C)) s) : ∃ u, fX9_triesTwo [.ref o, .int (nI m), .int (nI p), .int (nI q)] w = some (none, u) ∧ mjI u o (wdA n m (qZ 3 C)) (stW (wdA n m (qZ 3 C)) (cx (vcP 3 C p) (vcP 3 C q)) s) ∧ FrX (Xj o) w u := by
  have hmd := h.1
  have ht : in3 1800 (cx (vcP 3 C p) (vcP 3 C q)) := in3_cx (vc_in hb h1 h2) (vc_in hb h3 h4)
  obtain ⟨u, g1, g2, g3⟩ := m_tries h hb (by omega) ht hm hs
  refine ⟨u, ?_, g2, g3⟩
  simp only [cx] at g1
  have a0 := m_ap0 h hp h1 h2 (show 3 < 4 by omega)
  have a1 := m_ap1 h hp h1 h2 (show 3 < 4 by omega)
  have a2 := m_ap2 h hp h1 h2 (show 3 < 4 by omega)
  have b0 := m_ap0 h hq h3 h4 (show 3 < 4 by omega)
  have b1 := m_ap1 h hq h3 h4 (show 3 < 4 by omega)
  have b2 := m_ap2 h hq h3 h4 (show 3 < 4 by omega)
  rw [nI3] at a0 a1 a2 b0 b1 b2 g1
  refine sem_eq (Nat.le_of_ble_eq_true rfl) ?_
  show wp mX9_triesTwo 0 [some (.ref o), some (.int (nI m)), some (.int (nI p)), some (.int (nI q)), none, none, none, none, none, none] [] _ _
  simp only [eX9_triesTwo_0, eX9_triesTwo_1, eX9_triesTwo_2, eX9_triesTwo_3, eX9_triesTwo_4, eX9_triesTwo_7, eX9_triesTwo_9, eX9_triesTwo_10, eX9_triesTwo_11, eX9_triesTwo_12, eX9_triesTwo_13, eX9_triesTwo_16, eX9_triesTwo_18, eX9_triesTwo_19, eX9_triesTwo_20, eX9_triesTwo_21, eX9_triesTwo_22, eX9_triesTwo_25, eX9_triesTwo_27, eX9_triesTwo_28, eX9_triesTwo_29, eX9_triesTwo_30, eX9_triesTwo_31, eX9_triesTwo_34, eX9_triesTwo_36, eX9_triesTwo_37, eX9_triesTwo_38, eX9_triesTwo_39, eX9_triesTwo_40, eX9_triesTwo_43, eX9_triesTwo_45, eX9_triesTwo_46, eX9_triesTwo_47, eX9_triesTwo_48, eX9_triesTwo_49, eX9_triesTwo_52, eX9_triesTwo_54, eX9_triesTwo_55, eX9_triesTwo_56, eX9_triesTwo_57, eX9_triesTwo_59, eX9_triesTwo_61, eX9_triesTwo_62, eX9_triesTwo_64, eX9_triesTwo_66, eX9_triesTwo_67, eX9_triesTwo_68, eX9_triesTwo_70, eX9_triesTwo_72, eX9_triesTwo_73, eX9_triesTwo_75, eX9_triesTwo_77, eX9_triesTwo_78, eX9_triesTwo_79, eX9_triesTwo_81, eX9_triesTwo_83, eX9_triesTwo_84, eX9_triesTwo_86, eX9_triesTwo_88, eX9_triesTwo_89, eX9_triesTwo_90, eX9_triesTwo_93, cont_some, tl_some, tl_none, csum_nil, csum_i, csum_r, csum_j, isc2_i, isc2_r, isc2_n, va_rf_s, vfn_ite, true_and, and_true, true_or, or_true, eq_self, Bool.false_eq_true, not_false_eq_true, not_true_eq_false, if_true, if_false, Nat.reduceAdd, Nat.reduceLeDiff, reduceIte, hmd.1, hmd.2.1, hmd.2.2.1, hmd.2.2.2.1, hmd.2.2.2.2.1, hmd.2.2.2.2.2.1, hmd.2.2.2.2.2.2.1, hmd.2.2.2.2.2.2.2.1, hmd.2.2.2.2.2.2.2.2.1, hmd.2.2.2.2.2.2.2.2.2.1, hmd.2.2.2.2.2.2.2.2.2.2.1, hmd.2.2.2.2.2.2.2.2.2.2.2.1, hmd.2.2.2.2.2.2.2.2.2.2.2.2.1, hmd.2.2.2.2.2.2.2.2.2.2.2.2.2.1, hmd.2.2.2.2.2.2.2.2.2.2.2.2.2.2.1, hmd.2.2.2.2.2.2.2.2.2.2.2.2.2.2.2.1, hmd.2.2.2.2.2.2.2.2.2.2.2.2.2.2.2.2.1, hmd.2.2.2.2.2.2.2.2.2.2.2.2.2.2.2.2.2.1, hmd.2.2.2.2.2.2.2.2.2.2.2.2.2.2.2.2.2.2.1, hmd.2.2.2.2.2.2.2.2.2.2.2.2.2.2.2.2.2.2.2.1, hmd.2.2.2.2.2.2.2.2.2.2.2.2.2.2.2.2.2.2.2.2.1, hmd.2.2.2.2.2.2.2.2.2.2.2.2.2.2.2.2.2.2.2.2.2.1, hmd.2.2.2.2.2.2.2.2.2.2.2.2.2.2.2.2.2.2.2.2.2.2.1, hmd.2.2.2.2.2.2.2.2.2.2.2.2.2.2.2.2.2.2.2.2.2.2.2.1, hmd.2.2.2.2.2.2.2.2.2.2.2.2.2.2.2.2.2.2.2.2.2.2.2.2, a0, a1, a2, b0, b1, b2, iI_mul, iI_sub, g1]
end
theorem lo_jin {o n m p : Nat} {C : Nat → Int32} {w0 : Wd} {Q : Option Value → Wd → Prop} (hb : bdC n C) (hm : m < 2 ^ 31) (hmn : ∀ i, i < 10 → bt m i → i < n) (hp : p < 100) (hpp : prP m p) : ∀ (e q : Nat) (w : Wd) (s : Option V3), q + e = 100 → MB w o n C → mjI w o (wdA n m (qZ 3 C)) s → FrX (Xj o) w0 w →
    (∀ u, mjI u o (wdA n m (qZ 3 C)) (twF (wdA n m (qZ 3 C)) (vcP 3 C p) (lnL m (vcP 3 C) e q) s) → FrX (Xj o) w0 u → MB u o n C → wp mX9_judges 109 [some (.ref o), some (.int (nI 3)), some (.int (nI m)), some (.int (nI p)), some (.int (nI 100))] [] u Q) →
    wp mX9_judges 64 [some (.ref o), some (.int (nI 3)), some (.int (nI m)), some (.int (nI p)), some (.int (nI q))] [] w Q := by
  have p1 := hmn _ (by omega) hpp.2.1
  have p2 := hmn _ (by omega) hpp.2.2
  intro e
  induction e with
  | zero =>
    intro q w s hq h hs hF hQ
    have e : q = 100 := by omega
    subst e
    have l : ¬ nI 100 < 100 := by decide
    simp only [eX9_judges_64, eX9_judges_66, eX9_judges_68, cont_some, tl_some, tl_none, csum_nil, csum_i, csum_r, csum_j, isc2_i, isc2_r, isc2_n, va_rf_s, vfn_ite, true_and, and_true, true_or, or_true, eq_self, Bool.false_eq_true, not_false_eq_true, not_true_eq_false, if_true, if_false, Nat.reduceAdd, Nat.reduceLeDiff, reduceIte, l]
    exact hQ w hs hF h
  | succ e ih =>
    intro q w s hq h hs hF hQ
    have hmd := h.1
    have l : nI q < 100 := nI_lt (b := 100) (by omega) (by omega)
    have e1 := m_isPair (m := m) hmd hm hp
    have e2 := m_isPair (m := m) hmd hm (show q < 100 by omega)
    simp only [eX9_judges_64, eX9_judges_66, eX9_judges_68, eX9_judges_71, eX9_judges_72, eX9_judges_73, eX9_judges_76, eX9_judges_77, eX9_judges_78, eX9_judges_79, eX9_judges_82, cont_some, tl_some, tl_none, csum_nil, csum_i, csum_r, csum_j, isc2_i, isc2_r, isc2_n, va_rf_s, vfn_ite, true_and, and_true, true_or, or_true, eq_self, Bool.false_eq_true, not_false_eq_true, not_true_eq_false, if_true, if_false, Nat.reduceAdd, Nat.reduceLeDiff, reduceIte, l, nI3, hmd.1, hmd.2.1, hmd.2.2.1, hmd.2.2.2.1, hmd.2.2.2.2.1, hmd.2.2.2.2.2.1, hmd.2.2.2.2.2.2.1, hmd.2.2.2.2.2.2.2.1, hmd.2.2.2.2.2.2.2.2.1, hmd.2.2.2.2.2.2.2.2.2.1, hmd.2.2.2.2.2.2.2.2.2.2.1, hmd.2.2.2.2.2.2.2.2.2.2.2.1, hmd.2.2.2.2.2.2.2.2.2.2.2.2.1, hmd.2.2.2.2.2.2.2.2.2.2.2.2.2.1, hmd.2.2.2.2.2.2.2.2.2.2.2.2.2.2.1, hmd.2.2.2.2.2.2.2.2.2.2.2.2.2.2.2.1, hmd.2.2.2.2.2.2.2.2.2.2.2.2.2.2.2.2.1, hmd.2.2.2.2.2.2.2.2.2.2.2.2.2.2.2.2.2.1, hmd.2.2.2.2.2.2.2.2.2.2.2.2.2.2.2.2.2.2.1, hmd.2.2.2.2.2.2.2.2.2.2.2.2.2.2.2.2.2.2.2.1, hmd.2.2.2.2.2.2.2.2.2.2.2.2.2.2.2.2.2.2.2.2.1, hmd.2.2.2.2.2.2.2.2.2.2.2.2.2.2.2.2.2.2.2.2.2.1, hmd.2.2.2.2.2.2.2.2.2.2.2.2.2.2.2.2.2.2.2.2.2.2.1, hmd.2.2.2.2.2.2.2.2.2.2.2.2.2.2.2.2.2.2.2.2.2.2.2.1, hmd.2.2.2.2.2.2.2.2.2.2.2.2.2.2.2.2.2.2.2.2.2.2.2.2, e1, b2i_0]
    rw [if_neg (fun y => y hpp)]
    simp only [eX9_judges_85, eX9_judges_86, eX9_judges_87, eX9_judges_89, eX9_judges_92, cont_some, tl_some, tl_none, csum_nil, csum_i, csum_r, csum_j, isc2_i, isc2_r, isc2_n, va_rf_s, vfn_ite, true_and, and_true, true_or, or_true, eq_self, Bool.false_eq_true, not_false_eq_true, not_true_eq_false, if_true, if_false, Nat.reduceAdd, Nat.reduceLeDiff, reduceIte, hmd.1, hmd.2.1, hmd.2.2.1, hmd.2.2.2.1, hmd.2.2.2.2.1, hmd.2.2.2.2.2.1, hmd.2.2.2.2.2.2.1, hmd.2.2.2.2.2.2.2.1, hmd.2.2.2.2.2.2.2.2.1, hmd.2.2.2.2.2.2.2.2.2.1, hmd.2.2.2.2.2.2.2.2.2.2.1, hmd.2.2.2.2.2.2.2.2.2.2.2.1, hmd.2.2.2.2.2.2.2.2.2.2.2.2.1, hmd.2.2.2.2.2.2.2.2.2.2.2.2.2.1, hmd.2.2.2.2.2.2.2.2.2.2.2.2.2.2.1, hmd.2.2.2.2.2.2.2.2.2.2.2.2.2.2.2.1, hmd.2.2.2.2.2.2.2.2.2.2.2.2.2.2.2.2.1, hmd.2.2.2.2.2.2.2.2.2.2.2.2.2.2.2.2.2.1, hmd.2.2.2.2.2.2.2.2.2.2.2.2.2.2.2.2.2.2.1, hmd.2.2.2.2.2.2.2.2.2.2.2.2.2.2.2.2.2.2.2.1, hmd.2.2.2.2.2.2.2.2.2.2.2.2.2.2.2.2.2.2.2.2.1, hmd.2.2.2.2.2.2.2.2.2.2.2.2.2.2.2.2.2.2.2.2.2.1, hmd.2.2.2.2.2.2.2.2.2.2.2.2.2.2.2.2.2.2.2.2.2.2.1, hmd.2.2.2.2.2.2.2.2.2.2.2.2.2.2.2.2.2.2.2.2.2.2.2.1, hmd.2.2.2.2.2.2.2.2.2.2.2.2.2.2.2.2.2.2.2.2.2.2.2.2, e2, b2i_0]
    by_cases z : prP m q
    · have z1 := hmn _ (by omega) z.2.1
      have z2 := hmn _ (by omega) z.2.2
      obtain ⟨u, g1, g2, g3⟩ := m_triesTwo h hb hm hp p2 p1 (show q < 100 by omega) z2 z1 hs
      have el : lnL m (vcP 3 C) (e + 1) q = vcP 3 C q :: lnL m (vcP 3 C) e (q + 1) := if_pos z
      rw [el] at hQ
      rw [if_neg (fun y => y z)]
      simp only [eX9_judges_95, eX9_judges_96, eX9_judges_97, eX9_judges_98, eX9_judges_100, eX9_judges_103, cont_some, tl_some, tl_none, csum_nil, csum_i, csum_r, csum_j, isc2_i, isc2_r, isc2_n, va_rf_s, vfn_ite, true_and, and_true, true_or, or_true, eq_self, Bool.false_eq_true, not_false_eq_true, not_true_eq_false, if_true, if_false, Nat.reduceAdd, Nat.reduceLeDiff, reduceIte, hmd.1, hmd.2.1, hmd.2.2.1, hmd.2.2.2.1, hmd.2.2.2.2.1, hmd.2.2.2.2.2.1, hmd.2.2.2.2.2.2.1, hmd.2.2.2.2.2.2.2.1, hmd.2.2.2.2.2.2.2.2.1, hmd.2.2.2.2.2.2.2.2.2.1, hmd.2.2.2.2.2.2.2.2.2.2.1, hmd.2.2.2.2.2.2.2.2.2.2.2.1, hmd.2.2.2.2.2.2.2.2.2.2.2.2.1, hmd.2.2.2.2.2.2.2.2.2.2.2.2.2.1, hmd.2.2.2.2.2.2.2.2.2.2.2.2.2.2.1, hmd.2.2.2.2.2.2.2.2.2.2.2.2.2.2.2.1, hmd.2.2.2.2.2.2.2.2.2.2.2.2.2.2.2.2.1, hmd.2.2.2.2.2.2.2.2.2.2.2.2.2.2.2.2.2.1, hmd.2.2.2.2.2.2.2.2.2.2.2.2.2.2.2.2.2.2.1, hmd.2.2.2.2.2.2.2.2.2.2.2.2.2.2.2.2.2.2.2.1, hmd.2.2.2.2.2.2.2.2.2.2.2.2.2.2.2.2.2.2.2.2.1, hmd.2.2.2.2.2.2.2.2.2.2.2.2.2.2.2.2.2.2.2.2.2.1, hmd.2.2.2.2.2.2.2.2.2.2.2.2.2.2.2.2.2.2.2.2.2.2.1, hmd.2.2.2.2.2.2.2.2.2.2.2.2.2.2.2.2.2.2.2.2.2.2.2.1, hmd.2.2.2.2.2.2.2.2.2.2.2.2.2.2.2.2.2.2.2.2.2.2.2.2, g1, nI_1]
      rw [eX9_judges_106]
      exact ih (q + 1) u _ (by omega) (h.frX g3) g2 (hF.tr g3) hQ
    · have el : lnL m (vcP 3 C) (e + 1) q = lnL m (vcP 3 C) e (q + 1) := if_neg z
      rw [el] at hQ
      rw [if_pos z]
      simp only [eX9_judges_103, cont_some, tl_some, tl_none, csum_nil, csum_i, csum_r, csum_j, isc2_i, isc2_r, isc2_n, va_rf_s, vfn_ite, true_and, and_true, true_or, or_true, eq_self, Bool.false_eq_true, not_false_eq_true, not_true_eq_false, if_true, if_false, Nat.reduceAdd, Nat.reduceLeDiff, reduceIte, nI_1]
      rw [eX9_judges_106]
      exact ih (q + 1) w s (by omega) h hs hF hQ
theorem lo_jout {o n m j : Nat} {C : Nat → Int32} {w0 : Wd} {Q : Option Value → Wd → Prop} (hb : bdC n C) (hj : j < 4) (hm : m < 2 ^ 31) (hmn : ∀ i, i < 10 → bt m i → i < n) : ∀ (e p : Nat) (w : Wd) (s : Option V3) (a4 : Option Value), p + e = 100 → MB w o n C → mjI w o (wdA n m (qZ j C)) s → FrX (Xj o) w0 w →
    (∀ u a4, mjI u o (wdA n m (qZ j C)) (jdF j (wdA n m (qZ j C)) (lnL m (vcP j C) e p) s) → FrX (Xj o) w0 u → MB u o n C → wp mX9_judges 115 [some (.ref o), some (.int (nI j)), some (.int (nI m)), some (.int (nI 100)), a4] [] u Q) →
    wp mX9_judges 17 [some (.ref o), some (.int (nI j)), some (.int (nI m)), some (.int (nI p)), a4] [] w Q := by
  intro e
  induction e with
  | zero =>
    intro p w s a4 hp h hs hF hQ
    have e : p = 100 := by omega
    subst e
    have l : ¬ nI 100 < 100 := by decide
    simp only [eX9_judges_17, eX9_judges_18, eX9_judges_20, cont_some, tl_some, tl_none, csum_nil, csum_i, csum_r, csum_j, isc2_i, isc2_r, isc2_n, va_rf_s, vfn_ite, true_and, and_true, true_or, or_true, eq_self, Bool.false_eq_true, not_false_eq_true, not_true_eq_false, if_true, if_false, Nat.reduceAdd, Nat.reduceLeDiff, reduceIte, l]
    refine hQ w _ ?_ hF h
    unfold jdF
    split <;> exact hs
  | succ e ih =>
    intro p w s a4 hp h hs hF hQ
    have hmd := h.1
    have l : nI p < 100 := nI_lt (b := 100) (by omega) (by omega)
    have e1 := m_isPair (m := m) hmd hm (show p < 100 by omega)
    simp only [eX9_judges_17, eX9_judges_18, eX9_judges_20, eX9_judges_23, eX9_judges_24, eX9_judges_25, eX9_judges_26, eX9_judges_29, cont_some, tl_some, tl_none, csum_nil, csum_i, csum_r, csum_j, isc2_i, isc2_r, isc2_n, va_rf_s, vfn_ite, true_and, and_true, true_or, or_true, eq_self, Bool.false_eq_true, not_false_eq_true, not_true_eq_false, if_true, if_false, Nat.reduceAdd, Nat.reduceLeDiff, reduceIte, l, hmd.1, hmd.2.1, hmd.2.2.1, hmd.2.2.2.1, hmd.2.2.2.2.1, hmd.2.2.2.2.2.1, hmd.2.2.2.2.2.2.1, hmd.2.2.2.2.2.2.2.1, hmd.2.2.2.2.2.2.2.2.1, hmd.2.2.2.2.2.2.2.2.2.1, hmd.2.2.2.2.2.2.2.2.2.2.1, hmd.2.2.2.2.2.2.2.2.2.2.2.1, hmd.2.2.2.2.2.2.2.2.2.2.2.2.1, hmd.2.2.2.2.2.2.2.2.2.2.2.2.2.1, hmd.2.2.2.2.2.2.2.2.2.2.2.2.2.2.1, hmd.2.2.2.2.2.2.2.2.2.2.2.2.2.2.2.1, hmd.2.2.2.2.2.2.2.2.2.2.2.2.2.2.2.2.1, hmd.2.2.2.2.2.2.2.2.2.2.2.2.2.2.2.2.2.1, hmd.2.2.2.2.2.2.2.2.2.2.2.2.2.2.2.2.2.2.1, hmd.2.2.2.2.2.2.2.2.2.2.2.2.2.2.2.2.2.2.2.1, hmd.2.2.2.2.2.2.2.2.2.2.2.2.2.2.2.2.2.2.2.2.1, hmd.2.2.2.2.2.2.2.2.2.2.2.2.2.2.2.2.2.2.2.2.2.1, hmd.2.2.2.2.2.2.2.2.2.2.2.2.2.2.2.2.2.2.2.2.2.2.1, hmd.2.2.2.2.2.2.2.2.2.2.2.2.2.2.2.2.2.2.2.2.2.2.2.1, hmd.2.2.2.2.2.2.2.2.2.2.2.2.2.2.2.2.2.2.2.2.2.2.2.2, e1, b2i_0]
    by_cases z : prP m p
    · have z1 := hmn _ (by omega) z.2.1
      have z2 := hmn _ (by omega) z.2.2
      have el : lnL m (vcP j C) (e + 1) p = vcP j C p :: lnL m (vcP j C) e (p + 1) := if_pos z
      rw [el] at hQ
      rw [if_neg (fun y => y z)]
      by_cases q3 : j = 3
      · subst q3
        have l3 : ¬ nI 3 < 3 := by decide
        simp only [eX9_judges_32, eX9_judges_33, eX9_judges_34, cont_some, tl_some, tl_none, csum_nil, csum_i, csum_r, csum_j, isc2_i, isc2_r, isc2_n, va_rf_s, vfn_ite, true_and, and_true, true_or, or_true, eq_self, Bool.false_eq_true, not_false_eq_true, not_true_eq_false, if_true, if_false, Nat.reduceAdd, Nat.reduceLeDiff, reduceIte, l3]
        simp only [eX9_judges_59, eX9_judges_60, eX9_judges_61, eX9_judges_62, cont_some, tl_some, tl_none, csum_nil, csum_i, csum_r, csum_j, isc2_i, isc2_r, isc2_n, va_rf_s, vfn_ite, true_and, and_true, true_or, or_true, eq_self, Bool.false_eq_true, not_false_eq_true, not_true_eq_false, if_true, if_false, Nat.reduceAdd, Nat.reduceLeDiff, reduceIte, nI_1]
        refine lo_jin (w0 := w0) hb hm hmn (show p < 100 by omega) z e (p + 1) w s (by omega) h hs hF (fun u k1 k2 k3 => ?_)
        simp only [eX9_judges_109, cont_some, tl_some, tl_none, csum_nil, csum_i, csum_r, csum_j, isc2_i, isc2_r, isc2_n, va_rf_s, vfn_ite, true_and, and_true, true_or, or_true, eq_self, Bool.false_eq_true, not_false_eq_true, not_true_eq_false, if_true, if_false, Nat.reduceAdd, Nat.reduceLeDiff, reduceIte, nI_1]
        rw [eX9_judges_112]
        exact ih (p + 1) u _ _ (by omega) k3 k1 k2 hQ
      · have l3 : nI j < 3 := nI_lt (b := 3) (by omega) (by omega)
        have n3 : ¬ nI j = 3 := fun y => q3 ((nI_eq (b := 3) (by omega) (by omega)).mp y)
        obtain ⟨u, g1, g2, g3⟩ := m_tries (t := c1 (vcP j C p)) h hb hj (c1_in (vc_in hb z2 z1)) hm hs
        simp only [c1] at g1
        have zz : iI 0 = 0 := rfl
        rw [zz] at g1
        have hu := h.frX g3
        have hmu := hu.1
        have a0 := m_ap0 h (show p < 100 by omega) z2 z1 hj
        have a1 := m_ap1 h (show p < 100 by omega) z2 z1 hj
        simp only [eX9_judges_32, eX9_judges_33, eX9_judges_34, eX9_judges_37, eX9_judges_38, eX9_judges_39, eX9_judges_40, eX9_judges_41, eX9_judges_42, eX9_judges_43, eX9_judges_44, eX9_judges_47, eX9_judges_48, eX9_judges_49, eX9_judges_50, eX9_judges_51, eX9_judges_54, eX9_judges_55, eX9_judges_56, cont_some, tl_some, tl_none, csum_nil, csum_i, csum_r, csum_j, isc2_i, isc2_r, isc2_n, va_rf_s, vfn_ite, true_and, and_true, true_or, or_true, eq_self, Bool.false_eq_true, not_false_eq_true, not_true_eq_false, if_true, if_false, Nat.reduceAdd, Nat.reduceLeDiff, reduceIte, l3, hmd.1, hmd.2.1, hmd.2.2.1, hmd.2.2.2.1, hmd.2.2.2.2.1, hmd.2.2.2.2.2.1, hmd.2.2.2.2.2.2.1, hmd.2.2.2.2.2.2.2.1, hmd.2.2.2.2.2.2.2.2.1, hmd.2.2.2.2.2.2.2.2.2.1, hmd.2.2.2.2.2.2.2.2.2.2.1, hmd.2.2.2.2.2.2.2.2.2.2.2.1, hmd.2.2.2.2.2.2.2.2.2.2.2.2.1, hmd.2.2.2.2.2.2.2.2.2.2.2.2.2.1, hmd.2.2.2.2.2.2.2.2.2.2.2.2.2.2.1, hmd.2.2.2.2.2.2.2.2.2.2.2.2.2.2.2.1, hmd.2.2.2.2.2.2.2.2.2.2.2.2.2.2.2.2.1, hmd.2.2.2.2.2.2.2.2.2.2.2.2.2.2.2.2.2.1, hmd.2.2.2.2.2.2.2.2.2.2.2.2.2.2.2.2.2.2.1, hmd.2.2.2.2.2.2.2.2.2.2.2.2.2.2.2.2.2.2.2.1, hmd.2.2.2.2.2.2.2.2.2.2.2.2.2.2.2.2.2.2.2.2.1, hmd.2.2.2.2.2.2.2.2.2.2.2.2.2.2.2.2.2.2.2.2.2.1, hmd.2.2.2.2.2.2.2.2.2.2.2.2.2.2.2.2.2.2.2.2.2.2.1, hmd.2.2.2.2.2.2.2.2.2.2.2.2.2.2.2.2.2.2.2.2.2.2.2.1, hmd.2.2.2.2.2.2.2.2.2.2.2.2.2.2.2.2.2.2.2.2.2.2.2.2, a0, a1, iI_neg, g1]
        have go := fun a4 => ih (p + 1) u (stW (wdA n m (qZ j C)) (c1 (vcP j C p)) s) a4 (by omega) hu g2 (hF.tr g3) (by
          unfold jdF at hQ ⊢
          rw [if_neg q3] at hQ ⊢
          exact hQ)
        have fin_ : ∀ a4, wp mX9_judges 109 [some (.ref o), some (.int (nI j)), some (.int (nI m)), some (.int (nI p)), a4] [] u Q := by
          intro a4
          simp only [eX9_judges_109, cont_some, tl_some, tl_none, csum_nil, csum_i, csum_r, csum_j, isc2_i, isc2_r, isc2_n, va_rf_s, vfn_ite, true_and, and_true, true_or, or_true, eq_self, Bool.false_eq_true, not_false_eq_true, not_true_eq_false, if_true, if_false, Nat.reduceAdd, Nat.reduceLeDiff, reduceIte, nI_1]
          rw [eX9_judges_112]
          exact go _
        simp only [eX9_judges_59, eX9_judges_60, eX9_judges_61, eX9_judges_62, eX9_judges_64, eX9_judges_66, eX9_judges_68, cont_some, tl_some, tl_none, csum_nil, csum_i, csum_r, csum_j, isc2_i, isc2_r, isc2_n, va_rf_s, vfn_ite, true_and, and_true, true_or, or_true, eq_self, Bool.false_eq_true, not_false_eq_true, not_true_eq_false, if_true, if_false, Nat.reduceAdd, Nat.reduceLeDiff, reduceIte, nI_1]
        by_cases y : nI (p + 1) < 100
        · rw [if_pos y]
          simp only [eX9_judges_71, eX9_judges_72, eX9_judges_73, cont_some, tl_some, tl_none, csum_nil, csum_i, csum_r, csum_j, isc2_i, isc2_r, isc2_n, va_rf_s, vfn_ite, true_and, and_true, true_or, or_true, eq_self, Bool.false_eq_true, not_false_eq_true, not_true_eq_false, if_true, if_false, Nat.reduceAdd, Nat.reduceLeDiff, reduceIte, n3]
          exact fin_ _
        · rw [if_neg y]
          exact fin_ _
    · have el : lnL m (vcP j C) (e + 1) p = lnL m (vcP j C) e (p + 1) := if_neg z
      rw [el] at hQ
      rw [if_pos z]
      have fin_ : ∀ a4, wp mX9_judges 109 [some (.ref o), some (.int (nI j)), some (.int (nI m)), some (.int (nI p)), a4] [] w Q := by
        intro a4
        simp only [eX9_judges_109, cont_some, tl_some, tl_none, csum_nil, csum_i, csum_r, csum_j, isc2_i, isc2_r, isc2_n, va_rf_s, vfn_ite, true_and, and_true, true_or, or_true, eq_self, Bool.false_eq_true, not_false_eq_true, not_true_eq_false, if_true, if_false, Nat.reduceAdd, Nat.reduceLeDiff, reduceIte, nI_1]
        rw [eX9_judges_112]
        exact ih (p + 1) w s _ (by omega) h hs hF hQ
      simp only [eX9_judges_59, eX9_judges_60, eX9_judges_61, eX9_judges_62, eX9_judges_64, eX9_judges_66, eX9_judges_68, cont_some, tl_some, tl_none, csum_nil, csum_i, csum_r, csum_j, isc2_i, isc2_r, isc2_n, va_rf_s, vfn_ite, true_and, and_true, true_or, or_true, eq_self, Bool.false_eq_true, not_false_eq_true, not_true_eq_false, if_true, if_false, Nat.reduceAdd, Nat.reduceLeDiff, reduceIte, nI_1]
      by_cases y : nI (p + 1) < 100
      · rw [if_pos y]
        simp only [eX9_judges_71, eX9_judges_72, eX9_judges_73, cont_some, tl_some, tl_none, csum_nil, csum_i, csum_r, csum_j, isc2_i, isc2_r, isc2_n, va_rf_s, vfn_ite, true_and, and_true, true_or, or_true, eq_self, Bool.false_eq_true, not_false_eq_true, not_true_eq_false, if_true, if_false, Nat.reduceAdd, Nat.reduceLeDiff, reduceIte]
        by_cases y3 : nI j = 3
        · rw [if_pos y3]
          simp only [eX9_judges_76, eX9_judges_77, eX9_judges_78, eX9_judges_79, eX9_judges_82, cont_some, tl_some, tl_none, csum_nil, csum_i, csum_r, csum_j, isc2_i, isc2_r, isc2_n, va_rf_s, vfn_ite, true_and, and_true, true_or, or_true, eq_self, Bool.false_eq_true, not_false_eq_true, not_true_eq_false, if_true, if_false, Nat.reduceAdd, Nat.reduceLeDiff, reduceIte, hmd.1, hmd.2.1, hmd.2.2.1, hmd.2.2.2.1, hmd.2.2.2.2.1, hmd.2.2.2.2.2.1, hmd.2.2.2.2.2.2.1, hmd.2.2.2.2.2.2.2.1, hmd.2.2.2.2.2.2.2.2.1, hmd.2.2.2.2.2.2.2.2.2.1, hmd.2.2.2.2.2.2.2.2.2.2.1, hmd.2.2.2.2.2.2.2.2.2.2.2.1, hmd.2.2.2.2.2.2.2.2.2.2.2.2.1, hmd.2.2.2.2.2.2.2.2.2.2.2.2.2.1, hmd.2.2.2.2.2.2.2.2.2.2.2.2.2.2.1, hmd.2.2.2.2.2.2.2.2.2.2.2.2.2.2.2.1, hmd.2.2.2.2.2.2.2.2.2.2.2.2.2.2.2.2.1, hmd.2.2.2.2.2.2.2.2.2.2.2.2.2.2.2.2.2.1, hmd.2.2.2.2.2.2.2.2.2.2.2.2.2.2.2.2.2.2.1, hmd.2.2.2.2.2.2.2.2.2.2.2.2.2.2.2.2.2.2.2.1, hmd.2.2.2.2.2.2.2.2.2.2.2.2.2.2.2.2.2.2.2.2.1, hmd.2.2.2.2.2.2.2.2.2.2.2.2.2.2.2.2.2.2.2.2.2.1, hmd.2.2.2.2.2.2.2.2.2.2.2.2.2.2.2.2.2.2.2.2.2.2.1, hmd.2.2.2.2.2.2.2.2.2.2.2.2.2.2.2.2.2.2.2.2.2.2.2.1, hmd.2.2.2.2.2.2.2.2.2.2.2.2.2.2.2.2.2.2.2.2.2.2.2.2, e1, b2i_0, z]
          exact fin_ _
        · rw [if_neg y3]
          exact fin_ _
      · rw [if_neg y]
        exact fin_ _
