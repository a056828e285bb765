/-! fractions of the class -/
theorem s_mabs {x : Int32} {w : Wd} : mabsFn [.int x] w = some (some (.int (if 0 ≤ x then x else 0 - x)), w) := rfl
def sgL (x y : Int64) : Int32 := if x < y then -1 else if x = y then 0 else 1
theorem s_lcompare {x y : Int64} {w : Wd} : fJ13_compare_74951 [.long x, .long y] w = some (some (.int (sgL x y)), w) := by
  unfold sgL
  refine sem_eq (Nat.le_of_ble_eq_true rfl) ?_
  show wp mJ13_compare_74951 0 [some (.long x), none, some (.long y), none] [] _ _
  simp only [eJ13_compare_74951_0, eJ13_compare_74951_1, eJ13_compare_74951_2, eJ13_compare_74951_3, eJ13_compare_74951_6, eJ13_compare_74951_7, eJ13_compare_74951_10, eJ13_compare_74951_11, eJ13_compare_74951_12, eJ13_compare_74951_13, eJ13_compare_74951_16, eJ13_compare_74951_17, eJ13_compare_74951_20, eJ13_compare_74951_21, cont_some, tl_some, tl_none, csum_nil, csum_i, csum_r, csum_j, isc2_i, isc2_r, isc2_n, va_rf_s, vfn_ite, true_and, and_true, true_or, or_true, eq_self, Bool.false_eq_true, not_false_eq_true, not_true_eq_false, if_true, if_false, Nat.reduceAdd, Nat.reduceLeDiff, reduceIte, lgc_lt, lgc_0]
  by_cases h1 : x < y
  · simp [h1]
  · by_cases h2 : x = y
    · simp [h2]
    · simp [h1, h2]
theorem sgL_lt {x y : Int64} : sgL x y < 0 ↔ x < y := by
  unfold sgL
  by_cases h1 : x < y
  · simp [h1]
  · by_cases h2 : x = y
    · simp only [h1, h2, if_true, if_false]
      exact ⟨fun z => absurd z (by split <;> first | decide | (rename_i q; exact absurd q Int64.lt_irrefl)), fun z => absurd z Int64.lt_irrefl⟩
    · simp only [h1, h2, if_false, iff_false]; decide
theorem sgL_0 {x y : Int64} : sgL x y = 0 ↔ x = y := by
  unfold sgL
  by_cases h1 : x < y
  · rw [if_pos h1]
    exact ⟨fun z => absurd z (by decide), fun z => by rw [z] at h1; exact absurd h1 Int64.lt_irrefl⟩
  · rw [if_neg h1]
    by_cases h2 : x = y
    · rw [if_pos h2]; exact ⟨fun _ => h2, fun _ => rfl⟩
    · rw [if_neg h2]; exact ⟨fun z => absurd z (by decide), fun z => absurd z h2⟩
def frIs (w : Wd) (q A B : Nat) : Prop := shp w q = (0, 0) ∧ rdJ w q 0 = lN A ∧ rdJ w q 1 = lN B
theorem frIs.fr {w u : Wd} {lo hi q A B : Nat} (h : frIs w q A B) (f : Fr lo hi w u) (hd : q < lo ∨ hi ≤ q) : frIs u q A B := by
  obtain ⟨h1, h2, h3⟩ := h
  exact ⟨by rw [f.shp]; exact h1, by rw [f.J hd]; exact h2, by rw [f.J hd]; exact h3⟩
def frW (w : Wd) (q A B : Nat) : Wd := wrJ (wrJ w q 0 (lN (A / Nat.gcd A B))) q 1 (lN (B / Nat.gcd A B))
theorem s_fr_become {w : Wd} {q A B : Nat} (hq : shp w q = (0, 0)) (hA : A < 2 ^ 62) (hB : B < 2 ^ 50) (h0 : 0 < B) : fX0_become [.ref q, .long (lN A), .long (lN B)] w = some (none, frW w q A B) := by
  have hg : 0 < Nat.gcd A B := Nat.gcd_pos_of_pos_right _ h0
  have hgB : Nat.gcd A B ≤ B := Nat.le_of_dvd h0 (Nat.gcd_dvd_right _ _)
  have e1 : (0 : Int64) < lN (Nat.gcd A B) := (pk_lLT (a := 0) (by omega) (by omega)).mpr hg
  have e2 : (0 : Int64) < lN B := (pk_lLT (a := 0) (by omega) (by omega)).mpr h0
  have e3 : ¬ lN (Nat.gcd A B) = 0 := fun z => by rw [z] at e1; exact absurd e1 Int64.lt_irrefl
  refine sem_eq (Nat.le_of_ble_eq_true rfl) ?_
  show wp mX0_become 0 [some (.ref q), some (.long (lN A)), none, some (.long (lN B)), none, none, none] [] _ _
  simp only [eX0_become_0, eX0_become_1, eX0_become_2, eX0_become_5, eX0_become_7, eX0_become_9, eX0_become_10, eX0_become_11, eX0_become_14, eX0_become_15, eX0_become_16, eX0_become_17, eX0_become_20, eX0_become_21, eX0_become_22, eX0_become_24, eX0_become_25, eX0_become_28, eX0_become_29, eX0_become_30, eX0_become_32, eX0_become_33, eX0_become_36, cont_some, tl_some, tl_none, csum_nil, csum_i, csum_r, csum_j, isc2_i, isc2_r, isc2_n, va_rf_s, vfn_ite, true_and, and_true, true_or, or_true, eq_self, Bool.false_eq_true, not_false_eq_true, not_true_eq_false, if_true, if_false, Nat.reduceAdd, Nat.reduceLeDiff, reduceIte, s_divisor hA hB, lgc_gt, e1, e2, e3, hq, shp_wrJ, pk_lDiv (show A < 2 ^ 63 by omega) hg (show Nat.gcd A B < 2 ^ 63 by omega), pk_lDiv (show B < 2 ^ 63 by omega) hg (show Nat.gcd A B < 2 ^ 63 by omega)]
  rfl
theorem frW_is {w : Wd} {q A B : Nat} (hq : shp w q = (0, 0)) : frIs (frW w q A B) q (A / Nat.gcd A B) (B / Nat.gcd A B) := by
  refine ⟨hq, ?_, ?_⟩
  · unfold frW; rw [rdJ_wrJ, if_neg (by omega), rdJ_wrJ, if_pos ⟨rfl, rfl⟩]
  · unfold frW; rw [rdJ_wrJ, if_pos ⟨rfl, rfl⟩]
theorem frW_fr {w : Wd} {q A B : Nat} : Fr q (q + 1) w (frW w q A B) := (Fr.rf.wrJ ⟨by omega, by omega⟩).wrJ ⟨by omega, by omega⟩
theorem s_fr_part {w : Wd} {q A B : Nat} {x : Int32} (h : frIs w q A B) : fX0_part [.ref q, .int x] w = some (some (.long (lN (if x = 0 then A else B))), w) := by
  refine sem_eq (Nat.le_of_ble_eq_true rfl) ?_
  show wp mX0_part 0 [some (.ref q), some (.int x)] [] _ _
  simp only [eX0_part_0, eX0_part_1, eX0_part_4, eX0_part_5, eX0_part_8, eX0_part_11, eX0_part_12, eX0_part_15, cont_some, tl_some, tl_none, csum_nil, csum_i, csum_r, csum_j, isc2_i, isc2_r, isc2_n, va_rf_s, vfn_ite, true_and, and_true, true_or, or_true, eq_self, Bool.false_eq_true, not_false_eq_true, not_true_eq_false, if_true, if_false, Nat.reduceAdd, Nat.reduceLeDiff, reduceIte, h.1, h.2.1, h.2.2]
  by_cases q : x = 0 <;> simp [q]
theorem s_fr_compare {w : Wd} {q A B a b : Nat} (h : frIs w q A B) : fX0_compare [.ref q, .long (lN a), .long (lN b)] w = some (some (.int (sgL (lN (a * B)) (lN (A * b)))), w) := by
  refine sem_eq (Nat.le_of_ble_eq_true rfl) ?_
  show wp mX0_compare 0 [some (.ref q), some (.long (lN a)), none, some (.long (lN b)), none] [] _ _
  simp only [eX0_compare_0, eX0_compare_1, eX0_compare_2, eX0_compare_5, eX0_compare_6, eX0_compare_7, eX0_compare_10, eX0_compare_11, eX0_compare_12, eX0_compare_15, cont_some, tl_some, tl_none, csum_nil, csum_i, csum_r, csum_j, isc2_i, isc2_r, isc2_n, va_rf_s, vfn_ite, true_and, and_true, true_or, or_true, eq_self, Bool.false_eq_true, not_false_eq_true, not_true_eq_false, if_true, if_false, Nat.reduceAdd, Nat.reduceLeDiff, reduceIte, h.1, h.2.1, h.2.2, lN_mul, s_lcompare]
theorem s_fr_lower {w : Wd} {q A B a b : Nat} (h : frIs w q A B) (h1 : a * B < 2 ^ 63) (h2 : A * b < 2 ^ 63) (ha : a < 2 ^ 62) (hb : b < 2 ^ 50) (h0 : 0 < b) : fX0_lowerTo [.ref q, .long (lN a), .long (lN b)] w = some (none, if a * B < A * b then frW w q a b else w) := by
  have e : sgL (lN (a * B)) (lN (A * b)) < 0 ↔ a * B < A * b := by rw [sgL_lt, pk_lLT h1 h2]
  refine sem_eq (Nat.le_of_ble_eq_true rfl) ?_
  show wp mX0_lowerTo 0 [some (.ref q), some (.long (lN a)), none, some (.long (lN b)), none] [] _ _
  by_cases z : a * B < A * b
  · have z' := e.mpr z
    simp only [eX0_lowerTo_0, eX0_lowerTo_1, eX0_lowerTo_2, eX0_lowerTo_3, eX0_lowerTo_6, eX0_lowerTo_9, eX0_lowerTo_10, eX0_lowerTo_11, eX0_lowerTo_12, eX0_lowerTo_15, cont_some, tl_some, tl_none, csum_nil, csum_i, csum_r, csum_j, isc2_i, isc2_r, isc2_n, va_rf_s, vfn_ite, true_and, and_true, true_or, or_true, eq_self, Bool.false_eq_true, not_false_eq_true, not_true_eq_false, if_true, if_false, Nat.reduceAdd, Nat.reduceLeDiff, reduceIte, h.1, s_fr_compare h, z', s_fr_become h.1 ha hb h0, z]
  · have z' : ¬ sgL (lN (a * B)) (lN (A * b)) < 0 := fun y => z (e.mp y)
    simp only [eX0_lowerTo_0, eX0_lowerTo_1, eX0_lowerTo_2, eX0_lowerTo_3, eX0_lowerTo_6, eX0_lowerTo_9, eX0_lowerTo_10, eX0_lowerTo_11, eX0_lowerTo_12, eX0_lowerTo_15, cont_some, tl_some, tl_none, csum_nil, csum_i, csum_r, csum_j, isc2_i, isc2_r, isc2_n, va_rf_s, vfn_ite, true_and, and_true, true_or, or_true, eq_self, Bool.false_eq_true, not_false_eq_true, not_true_eq_false, if_true, if_false, Nat.reduceAdd, Nat.reduceLeDiff, reduceIte, h.1, s_fr_compare h, z', z]
/-! edge -/
def opS (U V : Nat → Int32) (f t c b : Nat) : Nat := if crZ (uZ U) (uZ V) f t b * crZ (uZ U) (uZ V) f t b < crZ (uZ U) (uZ V) f t c * crZ (uZ U) (uZ V) f t c then c else b
def opF (U V : Nat → Int32) (f t : Nat) : Nat → Nat → Nat → Nat
  | 0, _, b => b
  | d + 1, c, b => opF U V f t d (c + 1) (opS U V f t c b)
theorem opF_lt {U V : Nat → Int32} {f t n : Nat} : ∀ (d c b : Nat), c + d = n → b < n → opF U V f t d c b < n := by
  intro d
  induction d with
  | zero => intro c b _ hb; exact hb
  | succ d ih =>
    intro c b hc hb
    refine ih (c + 1) _ (by omega) ?_
    unfold opS; split <;> omega
theorem abs_I {a : Int} (h : a.natAbs ≤ 2000) : (if (0 : Int32) ≤ iI a then iI a else 0 - iI a) = nI a.natAbs := by
  have e : (0 : Int32) ≤ iI a ↔ 0 ≤ a := by rw [show (0 : Int32) = iI 0 from rfl, iI_le (by omega) (by omega)]
  rw [nI_iI]
  by_cases z : 0 ≤ a
  · rw [if_pos (e.mpr z)]; congr 1; omega
  · rw [if_neg (fun y => z (e.mp y)), show (0 : Int32) = iI 0 from rfl, iI_sub]; congr 1; omega
theorem abs_sq {a b : Int} : a.natAbs < b.natAbs ↔ a * a < b * b := by
  rw [← Int.natAbs_mul_self (a := a), ← Int.natAbs_mul_self (a := b)]
  constructor
  · intro h
    have := Nat.mul_lt_mul_of_lt_of_le h (Nat.le_of_lt h) (by omega)
    omega
  · intro h
    rcases Nat.lt_or_ge a.natAbs b.natAbs with z | z
    · exact z
    · have := Nat.mul_le_mul z z
      omega
theorem lo_opp {w : Wd} {v n f t : Nat} {U V : Nat → Int32} (hv : vIs w v n U V) (hz : inZ n (uZ U) (uZ V)) (hf : f < n) (ht : t < n) : ∀ (d c b : Nat), c + d = n → b < n →
    wp mX6_opposite 5 [some (.ref v), some (.int (nI f)), some (.int (nI t)), some (.int (nI b)), some (.int (nI c))] [] w (fun q u => q = some (.int (nI (opF U V f t d c b))) ∧ u = w) := by
  have h := hv.1
  have h10 := hv.2.2.1
  intro d
  induction d with
  | zero =>
    intro c b hc hb
    have e : c = n := by omega
    subst e
    have l : ¬ nI c < nI c := Int32.lt_irrefl
    simp only [eX6_opposite_5, eX6_opposite_7, eX6_opposite_8, eX6_opposite_11, eX6_opposite_47, eX6_opposite_48, cont_some, tl_some, tl_none, csum_nil, csum_i, csum_r, csum_j, isc2_i, isc2_r, isc2_n, va_rf_s, vfn_ite, true_and, and_true, true_or, or_true, eq_self, Bool.false_eq_true, not_false_eq_true, not_true_eq_false, if_true, if_false, Nat.reduceAdd, Nat.reduceLeDiff, reduceIte, h.1, hv.2.1, l, opF]
  | succ d ih =>
    intro c b hc hb
    have l : nI c < nI n := nI_lt (by omega) (by omega)
    have e1 := s_cross hv hf ht (show c < n by omega)
    have e2 := s_cross hv hf ht hb
    have b1 := crZ_b hz hf ht (show c < n by omega)
    have b2 := crZ_b hz hf ht hb
    have eb : nI (crZ (uZ U) (uZ V) f t b).natAbs < nI (crZ (uZ U) (uZ V) f t c).natAbs ↔ crZ (uZ U) (uZ V) f t b * crZ (uZ U) (uZ V) f t b < crZ (uZ U) (uZ V) f t c * crZ (uZ U) (uZ V) f t c := by
      rw [nI_lti (by omega) (by omega), abs_sq]
    rw [crs_I] at e1 e2
    simp only [eX6_opposite_5, eX6_opposite_7, eX6_opposite_8, eX6_opposite_11, cont_some, tl_some, tl_none, csum_nil, csum_i, csum_r, csum_j, isc2_i, isc2_r, isc2_n, va_rf_s, vfn_ite, true_and, and_true, true_or, or_true, eq_self, Bool.false_eq_true, not_false_eq_true, not_true_eq_false, if_true, if_false, Nat.reduceAdd, Nat.reduceLeDiff, reduceIte, h.1, hv.2.1, l]
    simp only [eX6_opposite_14, eX6_opposite_15, eX6_opposite_16, eX6_opposite_17, eX6_opposite_19, eX6_opposite_22, eX6_opposite_25, eX6_opposite_26, eX6_opposite_27, eX6_opposite_28, eX6_opposite_29, eX6_opposite_32, eX6_opposite_35, cont_some, tl_some, tl_none, csum_nil, csum_i, csum_r, csum_j, isc2_i, isc2_r, isc2_n, va_rf_s, vfn_ite, true_and, and_true, true_or, or_true, eq_self, Bool.false_eq_true, not_false_eq_true, not_true_eq_false, if_true, if_false, Nat.reduceAdd, Nat.reduceLeDiff, reduceIte, h.1, e1, e2, s_mabs, abs_I (show (crZ (uZ U) (uZ V) f t c).natAbs ≤ 2000 by omega), abs_I (show (crZ (uZ U) (uZ V) f t b).natAbs ≤ 2000 by omega)]
    have go := ih (c + 1) (opS U V f t c b) (by omega) (by unfold opS; split <;> omega)
    by_cases q : crZ (uZ U) (uZ V) f t b * crZ (uZ U) (uZ V) f t b < crZ (uZ U) (uZ V) f t c * crZ (uZ U) (uZ V) f t c
    · have q' := eb.mpr q
      have es : opS U V f t c b = c := if_pos q
      rw [es] at go
      simp only [eX6_opposite_38, eX6_opposite_40, eX6_opposite_41, cont_some, tl_some, tl_none, csum_nil, csum_i, csum_r, csum_j, isc2_i, isc2_r, isc2_n, va_rf_s, vfn_ite, true_and, and_true, true_or, or_true, eq_self, Bool.false_eq_true, not_false_eq_true, not_true_eq_false, if_true, if_false, Nat.reduceAdd, Nat.reduceLeDiff, reduceIte, q', nI_1]
      rw [eX6_opposite_44]
      show wp _ _ _ _ _ (fun q u => q = some (.int (nI (opF U V f t d (c + 1) (opS U V f t c b)))) ∧ u = w)
      rw [es]
      exact go
    · have q' : ¬ nI (crZ (uZ U) (uZ V) f t b).natAbs < nI (crZ (uZ U) (uZ V) f t c).natAbs := fun z => q (eb.mp z)
      have es : opS U V f t c b = b := if_neg q
      rw [es] at go
      simp only [eX6_opposite_41, cont_some, tl_some, tl_none, csum_nil, csum_i, csum_r, csum_j, isc2_i, isc2_r, isc2_n, va_rf_s, vfn_ite, true_and, and_true, true_or, or_true, eq_self, Bool.false_eq_true, not_false_eq_true, not_true_eq_false, if_true, if_false, Nat.reduceAdd, Nat.reduceLeDiff, reduceIte, q', nI_1]
      rw [eX6_opposite_44]
      show wp _ _ _ _ _ (fun q u => q = some (.int (nI (opF U V f t d (c + 1) (opS U V f t c b)))) ∧ u = w)
      rw [es]
      exact go
theorem s_opp {w : Wd} {v n f t : Nat} {U V : Nat → Int32} (hv : vIs w v n U V) (hz : inZ n (uZ U) (uZ V)) (hf : f < n) (ht : t < n) : fX6_opposite [.ref v, .int (nI f), .int (nI t)] w = some (some (.int (nI (opF U V f t (n - 1) 1 0))), w) := by
  refine sem_eq (Nat.le_of_ble_eq_true rfl) ?_
  show wp mX6_opposite 0 [some (.ref v), some (.int (nI f)), some (.int (nI t)), none, none] [] _ _
  simp only [eX6_opposite_0, eX6_opposite_1, eX6_opposite_2, eX6_opposite_3, cont_some, tl_some, tl_none, csum_nil, csum_i, csum_r, csum_j, isc2_i, isc2_r, isc2_n, va_rf_s, vfn_ite, true_and, and_true, true_or, or_true, eq_self, Bool.false_eq_true, not_false_eq_true, not_true_eq_false, if_true, if_false, Nat.reduceAdd, Nat.reduceLeDiff, reduceIte]
  exact lo_opp hv hz hf ht (n - 1) 1 0 (by omega) (by omega)
