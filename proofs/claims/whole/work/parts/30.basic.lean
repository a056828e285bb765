/-! numbers and leaves -/
def b2i (p : Prop) [Decidable p] : Int32 := if p then 1 else 0
theorem b2i_0 {p : Prop} [Decidable p] : b2i p = 0 ↔ ¬ p := by
  unfold b2i; split <;> simp_all
theorem b2i_01 {p : Prop} [Decidable p] : b2i p = 0 ∨ b2i p = 1 := by
  unfold b2i; split <;> simp
theorem b2i_t {p : Prop} [Decidable p] (h : p) : b2i p = 1 := if_pos h
theorem b2i_f {p : Prop} [Decidable p] (h : ¬ p) : b2i p = 0 := if_neg h
theorem rdI_wrI {w : Wd} {a k b j : Nat} {v : Int32} : rdI (wrI w a k v) b j = if b = a ∧ j = k then v else rdI w b j := rfl
theorem rdI_wrJ {w : Wd} {a k b j : Nat} {v : Int64} : rdI (wrJ w a k v) b j = rdI w b j := rfl
theorem rdI_wrR {w : Wd} {a k b j : Nat} {v : Option Nat} : rdI (wrR w a k v) b j = rdI w b j := rfl
theorem rdJ_wrI {w : Wd} {a k b j : Nat} {v : Int32} : rdJ (wrI w a k v) b j = rdJ w b j := rfl
theorem rdJ_wrJ {w : Wd} {a k b j : Nat} {v : Int64} : rdJ (wrJ w a k v) b j = if b = a ∧ j = k then v else rdJ w b j := rfl
theorem rdJ_wrR {w : Wd} {a k b j : Nat} {v : Option Nat} : rdJ (wrR w a k v) b j = rdJ w b j := rfl
theorem rdR_wrI {w : Wd} {a k b j : Nat} {v : Int32} : rdR (wrI w a k v) b j = rdR w b j := rfl
theorem rdR_wrJ {w : Wd} {a k b j : Nat} {v : Int64} : rdR (wrJ w a k v) b j = rdR w b j := rfl
theorem rdR_wrR {w : Wd} {a k b j : Nat} {v : Option Nat} : rdR (wrR w a k v) b j = if b = a ∧ j = k then v else rdR w b j := rfl
theorem shp_wrI {w : Wd} {a k b : Nat} {v : Int32} : shp (wrI w a k v) b = shp w b := rfl
theorem shp_wrJ {w : Wd} {a k b : Nat} {v : Int64} : shp (wrJ w a k v) b = shp w b := rfl
theorem shp_wrR {w : Wd} {a k b : Nat} {v : Option Nat} : shp (wrR w a k v) b = shp w b := rfl
theorem rdI_cpI {w : Wd} {sa sp da dp n b j : Nat} : rdI (cpI w sa sp da dp n) b j = if b = da ∧ dp ≤ j ∧ j < dp + n then rdI w sa (sp + (j - dp)) else rdI w b j := rfl
theorem rdJ_cpI {w : Wd} {sa sp da dp n b j : Nat} : rdJ (cpI w sa sp da dp n) b j = rdJ w b j := rfl
theorem rdR_cpI {w : Wd} {sa sp da dp n b j : Nat} : rdR (cpI w sa sp da dp n) b j = rdR w b j := rfl
theorem shp_cpI {w : Wd} {sa sp da dp n b : Nat} : shp (cpI w sa sp da dp n) b = shp w b := rfl
theorem rdI_cpJ {w : Wd} {sa sp da dp n b j : Nat} : rdI (cpJ w sa sp da dp n) b j = rdI w b j := rfl
theorem rdJ_cpJ {w : Wd} {sa sp da dp n b j : Nat} : rdJ (cpJ w sa sp da dp n) b j = if b = da ∧ dp ≤ j ∧ j < dp + n then rdJ w sa (sp + (j - dp)) else rdJ w b j := rfl
theorem rdR_cpJ {w : Wd} {sa sp da dp n b j : Nat} : rdR (cpJ w sa sp da dp n) b j = rdR w b j := rfl
theorem shp_cpJ {w : Wd} {sa sp da dp n b : Nat} : shp (cpJ w sa sp da dp n) b = shp w b := rfl
/-! ints and longs of whole numbers -/
def iI (x : Int) : Int32 := Int32.ofInt x
def jJ (x : Int) : Int64 := Int64.ofInt x
theorem iI_add (a b : Int) : iI a + iI b = iI (a + b) := (Int32.ofInt_add a b).symm
theorem iI_sub (a b : Int) : iI a - iI b = iI (a - b) := (Int32.ofInt_sub a b).symm
theorem iI_mul (a b : Int) : iI a * iI b = iI (a * b) := (Int32.ofInt_mul a b).symm
theorem iI_neg (a : Int) : -iI a = iI (-a) := (Int32.ofInt_neg a).symm
theorem jJ_add (a b : Int) : jJ a + jJ b = jJ (a + b) := (Int64.ofInt_add a b).symm
theorem jJ_sub (a b : Int) : jJ a - jJ b = jJ (a - b) := (Int64.ofInt_sub a b).symm
theorem jJ_mul (a b : Int) : jJ a * jJ b = jJ (a * b) := (Int64.ofInt_mul a b).symm
theorem jJ_neg (a : Int) : -jJ a = jJ (-a) := (Int64.ofInt_neg a).symm
abbrev r32 (x : Int) : Prop := -2147483648 ≤ x ∧ x < 2147483648
abbrev r64 (x : Int) : Prop := -9223372036854775808 ≤ x ∧ x < 9223372036854775808
theorem iI_toInt {a : Int} (h : r32 a) : (iI a).toInt = a := Int32.toInt_ofInt_of_le h.1 h.2
theorem jJ_toInt {a : Int} (h : r64 a) : (jJ a).toInt = a := Int64.toInt_ofInt_of_le h.1 h.2
theorem iI_of (x : Int32) : ∃ a, r32 a ∧ x = iI a := ⟨x.toInt, ⟨x.le_toInt, x.toInt_lt⟩, (Int32.ofInt_toInt x).symm⟩
theorem iI_lt {a b : Int} (ha : r32 a) (hb : r32 b) : iI a < iI b ↔ a < b := by rw [Int32.lt_iff_toInt_lt, iI_toInt ha, iI_toInt hb]
theorem iI_le {a b : Int} (ha : r32 a) (hb : r32 b) : iI a ≤ iI b ↔ a ≤ b := by rw [Int32.le_iff_toInt_le, iI_toInt ha, iI_toInt hb]
theorem iI_eq {a b : Int} (ha : r32 a) (hb : r32 b) : iI a = iI b ↔ a = b := by rw [← Int32.toInt_inj, iI_toInt ha, iI_toInt hb]
theorem jJ_lt {a b : Int} (ha : r64 a) (hb : r64 b) : jJ a < jJ b ↔ a < b := by rw [Int64.lt_iff_toInt_lt, jJ_toInt ha, jJ_toInt hb]
theorem jJ_le {a b : Int} (ha : r64 a) (hb : r64 b) : jJ a ≤ jJ b ↔ a ≤ b := by rw [Int64.le_iff_toInt_le, jJ_toInt ha, jJ_toInt hb]
theorem jJ_eq {a b : Int} (ha : r64 a) (hb : r64 b) : jJ a = jJ b ↔ a = b := by rw [← Int64.toInt_inj, jJ_toInt ha, jJ_toInt hb]
theorem nI_iI (n : Nat) : nI n = iI n := Int32.ofInt_eq_ofNat.symm
theorem lN_jJ (n : Nat) : lN n = jJ n := Int64.ofInt_eq_ofNat.symm
theorem iI_i2l {a : Int} (h : r32 a) : (iI a).toInt64 = jJ a := by
  rw [← Int64.toInt_inj, Int32.toInt_toInt64, iI_toInt h, jJ_toInt ⟨by have := h.1; omega, by have := h.2; omega⟩]
theorem jJ_l2i (a : Int) : (jJ a).toInt32 = iI a := Int64.toInt32_ofInt
theorem iI_clamp {a : Int} (h : r32 a) : (iI a).toNatClampNeg = a.toNat := Int32.toNatClampNeg_ofInt_of_le h.1 h.2
theorem iI_div {a b : Int} (ha : r32 a) (hb : r32 b) (hm : b ≠ -1) : iI a / iI b = iI (a.tdiv b) := by
  have h := Int32.toInt_div_of_ne_right (iI a) (iI b) (fun q => hm ((iI_eq hb (by decide)).mp (q.trans (show (-1 : Int32) = iI (-1) by decide))))
  rw [iI_toInt ha, iI_toInt hb] at h
  rw [← h]
  exact (Int32.ofInt_toInt _).symm
theorem jJ_div {a b : Int} (ha : r64 a) (hb : r64 b) (hm : b ≠ -1) : jJ a / jJ b = jJ (a.tdiv b) := by
  have h := Int64.toInt_div_of_ne_right (jJ a) (jJ b) (fun q => hm ((jJ_eq hb (by decide)).mp (q.trans (show (-1 : Int64) = jJ (-1) by decide))))
  rw [jJ_toInt ha, jJ_toInt hb] at h
  rw [← h]
  exact (Int64.ofInt_toInt _).symm
theorem inA_nI {k n : Nat} (h : k < n) (hn : n < 2147483648) : inA (nI k) n = true := by
  unfold inA
  rw [nI_clamp (by omega)]
  simp [h, nI_pos' (show k < 2 ^ 31 by omega)]
theorem inA_iff {x : Int32} {n : Nat} : inA x n = true ↔ 0 ≤ x.toInt ∧ x.toInt < n := by
  unfold inA
  simp only [Bool.and_eq_true, decide_eq_true_eq]
  rw [Int32.le_iff_toInt_le]
  show 0 ≤ x.toInt ∧ x.toInt.toNat < n ↔ _
  omega
/-! leaves of ZoneJudge -/
theorem s_isIn {v lo hi : Int32} {w : Wd} : fX8_isIn [.int v, .int lo, .int hi] w = some (some (.int (b2i (lo ≤ v ∧ v ≤ hi))), w) := by
  refine sem_eq (Nat.le_of_ble_eq_true rfl) ?_
  show wp mX8_isIn 0 [some (.int v), some (.int lo), some (.int hi)] [] _ _
  simp only [eX8_isIn_0, eX8_isIn_1, eX8_isIn_2, eX8_isIn_5, eX8_isIn_6, eX8_isIn_7, eX8_isIn_10, eX8_isIn_11, eX8_isIn_14, eX8_isIn_15, cont_some, tl_some, tl_none, csum_nil, csum_i, csum_r, csum_j, isc2_i, isc2_r, isc2_n, va_rf_s, vfn_ite, true_and, and_true, true_or, or_true, eq_self, Bool.false_eq_true, not_false_eq_true, not_true_eq_false, if_true, if_false, Nat.reduceAdd, Nat.reduceLeDiff, reduceIte]
  by_cases h1 : v < lo
  · simp [h1, b2i, Int32.not_le.mpr h1]
  · by_cases h2 : hi < v
    · simp [h1, h2, b2i, Int32.not_le.mpr h2]
    · simp [h1, h2, b2i, Int32.not_lt.mp h1, Int32.not_lt.mp h2]
theorem s_isCoordinate {v : Int32} {w : Wd} : fX8_isCoordinate [.int v] w = some (some (.int (b2i (-15 ≤ v ∧ v ≤ 15))), w) := by
  refine sem_eq (Nat.le_of_ble_eq_true rfl) ?_
  show wp mX8_isCoordinate 0 [some (.int v)] [] _ _
  simp only [eX8_isCoordinate_0, eX8_isCoordinate_1, eX8_isCoordinate_3, eX8_isCoordinate_5, eX8_isCoordinate_8, cont_some, tl_some, tl_none, csum_nil, csum_i, csum_r, csum_j, isc2_i, isc2_r, isc2_n, va_rf_s, vfn_ite, true_and, and_true, true_or, or_true, eq_self, Bool.false_eq_true, not_false_eq_true, not_true_eq_false, if_true, if_false, Nat.reduceAdd, Nat.reduceLeDiff, reduceIte, s_isIn, b2i_01]
theorem s_isAxis {v : Int32} {w : Wd} : fX8_isAxis [.int v] w = some (some (.int (b2i (0 ≤ v ∧ v ≤ 2))), w) := by
  refine sem_eq (Nat.le_of_ble_eq_true rfl) ?_
  show wp mX8_isAxis 0 [some (.int v)] [] _ _
  simp only [eX8_isAxis_0, eX8_isAxis_1, eX8_isAxis_2, eX8_isAxis_3, eX8_isAxis_6, cont_some, tl_some, tl_none, csum_nil, csum_i, csum_r, csum_j, isc2_i, isc2_r, isc2_n, va_rf_s, vfn_ite, true_and, and_true, true_or, or_true, eq_self, Bool.false_eq_true, not_false_eq_true, not_true_eq_false, if_true, if_false, Nat.reduceAdd, Nat.reduceLeDiff, reduceIte, s_isIn, b2i_01]
theorem s_isJudge {v : Int32} {w : Wd} : fX8_isJudge [.int v] w = some (some (.int (b2i (0 ≤ v ∧ v ≤ 3))), w) := by
  refine sem_eq (Nat.le_of_ble_eq_true rfl) ?_
  show wp mX8_isJudge 0 [some (.int v)] [] _ _
  simp only [eX8_isJudge_0, eX8_isJudge_1, eX8_isJudge_2, eX8_isJudge_3, eX8_isJudge_6, cont_some, tl_some, tl_none, csum_nil, csum_i, csum_r, csum_j, isc2_i, isc2_r, isc2_n, va_rf_s, vfn_ite, true_and, and_true, true_or, or_true, eq_self, Bool.false_eq_true, not_false_eq_true, not_true_eq_false, if_true, if_false, Nat.reduceAdd, Nat.reduceLeDiff, reduceIte, s_isIn, b2i_01]
theorem s_isSheet {v : Int32} {w : Wd} : fX8_isSheet [.int v] w = some (some (.int (b2i (0 ≤ v ∧ v ≤ 3))), w) := by
  refine sem_eq (Nat.le_of_ble_eq_true rfl) ?_
  show wp mX8_isSheet 0 [some (.int v)] [] _ _
  simp only [eX8_isSheet_0, eX8_isSheet_1, eX8_isSheet_2, eX8_isSheet_3, eX8_isSheet_6, cont_some, tl_some, tl_none, csum_nil, csum_i, csum_r, csum_j, isc2_i, isc2_r, isc2_n, va_rf_s, vfn_ite, true_and, and_true, true_or, or_true, eq_self, Bool.false_eq_true, not_false_eq_true, not_true_eq_false, if_true, if_false, Nat.reduceAdd, Nat.reduceLeDiff, reduceIte, s_isIn, b2i_01]
theorem s_isLane {v : Int32} {w : Wd} : fX8_isLane [.int v] w = some (some (.int (b2i (0 ≤ v ∧ v ≤ 3))), w) := by
  refine sem_eq (Nat.le_of_ble_eq_true rfl) ?_
  show wp mX8_isLane 0 [some (.int v)] [] _ _
  simp only [eX8_isLane_0, eX8_isLane_1, eX8_isLane_2, eX8_isLane_3, eX8_isLane_6, cont_some, tl_some, tl_none, csum_nil, csum_i, csum_r, csum_j, isc2_i, isc2_r, isc2_n, va_rf_s, vfn_ite, true_and, and_true, true_or, or_true, eq_self, Bool.false_eq_true, not_false_eq_true, not_true_eq_false, if_true, if_false, Nat.reduceAdd, Nat.reduceLeDiff, reduceIte, s_isIn, b2i_01]
theorem s_axisOfU {v : Int32} {w : Wd} : fX8_axisOfU [.int v] w = some (some (.int (if v = 0 then 1 else 0)), w) := by
  refine sem_eq (Nat.le_of_ble_eq_true rfl) ?_
  show wp mX8_axisOfU 0 [some (.int v)] [] _ _
  simp only [eX8_axisOfU_0, eX8_axisOfU_1, eX8_axisOfU_4, eX8_axisOfU_5, eX8_axisOfU_8, eX8_axisOfU_9, cont_some, tl_some, tl_none, csum_nil, csum_i, csum_r, csum_j, isc2_i, isc2_r, isc2_n, va_rf_s, vfn_ite, true_and, and_true, true_or, or_true, eq_self, Bool.false_eq_true, not_false_eq_true, not_true_eq_false, if_true, if_false, Nat.reduceAdd, Nat.reduceLeDiff, reduceIte]
  split <;> simp
theorem s_axisOfV {v : Int32} {w : Wd} : fX8_axisOfV [.int v] w = some (some (.int (if v = 2 then 1 else 2)), w) := by
  refine sem_eq (Nat.le_of_ble_eq_true rfl) ?_
  show wp mX8_axisOfV 0 [some (.int v)] [] _ _
  simp only [eX8_axisOfV_0, eX8_axisOfV_1, eX8_axisOfV_2, eX8_axisOfV_5, eX8_axisOfV_6, eX8_axisOfV_9, eX8_axisOfV_10, cont_some, tl_some, tl_none, csum_nil, csum_i, csum_r, csum_j, isc2_i, isc2_r, isc2_n, va_rf_s, vfn_ite, true_and, and_true, true_or, or_true, eq_self, Bool.false_eq_true, not_false_eq_true, not_true_eq_false, if_true, if_false, Nat.reduceAdd, Nat.reduceLeDiff, reduceIte]
  split <;> simp
/-! the greatest common divisor -/
theorem lgc_0 {x y : Int64} : lg_cmp x y = 0 ↔ x = y := by
  unfold lg_cmp
  split
  · rename_i h
    constructor
    · intro q; exact absurd q (by decide)
    · intro q; subst q; exact absurd h Int64.lt_irrefl
  · split <;> simp_all
theorem lgc_lt {x y : Int64} : lg_cmp x y < 0 ↔ x < y := by
  unfold lg_cmp
  split
  · rename_i h
    constructor
    · intro q; exact absurd q (by decide)
    · intro q; exact absurd (Int64.lt_trans h q) Int64.lt_irrefl
  · split
    · rename_i h; subst h
      constructor
      · intro q; exact absurd q (by decide)
      · intro q; exact absurd q Int64.lt_irrefl
    · rename_i h1 h2
      constructor
      · intro _
        rcases Int64.lt_or_eq_of_le (Int64.not_lt.mp h1) with q | q
        · exact q
        · exact absurd q h2
      · intro _; decide
theorem lgc_gt {x y : Int64} : 0 < lg_cmp x y ↔ y < x := by
  unfold lg_cmp
  split
  · rename_i h
    exact ⟨fun _ => h, fun _ => by decide⟩
  · rename_i h1
    split
    · exact ⟨fun q => absurd q (by decide), fun q => absurd q h1⟩
    · exact ⟨fun q => absurd q (by decide), fun q => absurd q h1⟩
def gst : Nat → Nat → Nat → Nat
  | 0, a, _ => a
  | k + 1, a, b => if b = 0 then a else gst k b (a % b)
theorem gst_gcd : ∀ (m k a b : Nat), b < 2 ^ m → 2 * m ≤ k → gst k a b = Nat.gcd a b := by
  intro m
  induction m with
  | zero =>
    intro k a b hb _
    have hb0 : b = 0 := by simp at hb; exact hb
    subst hb0
    cases k <;> simp [gst]
  | succ m ih =>
    intro k a b hb hk
    obtain ⟨k, rfl⟩ : ∃ j, k = j + 2 := ⟨k - 2, by omega⟩
    unfold gst
    by_cases h0 : b = 0
    · subst h0; simp
    · rw [if_neg h0]
      unfold gst
      by_cases h1 : a % b = 0
      · rw [if_pos h1, Nat.gcd_comm a b, Nat.gcd_rec b a, h1]; simp
      · rw [if_neg h1, ih k (a % b) (b % (a % b)) ?_ (by omega)]
        · rw [Nat.gcd_comm a b, Nat.gcd_rec b a, Nat.gcd_rec (a % b) b, Nat.gcd_comm]
        · have h2 : a % b < b := Nat.mod_lt _ (by omega)
          have h3 : b % (a % b) < a % b := Nat.mod_lt _ (by omega)
          have h4 : b % (a % b) + (a % b) ≤ b := by
            have := Nat.div_add_mod b (a % b)
            have h5 : 1 ≤ b / (a % b) := Nat.div_pos (by omega) (by omega)
            have h6 : (a % b) * 1 ≤ (a % b) * (b / (a % b)) := Nat.mul_le_mul_left _ h5
            omega
          rw [Nat.pow_succ] at hb
          omega
theorem l_divisor {w : Wd} {Q : Option Value → Wd → Prop} : ∀ (d s a b : Nat) (a5 a6 : Option Value), s + d = 100 → a < 2 ^ 62 → b < 2 ^ 62 → Q (some (.long (lN (gst d a b)))) w →
    wp mX8_divisor 3 [some (.long (lN a)), none, some (.long (lN b)), none, some (.int (nI s)), a5, a6] [] w Q := by
  intro d
  induction d with
  | zero =>
    intro s a b a5 a6 hs ha hb hQ
    have : s = 100 := by omega
    subst this
    have h1 : ¬ (nI 100 < 100) := by decide
    simp only [eX8_divisor_3, eX8_divisor_5, eX8_divisor_7, eX8_divisor_32, eX8_divisor_33, cont_some, tl_some, tl_none, csum_nil, csum_i, csum_r, csum_j, isc2_i, isc2_r, isc2_n, va_rf_s, vfn_ite, true_and, and_true, true_or, or_true, eq_self, Bool.false_eq_true, not_false_eq_true, not_true_eq_false, if_true, if_false, Nat.reduceAdd, Nat.reduceLeDiff, reduceIte, h1]
    exact hQ
  | succ d ih =>
    intro s a b a5 a6 hs ha hb hQ
    have h1 : nI s < 100 := nI_lt (b := 100) (by omega) (by decide)
    simp only [eX8_divisor_3, eX8_divisor_5, eX8_divisor_7, eX8_divisor_10, eX8_divisor_11, eX8_divisor_12, eX8_divisor_13, cont_some, tl_some, tl_none, csum_nil, csum_i, csum_r, csum_j, isc2_i, isc2_r, isc2_n, va_rf_s, vfn_ite, true_and, and_true, true_or, or_true, eq_self, Bool.false_eq_true, not_false_eq_true, not_true_eq_false, if_true, if_false, Nat.reduceAdd, Nat.reduceLeDiff, reduceIte, h1, lgc_0]
    unfold gst at hQ
    by_cases hb0 : b = 0
    · subst hb0
      rw [if_pos rfl] at hQ
      rw [if_pos (show lN 0 = 0 from rfl)]
      simp only [eX8_divisor_32, eX8_divisor_33, cont_some, tl_some, tl_none, csum_nil, csum_i, csum_r, csum_j, isc2_i, isc2_r, isc2_n, va_rf_s, vfn_ite, true_and, and_true, true_or, or_true, eq_self, Bool.false_eq_true, not_false_eq_true, not_true_eq_false, if_true, if_false, Nat.reduceAdd, Nat.reduceLeDiff, reduceIte]
      exact hQ
    · rw [if_neg hb0] at hQ
      have hbn : ¬ lN b = 0 := fun q => hb0 ((pk_lEQ (b := 0) (by omega) (by omega)).mp q)
      rw [if_neg hbn]
      simp only [eX8_divisor_16, eX8_divisor_17, eX8_divisor_18, eX8_divisor_19, eX8_divisor_21, eX8_divisor_22, eX8_divisor_23, eX8_divisor_25, eX8_divisor_26, eX8_divisor_29, cont_some, tl_some, tl_none, csum_nil, csum_i, csum_r, csum_j, isc2_i, isc2_r, isc2_n, va_rf_s, vfn_ite, true_and, and_true, true_or, or_true, eq_self, Bool.false_eq_true, not_false_eq_true, not_true_eq_false, if_true, if_false, Nat.reduceAdd, Nat.reduceLeDiff, reduceIte, hbn, not_false_eq_true]
      rw [pk_lRem (by omega) (by omega) (by omega), nI_1]
      exact ih (s + 1) b (a % b) _ _ (by omega) hb (Nat.lt_of_le_of_lt (Nat.mod_le _ _) ha) hQ
/-- the class's divisor, of numbers below 2^50 -/
theorem s_divisor {a b : Nat} {w : Wd} (ha : a < 2 ^ 62) (hb : b < 2 ^ 50) : fX8_divisor [.long (lN a), .long (lN b)] w = some (some (.long (lN (Nat.gcd a b))), w) := by
  refine sem_eq (Nat.le_of_ble_eq_true rfl) ?_
  show wp mX8_divisor 0 [some (.long (lN a)), none, some (.long (lN b)), none, none, none, none] [] _ _
  simp only [eX8_divisor_0, eX8_divisor_1, cont_some, tl_some, tl_none, csum_nil, csum_i, csum_r, csum_j, isc2_i, isc2_r, isc2_n, va_rf_s, vfn_ite, true_and, and_true, true_or, or_true, eq_self, Bool.false_eq_true, not_false_eq_true, not_true_eq_false, if_true, if_false, Nat.reduceAdd, Nat.reduceLeDiff, reduceIte]
  refine l_divisor 100 0 a b _ _ rfl ha (by omega) ?_
  rw [gst_gcd 50 100 a b hb (by omega)]
  exact ⟨rfl, rfl⟩
theorem l_common {w : Wd} {Q : Option Value → Wd → Prop} : ∀ (b a : Nat) (a0 a1 a2 a3 a8 a9 : Option Value), isc2 (some a3) = false → a < 2 ^ 63 → b < 2 ^ 63 → Q (some (.long (lN (Nat.gcd a b)))) w →
    wp mX9_common 28 [a0, a1, a2, a3, some (.long (lN a)), none, some (.long (lN b)), none, a8, a9] [] w Q := by
  intro b
  induction b using Nat.strongRecOn with
  | ind b ih =>
    intro a a0 a1 a2 a3 a8 a9 h3 ha hb hQ
    simp only [eX9_common_28, eX9_common_30, eX9_common_31, eX9_common_32, cont_some, tl_some, tl_none, csum_nil, csum_i, csum_r, csum_j, isc2_i, isc2_r, isc2_n, va_rf_s, vfn_ite, true_and, and_true, true_or, or_true, eq_self, Bool.false_eq_true, not_false_eq_true, not_true_eq_false, if_true, if_false, Nat.reduceAdd, Nat.reduceLeDiff, reduceIte, lgc_0]
    by_cases hb0 : b = 0
    · subst hb0
      rw [if_pos (show lN 0 = 0 from rfl)]
      simp only [eX9_common_53, eX9_common_55, cont_some, tl_some, tl_none, csum_nil, csum_i, csum_r, csum_j, isc2_i, isc2_r, isc2_n, va_rf_s, vfn_ite, true_and, and_true, true_or, or_true, eq_self, Bool.false_eq_true, not_false_eq_true, not_true_eq_false, if_true, if_false, Nat.reduceAdd, Nat.reduceLeDiff, reduceIte]
      simpa using hQ
    · have hbn : ¬ lN b = 0 := fun q => hb0 ((pk_lEQ (b := 0) (by omega) (by omega)).mp q)
      rw [if_neg hbn]
      simp only [eX9_common_35, eX9_common_37, eX9_common_39, eX9_common_40, eX9_common_42, eX9_common_44, eX9_common_46, eX9_common_48, eX9_common_50, cont_some, tl_some, tl_none, csum_nil, csum_i, csum_r, csum_j, isc2_i, isc2_r, isc2_n, va_rf_s, vfn_ite, true_and, and_true, true_or, or_true, eq_self, Bool.false_eq_true, not_false_eq_true, not_true_eq_false, if_true, if_false, Nat.reduceAdd, Nat.reduceLeDiff, reduceIte, hbn, not_false_eq_true, h3]
      rw [pk_lRem (by omega) (by omega) (by omega)]
      have hlt : a % b < b := Nat.mod_lt _ (by omega)
      refine ih (a % b) hlt b _ _ _ _ _ _ h3 hb (by omega) ?_
      rw [Nat.gcd_comm, ← Nat.gcd_rec, Nat.gcd_comm]
      exact hQ
/-- the reference's common divisor, of any numbers within reach -/
theorem s_common {a b : Int} {w : Wd} (ha : r64 a) (ha' : a ≠ -9223372036854775808) (hb : r64 b) (hb' : b ≠ -9223372036854775808) : fX9_common [.long (jJ a), .long (jJ b)] w = some (some (.long (lN (Nat.gcd a.natAbs b.natAbs))), w) := by
  have h0 : (0 : Int64) = jJ 0 := rfl
  have e1 : (if a < 0 then -jJ a else jJ a) = lN a.natAbs := by
    rw [lN_jJ]
    split
    · rw [jJ_neg]; congr 1; omega
    · congr 1; omega
  have e2 : (if b < 0 then -jJ b else jJ b) = lN b.natAbs := by
    rw [lN_jJ]
    split
    · rw [jJ_neg]; congr 1; omega
    · congr 1; omega
  obtain ⟨ha1, ha2⟩ := ha
  obtain ⟨hb1, hb2⟩ := hb
  refine sem_eq (Nat.le_of_ble_eq_true rfl) ?_
  show wp mX9_common 0 [some (.long (jJ a)), none, some (.long (jJ b)), none, none, none, none, none, none, none] [] _ _
  simp only [eX9_common_0, eX9_common_1, eX9_common_2, eX9_common_3, eX9_common_6, eX9_common_7, eX9_common_8, eX9_common_11, eX9_common_12, eX9_common_14, eX9_common_15, eX9_common_16, eX9_common_17, eX9_common_20, eX9_common_21, eX9_common_22, eX9_common_25, eX9_common_26, cont_some, tl_some, tl_none, csum_nil, csum_i, csum_r, csum_j, isc2_i, isc2_r, isc2_n, va_rf_s, vfn_ite, true_and, and_true, true_or, or_true, eq_self, Bool.false_eq_true, not_false_eq_true, not_true_eq_false, if_true, if_false, Nat.reduceAdd, Nat.reduceLeDiff, reduceIte, lgc_lt]
  have hA : jJ a < 0 ↔ a < 0 := by rw [h0, jJ_lt ⟨ha1, ha2⟩ (by decide)]
  have hB : jJ b < 0 ↔ b < 0 := by rw [h0, jJ_lt ⟨hb1, hb2⟩ (by decide)]
  simp only [hA, hB]
  by_cases qa : a < 0 <;> by_cases qb : b < 0 <;> simp only [qa, qb, if_true, if_false] at e1 e2 ⊢ <;> rw [e1, e2] <;> exact l_common _ _ _ _ _ _ _ _ rfl (by omega) (by omega) ⟨rfl, rfl⟩
