/-! the reference: the cell at o, its rows behind it -/
abbrev isMd (w : Wd) (o : Nat) : Prop := shp w o = (9, 0) ∧ rdR w o 0 = some (o + 1) ∧ rdR w o 1 = some (o + 2) ∧ rdR w o 3 = some (o + 3) ∧ rdR w o 5 = some (o + 4) ∧ rdR w o 7 = some (o + 5) ∧ rdR w o 8 = some (o + 6) ∧ rdR w o 9 = some (o + 7) ∧ rdR w o 10 = some (o + 8) ∧ rdR w o 19 = some (o + 9) ∧ rdR w o 20 = some (o + 10) ∧ rdR w o 22 = some (o + 11) ∧ rdR w o 24 = some (o + 12) ∧
  shp w (o + 1) = (10, 33) ∧ shp w (o + 2) = (10, 198) ∧ shp w (o + 3) = (10, 232) ∧ shp w (o + 4) = (10, 90) ∧ shp w (o + 5) = (10, 4) ∧ shp w (o + 6) = (10, 4) ∧ shp w (o + 7) = (11, 96) ∧ shp w (o + 8) = (11, 24) ∧ shp w (o + 9) = (10, 10) ∧ shp w (o + 10) = (10, 10) ∧ shp w (o + 11) = (10, 11) ∧ shp w (o + 12) = (10, 30)
theorem i2l_le {x y : Int32} : x.toInt64 ≤ y.toInt64 ↔ x ≤ y := by rw [Int64.le_iff_toInt_le, Int32.le_iff_toInt_le, Int32.toInt_toInt64, Int32.toInt_toInt64]
theorem i2l_lt {x y : Int32} : x.toInt64 < y.toInt64 ↔ x < y := by rw [Int64.lt_iff_toInt_lt, Int32.lt_iff_toInt_lt, Int32.toInt_toInt64, Int32.toInt_toInt64]
theorem s_in {v lo hi : Int64} {w : Wd} : fX9_in [.long v, .long lo, .long hi] w = some (some (.int (b2i (lo ≤ v ∧ v ≤ hi))), w) := by
  refine sem_eq (Nat.le_of_ble_eq_true rfl) ?_
  show wp mX9_in 0 [some (.long v), none, some (.long lo), none, some (.long hi), none] [] _ _
  simp only [eX9_in_0, eX9_in_1, eX9_in_2, eX9_in_3, eX9_in_6, eX9_in_7, eX9_in_9, eX9_in_10, eX9_in_13, eX9_in_14, eX9_in_17, eX9_in_18, cont_some, tl_some, tl_none, csum_nil, csum_i, csum_r, csum_j, isc2_i, isc2_r, isc2_n, va_rf_s, vfn_ite, true_and, and_true, true_or, or_true, eq_self, Bool.false_eq_true, not_false_eq_true, not_true_eq_false, if_true, if_false, Nat.reduceAdd, Nat.reduceLeDiff, reduceIte, lgc_lt, lgc_gt]
  by_cases h1 : v < lo
  · simp [h1, b2i, Int64.not_le.mpr h1]
  · by_cases h2 : hi < v
    · simp [h1, h2, b2i, Int64.not_le.mpr h2]
    · simp [h1, h2, b2i, Int64.not_lt.mp h1, Int64.not_lt.mp h2]
theorem s_inI {x lo hi : Int32} {l h : Int64} {w : Wd} (hl : lo.toInt64 = l) (hh : hi.toInt64 = h) : fX9_in [.long x.toInt64, .long l, .long h] w = some (some (.int (b2i (lo ≤ x ∧ x ≤ hi))), w) := by
  subst hl; subst hh
  rw [s_in]
  simp only [i2l_le]
theorem in15 {x : Int32} {w : Wd} : fX9_in [.long x.toInt64, .long (-15), .long 15] w = some (some (.int (b2i (-15 ≤ x ∧ x ≤ 15))), w) := s_inI (by decide) (by decide)
theorem in02 {x : Int32} {w : Wd} : fX9_in [.long x.toInt64, .long 0, .long 2] w = some (some (.int (b2i (0 ≤ x ∧ x ≤ 2))), w) := s_inI (by decide) (by decide)
theorem in03 {x : Int32} {w : Wd} : fX9_in [.long x.toInt64, .long 0, .long 3] w = some (some (.int (b2i (0 ≤ x ∧ x ≤ 3))), w) := s_inI (by decide) (by decide)
theorem in0999 {x : Int32} {w : Wd} : fX9_in [.long x.toInt64, .long 0, .long 999] w = some (some (.int (b2i (0 ≤ x ∧ x ≤ 999))), w) := s_inI (by decide) (by decide)
theorem in140 {x : Int32} {w : Wd} : fX9_in [.long x.toInt64, .long 1, .long 40] w = some (some (.int (b2i (1 ≤ x ∧ x ≤ 40))), w) := s_inI (by decide) (by decide)
/-! pictures -/
def blkIs (f : Nat → Int32) (S : Sst) : Prop := f 0 = nI S.1 ∧ S.1 ≤ 10 ∧ f 1 = S.2.2.1 ∧ f 2 = S.2.2.2 ∧ ∀ i, i < 3 * S.1 → f (3 + i) = S.2.1 i
theorem blkIs.congr {f g : Nat → Int32} {S : Sst} (h : blkIs f S) (e : ∀ i, i < 33 → g i = f i) : blkIs g S := by
  obtain ⟨h1, h2, h3, h4, h5⟩ := h
  exact ⟨by rw [e 0 (by omega)]; exact h1, h2, by rw [e 1 (by omega)]; exact h3, by rw [e 2 (by omega)]; exact h4, fun i hi => by rw [e _ (by omega)]; exact h5 i hi⟩
def mdP (w : Wd) (o m : Nat) (P : Nat → Sst) : Prop := rdI w o 2 = nI m ∧ m ≤ 6 ∧ ∀ k, k < m → blkIs (fun i => rdI w (o + 2) (33 * k + i)) (P k)
/-- all but these places is as it was -/
def FrX (X : Nat → Nat → Prop) (w u : Wd) : Prop := (∀ c j, ¬ X c j → rdI u c j = rdI w c j) ∧ (∀ c j, ¬ X c j → rdJ u c j = rdJ w c j) ∧ u.2.2 = w.2.2
section
variable {X Y : Nat → Nat → Prop} {w u v : Wd} {a k : Nat}
theorem FrX.rf : FrX X w w := ⟨fun _ _ _ => rfl, fun _ _ _ => rfl, rfl⟩
theorem FrX.tr (h : FrX X w u) (h' : FrX X u v) : FrX X w v := ⟨fun c j q => (h'.1 c j q).trans (h.1 c j q), fun c j q => (h'.2.1 c j q).trans (h.2.1 c j q), h'.2.2.trans h.2.2⟩
theorem FrX.wide (h : FrX X w u) (e : ∀ c j, X c j → Y c j) : FrX Y w u := ⟨fun c j q => h.1 c j (fun z => q (e c j z)), fun c j q => h.2.1 c j (fun z => q (e c j z)), h.2.2⟩
theorem FrX.wrI {x : Int32} (h : FrX X w u) (hx : X a k) : FrX X w (wrI u a k x) := ⟨fun c j q => by rw [rdI_wrI, if_neg (fun z => q (by rw [z.1, z.2]; exact hx))]; exact h.1 c j q, h.2.1, h.2.2⟩
theorem FrX.wrJ {x : Int64} (h : FrX X w u) (hx : X a k) : FrX X w (wrJ u a k x) := ⟨h.1, fun c j q => by rw [rdJ_wrJ, if_neg (fun z => q (by rw [z.1, z.2]; exact hx))]; exact h.2.1 c j q, h.2.2⟩
theorem FrX.cpI {sa sp da dp n : Nat} (h : FrX X w u) (hx : ∀ j, dp ≤ j → j < dp + n → X da j) : FrX X w (cpI u sa sp da dp n) := ⟨fun c j q => by rw [rdI_cpI, if_neg (fun z => q (by rw [z.1]; exact hx j z.2.1 z.2.2))]; exact h.1 c j q, h.2.1, h.2.2⟩
theorem FrX.cpJ {sa sp da dp n : Nat} (h : FrX X w u) (hx : ∀ j, dp ≤ j → j < dp + n → X da j) : FrX X w (cpJ u sa sp da dp n) := ⟨h.1, fun c j q => by rw [rdJ_cpJ, if_neg (fun z => q (by rw [z.1]; exact hx j z.2.1 z.2.2))]; exact h.2.1 c j q, h.2.2⟩
theorem FrX.md {o : Nat} (h : FrX X w u) (hm : isMd w o) : isMd u o := by
  have e1 : ∀ c, shp u c = shp w c := fun c => by unfold shp; rw [h.2.2]
  have e2 : ∀ c j, rdR u c j = rdR w c j := fun c j => by unfold rdR; rw [h.2.2]
  unfold isMd
  simp only [e1, e2]
  exact hm
end
theorem cpI_0 {w : Wd} {sa sp da dp : Nat} : cpI w sa sp da dp 0 = w := by
  unfold cpI
  have : (fun b j => if b = da ∧ dp ≤ j ∧ j < dp + 0 then w.1 sa (sp + (j - dp)) else w.1 b j) = w.1 := by
    funext b j
    rw [if_neg (fun q => by omega)]
  rw [this]
theorem cpJ_0 {w : Wd} {sa sp da dp : Nat} : cpJ w sa sp da dp 0 = w := by
  unfold cpJ
  have : (fun b j => if b = da ∧ dp ≤ j ∧ j < dp + 0 then w.2.1 sa (sp + (j - dp)) else w.2.1 b j) = w.2.1 := by
    funext b j
    rw [if_neg (fun q => by omega)]
  rw [this]
theorem cpI_s {w : Wd} {sa sp da dp n : Nat} (h : sa ≠ da ∨ dp ≤ sp) : wrI (cpI w sa sp da dp n) da (dp + n) (rdI (cpI w sa sp da dp n) sa (sp + n)) = cpI w sa sp da dp (n + 1) := by
  have e : rdI (cpI w sa sp da dp n) sa (sp + n) = w.1 sa (sp + n) := by
    rw [rdI_cpI, if_neg (fun q => by omega)]; rfl
  rw [e]
  unfold wrI cpI
  congr 1
  funext b j
  simp only [up2]
  by_cases q : b = da ∧ j = dp + n
  · rw [if_pos q, if_pos ⟨q.1, by omega, by omega⟩, q.2, show dp + n - dp = n by omega]
  · rw [if_neg q]
    by_cases z : b = da ∧ dp ≤ j ∧ j < dp + n
    · rw [if_pos z, if_pos ⟨z.1, z.2.1, by omega⟩]
    · rw [if_neg z, if_neg (fun y => z ⟨y.1, y.2.1, by omega⟩)]
theorem cpJ_s {w : Wd} {sa sp da dp n : Nat} (h : sa ≠ da ∨ dp ≤ sp) : wrJ (cpJ w sa sp da dp n) da (dp + n) (rdJ (cpJ w sa sp da dp n) sa (sp + n)) = cpJ w sa sp da dp (n + 1) := by
  have e : rdJ (cpJ w sa sp da dp n) sa (sp + n) = w.2.1 sa (sp + n) := by
    rw [rdJ_cpJ, if_neg (fun q => by omega)]; rfl
  rw [e]
  unfold wrJ cpJ
  congr 2
  funext b j
  simp only [up2]
  by_cases q : b = da ∧ j = dp + n
  · rw [if_pos q, if_pos ⟨q.1, by omega, by omega⟩, q.2, show dp + n - dp = n by omega]
  · rw [if_neg q]
    by_cases z : b = da ∧ dp ≤ j ∧ j < dp + n
    · rw [if_pos z, if_pos ⟨z.1, z.2.1, by omega⟩]
    · rw [if_neg z, if_neg (fun y => z ⟨y.1, y.2.1, by omega⟩)]
theorem s_part {w : Wd} {o k j : Nat} (h : isMd w o) (hk : 3 * k + j < 30) : fX9_part [.ref o, .int (nI k), .int (nI j)] w = some (some (.int (rdI w (o + 1) (3 + (3 * k + j)))), w) := by
  have e : (3 : Int32) + 3 * nI k + nI j = nI (3 + (3 * k + j)) := by
    rw [nI_p3, pk_mul, nI_a, nI_a]
    congr 1
    omega
  refine sem_eq (Nat.le_of_ble_eq_true rfl) ?_
  show wp mX9_part 0 [some (.ref o), some (.int (nI k)), some (.int (nI j))] [] _ _
  simp only [eX9_part_0, eX9_part_1, eX9_part_4, eX9_part_5, eX9_part_6, eX9_part_7, eX9_part_8, eX9_part_9, eX9_part_10, eX9_part_11, eX9_part_12, cont_some, tl_some, tl_none, csum_nil, csum_i, csum_r, csum_j, isc2_i, isc2_r, isc2_n, va_rf_s, vfn_ite, true_and, and_true, true_or, or_true, eq_self, Bool.false_eq_true, not_false_eq_true, not_true_eq_false, if_true, if_false, Nat.reduceAdd, Nat.reduceLeDiff, reduceIte, h.1, h.2.1, h.2.2.1, h.2.2.2.1, h.2.2.2.2.1, h.2.2.2.2.2.1, h.2.2.2.2.2.2.1, h.2.2.2.2.2.2.2.1, h.2.2.2.2.2.2.2.2.1, h.2.2.2.2.2.2.2.2.2.1, h.2.2.2.2.2.2.2.2.2.2.1, h.2.2.2.2.2.2.2.2.2.2.2.1, h.2.2.2.2.2.2.2.2.2.2.2.2.1, h.2.2.2.2.2.2.2.2.2.2.2.2.2.1, h.2.2.2.2.2.2.2.2.2.2.2.2.2.2.1, h.2.2.2.2.2.2.2.2.2.2.2.2.2.2.2.1, h.2.2.2.2.2.2.2.2.2.2.2.2.2.2.2.2.1, h.2.2.2.2.2.2.2.2.2.2.2.2.2.2.2.2.2.1, h.2.2.2.2.2.2.2.2.2.2.2.2.2.2.2.2.2.2.1, h.2.2.2.2.2.2.2.2.2.2.2.2.2.2.2.2.2.2.2.1, h.2.2.2.2.2.2.2.2.2.2.2.2.2.2.2.2.2.2.2.2.1, h.2.2.2.2.2.2.2.2.2.2.2.2.2.2.2.2.2.2.2.2.2.1, h.2.2.2.2.2.2.2.2.2.2.2.2.2.2.2.2.2.2.2.2.2.2.1, h.2.2.2.2.2.2.2.2.2.2.2.2.2.2.2.2.2.2.2.2.2.2.2.1, h.2.2.2.2.2.2.2.2.2.2.2.2.2.2.2.2.2.2.2.2.2.2.2.2, e, inA_nI (show 3 + (3 * k + j) < 33 by omega) (by omega), nI_clamp (show 3 + (3 * k + j) < 2 ^ 31 by omega)]
theorem s_mdPoint {w : Wd} {o n : Nat} {k : Int32} (h : isMd w o) (hn : rdI w (o + 1) 0 = nI n) : fX9_isPoint [.ref o, .int k] w = some (some (.int (b2i (0 ≤ k ∧ k ≤ nI n - 1))), w) := by
  have e0 : inA 0 33 = true := by decide
  have c0 : (0 : Int32).toNatClampNeg = 0 := rfl
  have hi : ∀ x : Int32, fX9_in [.long k.toInt64, .long 0, .long x.toInt64] w = some (some (.int (b2i (0 ≤ k ∧ k ≤ x))), w) := fun x => s_inI (by decide) rfl
  refine sem_eq (Nat.le_of_ble_eq_true rfl) ?_
  show wp mX9_isPoint 0 [some (.ref o), some (.int k)] [] _ _
  simp only [eX9_isPoint_0, eX9_isPoint_1, eX9_isPoint_2, eX9_isPoint_3, eX9_isPoint_4, eX9_isPoint_7, eX9_isPoint_8, eX9_isPoint_9, eX9_isPoint_10, eX9_isPoint_11, eX9_isPoint_12, eX9_isPoint_15, cont_some, tl_some, tl_none, csum_nil, csum_i, csum_r, csum_j, isc2_i, isc2_r, isc2_n, va_rf_s, vfn_ite, true_and, and_true, true_or, or_true, eq_self, Bool.false_eq_true, not_false_eq_true, not_true_eq_false, if_true, if_false, Nat.reduceAdd, Nat.reduceLeDiff, reduceIte, h.1, h.2.1, h.2.2.1, h.2.2.2.1, h.2.2.2.2.1, h.2.2.2.2.2.1, h.2.2.2.2.2.2.1, h.2.2.2.2.2.2.2.1, h.2.2.2.2.2.2.2.2.1, h.2.2.2.2.2.2.2.2.2.1, h.2.2.2.2.2.2.2.2.2.2.1, h.2.2.2.2.2.2.2.2.2.2.2.1, h.2.2.2.2.2.2.2.2.2.2.2.2.1, h.2.2.2.2.2.2.2.2.2.2.2.2.2.1, h.2.2.2.2.2.2.2.2.2.2.2.2.2.2.1, h.2.2.2.2.2.2.2.2.2.2.2.2.2.2.2.1, h.2.2.2.2.2.2.2.2.2.2.2.2.2.2.2.2.1, h.2.2.2.2.2.2.2.2.2.2.2.2.2.2.2.2.2.1, h.2.2.2.2.2.2.2.2.2.2.2.2.2.2.2.2.2.2.1, h.2.2.2.2.2.2.2.2.2.2.2.2.2.2.2.2.2.2.2.1, h.2.2.2.2.2.2.2.2.2.2.2.2.2.2.2.2.2.2.2.2.1, h.2.2.2.2.2.2.2.2.2.2.2.2.2.2.2.2.2.2.2.2.2.1, h.2.2.2.2.2.2.2.2.2.2.2.2.2.2.2.2.2.2.2.2.2.2.1, h.2.2.2.2.2.2.2.2.2.2.2.2.2.2.2.2.2.2.2.2.2.2.2.1, h.2.2.2.2.2.2.2.2.2.2.2.2.2.2.2.2.2.2.2.2.2.2.2.2, e0, c0, hn, hi, b2i_01]
theorem lo_isThere {w : Wd} {o n : Nat} {x y z : Int32} {Q : Option Value → Wd → Prop} (h : isMd w o) (hn : rdI w (o + 1) 0 = nI n) (h10 : n ≤ 10) : ∀ (d k : Nat) (t : Bool), k + d = n → Q (some (.int (b2i ((t || hasF (fun i => rdI w (o + 1) (3 + i)) x y z d k) = true)))) w →
    wp mX9_isThere 6 [some (.ref o), some (.int x), some (.int y), some (.int z), some (.int (b2i (t = true))), some (.int (nI k))] [] w Q := by
  have e0 : inA 0 33 = true := by decide
  have c0 : (0 : Int32).toNatClampNeg = 0 := rfl
  intro d
  induction d with
  | zero =>
    intro k t hk hQ
    have h1 : ¬ nI k < nI n := nI_nlt (by omega) (by omega)
    simp only [eX9_isThere_6, eX9_isThere_8, eX9_isThere_9, eX9_isThere_12, eX9_isThere_13, eX9_isThere_14, eX9_isThere_68, eX9_isThere_70, cont_some, tl_some, tl_none, csum_nil, csum_i, csum_r, csum_j, isc2_i, isc2_r, isc2_n, va_rf_s, vfn_ite, true_and, and_true, true_or, or_true, eq_self, Bool.false_eq_true, not_false_eq_true, not_true_eq_false, if_true, if_false, Nat.reduceAdd, Nat.reduceLeDiff, reduceIte, h.1, h.2.1, h.2.2.1, h.2.2.2.1, h.2.2.2.2.1, h.2.2.2.2.2.1, h.2.2.2.2.2.2.1, h.2.2.2.2.2.2.2.1, h.2.2.2.2.2.2.2.2.1, h.2.2.2.2.2.2.2.2.2.1, h.2.2.2.2.2.2.2.2.2.2.1, h.2.2.2.2.2.2.2.2.2.2.2.1, h.2.2.2.2.2.2.2.2.2.2.2.2.1, h.2.2.2.2.2.2.2.2.2.2.2.2.2.1, h.2.2.2.2.2.2.2.2.2.2.2.2.2.2.1, h.2.2.2.2.2.2.2.2.2.2.2.2.2.2.2.1, h.2.2.2.2.2.2.2.2.2.2.2.2.2.2.2.2.1, h.2.2.2.2.2.2.2.2.2.2.2.2.2.2.2.2.2.1, h.2.2.2.2.2.2.2.2.2.2.2.2.2.2.2.2.2.2.1, h.2.2.2.2.2.2.2.2.2.2.2.2.2.2.2.2.2.2.2.1, h.2.2.2.2.2.2.2.2.2.2.2.2.2.2.2.2.2.2.2.2.1, h.2.2.2.2.2.2.2.2.2.2.2.2.2.2.2.2.2.2.2.2.2.1, h.2.2.2.2.2.2.2.2.2.2.2.2.2.2.2.2.2.2.2.2.2.2.1, h.2.2.2.2.2.2.2.2.2.2.2.2.2.2.2.2.2.2.2.2.2.2.2.1, h.2.2.2.2.2.2.2.2.2.2.2.2.2.2.2.2.2.2.2.2.2.2.2.2, e0, c0, hn, h1, b2i_01]
    simpa [hasF] using hQ
  | succ d ih =>
    intro k t hk hQ
    have h1 : nI k < nI n := nI_lt (by omega) (by omega)
    have p0 : fX9_part [.ref o, .int (nI k), .int 0] w = some (some (.int (rdI w (o + 1) (3 + 3 * k))), w) := s_part (j := 0) h (by omega)
    have p1 : fX9_part [.ref o, .int (nI k), .int 1] w = some (some (.int (rdI w (o + 1) (3 + (3 * k + 1)))), w) := s_part (j := 1) h (by omega)
    have p2 : fX9_part [.ref o, .int (nI k), .int 2] w = some (some (.int (rdI w (o + 1) (3 + (3 * k + 2)))), w) := s_part (j := 2) h (by omega)
    simp only [eX9_isThere_6, eX9_isThere_8, eX9_isThere_9, eX9_isThere_12, eX9_isThere_13, eX9_isThere_14, eX9_isThere_17, eX9_isThere_19, eX9_isThere_22, eX9_isThere_23, eX9_isThere_25, eX9_isThere_26, eX9_isThere_29, eX9_isThere_30, eX9_isThere_33, eX9_isThere_34, eX9_isThere_36, eX9_isThere_37, eX9_isThere_40, eX9_isThere_41, eX9_isThere_44, eX9_isThere_45, eX9_isThere_47, eX9_isThere_48, eX9_isThere_51, eX9_isThere_52, eX9_isThere_55, eX9_isThere_56, eX9_isThere_59, eX9_isThere_60, eX9_isThere_62, cont_some, tl_some, tl_none, csum_nil, csum_i, csum_r, csum_j, isc2_i, isc2_r, isc2_n, va_rf_s, vfn_ite, true_and, and_true, true_or, or_true, eq_self, Bool.false_eq_true, not_false_eq_true, not_true_eq_false, if_true, if_false, Nat.reduceAdd, Nat.reduceLeDiff, reduceIte, h.1, h.2.1, h.2.2.1, h.2.2.2.1, h.2.2.2.2.1, h.2.2.2.2.2.1, h.2.2.2.2.2.2.1, h.2.2.2.2.2.2.2.1, h.2.2.2.2.2.2.2.2.1, h.2.2.2.2.2.2.2.2.2.1, h.2.2.2.2.2.2.2.2.2.2.1, h.2.2.2.2.2.2.2.2.2.2.2.1, h.2.2.2.2.2.2.2.2.2.2.2.2.1, h.2.2.2.2.2.2.2.2.2.2.2.2.2.1, h.2.2.2.2.2.2.2.2.2.2.2.2.2.2.1, h.2.2.2.2.2.2.2.2.2.2.2.2.2.2.2.1, h.2.2.2.2.2.2.2.2.2.2.2.2.2.2.2.2.1, h.2.2.2.2.2.2.2.2.2.2.2.2.2.2.2.2.2.1, h.2.2.2.2.2.2.2.2.2.2.2.2.2.2.2.2.2.2.1, h.2.2.2.2.2.2.2.2.2.2.2.2.2.2.2.2.2.2.2.1, h.2.2.2.2.2.2.2.2.2.2.2.2.2.2.2.2.2.2.2.2.1, h.2.2.2.2.2.2.2.2.2.2.2.2.2.2.2.2.2.2.2.2.2.1, h.2.2.2.2.2.2.2.2.2.2.2.2.2.2.2.2.2.2.2.2.2.2.1, h.2.2.2.2.2.2.2.2.2.2.2.2.2.2.2.2.2.2.2.2.2.2.2.1, h.2.2.2.2.2.2.2.2.2.2.2.2.2.2.2.2.2.2.2.2.2.2.2.2, e0, c0, hn, h1, p0, p1, p2, b2i_0]
    have hi0 := ih (k + 1) false (by omega)
    have hi1 := ih (k + 1) true (by omega)
    rw [nI_1, eX9_isThere_65, eX9_isThere_65]
    unfold hasF at hQ
    cases t with
    | true =>
      simp only [not_true_eq_false, if_false]
      exact hi1 (by simpa using hQ)
    | false =>
      simp only [Bool.false_eq_true, not_false_eq_true, if_true]
      by_cases q0 : rdI w (o + 1) (3 + 3 * k) = x
      · by_cases q1 : rdI w (o + 1) (3 + (3 * k + 1)) = y
        · by_cases q2 : rdI w (o + 1) (3 + (3 * k + 2)) = z
          · simp only [q0, q1, q2, if_true]
            exact hi1 (by simpa [q0, q1, q2] using hQ)
          · simp only [q0, q1, q2, if_true, if_false]
            exact hi0 (by simpa [q0, q1, q2] using hQ)
        · simp only [q0, q1, if_true, if_false]
          exact hi0 (by simpa [q0, q1] using hQ)
      · simp only [q0, if_false]
        exact hi0 (by simpa [q0] using hQ)
theorem s_isThere {w : Wd} {o n : Nat} {x y z : Int32} (h : isMd w o) (hn : rdI w (o + 1) 0 = nI n) (h10 : n ≤ 10) : fX9_isThere [.ref o, .int x, .int y, .int z] w = some (some (.int (b2i (hasF (fun i => rdI w (o + 1) (3 + i)) x y z n 0 = true))), w) := by
  refine sem_eq (Nat.le_of_ble_eq_true rfl) ?_
  show wp mX9_isThere 0 [some (.ref o), some (.int x), some (.int y), some (.int z), none, none] [] _ _
  simp only [eX9_isThere_0, eX9_isThere_1, eX9_isThere_3, eX9_isThere_4, cont_some, tl_some, tl_none, csum_nil, csum_i, csum_r, csum_j, isc2_i, isc2_r, isc2_n, va_rf_s, vfn_ite, true_and, and_true, true_or, or_true, eq_self, Bool.false_eq_true, not_false_eq_true, not_true_eq_false, if_true, if_false, Nat.reduceAdd, Nat.reduceLeDiff, reduceIte]
  exact lo_isThere (t := false) h hn h10 n 0 (by omega) ⟨by simp, rfl⟩
