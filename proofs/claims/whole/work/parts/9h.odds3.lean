/-! parts, numbers by size, weights -/
theorem lo_mp2 {d n m : Nat} {w0 : Wd} {Q : Option Value → Wd → Prop} (h10 : n ≤ 10) (hm : m < 2 ^ n) : ∀ (e k : Nat) (w : Wd) (G : Nat → Bool), k + e = n → isO w d → gdW w d n G → FrX (Xg d) w0 w →
    (∀ u a3, isO u d → gdW u d n (mpI m e k G) → FrX (Xg d) w0 u → wp mX1_markParts 45 [some (.ref d), some (.int (nI n)), some (.int (nI m)), some (.int a3)] [] u Q) →
    wp mX1_markParts 12 [some (.ref d), some (.int (nI n)), some (.int (nI m)), some (.int (nI k))] [] w Q := by
  have hp := pw_lt h10
  intro e
  induction e with
  | zero =>
    intro k w G hk h hG hF hQ
    have e : k = n := by omega
    subst e
    have l' : ¬ nI k < nI k := Int32.lt_irrefl
    simp only [eX1_markParts_12, eX1_markParts_13, eX1_markParts_14, cont_some, tl_some, tl_none, csum_nil, csum_i, csum_r, csum_j, isc2_i, isc2_r, isc2_n, va_rf_s, vfn_ite, true_and, and_true, true_or, or_true, eq_self, Bool.false_eq_true, not_false_eq_true, not_true_eq_false, if_true, if_false, Nat.reduceAdd, Nat.reduceLeDiff, reduceIte, l']
    exact hQ w _ h hG hF
  | succ e ih =>
    intro k w G hk h hG hF hQ
    have l' : nI k < nI n := nI_lt (by omega) (by omega)
    have hr := hG m hm
    have hc : nI m &&& (((1 : Int32) <<< (nI k &&& 31)) ^^^ (-1)) = nI (clr m k) := clr_nI (by omega) (by omega)
    have cl := clr_lt (k := k) hm
    have hQ' : ∀ u a3, isO u d → gdW u d n (mpI m e (k + 1) (if G m = true then updT G (clr m k) else G)) → FrX (Xg d) w0 u → wp mX1_markParts 45 [some (.ref d), some (.int (nI n)), some (.int (nI m)), some (.int a3)] [] u Q := hQ
    by_cases g : G m = true
    · rw [if_pos g] at hr hQ'
      simp only [eX1_markParts_12, eX1_markParts_13, eX1_markParts_14, eX1_markParts_17, eX1_markParts_18, eX1_markParts_21, eX1_markParts_22, eX1_markParts_23, eX1_markParts_26, eX1_markParts_27, eX1_markParts_30, eX1_markParts_31, eX1_markParts_32, eX1_markParts_33, eX1_markParts_34, eX1_markParts_35, eX1_markParts_36, eX1_markParts_37, eX1_markParts_38, eX1_markParts_39, cont_some, tl_some, tl_none, csum_nil, csum_i, csum_r, csum_j, isc2_i, isc2_r, isc2_n, va_rf_s, vfn_ite, true_and, and_true, true_or, or_true, eq_self, Bool.false_eq_true, not_false_eq_true, not_true_eq_false, if_true, if_false, Nat.reduceAdd, Nat.reduceLeDiff, reduceIte, l', h.1, h.2.1, h.2.2.2.1, inA_nI (show m < 1024 by omega) (show 1024 < 2147483648 by omega), nI_clamp (show m < 2 ^ 31 by omega), hr, i10', hc, inA_nI (show clr m k < 1024 by omega) (show 1024 < 2147483648 by omega), nI_clamp (show clr m k < 2 ^ 31 by omega), nb1, nI_1]
      rw [eX1_markParts_42]
      exact ih (k + 1) _ _ (by omega) h hG.upd (hF.wrI rfl) hQ'
    · rw [if_neg g] at hr hQ'
      simp only [eX1_markParts_12, eX1_markParts_13, eX1_markParts_14, eX1_markParts_17, eX1_markParts_18, eX1_markParts_21, eX1_markParts_22, eX1_markParts_23, cont_some, tl_some, tl_none, csum_nil, csum_i, csum_r, csum_j, isc2_i, isc2_r, isc2_n, va_rf_s, vfn_ite, true_and, and_true, true_or, or_true, eq_self, Bool.false_eq_true, not_false_eq_true, not_true_eq_false, if_true, if_false, Nat.reduceAdd, Nat.reduceLeDiff, reduceIte, l', h.1, h.2.1, h.2.2.2.1, inA_nI (show m < 1024 by omega) (show 1024 < 2147483648 by omega), nI_clamp (show m < 2 ^ 31 by omega), hr]
      simp only [eX1_markParts_39, cont_some, tl_some, tl_none, csum_nil, csum_i, csum_r, csum_j, isc2_i, isc2_r, isc2_n, va_rf_s, vfn_ite, true_and, and_true, true_or, or_true, eq_self, Bool.false_eq_true, not_false_eq_true, not_true_eq_false, if_true, if_false, Nat.reduceAdd, Nat.reduceLeDiff, reduceIte, nI_1]
      rw [eX1_markParts_42]
      exact ih (k + 1) w G (by omega) h hG hF hQ'
theorem lo_mp1 {d n : Nat} {w0 : Wd} (h10 : n ≤ 10) : ∀ (m : Nat) (w : Wd) (G : Nat → Bool) (a3 : Option Value), m < 2 ^ n → isO w d → gdW w d n G → FrX (Xg d) w0 w →
    wp mX1_markParts 6 [some (.ref d), some (.int (nI n)), some (.int (nI m)), a3] [] w (fun r u => r = none ∧ gdW u d n (mpO n m G) ∧ FrX (Xg d) w0 u) := by
  have hp := pw_lt h10
  intro m
  induction m with
  | zero =>
    intro w G a3 hm h hG hF
    have l' : ¬ (0 : Int32) < nI 0 := by decide
    simp only [eX1_markParts_6, eX1_markParts_7, eX1_markParts_51, cont_some, tl_some, tl_none, csum_nil, csum_i, csum_r, csum_j, isc2_i, isc2_r, isc2_n, va_rf_s, vfn_ite, true_and, and_true, true_or, or_true, eq_self, Bool.false_eq_true, not_false_eq_true, not_true_eq_false, if_true, if_false, Nat.reduceAdd, Nat.reduceLeDiff, reduceIte, l']
    exact ⟨hG, hF⟩
  | succ m ih =>
    intro w G a3 hm h hG hF
    have l' : (0 : Int32) < nI (m + 1) := nI_lt (a := 0) (by omega) (by omega)
    simp only [eX1_markParts_6, eX1_markParts_7, eX1_markParts_10, eX1_markParts_11, cont_some, tl_some, tl_none, csum_nil, csum_i, csum_r, csum_j, isc2_i, isc2_r, isc2_n, va_rf_s, vfn_ite, true_and, and_true, true_or, or_true, eq_self, Bool.false_eq_true, not_false_eq_true, not_true_eq_false, if_true, if_false, Nat.reduceAdd, Nat.reduceLeDiff, reduceIte, l']
    refine lo_mp2 (w0 := w0) h10 hm n 0 w G (by omega) h hG hF (fun u a3 k1 k2 k3 => ?_)
    simp only [eX1_markParts_45, cont_some, tl_some, tl_none, csum_nil, csum_i, csum_r, csum_j, isc2_i, isc2_r, isc2_n, va_rf_s, vfn_ite, true_and, and_true, true_or, or_true, eq_self, Bool.false_eq_true, not_false_eq_true, not_true_eq_false, if_true, if_false, Nat.reduceAdd, Nat.reduceLeDiff, reduceIte, pk_m1]
    rw [eX1_markParts_48]
    exact ih u _ _ (by omega) k1 k2 k3
theorem s_parts {w : Wd} {d n : Nat} {G : Nat → Bool} (h10 : n ≤ 10) (h : isO w d) (hG : gdW w d n G) : ∃ u, fX1_markParts [.ref d, .int (nI n)] w = some (none, u) ∧ gdW u d n (mpO n (2 ^ n - 1) G) ∧ FrX (Xg d) w u := by
  have h1 : 1 ≤ 2 ^ n := Nat.one_le_two_pow
  have hh : wp mX1_markParts 0 [some (.ref d), some (.int (nI n)), none, none] [] w (fun r u => r = none ∧ gdW u d n (mpO n (2 ^ n - 1) G) ∧ FrX (Xg d) w u) := by
    simp only [eX1_markParts_0, eX1_markParts_1, eX1_markParts_2, eX1_markParts_3, eX1_markParts_4, eX1_markParts_5, cont_some, tl_some, tl_none, csum_nil, csum_i, csum_r, csum_j, isc2_i, isc2_r, isc2_n, va_rf_s, vfn_ite, true_and, and_true, true_or, or_true, eq_self, Bool.false_eq_true, not_false_eq_true, not_true_eq_false, if_true, if_false, Nat.reduceAdd, Nat.reduceLeDiff, reduceIte, evN n h10]
    exact lo_mp1 h10 (2 ^ n - 1) w G _ (by omega) h hG FrX.rf
  obtain ⟨r, u, k1, rfl, k2, k3⟩ := sem_wp (nL := 4) (as := [.ref d, .int (nI n)]) (Nat.le_of_ble_eq_true rfl) hh
  exact ⟨u, k1, k2, k3⟩
/-! how many bits -/
def pop : Nat → Nat → Nat
  | 0, _ => 0
  | e + 1, s => pop e s + (if s.testBit e = true then 1 else 0)
def bcF (x : Int32) : Int32 :=
  let sh : Int32 → Int32 → Int32 := fun x y => (x.toUInt32 >>> (y.toUInt32 &&& Int32.toUInt32 31)).toInt32
  let a := x - (sh x 1 &&& 1431655765)
  let b := (a &&& 858993459) + (sh a 2 &&& 858993459)
  let c := (b + sh b 4) &&& 252645135
  let e := c + sh c 8
  let f := e + sh e 16
  f &&& 63
theorem bc_ok : ∀ a, a < 32 → ∀ b, b < 32 → bcF (nI (32 * a + b)) = nI (pop 10 (32 * a + b)) := by decide +kernel
theorem s_bits {s : Nat} {w : Wd} (h : s < 1024) : fJ6_bitCount_0f7a4 [.int (nI s)] w = some (some (.int (nI (pop 10 s))), w) := by
  have e := bc_ok (s / 32) (by omega) (s % 32) (by omega)
  rw [show 32 * (s / 32) + s % 32 = s by omega] at e
  rw [← e]
  refine sem_eq (Nat.le_of_ble_eq_true rfl) ?_
  show wp mJ6_bitCount_0f7a4 0 [some (.int (nI s))] [] _ _
  simp only [eJ6_bitCount_0f7a4_0, eJ6_bitCount_0f7a4_1, eJ6_bitCount_0f7a4_2, eJ6_bitCount_0f7a4_3, eJ6_bitCount_0f7a4_4, eJ6_bitCount_0f7a4_7, eJ6_bitCount_0f7a4_8, eJ6_bitCount_0f7a4_9, eJ6_bitCount_0f7a4_10, eJ6_bitCount_0f7a4_11, eJ6_bitCount_0f7a4_14, eJ6_bitCount_0f7a4_15, eJ6_bitCount_0f7a4_16, eJ6_bitCount_0f7a4_17, eJ6_bitCount_0f7a4_18, eJ6_bitCount_0f7a4_21, eJ6_bitCount_0f7a4_22, eJ6_bitCount_0f7a4_23, eJ6_bitCount_0f7a4_24, eJ6_bitCount_0f7a4_25, eJ6_bitCount_0f7a4_26, eJ6_bitCount_0f7a4_27, eJ6_bitCount_0f7a4_28, eJ6_bitCount_0f7a4_29, eJ6_bitCount_0f7a4_32, eJ6_bitCount_0f7a4_33, eJ6_bitCount_0f7a4_34, eJ6_bitCount_0f7a4_35, eJ6_bitCount_0f7a4_36, eJ6_bitCount_0f7a4_38, eJ6_bitCount_0f7a4_39, eJ6_bitCount_0f7a4_40, eJ6_bitCount_0f7a4_41, eJ6_bitCount_0f7a4_42, eJ6_bitCount_0f7a4_43, eJ6_bitCount_0f7a4_45, eJ6_bitCount_0f7a4_46, eJ6_bitCount_0f7a4_47, eJ6_bitCount_0f7a4_48, eJ6_bitCount_0f7a4_49, eJ6_bitCount_0f7a4_51, eJ6_bitCount_0f7a4_52, cont_some, tl_some, tl_none, csum_nil, csum_i, csum_r, csum_j, isc2_i, isc2_r, isc2_n, va_rf_s, vfn_ite, true_and, and_true, true_or, or_true, eq_self, Bool.false_eq_true, not_false_eq_true, not_true_eq_false, if_true, if_false, Nat.reduceAdd, Nat.reduceLeDiff, reduceIte]
  rfl
theorem pop_le : ∀ (e s : Nat), pop e s ≤ e := by
  intro e
  induction e with
  | zero => intro s; exact Nat.le_refl _
  | succ e ih => intro s; have := ih s; show pop e s + _ ≤ _; split <;> omega
theorem pop_10 {n s : Nat} (hs : s < 2 ^ n) : ∀ e, n ≤ e → pop e s = pop n s := by
  intro e
  induction e with
  | zero => intro h; have : n = 0 := by omega
            rw [this]
  | succ e ih =>
    intro h
    by_cases q : n = e + 1
    · rw [q]
    · have : s.testBit e = false := Nat.testBit_lt_two_pow (Nat.lt_of_lt_of_le hs (Nat.pow_le_pow_right (by omega) (by omega)))
      show pop e s + _ = _
      rw [this, ih (by omega)]; simp
/-- numbers by size -/
def ctF (G : Nat → Bool) : Nat → Nat → (Nat → Nat) → Nat → Nat
  | 0, _, H => H
  | e + 1, s, H => ctF G e (s + 1) (if G s = true then (fun c => if c = pop 10 s then H c + 1 else H c) else H)
def hmW (w : Wd) (d : Nat) (H : Nat → Nat) : Prop := ∀ c, c < 11 → rdJ w (d + 2) c = lN (H c)
def Xn (d : Nat) : Nat → Nat → Prop := fun c _ => c = d + 2
theorem lN_p1 (a : Nat) : lN a + 1 = lN (a + 1) := lN_add a 1
theorem lo_ct0 {d : Nat} {a1 : Option Value} {w0 : Wd} {Q : Option Value → Wd → Prop} (ha : isc2 (some a1) = false)
    (hQ : ∀ u, isO u d → hmW u d (fun _ => 0) → FrX (Xn d) w0 u → wp mX1_countBySize 23 [some (.ref d), a1, some (.int (nI 0))] [] u Q) : ∀ (e i : Nat) (w : Wd), i + e = 11 → isO w d → (∀ s, s < i → rdJ w (d + 2) s = 0) → FrX (Xn d) w0 w →
    wp mX1_countBySize 2 [some (.ref d), a1, some (.int (nI i))] [] w Q := by
  intro e
  induction e with
  | zero =>
    intro i w hi h hs hF
    have e : i = 11 := by omega
    subst e
    have l : (10 : Int32) < nI 11 := by decide
    simp only [eX1_countBySize_2, eX1_countBySize_3, eX1_countBySize_5, eX1_countBySize_21, eX1_countBySize_22, cont_some, tl_some, tl_none, csum_nil, csum_i, csum_r, csum_j, isc2_i, isc2_r, isc2_n, va_rf_s, vfn_ite, true_and, and_true, true_or, or_true, eq_self, Bool.false_eq_true, not_false_eq_true, not_true_eq_false, if_true, if_false, Nat.reduceAdd, Nat.reduceLeDiff, reduceIte, l, ha]
    exact hQ w h (fun c hc => hs c hc) hF
  | succ e ih =>
    intro i w hi h hs hF
    have l : ¬ (10 : Int32) < nI i := nI_nlt (a := 10) (by omega) (by omega)
    simp only [eX1_countBySize_2, eX1_countBySize_3, eX1_countBySize_5, eX1_countBySize_8, eX1_countBySize_9, eX1_countBySize_12, eX1_countBySize_13, eX1_countBySize_14, eX1_countBySize_15, cont_some, tl_some, tl_none, csum_nil, csum_i, csum_r, csum_j, isc2_i, isc2_r, isc2_n, va_rf_s, vfn_ite, true_and, and_true, true_or, or_true, eq_self, Bool.false_eq_true, not_false_eq_true, not_true_eq_false, if_true, if_false, Nat.reduceAdd, Nat.reduceLeDiff, reduceIte, l, h.1, h.2.2.1, h.2.2.2.2, inA_nI (show i < 11 by omega) (show 11 < 2147483648 by omega), nI_clamp (show i < 2 ^ 31 by omega), nI_1, ha]
    rw [eX1_countBySize_18]
    refine ih (i + 1) _ (by omega) h (fun s hs' => ?_) (hF.wrJ rfl)
    rw [rdJ_wrJ]
    by_cases q : s = i
    · rw [if_pos ⟨rfl, q⟩]
    · rw [if_neg (fun z => q z.2)]; exact hs s (by omega)
theorem lo_ct1 {d n : Nat} {w0 : Wd} (h10 : n ≤ 10) {G : Nat → Bool} : ∀ (e s : Nat) (w : Wd) (H : Nat → Nat), s + e = 2 ^ n → isO w d → gdW w d n G → hmW w d H → FrX (Xn d) w0 w →
    wp mX1_countBySize 23 [some (.ref d), some (.int (nI (2 ^ n - 1))), some (.int (nI s))] [] w (fun r u => r = none ∧ hmW u d (ctF G e s H) ∧ FrX (Xn d) w0 u) := by
  have hp := pw_lt h10
  have h1 : 1 ≤ 2 ^ n := Nat.one_le_two_pow
  intro e
  induction e with
  | zero =>
    intro s w H hs h hG hH hF
    have l : nI (2 ^ n - 1) < nI s := nI_lt (by omega) (by omega)
    simp only [eX1_countBySize_23, eX1_countBySize_24, eX1_countBySize_25, eX1_countBySize_56, cont_some, tl_some, tl_none, csum_nil, csum_i, csum_r, csum_j, isc2_i, isc2_r, isc2_n, va_rf_s, vfn_ite, true_and, and_true, true_or, or_true, eq_self, Bool.false_eq_true, not_false_eq_true, not_true_eq_false, if_true, if_false, Nat.reduceAdd, Nat.reduceLeDiff, reduceIte, l]
    exact ⟨hH, hF⟩
  | succ e ih =>
    intro s w H hs h hG hH hF
    have l : ¬ nI (2 ^ n - 1) < nI s := nI_nlt (by omega) (by omega)
    have hr := hG s (by omega)
    have hpl := pop_le 10 s
    show wp _ _ _ _ _ (fun r u => r = none ∧ hmW u d (ctF G e (s + 1) (if G s = true then (fun c => if c = pop 10 s then H c + 1 else H c) else H)) ∧ FrX (Xn d) w0 u)
    by_cases g : G s = true
    · rw [if_pos g] at hr ⊢
      have hv := hH (pop 10 s) (by omega)
      simp only [eX1_countBySize_23, eX1_countBySize_24, eX1_countBySize_25, eX1_countBySize_28, eX1_countBySize_29, eX1_countBySize_32, eX1_countBySize_33, eX1_countBySize_34, eX1_countBySize_37, eX1_countBySize_38, eX1_countBySize_41, eX1_countBySize_42, eX1_countBySize_45, eX1_countBySize_45j, eX1_countBySize_46, eX1_countBySize_47, eX1_countBySize_48, eX1_countBySize_49, eX1_countBySize_50, cont_some, tl_some, tl_none, csum_nil, csum_i, csum_r, csum_j, isc2_i, isc2_r, isc2_n, va_rf_s, vfn_ite, true_and, and_true, true_or, or_true, eq_self, Bool.false_eq_true, not_false_eq_true, not_true_eq_false, if_true, if_false, Nat.reduceAdd, Nat.reduceLeDiff, reduceIte, l, h.1, h.2.1, h.2.2.1, h.2.2.2.1, h.2.2.2.2, inA_nI (show s < 1024 by omega) (show 1024 < 2147483648 by omega), nI_clamp (show s < 2 ^ 31 by omega), hr, i10', s_bits (show s < 1024 by omega), inA_nI (show pop 10 s < 11 by omega) (show 11 < 2147483648 by omega), nI_clamp (show pop 10 s < 2 ^ 31 by omega), hv, lN_p1, nI_1]
      rw [eX1_countBySize_53]
      refine ih (s + 1) _ _ (by omega) h (fun t ht => hG t ht) (fun c hc => ?_) (hF.wrJ rfl)
      rw [rdJ_wrJ]
      by_cases q : c = pop 10 s
      · rw [if_pos ⟨rfl, q⟩, if_pos q, q]
      · rw [if_neg (fun z => q z.2), if_neg q]; exact hH c hc
    · rw [if_neg g] at hr ⊢
      simp only [eX1_countBySize_23, eX1_countBySize_24, eX1_countBySize_25, eX1_countBySize_28, eX1_countBySize_29, eX1_countBySize_32, eX1_countBySize_33, eX1_countBySize_34, cont_some, tl_some, tl_none, csum_nil, csum_i, csum_r, csum_j, isc2_i, isc2_r, isc2_n, va_rf_s, vfn_ite, true_and, and_true, true_or, or_true, eq_self, Bool.false_eq_true, not_false_eq_true, not_true_eq_false, if_true, if_false, Nat.reduceAdd, Nat.reduceLeDiff, reduceIte, l, h.1, h.2.1, h.2.2.2.1, inA_nI (show s < 1024 by omega) (show 1024 < 2147483648 by omega), nI_clamp (show s < 2 ^ 31 by omega), hr]
      simp only [eX1_countBySize_50, cont_some, tl_some, tl_none, csum_nil, csum_i, csum_r, csum_j, isc2_i, isc2_r, isc2_n, va_rf_s, vfn_ite, true_and, and_true, true_or, or_true, eq_self, Bool.false_eq_true, not_false_eq_true, not_true_eq_false, if_true, if_false, Nat.reduceAdd, Nat.reduceLeDiff, reduceIte, nI_1]
      rw [eX1_countBySize_53]
      exact ih (s + 1) w H (by omega) h hG hH hF
theorem s_count {w : Wd} {d n : Nat} {G : Nat → Bool} (h10 : n ≤ 10) (h : isO w d) (hG : gdW w d n G) : ∃ u, fX1_countBySize [.ref d, .int (nI (2 ^ n - 1))] w = some (none, u) ∧ hmW u d (ctF G (2 ^ n) 0 (fun _ => 0)) ∧ FrX (Xn d) w u := by
  have hh : wp mX1_countBySize 0 [some (.ref d), some (.int (nI (2 ^ n - 1))), none] [] w (fun r u => r = none ∧ hmW u d (ctF G (2 ^ n) 0 (fun _ => 0)) ∧ FrX (Xn d) w u) := by
    simp only [eX1_countBySize_0, eX1_countBySize_1, cont_some, tl_some, tl_none, csum_nil, csum_i, csum_r, csum_j, isc2_i, isc2_r, isc2_n, va_rf_s, vfn_ite, true_and, and_true, true_or, or_true, eq_self, Bool.false_eq_true, not_false_eq_true, not_true_eq_false, if_true, if_false, Nat.reduceAdd, Nat.reduceLeDiff, reduceIte]
    refine lo_ct0 (w0 := w) rfl (fun u k1 k2 k3 => ?_) 11 0 w (by omega) h (fun s hs => absurd hs (by omega)) FrX.rf
    exact lo_ct1 h10 (2 ^ n) 0 u _ (by omega) k1 (fun s hs => (k3.1 (d + 1) s (fun y => by unfold Xn at y; omega)).trans (hG s hs)) k2 k3
  obtain ⟨r, u, k1, rfl, k2, k3⟩ := sem_wp (nL := 3) (as := [.ref d, .int (nI (2 ^ n - 1))]) (Nat.le_of_ble_eq_true rfl) hh
  exact ⟨u, k1, k2, k3⟩
/-- the good ones, before parts -/
def gd0 (x y : Nat → Int) (T n : Nat) : Nat → Bool := if (olO x y T n n 0 (false, fun _ => false)).1 = true then (olO x y T n n 0 (false, fun _ => false)).2 else updT (olO x y T n n 0 (false, fun _ => false)).2 (2 ^ n - 1)
def gdF (x y : Nat → Int) (T n : Nat) : Nat → Bool := mpO n (2 ^ n - 1) (gd0 x y T n)
def Xo (d : Nat) : Nat → Nat → Prop := fun c _ => c = d + 1 ∨ c = d + 2
theorem s_findGood {w : Wd} {d v n T : Nat} {U V : Nat → Int32} (hd : d + 2 < v ∨ v + 3 < d) (hv : vIs w v n U V) (hz : inZ n (uZ U) (uZ V)) (hT : T ≤ 999) (ho : isO w d) : ∃ u, fX1_findGood [.ref d, .ref v, .int (nI T)] w = some (none, u) ∧ hmW u d (ctF (gdF (uZ U) (uZ V) T n) (2 ^ n) 0 (fun _ => 0)) ∧ FrX (Xo d) w u := by
  have h10 := hv.2.2.1
  have hp := pw_lt h10
  have h1 : 1 ≤ 2 ^ n := Nat.one_le_two_pow
  have hh : wp mX1_findGood 0 [some (.ref d), some (.ref v), some (.int (nI T)), none, none, none, none] [] w (fun r u => r = none ∧ hmW u d (ctF (gdF (uZ U) (uZ V) T n) (2 ^ n) 0 (fun _ => 0)) ∧ FrX (Xo d) w u) := by
    simp only [eX1_findGood_0, eX1_findGood_1, eX1_findGood_2, eX1_findGood_5, eX1_findGood_6, eX1_findGood_7, eX1_findGood_8, eX1_findGood_9, eX1_findGood_10, cont_some, tl_some, tl_none, csum_nil, csum_i, csum_r, csum_j, isc2_i, isc2_r, isc2_n, va_rf_s, vfn_ite, true_and, and_true, true_or, or_true, eq_self, Bool.false_eq_true, not_false_eq_true, not_true_eq_false, if_true, if_false, Nat.reduceAdd, Nat.reduceLeDiff, reduceIte, hv.1.1, hv.2.1, evN n h10]
    refine lo_clear (w0 := w) h10 (fun u1 a4 k1 k2 k3 => ?_) (2 ^ n) 0 w (by omega) ho (fun s hs => absurd hs (by omega)) FrX.rf
    simp only [eX1_findGood_32, eX1_findGood_33, eX1_findGood_35, eX1_findGood_36, cont_some, tl_some, tl_none, csum_nil, csum_i, csum_r, csum_j, isc2_i, isc2_r, isc2_n, va_rf_s, vfn_ite, true_and, and_true, true_or, or_true, eq_self, Bool.false_eq_true, not_false_eq_true, not_true_eq_false, if_true, if_false, Nat.reduceAdd, Nat.reduceLeDiff, reduceIte]
    refine lo_fl1 (w0 := w) (st := (false, fun _ => false)) (k := 0) rfl (by omega) hz hT n u1 _ (by omega) (hv.fx k3 (fun c j y => by unfold Xg at y; omega)) k1 k2 k3 (fun u2 a5 a6 l1 l2 l3 l4 => ?_)
    have fin_ : ∀ u3 a4 a5, isO u3 d → gdW u3 d n (gd0 (uZ U) (uZ V) T n) → FrX (Xg d) w u3 → rdI u3 v 3 = nI n → shp u3 v = (6, 0) → wp mX1_findGood 110 [some (.ref d), some (.ref v), some (.int (nI T)), some (.int (nI (2 ^ n - 1))), a4, a5, a6] [] u3 (fun r u => r = none ∧ hmW u d (ctF (gdF (uZ U) (uZ V) T n) (2 ^ n) 0 (fun _ => 0)) ∧ FrX (Xo d) w u) := by
      intro u3 a4 a5 p1 p2 p3 p4 p5
      obtain ⟨u4, q1, q2, q3⟩ := s_parts h10 p1 p2
      have o4 := p1.fx q3
      obtain ⟨u5, r1, r2, r3⟩ := s_count h10 o4 q2
      simp only [eX1_findGood_110, eX1_findGood_111, eX1_findGood_112, eX1_findGood_115, cont_some, tl_some, tl_none, csum_nil, csum_i, csum_r, csum_j, isc2_i, isc2_r, isc2_n, va_rf_s, vfn_ite, true_and, and_true, true_or, or_true, eq_self, Bool.false_eq_true, not_false_eq_true, not_true_eq_false, if_true, if_false, Nat.reduceAdd, Nat.reduceLeDiff, reduceIte, p5, p4, p1.1, q1]
      simp only [eX1_findGood_118, eX1_findGood_119, eX1_findGood_120, eX1_findGood_123, cont_some, tl_some, tl_none, csum_nil, csum_i, csum_r, csum_j, isc2_i, isc2_r, isc2_n, va_rf_s, vfn_ite, true_and, and_true, true_or, or_true, eq_self, Bool.false_eq_true, not_false_eq_true, not_true_eq_false, if_true, if_false, Nat.reduceAdd, Nat.reduceLeDiff, reduceIte, o4.1, r1]
      exact ⟨r2, ((p3.wide (fun c j y => Or.inl y)).tr (q3.wide (fun c j y => Or.inl y))).tr (r3.wide (fun c j y => Or.inr y))⟩
    obtain ⟨st, hst⟩ : ∃ st, st = olO (uZ U) (uZ V) T n n 0 (false, fun _ => false) := ⟨_, rfl⟩
    rw [← hst] at l3
    rw [← hst]
    have e0 : gd0 (uZ U) (uZ V) T n = if st.1 = true then st.2 else updT st.2 (2 ^ n - 1) := by unfold gd0; rw [hst]
    rw [e0] at fin_
    by_cases q : st.1 = true
    · have b1 : b01 st.1 = 1 := if_pos q
      rw [if_pos q] at fin_
      simp only [eX1_findGood_98, eX1_findGood_100, cont_some, tl_some, tl_none, csum_nil, csum_i, csum_r, csum_j, isc2_i, isc2_r, isc2_n, va_rf_s, vfn_ite, true_and, and_true, true_or, or_true, eq_self, Bool.false_eq_true, not_false_eq_true, not_true_eq_false, if_true, if_false, Nat.reduceAdd, Nat.reduceLeDiff, reduceIte, b1, i10']
      exact fin_ u2 _ _ l2 l3 l4 l1.2.1 l1.1.1
    · have b1 : b01 st.1 = 0 := if_neg q
      rw [if_neg q] at fin_
      simp only [eX1_findGood_98, eX1_findGood_100, eX1_findGood_103, eX1_findGood_104, eX1_findGood_107, eX1_findGood_108, eX1_findGood_109, cont_some, tl_some, tl_none, csum_nil, csum_i, csum_r, csum_j, isc2_i, isc2_r, isc2_n, va_rf_s, vfn_ite, true_and, and_true, true_or, or_true, eq_self, Bool.false_eq_true, not_false_eq_true, not_true_eq_false, if_true, if_false, Nat.reduceAdd, Nat.reduceLeDiff, reduceIte, b1, l2.1, l2.2.1, l2.2.2.2.1, inA_nI (show 2 ^ n - 1 < 1024 by omega) (show 1024 < 2147483648 by omega), nI_clamp (show 2 ^ n - 1 < 2 ^ 31 by omega), nb1]
      exact fin_ _ _ _ l2 l3.upd (l4.wrI rfl) (by rw [rdI_wrI, if_neg (by omega)]; exact l1.2.1) l1.1.1
  obtain ⟨r, u, k1, rfl, k2, k3⟩ := sem_wp (nL := 7) (as := [.ref d, .ref v, .int (nI T)]) (Nat.le_of_ble_eq_true rfl) hh
  exact ⟨u, k1, k2, k3⟩
