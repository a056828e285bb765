/-! which sets are good, by the class -/
abbrev isO (w : Wd) (d : Nat) : Prop := shp w d = (1, 0) ∧ rdR w d 0 = some (d + 1) ∧ rdR w d 1 = some (d + 2) ∧ shp w (d + 1) = (12, 1024) ∧ shp w (d + 2) = (11, 11)
theorem isO.fx {X : Nat → Nat → Prop} {w u : Wd} {d : Nat} (h : isO w d) (f : FrX X w u) : isO u d := by
  unfold isO
  simp only [f.sh, f.R]
  exact h
theorem vIs.fx {X : Nat → Nat → Prop} {w u : Wd} {v n : Nat} {U V : Nat → Int32} (h : vIs w v n U V) (f : FrX X w u) (hx : ∀ c j, X c j → c < v ∨ v + 3 < c) : vIs u v n U V := by
  obtain ⟨h1, h2, h3, h4⟩ := h
  refine ⟨?_, (f.1 v 3 (fun q => by have := hx _ _ q; omega)).trans h2, h3, fun i hi => ?_⟩
  · unfold isV
    simp only [f.sh, f.R]
    exact h1
  · rw [f.1 (v + 1) i (fun q => by have := hx _ _ q; omega), f.1 (v + 2) i (fun q => by have := hx _ _ q; omega)]
    exact h4 i hi
def gdW (w : Wd) (d n : Nat) (G : Nat → Bool) : Prop := ∀ s, s < 2 ^ n → rdI w (d + 1) s = if G s = true then 1 else 0
def updT (G : Nat → Bool) (s0 : Nat) : Nat → Bool := fun s => decide (s = s0) || G s
theorem gdW.upd {w : Wd} {d n s0 : Nat} {G : Nat → Bool} (h : gdW w d n G) : gdW (wrI w (d + 1) s0 1) d n (updT G s0) := fun s hs => by
  rw [rdI_wrI]
  unfold updT
  by_cases q : s = s0
  · rw [if_pos ⟨rfl, q⟩, if_pos (by simp [q])]
  · rw [if_neg (fun z => q z.2), h s hs]
    simp [q]
def Xg (d : Nat) : Nat → Nat → Prop := fun c _ => c = d + 1
theorem nb1 : vp_nar .boolean 1 = 1 := by decide
theorem nb0 : vp_nar .boolean 0 = 0 := by decide
theorem lo_clear {d n : Nat} {a1 a2 a5 a6 : Option Value} {w0 : Wd} {Q : Option Value → Wd → Prop} (h10 : n ≤ 10)
    (hQ : ∀ u a4, isO u d → gdW u d n (fun _ => false) → FrX (Xg d) w0 u → wp mX1_findGood 32 [some (.ref d), a1, a2, some (.int (nI (2 ^ n - 1))), some (.int a4), a5, a6] [] u Q) : ∀ (e i : Nat) (w : Wd), i + e = 2 ^ n → isO w d → (∀ s, s < i → rdI w (d + 1) s = 0) → FrX (Xg d) w0 w →
    wp mX1_findGood 12 [some (.ref d), a1, a2, some (.int (nI (2 ^ n - 1))), some (.int (nI i)), a5, a6] [] w Q := by
  have hp := pw_lt h10
  have h1 : 1 ≤ 2 ^ n := Nat.one_le_two_pow
  intro e
  induction e with
  | zero =>
    intro i w hi h hs hF
    have l : nI (2 ^ n - 1) < nI i := nI_lt (by omega) (by omega)
    simp only [eX1_findGood_12, eX1_findGood_14, eX1_findGood_15, cont_some, tl_some, tl_none, csum_nil, csum_i, csum_r, csum_j, isc2_i, isc2_r, isc2_n, va_rf_s, vfn_ite, true_and, and_true, true_or, or_true, eq_self, Bool.false_eq_true, not_false_eq_true, not_true_eq_false, if_true, if_false, Nat.reduceAdd, Nat.reduceLeDiff, reduceIte, l]
    exact hQ w _ h (fun s hs' => by rw [hs s (by omega)]; rfl) hF
  | succ e ih =>
    intro i w hi h hs hF
    have l : ¬ nI (2 ^ n - 1) < nI i := nI_nlt (by omega) (by omega)
    simp only [eX1_findGood_12, eX1_findGood_14, eX1_findGood_15, eX1_findGood_18, eX1_findGood_19, eX1_findGood_22, eX1_findGood_24, eX1_findGood_25, eX1_findGood_26, cont_some, tl_some, tl_none, csum_nil, csum_i, csum_r, csum_j, isc2_i, isc2_r, isc2_n, va_rf_s, vfn_ite, true_and, and_true, true_or, or_true, eq_self, Bool.false_eq_true, not_false_eq_true, not_true_eq_false, if_true, if_false, Nat.reduceAdd, Nat.reduceLeDiff, reduceIte, l, h.1, h.2.1, h.2.2.2.1, inA_nI (show i < 1024 by omega) (show 1024 < 2147483648 by omega), nI_clamp (show i < 2 ^ 31 by omega), nb0, nI_1]
    rw [eX1_findGood_29]
    refine ih (i + 1) _ (by omega) h (fun s hs' => ?_) (hF.wrI rfl)
    rw [rdI_wrI]
    by_cases q : s = i
    · rw [if_pos ⟨rfl, q⟩]
    · rw [if_neg (fun z => q z.2)]; exact hs s (by omega)
/-! marked along a line -/
section
variable {n T : Nat} {x y : Nat → Int}
def fitB (x y : Nat → Int) (T k l i : Nat) (o : Nat) : Bool := decide (0 ≤ crZ x y k l o - crZ x y k l i ∧ 100 * ((crZ x y k l o - crZ x y k l i) * (crZ x y k l o - crZ x y k l i)) ≤ (T * T : Int) * dsZ x y k l)
def mset (x y : Nat → Int) (T n k l i : Nat) : Nat := msF (fitB x y T k l i) n 0 0
def mkA (ms : Nat → Nat) : Nat → Nat → (Nat → Bool) → Nat → Bool
  | 0, _, G => G
  | e + 1, i, G => mkA ms e (i + 1) (updT G (ms i))
theorem mkA_iff {ms : Nat → Nat} {s : Nat} : ∀ (e i : Nat) (G : Nat → Bool), mkA ms e i G s = true ↔ G s = true ∨ ∃ q, i ≤ q ∧ q < i + e ∧ s = ms q := by
  intro e
  induction e with
  | zero =>
    intro i G
    constructor
    · exact fun h => Or.inl h
    · rintro (h | ⟨q, h1, h2, -⟩)
      · exact h
      · omega
  | succ e ih =>
    intro i G
    show mkA ms e (i + 1) (updT G (ms i)) s = true ↔ _
    rw [ih]
    unfold updT
    rw [Bool.or_eq_true, decide_eq_true_eq]
    constructor
    · rintro ((h | h) | ⟨q, h1, h2, h3⟩)
      · exact Or.inr ⟨i, by omega, by omega, h⟩
      · exact Or.inl h
      · exact Or.inr ⟨q, by omega, by omega, h3⟩
    · rintro (h | ⟨q, h1, h2, h3⟩)
      · exact Or.inl (Or.inr h)
      · by_cases e' : q = i
        · exact Or.inl (Or.inl (by rw [h3, e']))
        · exact Or.inr ⟨q, by omega, by omega, h3⟩
end
theorem lo_mark2 {w : Wd} {v n T k l i : Nat} {U V : Nat → Int32} {a0 : Option Value} {Q : Option Value → Wd → Prop} (hv : vIs w v n U V) (hz : inZ n (uZ U) (uZ V)) (hT : T ≤ 999) (hk : k < n) (hl : l < n) (hi : i < n) {a4 : Option Value}
    (hQ : ∀ a10 a11 a12, wp mX1_markAlong 105 [a0, some (.ref v), some (.int (nI k)), some (.int (nI l)), a4, some (.long (jJ ((T * T : Int) * dsZ (uZ U) (uZ V) k l))), none, some (.int (nI i)), some (.int (iI (crZ (uZ U) (uZ V) k l i))), some (.int (nI (mset (uZ U) (uZ V) T n k l i))), some (.int a10), a11, a12] [] w Q) : ∀ (e o s : Nat) (a11 a12 : Option Value), o + e = n → msF (fitB (uZ U) (uZ V) T k l i) e o s = mset (uZ U) (uZ V) T n k l i →
    wp mX1_markAlong 45 [a0, some (.ref v), some (.int (nI k)), some (.int (nI l)), a4, some (.long (jJ ((T * T : Int) * dsZ (uZ U) (uZ V) k l))), none, some (.int (nI i)), some (.int (iI (crZ (uZ U) (uZ V) k l i))), some (.int (nI s)), some (.int (nI o)), a11, a12] [] w Q := by
  have h := hv.1
  have h10 := hv.2.2.1
  have bd := dsZ_b hz hk hl
  have bn := dsZ_nn (x := uZ U) (y := uZ V) (a := k) (b := l)
  have bi := crZ_b hz hk hl hi
  intro e
  induction e with
  | zero =>
    intro o s a11 a12 ho hs
    have e : o = n := by omega
    subst e
    have l' : ¬ nI o < nI o := Int32.lt_irrefl
    simp only [eX1_markAlong_45, eX1_markAlong_47, eX1_markAlong_48, eX1_markAlong_51, cont_some, tl_some, tl_none, csum_nil, csum_i, csum_r, csum_j, isc2_i, isc2_r, isc2_n, va_rf_s, vfn_ite, true_and, and_true, true_or, or_true, eq_self, Bool.false_eq_true, not_false_eq_true, not_true_eq_false, if_true, if_false, Nat.reduceAdd, Nat.reduceLeDiff, reduceIte, h.1, hv.2.1, l']
    have hs' : s = mset (uZ U) (uZ V) T o k l i := hs
    rw [hs']
    exact hQ _ _ _
  | succ e ih =>
    intro o s a11 a12 ho hs
    have l' : nI o < nI n := nI_lt (by omega) (by omega)
    have bo := crZ_b hz hk hl (show o < n by omega)
    have ec := s_cross hv hk hl (show o < n by omega)
    rw [crs_I] at ec
    obtain ⟨f, hf⟩ : ∃ f, f = crZ (uZ U) (uZ V) k l o - crZ (uZ U) (uZ V) k l i := ⟨_, rfl⟩
    have bf : f.natAbs ≤ 3600 := by omega
    have ef : iI (crZ (uZ U) (uZ V) k l o) - iI (crZ (uZ U) (uZ V) k l i) = iI f := by rw [iI_sub, hf]
    have fj : (iI f).toInt64 = jJ f := iI_i2l (by omega)
    have mf := mulB bf bf
    have mT := mulB (p := (T : Int)) (q := (T : Int)) (A := 999) (B := 999) (by omega) (by omega)
    have mr := mulB (p := (T * T : Int)) (q := dsZ (uZ U) (uZ V) k l) (A := 998001) (B := 1800) mT (by omega)
    have z0 : (0 : Int64) = jJ 0 := rfl
    have c0 : jJ f < 0 ↔ f < 0 := by rw [z0, jJ_lt (by omega) (by omega)]
    have e100 : (100 : Int64) * jJ f * jJ f = jJ (100 * (f * f)) := by
      rw [show (100 : Int64) = jJ 100 from rfl, jJ_mul, jJ_mul, Int.mul_assoc]
    have c1 : jJ ((T * T : Int) * dsZ (uZ U) (uZ V) k l) < jJ (100 * (f * f)) ↔ (T * T : Int) * dsZ (uZ U) (uZ V) k l < 100 * (f * f) := jJ_lt (by omega) (by omega)
    have fb : fitB (uZ U) (uZ V) T k l i o = true ↔ 0 ≤ f ∧ 100 * (f * f) ≤ (T * T : Int) * dsZ (uZ U) (uZ V) k l := by
      unfold fitB; rw [decide_eq_true_eq, ← hf]
    have hs' : msF (fitB (uZ U) (uZ V) T k l i) e (o + 1) (if fitB (uZ U) (uZ V) T k l i o = true then s ||| 2 ^ o else s) = mset (uZ U) (uZ V) T n k l i := hs
    have ebk : nI s ||| ((1 : Int32) <<< (nI o &&& 31)) = nI (s ||| 2 ^ o) := by
      show nI s ||| bk o = _
      rw [bk_nI o (by omega), nI_or]
    have no : ∀ a11 a12, fitB (uZ U) (uZ V) T k l i o ≠ true → wp mX1_markAlong 99 [a0, some (.ref v), some (.int (nI k)), some (.int (nI l)), a4, some (.long (jJ ((T * T : Int) * dsZ (uZ U) (uZ V) k l))), none, some (.int (nI i)), some (.int (iI (crZ (uZ U) (uZ V) k l i))), some (.int (nI s)), some (.int (nI o)), a11, a12] [] w Q := by
      intro a11 a12 hn
      rw [if_neg hn] at hs'
      simp only [eX1_markAlong_99, cont_some, tl_some, tl_none, csum_nil, csum_i, csum_r, csum_j, isc2_i, isc2_r, isc2_n, va_rf_s, vfn_ite, true_and, and_true, true_or, or_true, eq_self, Bool.false_eq_true, not_false_eq_true, not_true_eq_false, if_true, if_false, Nat.reduceAdd, Nat.reduceLeDiff, reduceIte, nI_1]
      rw [eX1_markAlong_102]
      exact ih (o + 1) s _ _ (by omega) hs'
    simp only [eX1_markAlong_45, eX1_markAlong_47, eX1_markAlong_48, eX1_markAlong_51, eX1_markAlong_54, eX1_markAlong_55, eX1_markAlong_56, eX1_markAlong_57, eX1_markAlong_59, eX1_markAlong_62, eX1_markAlong_64, eX1_markAlong_65, eX1_markAlong_66, eX1_markAlong_68, eX1_markAlong_70, eX1_markAlong_71, eX1_markAlong_72, cont_some, tl_some, tl_none, csum_nil, csum_i, csum_r, csum_j, isc2_i, isc2_r, isc2_n, va_rf_s, vfn_ite, true_and, and_true, true_or, or_true, eq_self, Bool.false_eq_true, not_false_eq_true, not_true_eq_false, if_true, if_false, Nat.reduceAdd, Nat.reduceLeDiff, reduceIte, h.1, hv.2.1, l', ec, ef, fj, lgc_lt, c0]
    by_cases q1 : f < 0
    · rw [if_pos q1]
      exact no _ _ (fun y => by have := fb.mp y; omega)
    · rw [if_neg q1]
      simp only [eX1_markAlong_75, eX1_markAlong_78, eX1_markAlong_80, eX1_markAlong_81, eX1_markAlong_83, eX1_markAlong_84, eX1_markAlong_86, eX1_markAlong_87, cont_some, tl_some, tl_none, csum_nil, csum_i, csum_r, csum_j, isc2_i, isc2_r, isc2_n, va_rf_s, vfn_ite, true_and, and_true, true_or, or_true, eq_self, Bool.false_eq_true, not_false_eq_true, not_true_eq_false, if_true, if_false, Nat.reduceAdd, Nat.reduceLeDiff, reduceIte, e100, lgc_gt, c1]
      by_cases q2 : (T * T : Int) * dsZ (uZ U) (uZ V) k l < 100 * (f * f)
      · rw [if_pos q2]
        exact no _ _ (fun y => by have := fb.mp y; omega)
      · rw [if_neg q2]
        rw [if_pos (fb.mpr ⟨by omega, by omega⟩)] at hs'
        simp only [eX1_markAlong_90, eX1_markAlong_92, eX1_markAlong_93, eX1_markAlong_95, eX1_markAlong_96, eX1_markAlong_97, eX1_markAlong_99, cont_some, tl_some, tl_none, csum_nil, csum_i, csum_r, csum_j, isc2_i, isc2_r, isc2_n, va_rf_s, vfn_ite, true_and, and_true, true_or, or_true, eq_self, Bool.false_eq_true, not_false_eq_true, not_true_eq_false, if_true, if_false, Nat.reduceAdd, Nat.reduceLeDiff, reduceIte, ebk, nI_1]
        rw [eX1_markAlong_102]
        exact ih (o + 1) _ _ _ (by omega) hs'
theorem lo_mark1 {d v n T k l : Nat} {U V : Nat → Int32} {w0 : Wd} {a4 : Option Value} (hd : d + 1 < v ∨ v + 3 < d + 1) (hz : inZ n (uZ U) (uZ V)) (hT : T ≤ 999) (hk : k < n) (hl : l < n) : ∀ (e i : Nat) (w : Wd) (G : Nat → Bool) (a8 a9 a10 a11 a12 : Option Value), i + e = n → vIs w v n U V → isO w d → gdW w d n G → FrX (Xg d) w0 w →
    wp mX1_markAlong 20 [some (.ref d), some (.ref v), some (.int (nI k)), some (.int (nI l)), a4, some (.long (jJ ((T * T : Int) * dsZ (uZ U) (uZ V) k l))), none, some (.int (nI i)), a8, a9, a10, a11, a12] [] w (fun r u => r = none ∧ gdW u d n (mkA (mset (uZ U) (uZ V) T n k l) e i G) ∧ FrX (Xg d) w0 u) := by
  intro e
  induction e with
  | zero =>
    intro i w G a8 a9 a10 a11 a12 hi hv ho hG hF
    have e : i = n := by omega
    subst e
    have l' : ¬ nI i < nI i := Int32.lt_irrefl
    simp only [eX1_markAlong_20, eX1_markAlong_22, eX1_markAlong_23, eX1_markAlong_26, eX1_markAlong_119, cont_some, tl_some, tl_none, csum_nil, csum_i, csum_r, csum_j, isc2_i, isc2_r, isc2_n, va_rf_s, vfn_ite, true_and, and_true, true_or, or_true, eq_self, Bool.false_eq_true, not_false_eq_true, not_true_eq_false, if_true, if_false, Nat.reduceAdd, Nat.reduceLeDiff, reduceIte, hv.1.1, hv.2.1, l']
    exact ⟨hG, hF⟩
  | succ e ih =>
    intro i w G a8 a9 a10 a11 a12 hi hv ho hG hF
    have h10 := hv.2.2.1
    have hp := pw_lt h10
    have l' : nI i < nI n := nI_lt (by omega) (by omega)
    have ec := s_cross hv hk hl (show i < n by omega)
    rw [crs_I] at ec
    simp only [eX1_markAlong_20, eX1_markAlong_22, eX1_markAlong_23, eX1_markAlong_26, eX1_markAlong_29, eX1_markAlong_30, eX1_markAlong_31, eX1_markAlong_32, eX1_markAlong_34, eX1_markAlong_37, eX1_markAlong_39, eX1_markAlong_40, eX1_markAlong_42, eX1_markAlong_43, cont_some, tl_some, tl_none, csum_nil, csum_i, csum_r, csum_j, isc2_i, isc2_r, isc2_n, va_rf_s, vfn_ite, true_and, and_true, true_or, or_true, eq_self, Bool.false_eq_true, not_false_eq_true, not_true_eq_false, if_true, if_false, Nat.reduceAdd, Nat.reduceLeDiff, reduceIte, hv.1.1, hv.2.1, l', ec]
    refine lo_mark2 (s := 0) (o := 0) hv hz hT hk hl (show i < n by omega) (fun a10 a11 a12 => ?_) n _ _ (by omega) rfl
    have ml : mset (uZ U) (uZ V) T n k l i < 2 ^ n := msF_lt n 0 0 (by omega) (Nat.two_pow_pos n)
    have f : FrX (Xg d) w (wrI w (d + 1) (mset (uZ U) (uZ V) T n k l i) 1) := FrX.rf.wrI rfl
    simp only [eX1_markAlong_105, eX1_markAlong_106, eX1_markAlong_109, eX1_markAlong_111, eX1_markAlong_112, eX1_markAlong_113, cont_some, tl_some, tl_none, csum_nil, csum_i, csum_r, csum_j, isc2_i, isc2_r, isc2_n, va_rf_s, vfn_ite, true_and, and_true, true_or, or_true, eq_self, Bool.false_eq_true, not_false_eq_true, not_true_eq_false, if_true, if_false, Nat.reduceAdd, Nat.reduceLeDiff, reduceIte, ho.1, ho.2.1, ho.2.2.2.1, inA_nI (show mset (uZ U) (uZ V) T n k l i < 1024 by omega) (show 1024 < 2147483648 by omega), nI_clamp (show mset (uZ U) (uZ V) T n k l i < 2 ^ 31 by omega), nb1, nI_1]
    rw [eX1_markAlong_116]
    exact ih (i + 1) _ _ _ _ _ _ _ (by omega) (hv.fx f (fun c j q => by unfold Xg at q; omega)) ho hG.upd (hF.tr f)
theorem s_mark {w : Wd} {d v n T k l : Nat} {U V : Nat → Int32} {G : Nat → Bool} (hd : d + 1 < v ∨ v + 3 < d + 1) (hv : vIs w v n U V) (hz : inZ n (uZ U) (uZ V)) (hT : T ≤ 999) (hk : k < n) (hl : l < n) (ho : isO w d) (hG : gdW w d n G) : ∃ u, fX1_markAlong [.ref d, .ref v, .int (nI k), .int (nI l), .int (nI T)] w = some (none, u) ∧ gdW u d n (mkA (mset (uZ U) (uZ V) T n k l) n 0 G) ∧ FrX (Xg d) w u := by
  have ea := s_v_apart hv hk hl
  have bd := dsZ_b hz hk hl
  have bn := dsZ_nn (x := uZ U) (y := uZ V) (a := k) (b := l)
  have eT : (nI T).toInt64 = jJ (T : Int) := by rw [nI_iI, iI_i2l (by omega)]
  have eD : (dst U V k l).toInt64 = jJ (dsZ (uZ U) (uZ V) k l) := by rw [dst_I, iI_i2l (by omega)]
  have er : jJ (T : Int) * jJ (T : Int) * jJ (dsZ (uZ U) (uZ V) k l) = jJ ((T * T : Int) * dsZ (uZ U) (uZ V) k l) := by rw [jJ_mul, jJ_mul]
  have hh : wp mX1_markAlong 0 [some (.ref d), some (.ref v), some (.int (nI k)), some (.int (nI l)), some (.int (nI T)), none, none, none, none, none, none, none, none] [] w (fun r u => r = none ∧ gdW u d n (mkA (mset (uZ U) (uZ V) T n k l) n 0 G) ∧ FrX (Xg d) w u) := by
    simp only [eX1_markAlong_0, eX1_markAlong_2, eX1_markAlong_3, eX1_markAlong_5, eX1_markAlong_6, eX1_markAlong_7, eX1_markAlong_8, eX1_markAlong_9, eX1_markAlong_10, eX1_markAlong_13, eX1_markAlong_14, eX1_markAlong_15, eX1_markAlong_17, eX1_markAlong_18, cont_some, tl_some, tl_none, csum_nil, csum_i, csum_r, csum_j, isc2_i, isc2_r, isc2_n, va_rf_s, vfn_ite, true_and, and_true, true_or, or_true, eq_self, Bool.false_eq_true, not_false_eq_true, not_true_eq_false, if_true, if_false, Nat.reduceAdd, Nat.reduceLeDiff, reduceIte, eT, hv.1.1, ea, eD, er]
    exact lo_mark1 hd hz hT hk hl n 0 w G _ _ _ _ _ (by omega) hv ho hG FrX.rf
  obtain ⟨r, u, h1, rfl, h2, h3⟩ := sem_wp (nL := 13) (as := [.ref d, .ref v, .int (nI k), .int (nI l), .int (nI T)]) (Nat.le_of_ble_eq_true rfl) hh
  exact ⟨u, h1, h2, h3⟩
