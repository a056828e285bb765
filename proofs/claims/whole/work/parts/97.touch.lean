/-! who touches -/
def bk (k : Nat) : Int32 := (1 : Int32) <<< (nI k &&& 31)
def loS (f : Nat → Int) (v : Int) : Nat → Int32
  | 0 => 0
  | k + 1 => if f k = v then loS f v k ||| bk k else loS f v k
theorem loS_0 {f : Nat → Int} {v : Int} : ∀ k, (∀ i, i < k → f i ≠ v) → loS f v k = 0 := by
  intro k
  induction k with
  | zero => intro _; rfl
  | succ k ih =>
    intro h
    show (if f k = v then _ else _) = _
    rw [if_neg (h k (by omega))]
    exact ih (fun i hi => h i (by omega))
theorem or0 (x : Int32) : 0 ||| x = x := Int32.zero_or
def tcI (f : Nat → Int) (k : Nat) (lo hi : Int) : Prop := (k = 0 ∧ lo = 0 ∧ hi = 0) ∨ (0 < k ∧ (∃ i, i < k ∧ f i = lo) ∧ (∀ i, i < k → lo ≤ f i) ∧ (∃ i, i < k ∧ f i = hi) ∧ ∀ i, i < k → f i ≤ hi)
theorem tc_step {f : Nat → Int} {k : Nat} {lo hi : Int} (h : tcI f k lo hi) : tcI f (k + 1) (if k = 0 ∨ f k < lo then f k else lo) (if k = 0 ∨ hi < f k then f k else hi) := by
  refine Or.inr ⟨by omega, ?_⟩
  rcases h with ⟨h0, -, -⟩ | ⟨h0, ⟨i1, a1, a2⟩, a3, ⟨i2, b1, b2⟩, b3⟩
  · rw [if_pos (Or.inl h0), if_pos (Or.inl h0)]
    subst h0
    refine ⟨⟨0, by omega, rfl⟩, fun i hi => ?_, ⟨0, by omega, rfl⟩, fun i hi => ?_⟩
    · have : i = 0 := by omega
      rw [this]; exact Int.le_refl _
    · have : i = 0 := by omega
      rw [this]; exact Int.le_refl _
  · refine ⟨?_, fun i hi => ?_, ?_, fun i hi => ?_⟩
    · by_cases q : k = 0 ∨ f k < lo
      · rw [if_pos q]; exact ⟨k, by omega, rfl⟩
      · rw [if_neg q]; exact ⟨i1, by omega, a2⟩
    · by_cases e : i = k
      · rw [e]; split <;> omega
      · have := a3 i (by omega); split <;> omega
    · by_cases q : k = 0 ∨ hi < f k
      · rw [if_pos q]; exact ⟨k, by omega, rfl⟩
      · rw [if_neg q]; exact ⟨i2, by omega, b2⟩
    · by_cases e : i = k
      · rw [e]; split <;> omega
      · have := b3 i (by omega); split <;> omega
theorem lo_low {f : Nat → Int} {k : Nat} {lo hi : Int} (h : tcI f k lo hi) : loS f (if k = 0 ∨ f k < lo then f k else lo) (k + 1) = if k = 0 ∨ f k < lo then bk k else if f k = lo then loS f lo k ||| bk k else loS f lo k := by
  show (if f k = _ then _ else _) = _
  by_cases q : k = 0 ∨ f k < lo
  · rw [if_pos q, if_pos rfl, if_pos q, loS_0, or0]
    intro i hi e
    rcases h with ⟨h0, -, -⟩ | ⟨h0, -, a3, -⟩
    · omega
    · have := a3 i hi; omega
  · rw [if_neg q, if_neg q]
theorem lo_high {f : Nat → Int} {k : Nat} {lo hi : Int} (h : tcI f k lo hi) : loS f (if k = 0 ∨ hi < f k then f k else hi) (k + 1) = if k = 0 ∨ hi < f k then bk k else if f k = hi then loS f hi k ||| bk k else loS f hi k := by
  show (if f k = _ then _ else _) = _
  by_cases q : k = 0 ∨ hi < f k
  · rw [if_pos q, if_pos rfl, if_pos q, loS_0, or0]
    intro i hi e
    rcases h with ⟨h0, -, -⟩ | ⟨h0, -, -, -, b3⟩
    · omega
    · have := b3 i hi; omega
  · rw [if_neg q, if_neg q]
def Xh (o : Nat) : Nat → Nat → Prop := fun c j => c = o ∧ (j = 17 ∨ j = 18)
theorem MB.fh {w u : Wd} {o n : Nat} {C : Nat → Int32} (h : MB w o n C) (f : FrX (Xh o) w u) : MB u o n C := h.frX (f.wide (fun c j q => by unfold Xh at q; unfold Xj; omega))
theorem lo_touch {o n j : Nat} {C : Nat → Int32} {d : V3} {w0 : Wd} (hb : bdC n C) (hj : j < 4) (hd : in3 1800 d) : ∀ (e k : Nat) (w : Wd) (lo hi : Int) (a7 a8 : Option Value), k + e = n → MB w o n C → rdI w o 11 = 1 → rdI w o 14 = iI d.1 → rdI w o 15 = iI d.2.1 → rdI w o 16 = iI d.2.2 → tcI (fun i => dt d (qZ j C i)) k lo hi → lo.natAbs ≤ 81000 → hi.natAbs ≤ 81000 → rdI w o 17 = loS (fun i => dt d (qZ j C i)) lo k → rdI w o 18 = loS (fun i => dt d (qZ j C i)) hi k → FrX (Xh o) w0 w →
    wp mX9_touches 18 [some (.ref o), some (.int (nI j)), some (.long (jJ lo)), none, some (.long (jJ hi)), none, some (.int (nI k)), a7, a8] [] w (fun r u => r = none ∧ (∃ lo hi, tcI (fun i => dt d (qZ j C i)) n lo hi ∧ rdI u o 17 = loS (fun i => dt d (qZ j C i)) lo n ∧ rdI u o 18 = loS (fun i => dt d (qZ j C i)) hi n) ∧ FrX (Xh o) w0 u) := by
  have i0 : inA 0 33 = true := by decide
  have c0 : (0 : Int32).toNatClampNeg = 0 := by decide
  intro e
  induction e with
  | zero =>
    intro k w lo hi a7 a8 hk h h11 h14 h15 h16 ht bl bh hl hh hF
    have e : k = n := by omega
    subst e
    have hm := h.1
    have l : ¬ nI k < nI k := Int32.lt_irrefl
    simp only [eX9_touches_18, eX9_touches_20, eX9_touches_21, eX9_touches_24, eX9_touches_25, eX9_touches_26, eX9_touches_198, cont_some, tl_some, tl_none, csum_nil, csum_i, csum_r, csum_j, isc2_i, isc2_r, isc2_n, va_rf_s, vfn_ite, true_and, and_true, true_or, or_true, eq_self, Bool.false_eq_true, not_false_eq_true, not_true_eq_false, if_true, if_false, Nat.reduceAdd, Nat.reduceLeDiff, reduceIte, hm.1, hm.2.1, hm.2.2.1, hm.2.2.2.1, hm.2.2.2.2.1, hm.2.2.2.2.2.1, hm.2.2.2.2.2.2.1, hm.2.2.2.2.2.2.2.1, hm.2.2.2.2.2.2.2.2.1, hm.2.2.2.2.2.2.2.2.2.1, hm.2.2.2.2.2.2.2.2.2.2.1, hm.2.2.2.2.2.2.2.2.2.2.2.1, hm.2.2.2.2.2.2.2.2.2.2.2.2.1, hm.2.2.2.2.2.2.2.2.2.2.2.2.2.1, hm.2.2.2.2.2.2.2.2.2.2.2.2.2.2.1, hm.2.2.2.2.2.2.2.2.2.2.2.2.2.2.2.1, hm.2.2.2.2.2.2.2.2.2.2.2.2.2.2.2.2.1, hm.2.2.2.2.2.2.2.2.2.2.2.2.2.2.2.2.2.1, hm.2.2.2.2.2.2.2.2.2.2.2.2.2.2.2.2.2.2.1, hm.2.2.2.2.2.2.2.2.2.2.2.2.2.2.2.2.2.2.2.1, hm.2.2.2.2.2.2.2.2.2.2.2.2.2.2.2.2.2.2.2.2.1, hm.2.2.2.2.2.2.2.2.2.2.2.2.2.2.2.2.2.2.2.2.2.1, hm.2.2.2.2.2.2.2.2.2.2.2.2.2.2.2.2.2.2.2.2.2.2.1, hm.2.2.2.2.2.2.2.2.2.2.2.2.2.2.2.2.2.2.2.2.2.2.2.1, hm.2.2.2.2.2.2.2.2.2.2.2.2.2.2.2.2.2.2.2.2.2.2.2.2, i0, c0, h.2.1, l]
    exact ⟨⟨lo, hi, ht, hl, hh⟩, hF⟩
  | succ e ih =>
    intro k w lo hi a7 a8 hk h h11 h14 h15 h16 ht bl bh hl hh hF
    have hm := h.1
    have h10 := h.2.2.1
    have l : nI k < nI n := nI_lt (by omega) (by omega)
    have hr := m_reach h hb (show k < n by omega) hj hd
    have hkb := dq_b (j := j) hb (show k < n by omega) hd
    obtain ⟨x, hx⟩ : ∃ x, x = dt d (qZ j C k) := ⟨_, rfl⟩
    rw [← hx] at hr hkb
    have t1 := tc_step ht
    have t2 := lo_low ht
    have t3 := lo_high ht
    simp only [← hx] at t1 t2 t3
    obtain ⟨u, hu⟩ : ∃ u, u = wrI (wrI w o 17 (if k = 0 ∨ x < lo then bk k else if x = lo then loS (fun i => dt d (qZ j C i)) lo k ||| bk k else loS (fun i => dt d (qZ j C i)) lo k)) o 18 (if k = 0 ∨ hi < x then bk k else if x = hi then loS (fun i => dt d (qZ j C i)) hi k ||| bk k else loS (fun i => dt d (qZ j C i)) hi k) := ⟨_, rfl⟩
    have F : FrX (Xh o) w u := by rw [hu]; exact (FrX.rf.wrI ⟨rfl, Or.inl rfl⟩).wrI ⟨rfl, Or.inr rfl⟩
    have E : ∀ i, i ≤ 16 → rdI u o i = rdI w o i := fun i hi' => F.1 o i (fun q => by unfold Xh at q; omega)
    have go := ih (k + 1) u (if k = 0 ∨ x < lo then x else lo) (if k = 0 ∨ hi < x then x else hi) (some (.long (jJ x))) none (by omega) (h.fh F) (by rw [E 11 (by omega)]; exact h11) (by rw [E 14 (by omega)]; exact h14) (by rw [E 15 (by omega)]; exact h15) (by rw [E 16 (by omega)]; exact h16) t1 (by split <;> omega) (by split <;> omega) (by rw [t2, hu, rdI_wrI, if_neg (by omega), rdI_wrI, if_pos ⟨rfl, rfl⟩]) (by rw [t3, hu, rdI_wrI, if_pos ⟨rfl, rfl⟩]) (hF.tr F)
    have c1 : jJ x < jJ lo ↔ x < lo := jJ_lt (by omega) (by omega)
    have c2 : jJ x = jJ lo ↔ x = lo := jJ_eq (by omega) (by omega)
    have c3 : jJ hi < jJ x ↔ hi < x := jJ_lt (by omega) (by omega)
    have c4 : jJ x = jJ hi ↔ x = hi := jJ_eq (by omega) (by omega)
    have hbk : (1 : Int32) <<< (nI k &&& 31) = bk k := rfl
    have n18 : ∀ y, rdI (wrI w o 17 y) o 18 = rdI w o 18 := fun y => by rw [rdI_wrI, if_neg (by omega)]
    simp only [eX9_touches_18, eX9_touches_20, eX9_touches_21, eX9_touches_24, eX9_touches_25, eX9_touches_26, eX9_touches_29, eX9_touches_30, eX9_touches_33, cont_some, tl_some, tl_none, csum_nil, csum_i, csum_r, csum_j, isc2_i, isc2_r, isc2_n, va_rf_s, vfn_ite, true_and, and_true, true_or, or_true, eq_self, Bool.false_eq_true, not_false_eq_true, not_true_eq_false, if_true, if_false, Nat.reduceAdd, Nat.reduceLeDiff, reduceIte, hm.1, hm.2.1, hm.2.2.1, hm.2.2.2.1, hm.2.2.2.2.1, hm.2.2.2.2.2.1, hm.2.2.2.2.2.2.1, hm.2.2.2.2.2.2.2.1, hm.2.2.2.2.2.2.2.2.1, hm.2.2.2.2.2.2.2.2.2.1, hm.2.2.2.2.2.2.2.2.2.2.1, hm.2.2.2.2.2.2.2.2.2.2.2.1, hm.2.2.2.2.2.2.2.2.2.2.2.2.1, hm.2.2.2.2.2.2.2.2.2.2.2.2.2.1, hm.2.2.2.2.2.2.2.2.2.2.2.2.2.2.1, hm.2.2.2.2.2.2.2.2.2.2.2.2.2.2.2.1, hm.2.2.2.2.2.2.2.2.2.2.2.2.2.2.2.2.1, hm.2.2.2.2.2.2.2.2.2.2.2.2.2.2.2.2.2.1, hm.2.2.2.2.2.2.2.2.2.2.2.2.2.2.2.2.2.2.1, hm.2.2.2.2.2.2.2.2.2.2.2.2.2.2.2.2.2.2.2.1, hm.2.2.2.2.2.2.2.2.2.2.2.2.2.2.2.2.2.2.2.2.1, hm.2.2.2.2.2.2.2.2.2.2.2.2.2.2.2.2.2.2.2.2.2.1, hm.2.2.2.2.2.2.2.2.2.2.2.2.2.2.2.2.2.2.2.2.2.2.1, hm.2.2.2.2.2.2.2.2.2.2.2.2.2.2.2.2.2.2.2.2.2.2.2.1, hm.2.2.2.2.2.2.2.2.2.2.2.2.2.2.2.2.2.2.2.2.2.2.2.2, i0, c0, h.2.1, l, h11, i10']
    simp only [eX9_touches_36, eX9_touches_37, eX9_touches_38, eX9_touches_40, eX9_touches_41, eX9_touches_44, eX9_touches_45, eX9_touches_48, eX9_touches_49, eX9_touches_52, eX9_touches_55, cont_some, tl_some, tl_none, csum_nil, csum_i, csum_r, csum_j, isc2_i, isc2_r, isc2_n, va_rf_s, vfn_ite, true_and, and_true, true_or, or_true, eq_self, Bool.false_eq_true, not_false_eq_true, not_true_eq_false, if_true, if_false, Nat.reduceAdd, Nat.reduceLeDiff, reduceIte, hm.1, hm.2.1, hm.2.2.1, hm.2.2.2.1, hm.2.2.2.2.1, hm.2.2.2.2.2.1, hm.2.2.2.2.2.2.1, hm.2.2.2.2.2.2.2.1, hm.2.2.2.2.2.2.2.2.1, hm.2.2.2.2.2.2.2.2.2.1, hm.2.2.2.2.2.2.2.2.2.2.1, hm.2.2.2.2.2.2.2.2.2.2.2.1, hm.2.2.2.2.2.2.2.2.2.2.2.2.1, hm.2.2.2.2.2.2.2.2.2.2.2.2.2.1, hm.2.2.2.2.2.2.2.2.2.2.2.2.2.2.1, hm.2.2.2.2.2.2.2.2.2.2.2.2.2.2.2.1, hm.2.2.2.2.2.2.2.2.2.2.2.2.2.2.2.2.1, hm.2.2.2.2.2.2.2.2.2.2.2.2.2.2.2.2.2.1, hm.2.2.2.2.2.2.2.2.2.2.2.2.2.2.2.2.2.2.1, hm.2.2.2.2.2.2.2.2.2.2.2.2.2.2.2.2.2.2.2.1, hm.2.2.2.2.2.2.2.2.2.2.2.2.2.2.2.2.2.2.2.2.1, hm.2.2.2.2.2.2.2.2.2.2.2.2.2.2.2.2.2.2.2.2.2.1, hm.2.2.2.2.2.2.2.2.2.2.2.2.2.2.2.2.2.2.2.2.2.2.1, hm.2.2.2.2.2.2.2.2.2.2.2.2.2.2.2.2.2.2.2.2.2.2.2.1, hm.2.2.2.2.2.2.2.2.2.2.2.2.2.2.2.2.2.2.2.2.2.2.2.2, h14, h15, h16, hr]
    by_cases qk : k = 0
    · have k0 : (nI k = 0) = True := eq_true (by rw [qk]; rfl)
      have kk : (k = 0) = True := eq_true qk
      simp only [kk, true_or, if_true] at go hu
      simp only [eX9_touches_57, eX9_touches_58, eX9_touches_60, eX9_touches_63, eX9_touches_65, eX9_touches_66, eX9_touches_67, eX9_touches_70, eX9_touches_71, eX9_touches_73, eX9_touches_74, eX9_touches_77, eX9_touches_79, eX9_touches_80, eX9_touches_81, eX9_touches_84, eX9_touches_85, eX9_touches_88, eX9_touches_89, eX9_touches_91, eX9_touches_92, eX9_touches_93, eX9_touches_96, eX9_touches_97, eX9_touches_100, eX9_touches_103, eX9_touches_104, eX9_touches_106, eX9_touches_109, eX9_touches_111, eX9_touches_113, eX9_touches_114, eX9_touches_117, eX9_touches_118, eX9_touches_120, eX9_touches_121, eX9_touches_124, eX9_touches_126, eX9_touches_128, eX9_touches_129, eX9_touches_132, eX9_touches_133, eX9_touches_136, eX9_touches_137, eX9_touches_139, eX9_touches_140, eX9_touches_141, eX9_touches_144, eX9_touches_145, eX9_touches_148, eX9_touches_151, eX9_touches_153, eX9_touches_156, eX9_touches_158, eX9_touches_159, eX9_touches_160, eX9_touches_163, eX9_touches_165, eX9_touches_168, eX9_touches_169, eX9_touches_170, eX9_touches_172, eX9_touches_175, eX9_touches_177, eX9_touches_179, eX9_touches_180, eX9_touches_183, eX9_touches_185, eX9_touches_188, eX9_touches_190, eX9_touches_192, cont_some, tl_some, tl_none, csum_nil, csum_i, csum_r, csum_j, isc2_i, isc2_r, isc2_n, va_rf_s, vfn_ite, true_and, and_true, true_or, or_true, eq_self, Bool.false_eq_true, not_false_eq_true, not_true_eq_false, if_true, if_false, Nat.reduceAdd, Nat.reduceLeDiff, reduceIte, hm.1, hm.2.1, hm.2.2.1, hm.2.2.2.1, hm.2.2.2.2.1, hm.2.2.2.2.2.1, hm.2.2.2.2.2.2.1, hm.2.2.2.2.2.2.2.1, hm.2.2.2.2.2.2.2.2.1, hm.2.2.2.2.2.2.2.2.2.1, hm.2.2.2.2.2.2.2.2.2.2.1, hm.2.2.2.2.2.2.2.2.2.2.2.1, hm.2.2.2.2.2.2.2.2.2.2.2.2.1, hm.2.2.2.2.2.2.2.2.2.2.2.2.2.1, hm.2.2.2.2.2.2.2.2.2.2.2.2.2.2.1, hm.2.2.2.2.2.2.2.2.2.2.2.2.2.2.2.1, hm.2.2.2.2.2.2.2.2.2.2.2.2.2.2.2.2.1, hm.2.2.2.2.2.2.2.2.2.2.2.2.2.2.2.2.2.1, hm.2.2.2.2.2.2.2.2.2.2.2.2.2.2.2.2.2.2.1, hm.2.2.2.2.2.2.2.2.2.2.2.2.2.2.2.2.2.2.2.1, hm.2.2.2.2.2.2.2.2.2.2.2.2.2.2.2.2.2.2.2.2.1, hm.2.2.2.2.2.2.2.2.2.2.2.2.2.2.2.2.2.2.2.2.2.1, hm.2.2.2.2.2.2.2.2.2.2.2.2.2.2.2.2.2.2.2.2.2.2.1, hm.2.2.2.2.2.2.2.2.2.2.2.2.2.2.2.2.2.2.2.2.2.2.2.1, hm.2.2.2.2.2.2.2.2.2.2.2.2.2.2.2.2.2.2.2.2.2.2.2.2, k0, hbk, shp_wrI, nI_1]
      rw [eX9_touches_195]
      rw [← hu]
      exact go
    · have k0 : (nI k = 0) = False := eq_false (fun y => qk ((nI_eq (b := 0) (by omega) (by omega)).mp y))
      have kk : (k = 0) = False := eq_false qk
      simp only [kk, false_or] at go hu
      have lh : lo ≤ hi := by
        rcases ht with ⟨y, -⟩ | ⟨-, ⟨i1, a1, a2⟩, -, -, b3⟩
        · exact absurd y qk
        · have := b3 i1 a1; omega
      rcases Int.lt_trichotomy x lo with z | z | z
      · have q1 : (x < lo) = True := eq_true z
        have q2 : (x = lo) = False := eq_false (by omega)
        have q3 : (hi < x) = False := eq_false (by omega)
        have q4 : (x = hi) = False := eq_false (by omega)
        simp only [q1, q2, q3, q4, if_true, if_false] at go hu
        simp only [eX9_touches_57, eX9_touches_58, eX9_touches_60, eX9_touches_63, eX9_touches_65, eX9_touches_66, eX9_touches_67, eX9_touches_70, eX9_touches_71, eX9_touches_73, eX9_touches_74, eX9_touches_77, eX9_touches_79, eX9_touches_80, eX9_touches_81, eX9_touches_84, eX9_touches_85, eX9_touches_88, eX9_touches_89, eX9_touches_91, eX9_touches_92, eX9_touches_93, eX9_touches_96, eX9_touches_97, eX9_touches_100, eX9_touches_103, eX9_touches_104, eX9_touches_106, eX9_touches_109, eX9_touches_111, eX9_touches_113, eX9_touches_114, eX9_touches_117, eX9_touches_118, eX9_touches_120, eX9_touches_121, eX9_touches_124, eX9_touches_126, eX9_touches_128, eX9_touches_129, eX9_touches_132, eX9_touches_133, eX9_touches_136, eX9_touches_137, eX9_touches_139, eX9_touches_140, eX9_touches_141, eX9_touches_144, eX9_touches_145, eX9_touches_148, eX9_touches_151, eX9_touches_153, eX9_touches_156, eX9_touches_158, eX9_touches_159, eX9_touches_160, eX9_touches_163, eX9_touches_165, eX9_touches_168, eX9_touches_169, eX9_touches_170, eX9_touches_172, eX9_touches_175, eX9_touches_177, eX9_touches_179, eX9_touches_180, eX9_touches_183, eX9_touches_185, eX9_touches_188, eX9_touches_190, eX9_touches_192, cont_some, tl_some, tl_none, csum_nil, csum_i, csum_r, csum_j, isc2_i, isc2_r, isc2_n, va_rf_s, vfn_ite, true_and, and_true, true_or, or_true, eq_self, Bool.false_eq_true, not_false_eq_true, not_true_eq_false, if_true, if_false, Nat.reduceAdd, Nat.reduceLeDiff, reduceIte, hm.1, hm.2.1, hm.2.2.1, hm.2.2.2.1, hm.2.2.2.2.1, hm.2.2.2.2.2.1, hm.2.2.2.2.2.2.1, hm.2.2.2.2.2.2.2.1, hm.2.2.2.2.2.2.2.2.1, hm.2.2.2.2.2.2.2.2.2.1, hm.2.2.2.2.2.2.2.2.2.2.1, hm.2.2.2.2.2.2.2.2.2.2.2.1, hm.2.2.2.2.2.2.2.2.2.2.2.2.1, hm.2.2.2.2.2.2.2.2.2.2.2.2.2.1, hm.2.2.2.2.2.2.2.2.2.2.2.2.2.2.1, hm.2.2.2.2.2.2.2.2.2.2.2.2.2.2.2.1, hm.2.2.2.2.2.2.2.2.2.2.2.2.2.2.2.2.1, hm.2.2.2.2.2.2.2.2.2.2.2.2.2.2.2.2.2.1, hm.2.2.2.2.2.2.2.2.2.2.2.2.2.2.2.2.2.2.1, hm.2.2.2.2.2.2.2.2.2.2.2.2.2.2.2.2.2.2.2.1, hm.2.2.2.2.2.2.2.2.2.2.2.2.2.2.2.2.2.2.2.2.1, hm.2.2.2.2.2.2.2.2.2.2.2.2.2.2.2.2.2.2.2.2.2.1, hm.2.2.2.2.2.2.2.2.2.2.2.2.2.2.2.2.2.2.2.2.2.2.1, hm.2.2.2.2.2.2.2.2.2.2.2.2.2.2.2.2.2.2.2.2.2.2.2.1, hm.2.2.2.2.2.2.2.2.2.2.2.2.2.2.2.2.2.2.2.2.2.2.2.2, k0, lgc_lt, lgc_gt, lgc_0, c1, c2, c3, c4, q1, q2, q3, q4, hbk, shp_wrI, n18, hl, hh, nI_1]
        rw [eX9_touches_195]
        rw [← hu]
        exact go
      · have q1 : (x < lo) = False := eq_false (by omega)
        have q2 : (x = lo) = True := eq_true z
        have q3 : (hi < x) = False := eq_false (by omega)
        rcases Int.lt_or_eq_of_le lh with y | y
        · have q4 : (x = hi) = False := eq_false (by omega)
          simp only [q1, q2, q3, q4, if_true, if_false] at go hu
          simp only [eX9_touches_57, eX9_touches_58, eX9_touches_60, eX9_touches_63, eX9_touches_65, eX9_touches_66, eX9_touches_67, eX9_touches_70, eX9_touches_71, eX9_touches_73, eX9_touches_74, eX9_touches_77, eX9_touches_79, eX9_touches_80, eX9_touches_81, eX9_touches_84, eX9_touches_85, eX9_touches_88, eX9_touches_89, eX9_touches_91, eX9_touches_92, eX9_touches_93, eX9_touches_96, eX9_touches_97, eX9_touches_100, eX9_touches_103, eX9_touches_104, eX9_touches_106, eX9_touches_109, eX9_touches_111, eX9_touches_113, eX9_touches_114, eX9_touches_117, eX9_touches_118, eX9_touches_120, eX9_touches_121, eX9_touches_124, eX9_touches_126, eX9_touches_128, eX9_touches_129, eX9_touches_132, eX9_touches_133, eX9_touches_136, eX9_touches_137, eX9_touches_139, eX9_touches_140, eX9_touches_141, eX9_touches_144, eX9_touches_145, eX9_touches_148, eX9_touches_151, eX9_touches_153, eX9_touches_156, eX9_touches_158, eX9_touches_159, eX9_touches_160, eX9_touches_163, eX9_touches_165, eX9_touches_168, eX9_touches_169, eX9_touches_170, eX9_touches_172, eX9_touches_175, eX9_touches_177, eX9_touches_179, eX9_touches_180, eX9_touches_183, eX9_touches_185, eX9_touches_188, eX9_touches_190, eX9_touches_192, cont_some, tl_some, tl_none, csum_nil, csum_i, csum_r, csum_j, isc2_i, isc2_r, isc2_n, va_rf_s, vfn_ite, true_and, and_true, true_or, or_true, eq_self, Bool.false_eq_true, not_false_eq_true, not_true_eq_false, if_true, if_false, Nat.reduceAdd, Nat.reduceLeDiff, reduceIte, hm.1, hm.2.1, hm.2.2.1, hm.2.2.2.1, hm.2.2.2.2.1, hm.2.2.2.2.2.1, hm.2.2.2.2.2.2.1, hm.2.2.2.2.2.2.2.1, hm.2.2.2.2.2.2.2.2.1, hm.2.2.2.2.2.2.2.2.2.1, hm.2.2.2.2.2.2.2.2.2.2.1, hm.2.2.2.2.2.2.2.2.2.2.2.1, hm.2.2.2.2.2.2.2.2.2.2.2.2.1, hm.2.2.2.2.2.2.2.2.2.2.2.2.2.1, hm.2.2.2.2.2.2.2.2.2.2.2.2.2.2.1, hm.2.2.2.2.2.2.2.2.2.2.2.2.2.2.2.1, hm.2.2.2.2.2.2.2.2.2.2.2.2.2.2.2.2.1, hm.2.2.2.2.2.2.2.2.2.2.2.2.2.2.2.2.2.1, hm.2.2.2.2.2.2.2.2.2.2.2.2.2.2.2.2.2.2.1, hm.2.2.2.2.2.2.2.2.2.2.2.2.2.2.2.2.2.2.2.1, hm.2.2.2.2.2.2.2.2.2.2.2.2.2.2.2.2.2.2.2.2.1, hm.2.2.2.2.2.2.2.2.2.2.2.2.2.2.2.2.2.2.2.2.2.1, hm.2.2.2.2.2.2.2.2.2.2.2.2.2.2.2.2.2.2.2.2.2.2.1, hm.2.2.2.2.2.2.2.2.2.2.2.2.2.2.2.2.2.2.2.2.2.2.2.1, hm.2.2.2.2.2.2.2.2.2.2.2.2.2.2.2.2.2.2.2.2.2.2.2.2, k0, lgc_lt, lgc_gt, lgc_0, c1, c2, c3, c4, q1, q2, q3, q4, hbk, shp_wrI, n18, hl, hh, nI_1]
          rw [eX9_touches_195]
          rw [← hu]
          exact go
        · have q4 : (x = hi) = True := eq_true (by omega)
          simp only [q1, q2, q3, q4, if_true, if_false] at go hu
          simp only [eX9_touches_57, eX9_touches_58, eX9_touches_60, eX9_touches_63, eX9_touches_65, eX9_touches_66, eX9_touches_67, eX9_touches_70, eX9_touches_71, eX9_touches_73, eX9_touches_74, eX9_touches_77, eX9_touches_79, eX9_touches_80, eX9_touches_81, eX9_touches_84, eX9_touches_85, eX9_touches_88, eX9_touches_89, eX9_touches_91, eX9_touches_92, eX9_touches_93, eX9_touches_96, eX9_touches_97, eX9_touches_100, eX9_touches_103, eX9_touches_104, eX9_touches_106, eX9_touches_109, eX9_touches_111, eX9_touches_113, eX9_touches_114, eX9_touches_117, eX9_touches_118, eX9_touches_120, eX9_touches_121, eX9_touches_124, eX9_touches_126, eX9_touches_128, eX9_touches_129, eX9_touches_132, eX9_touches_133, eX9_touches_136, eX9_touches_137, eX9_touches_139, eX9_touches_140, eX9_touches_141, eX9_touches_144, eX9_touches_145, eX9_touches_148, eX9_touches_151, eX9_touches_153, eX9_touches_156, eX9_touches_158, eX9_touches_159, eX9_touches_160, eX9_touches_163, eX9_touches_165, eX9_touches_168, eX9_touches_169, eX9_touches_170, eX9_touches_172, eX9_touches_175, eX9_touches_177, eX9_touches_179, eX9_touches_180, eX9_touches_183, eX9_touches_185, eX9_touches_188, eX9_touches_190, eX9_touches_192, cont_some, tl_some, tl_none, csum_nil, csum_i, csum_r, csum_j, isc2_i, isc2_r, isc2_n, va_rf_s, vfn_ite, true_and, and_true, true_or, or_true, eq_self, Bool.false_eq_true, not_false_eq_true, not_true_eq_false, if_true, if_false, Nat.reduceAdd, Nat.reduceLeDiff, reduceIte, hm.1, hm.2.1, hm.2.2.1, hm.2.2.2.1, hm.2.2.2.2.1, hm.2.2.2.2.2.1, hm.2.2.2.2.2.2.1, hm.2.2.2.2.2.2.2.1, hm.2.2.2.2.2.2.2.2.1, hm.2.2.2.2.2.2.2.2.2.1, hm.2.2.2.2.2.2.2.2.2.2.1, hm.2.2.2.2.2.2.2.2.2.2.2.1, hm.2.2.2.2.2.2.2.2.2.2.2.2.1, hm.2.2.2.2.2.2.2.2.2.2.2.2.2.1, hm.2.2.2.2.2.2.2.2.2.2.2.2.2.2.1, hm.2.2.2.2.2.2.2.2.2.2.2.2.2.2.2.1, hm.2.2.2.2.2.2.2.2.2.2.2.2.2.2.2.2.1, hm.2.2.2.2.2.2.2.2.2.2.2.2.2.2.2.2.2.1, hm.2.2.2.2.2.2.2.2.2.2.2.2.2.2.2.2.2.2.1, hm.2.2.2.2.2.2.2.2.2.2.2.2.2.2.2.2.2.2.2.1, hm.2.2.2.2.2.2.2.2.2.2.2.2.2.2.2.2.2.2.2.2.1, hm.2.2.2.2.2.2.2.2.2.2.2.2.2.2.2.2.2.2.2.2.2.1, hm.2.2.2.2.2.2.2.2.2.2.2.2.2.2.2.2.2.2.2.2.2.2.1, hm.2.2.2.2.2.2.2.2.2.2.2.2.2.2.2.2.2.2.2.2.2.2.2.1, hm.2.2.2.2.2.2.2.2.2.2.2.2.2.2.2.2.2.2.2.2.2.2.2.2, k0, lgc_lt, lgc_gt, lgc_0, c1, c2, c3, c4, q1, q2, q3, q4, hbk, shp_wrI, n18, hl, hh, nI_1]
          rw [eX9_touches_195]
          rw [← hu]
          exact go
      · have q1 : (x < lo) = False := eq_false (by omega)
        have q2 : (x = lo) = False := eq_false (by omega)
        rcases Int.lt_trichotomy hi x with y | y | y
        · have q3 : (hi < x) = True := eq_true y
          have q4 : (x = hi) = False := eq_false (by omega)
          simp only [q1, q2, q3, q4, if_true, if_false] at go hu
          simp only [eX9_touches_57, eX9_touches_58, eX9_touches_60, eX9_touches_63, eX9_touches_65, eX9_touches_66, eX9_touches_67, eX9_touches_70, eX9_touches_71, eX9_touches_73, eX9_touches_74, eX9_touches_77, eX9_touches_79, eX9_touches_80, eX9_touches_81, eX9_touches_84, eX9_touches_85, eX9_touches_88, eX9_touches_89, eX9_touches_91, eX9_touches_92, eX9_touches_93, eX9_touches_96, eX9_touches_97, eX9_touches_100, eX9_touches_103, eX9_touches_104, eX9_touches_106, eX9_touches_109, eX9_touches_111, eX9_touches_113, eX9_touches_114, eX9_touches_117, eX9_touches_118, eX9_touches_120, eX9_touches_121, eX9_touches_124, eX9_touches_126, eX9_touches_128, eX9_touches_129, eX9_touches_132, eX9_touches_133, eX9_touches_136, eX9_touches_137, eX9_touches_139, eX9_touches_140, eX9_touches_141, eX9_touches_144, eX9_touches_145, eX9_touches_148, eX9_touches_151, eX9_touches_153, eX9_touches_156, eX9_touches_158, eX9_touches_159, eX9_touches_160, eX9_touches_163, eX9_touches_165, eX9_touches_168, eX9_touches_169, eX9_touches_170, eX9_touches_172, eX9_touches_175, eX9_touches_177, eX9_touches_179, eX9_touches_180, eX9_touches_183, eX9_touches_185, eX9_touches_188, eX9_touches_190, eX9_touches_192, cont_some, tl_some, tl_none, csum_nil, csum_i, csum_r, csum_j, isc2_i, isc2_r, isc2_n, va_rf_s, vfn_ite, true_and, and_true, true_or, or_true, eq_self, Bool.false_eq_true, not_false_eq_true, not_true_eq_false, if_true, if_false, Nat.reduceAdd, Nat.reduceLeDiff, reduceIte, hm.1, hm.2.1, hm.2.2.1, hm.2.2.2.1, hm.2.2.2.2.1, hm.2.2.2.2.2.1, hm.2.2.2.2.2.2.1, hm.2.2.2.2.2.2.2.1, hm.2.2.2.2.2.2.2.2.1, hm.2.2.2.2.2.2.2.2.2.1, hm.2.2.2.2.2.2.2.2.2.2.1, hm.2.2.2.2.2.2.2.2.2.2.2.1, hm.2.2.2.2.2.2.2.2.2.2.2.2.1, hm.2.2.2.2.2.2.2.2.2.2.2.2.2.1, hm.2.2.2.2.2.2.2.2.2.2.2.2.2.2.1, hm.2.2.2.2.2.2.2.2.2.2.2.2.2.2.2.1, hm.2.2.2.2.2.2.2.2.2.2.2.2.2.2.2.2.1, hm.2.2.2.2.2.2.2.2.2.2.2.2.2.2.2.2.2.1, hm.2.2.2.2.2.2.2.2.2.2.2.2.2.2.2.2.2.2.1, hm.2.2.2.2.2.2.2.2.2.2.2.2.2.2.2.2.2.2.2.1, hm.2.2.2.2.2.2.2.2.2.2.2.2.2.2.2.2.2.2.2.2.1, hm.2.2.2.2.2.2.2.2.2.2.2.2.2.2.2.2.2.2.2.2.2.1, hm.2.2.2.2.2.2.2.2.2.2.2.2.2.2.2.2.2.2.2.2.2.2.1, hm.2.2.2.2.2.2.2.2.2.2.2.2.2.2.2.2.2.2.2.2.2.2.2.1, hm.2.2.2.2.2.2.2.2.2.2.2.2.2.2.2.2.2.2.2.2.2.2.2.2, k0, lgc_lt, lgc_gt, lgc_0, c1, c2, c3, c4, q1, q2, q3, q4, hbk, shp_wrI, n18, hl, hh, nI_1]
          rw [eX9_touches_195]
          rw [← hu]
          exact go
        · have q3 : (hi < x) = False := eq_false (by omega)
          have q4 : (x = hi) = True := eq_true y.symm
          simp only [q1, q2, q3, q4, if_true, if_false] at go hu
          simp only [eX9_touches_57, eX9_touches_58, eX9_touches_60, eX9_touches_63, eX9_touches_65, eX9_touches_66, eX9_touches_67, eX9_touches_70, eX9_touches_71, eX9_touches_73, eX9_touches_74, eX9_touches_77, eX9_touches_79, eX9_touches_80, eX9_touches_81, eX9_touches_84, eX9_touches_85, eX9_touches_88, eX9_touches_89, eX9_touches_91, eX9_touches_92, eX9_touches_93, eX9_touches_96, eX9_touches_97, eX9_touches_100, eX9_touches_103, eX9_touches_104, eX9_touches_106, eX9_touches_109, eX9_touches_111, eX9_touches_113, eX9_touches_114, eX9_touches_117, eX9_touches_118, eX9_touches_120, eX9_touches_121, eX9_touches_124, eX9_touches_126, eX9_touches_128, eX9_touches_129, eX9_touches_132, eX9_touches_133, eX9_touches_136, eX9_touches_137, eX9_touches_139, eX9_touches_140, eX9_touches_141, eX9_touches_144, eX9_touches_145, eX9_touches_148, eX9_touches_151, eX9_touches_153, eX9_touches_156, eX9_touches_158, eX9_touches_159, eX9_touches_160, eX9_touches_163, eX9_touches_165, eX9_touches_168, eX9_touches_169, eX9_touches_170, eX9_touches_172, eX9_touches_175, eX9_touches_177, eX9_touches_179, eX9_touches_180, eX9_touches_183, eX9_touches_185, eX9_touches_188, eX9_touches_190, eX9_touches_192, cont_some, tl_some, tl_none, csum_nil, csum_i, csum_r, csum_j, isc2_i, isc2_r, isc2_n, va_rf_s, vfn_ite, true_and, and_true, true_or, or_true, eq_self, Bool.false_eq_true, not_false_eq_true, not_true_eq_false, if_true, if_false, Nat.reduceAdd, Nat.reduceLeDiff, reduceIte, hm.1, hm.2.1, hm.2.2.1, hm.2.2.2.1, hm.2.2.2.2.1, hm.2.2.2.2.2.1, hm.2.2.2.2.2.2.1, hm.2.2.2.2.2.2.2.1, hm.2.2.2.2.2.2.2.2.1, hm.2.2.2.2.2.2.2.2.2.1, hm.2.2.2.2.2.2.2.2.2.2.1, hm.2.2.2.2.2.2.2.2.2.2.2.1, hm.2.2.2.2.2.2.2.2.2.2.2.2.1, hm.2.2.2.2.2.2.2.2.2.2.2.2.2.1, hm.2.2.2.2.2.2.2.2.2.2.2.2.2.2.1, hm.2.2.2.2.2.2.2.2.2.2.2.2.2.2.2.1, hm.2.2.2.2.2.2.2.2.2.2.2.2.2.2.2.2.1, hm.2.2.2.2.2.2.2.2.2.2.2.2.2.2.2.2.2.1, hm.2.2.2.2.2.2.2.2.2.2.2.2.2.2.2.2.2.2.1, hm.2.2.2.2.2.2.2.2.2.2.2.2.2.2.2.2.2.2.2.1, hm.2.2.2.2.2.2.2.2.2.2.2.2.2.2.2.2.2.2.2.2.1, hm.2.2.2.2.2.2.2.2.2.2.2.2.2.2.2.2.2.2.2.2.2.1, hm.2.2.2.2.2.2.2.2.2.2.2.2.2.2.2.2.2.2.2.2.2.2.1, hm.2.2.2.2.2.2.2.2.2.2.2.2.2.2.2.2.2.2.2.2.2.2.2.1, hm.2.2.2.2.2.2.2.2.2.2.2.2.2.2.2.2.2.2.2.2.2.2.2.2, k0, lgc_lt, lgc_gt, lgc_0, c1, c2, c3, c4, q1, q2, q3, q4, hbk, shp_wrI, n18, hl, hh, nI_1]
          rw [eX9_touches_195]
          rw [← hu]
          exact go
        · have q3 : (hi < x) = False := eq_false (by omega)
          have q4 : (x = hi) = False := eq_false (by omega)
          simp only [q1, q2, q3, q4, if_true, if_false] at go hu
          simp only [eX9_touches_57, eX9_touches_58, eX9_touches_60, eX9_touches_63, eX9_touches_65, eX9_touches_66, eX9_touches_67, eX9_touches_70, eX9_touches_71, eX9_touches_73, eX9_touches_74, eX9_touches_77, eX9_touches_79, eX9_touches_80, eX9_touches_81, eX9_touches_84, eX9_touches_85, eX9_touches_88, eX9_touches_89, eX9_touches_91, eX9_touches_92, eX9_touches_93, eX9_touches_96, eX9_touches_97, eX9_touches_100, eX9_touches_103, eX9_touches_104, eX9_touches_106, eX9_touches_109, eX9_touches_111, eX9_touches_113, eX9_touches_114, eX9_touches_117, eX9_touches_118, eX9_touches_120, eX9_touches_121, eX9_touches_124, eX9_touches_126, eX9_touches_128, eX9_touches_129, eX9_touches_132, eX9_touches_133, eX9_touches_136, eX9_touches_137, eX9_touches_139, eX9_touches_140, eX9_touches_141, eX9_touches_144, eX9_touches_145, eX9_touches_148, eX9_touches_151, eX9_touches_153, eX9_touches_156, eX9_touches_158, eX9_touches_159, eX9_touches_160, eX9_touches_163, eX9_touches_165, eX9_touches_168, eX9_touches_169, eX9_touches_170, eX9_touches_172, eX9_touches_175, eX9_touches_177, eX9_touches_179, eX9_touches_180, eX9_touches_183, eX9_touches_185, eX9_touches_188, eX9_touches_190, eX9_touches_192, cont_some, tl_some, tl_none, csum_nil, csum_i, csum_r, csum_j, isc2_i, isc2_r, isc2_n, va_rf_s, vfn_ite, true_and, and_true, true_or, or_true, eq_self, Bool.false_eq_true, not_false_eq_true, not_true_eq_false, if_true, if_false, Nat.reduceAdd, Nat.reduceLeDiff, reduceIte, hm.1, hm.2.1, hm.2.2.1, hm.2.2.2.1, hm.2.2.2.2.1, hm.2.2.2.2.2.1, hm.2.2.2.2.2.2.1, hm.2.2.2.2.2.2.2.1, hm.2.2.2.2.2.2.2.2.1, hm.2.2.2.2.2.2.2.2.2.1, hm.2.2.2.2.2.2.2.2.2.2.1, hm.2.2.2.2.2.2.2.2.2.2.2.1, hm.2.2.2.2.2.2.2.2.2.2.2.2.1, hm.2.2.2.2.2.2.2.2.2.2.2.2.2.1, hm.2.2.2.2.2.2.2.2.2.2.2.2.2.2.1, hm.2.2.2.2.2.2.2.2.2.2.2.2.2.2.2.1, hm.2.2.2.2.2.2.2.2.2.2.2.2.2.2.2.2.1, hm.2.2.2.2.2.2.2.2.2.2.2.2.2.2.2.2.2.1, hm.2.2.2.2.2.2.2.2.2.2.2.2.2.2.2.2.2.2.1, hm.2.2.2.2.2.2.2.2.2.2.2.2.2.2.2.2.2.2.2.1, hm.2.2.2.2.2.2.2.2.2.2.2.2.2.2.2.2.2.2.2.2.1, hm.2.2.2.2.2.2.2.2.2.2.2.2.2.2.2.2.2.2.2.2.2.1, hm.2.2.2.2.2.2.2.2.2.2.2.2.2.2.2.2.2.2.2.2.2.2.1, hm.2.2.2.2.2.2.2.2.2.2.2.2.2.2.2.2.2.2.2.2.2.2.2.1, hm.2.2.2.2.2.2.2.2.2.2.2.2.2.2.2.2.2.2.2.2.2.2.2.2, k0, lgc_lt, lgc_gt, lgc_0, c1, c2, c3, c4, q1, q2, q3, q4, hbk, shp_wrI, n18, hl, hh, nI_1]
          rw [eX9_touches_195]
          rw [← hu]
          exact go
def tcR (u : Wd) (o n j : Nat) (C : Nat → Int32) (s : Option V3) : Prop := match s with
  | none => rdI u o 17 = 0 ∧ rdI u o 18 = 0
  | some d => ∃ lo hi, tcI (fun i => dt d (qZ j C i)) n lo hi ∧ rdI u o 17 = loS (fun i => dt d (qZ j C i)) lo n ∧ rdI u o 18 = loS (fun i => dt d (qZ j C i)) hi n
theorem m_touches {w : Wd} {o n j : Nat} {C : Nat → Int32} {A : V3 → Int} {s : Option V3} (h : MB w o n C) (hb : bdC n C) (hj : j < 4) (hs : mrI w o A s) (hz : nzO s) : ∃ u, fX9_touches [.ref o, .int (nI j)] w = some (none, u) ∧ tcR u o n j C s ∧ FrX (Xh o) w u := by
  have hm := h.1
  have i0 : inA 0 33 = true := by decide
  have c0 : (0 : Int32).toNatClampNeg = 0 := by decide
  have F : FrX (Xh o) w (wrI (wrI w o 17 0) o 18 0) := (FrX.rf.wrI ⟨rfl, Or.inl rfl⟩).wrI ⟨rfl, Or.inr rfl⟩
  have hw := h.fh F
  have hmw := hw.1
  have E : ∀ i, i ≤ 16 → rdI (wrI (wrI w o 17 0) o 18 0) o i = rdI w o i := fun i hi' => F.1 o i (fun q => by unfold Xh at q; omega)
  have e17 : rdI (wrI (wrI w o 17 0) o 18 0) o 17 = 0 := by rw [rdI_wrI, if_neg (by omega), rdI_wrI, if_pos ⟨rfl, rfl⟩]
  have e18 : rdI (wrI (wrI w o 17 0) o 18 0) o 18 = 0 := by rw [rdI_wrI, if_pos ⟨rfl, rfl⟩]
  cases s with
  | none =>
    have h11 : rdI w o 11 = 0 := hs.2.2
    refine ⟨_, ?_, ⟨e17, e18⟩, F⟩
    refine sem_eq (Nat.le_of_ble_eq_true rfl) ?_
    show wp mX9_touches 0 [some (.ref o), some (.int (nI j)), none, none, none, none, none, none, none] [] _ _
    simp only [eX9_touches_0, eX9_touches_1, eX9_touches_2, eX9_touches_5, eX9_touches_6, eX9_touches_7, eX9_touches_10, eX9_touches_11, eX9_touches_12, eX9_touches_13, eX9_touches_15, eX9_touches_16, cont_some, tl_some, tl_none, csum_nil, csum_i, csum_r, csum_j, isc2_i, isc2_r, isc2_n, va_rf_s, vfn_ite, true_and, and_true, true_or, or_true, eq_self, Bool.false_eq_true, not_false_eq_true, not_true_eq_false, if_true, if_false, Nat.reduceAdd, Nat.reduceLeDiff, reduceIte, hm.1, hm.2.1, hm.2.2.1, hm.2.2.2.1, hm.2.2.2.2.1, hm.2.2.2.2.2.1, hm.2.2.2.2.2.2.1, hm.2.2.2.2.2.2.2.1, hm.2.2.2.2.2.2.2.2.1, hm.2.2.2.2.2.2.2.2.2.1, hm.2.2.2.2.2.2.2.2.2.2.1, hm.2.2.2.2.2.2.2.2.2.2.2.1, hm.2.2.2.2.2.2.2.2.2.2.2.2.1, hm.2.2.2.2.2.2.2.2.2.2.2.2.2.1, hm.2.2.2.2.2.2.2.2.2.2.2.2.2.2.1, hm.2.2.2.2.2.2.2.2.2.2.2.2.2.2.2.1, hm.2.2.2.2.2.2.2.2.2.2.2.2.2.2.2.2.1, hm.2.2.2.2.2.2.2.2.2.2.2.2.2.2.2.2.2.1, hm.2.2.2.2.2.2.2.2.2.2.2.2.2.2.2.2.2.2.1, hm.2.2.2.2.2.2.2.2.2.2.2.2.2.2.2.2.2.2.2.1, hm.2.2.2.2.2.2.2.2.2.2.2.2.2.2.2.2.2.2.2.2.1, hm.2.2.2.2.2.2.2.2.2.2.2.2.2.2.2.2.2.2.2.2.2.1, hm.2.2.2.2.2.2.2.2.2.2.2.2.2.2.2.2.2.2.2.2.2.2.1, hm.2.2.2.2.2.2.2.2.2.2.2.2.2.2.2.2.2.2.2.2.2.2.2.1, hm.2.2.2.2.2.2.2.2.2.2.2.2.2.2.2.2.2.2.2.2.2.2.2.2, shp_wrI]
    simp only [eX9_touches_18, eX9_touches_20, eX9_touches_21, eX9_touches_24, eX9_touches_25, eX9_touches_26, eX9_touches_29, eX9_touches_30, eX9_touches_33, eX9_touches_198, cont_some, tl_some, tl_none, csum_nil, csum_i, csum_r, csum_j, isc2_i, isc2_r, isc2_n, va_rf_s, vfn_ite, true_and, and_true, true_or, or_true, eq_self, Bool.false_eq_true, not_false_eq_true, not_true_eq_false, if_true, if_false, Nat.reduceAdd, Nat.reduceLeDiff, reduceIte, hmw.1, hmw.2.1, hmw.2.2.1, hmw.2.2.2.1, hmw.2.2.2.2.1, hmw.2.2.2.2.2.1, hmw.2.2.2.2.2.2.1, hmw.2.2.2.2.2.2.2.1, hmw.2.2.2.2.2.2.2.2.1, hmw.2.2.2.2.2.2.2.2.2.1, hmw.2.2.2.2.2.2.2.2.2.2.1, hmw.2.2.2.2.2.2.2.2.2.2.2.1, hmw.2.2.2.2.2.2.2.2.2.2.2.2.1, hmw.2.2.2.2.2.2.2.2.2.2.2.2.2.1, hmw.2.2.2.2.2.2.2.2.2.2.2.2.2.2.1, hmw.2.2.2.2.2.2.2.2.2.2.2.2.2.2.2.1, hmw.2.2.2.2.2.2.2.2.2.2.2.2.2.2.2.2.1, hmw.2.2.2.2.2.2.2.2.2.2.2.2.2.2.2.2.2.1, hmw.2.2.2.2.2.2.2.2.2.2.2.2.2.2.2.2.2.2.1, hmw.2.2.2.2.2.2.2.2.2.2.2.2.2.2.2.2.2.2.2.1, hmw.2.2.2.2.2.2.2.2.2.2.2.2.2.2.2.2.2.2.2.2.1, hmw.2.2.2.2.2.2.2.2.2.2.2.2.2.2.2.2.2.2.2.2.2.1, hmw.2.2.2.2.2.2.2.2.2.2.2.2.2.2.2.2.2.2.2.2.2.2.1, hmw.2.2.2.2.2.2.2.2.2.2.2.2.2.2.2.2.2.2.2.2.2.2.2.1, hmw.2.2.2.2.2.2.2.2.2.2.2.2.2.2.2.2.2.2.2.2.2.2.2.2, i0, c0, hw.2.1, E 11 (by omega), h11]
    split <;> trivial
  | some d =>
    obtain ⟨-, -, g1, g2, g3, g4⟩ := hs
    obtain ⟨hd, -⟩ := hz d rfl
    have hh : wp mX9_touches 0 [some (.ref o), some (.int (nI j)), none, none, none, none, none, none, none] [] w (fun r u => r = none ∧ (∃ lo hi, tcI (fun i => dt d (qZ j C i)) n lo hi ∧ rdI u o 17 = loS (fun i => dt d (qZ j C i)) lo n ∧ rdI u o 18 = loS (fun i => dt d (qZ j C i)) hi n) ∧ FrX (Xh o) w u) := by
      simp only [eX9_touches_0, eX9_touches_1, eX9_touches_2, eX9_touches_5, eX9_touches_6, eX9_touches_7, eX9_touches_10, eX9_touches_11, eX9_touches_12, eX9_touches_13, eX9_touches_15, eX9_touches_16, cont_some, tl_some, tl_none, csum_nil, csum_i, csum_r, csum_j, isc2_i, isc2_r, isc2_n, va_rf_s, vfn_ite, true_and, and_true, true_or, or_true, eq_self, Bool.false_eq_true, not_false_eq_true, not_true_eq_false, if_true, if_false, Nat.reduceAdd, Nat.reduceLeDiff, reduceIte, hm.1, hm.2.1, hm.2.2.1, hm.2.2.2.1, hm.2.2.2.2.1, hm.2.2.2.2.2.1, hm.2.2.2.2.2.2.1, hm.2.2.2.2.2.2.2.1, hm.2.2.2.2.2.2.2.2.1, hm.2.2.2.2.2.2.2.2.2.1, hm.2.2.2.2.2.2.2.2.2.2.1, hm.2.2.2.2.2.2.2.2.2.2.2.1, hm.2.2.2.2.2.2.2.2.2.2.2.2.1, hm.2.2.2.2.2.2.2.2.2.2.2.2.2.1, hm.2.2.2.2.2.2.2.2.2.2.2.2.2.2.1, hm.2.2.2.2.2.2.2.2.2.2.2.2.2.2.2.1, hm.2.2.2.2.2.2.2.2.2.2.2.2.2.2.2.2.1, hm.2.2.2.2.2.2.2.2.2.2.2.2.2.2.2.2.2.1, hm.2.2.2.2.2.2.2.2.2.2.2.2.2.2.2.2.2.2.1, hm.2.2.2.2.2.2.2.2.2.2.2.2.2.2.2.2.2.2.2.1, hm.2.2.2.2.2.2.2.2.2.2.2.2.2.2.2.2.2.2.2.2.1, hm.2.2.2.2.2.2.2.2.2.2.2.2.2.2.2.2.2.2.2.2.2.1, hm.2.2.2.2.2.2.2.2.2.2.2.2.2.2.2.2.2.2.2.2.2.2.1, hm.2.2.2.2.2.2.2.2.2.2.2.2.2.2.2.2.2.2.2.2.2.2.2.1, hm.2.2.2.2.2.2.2.2.2.2.2.2.2.2.2.2.2.2.2.2.2.2.2.2, shp_wrI]
      exact lo_touch hb hj hd n 0 _ 0 0 _ _ (by omega) hw (by rw [E 11 (by omega)]; exact g1) (by rw [E 14 (by omega)]; exact g2) (by rw [E 15 (by omega)]; exact g3) (by rw [E 16 (by omega)]; exact g4) (Or.inl ⟨rfl, rfl, rfl⟩) (by decide) (by decide) e17 e18 F
    obtain ⟨r, u, k1, rfl, k2, k3⟩ := sem_wp (nL := 9) (as := [.ref o, .int (nI j)]) (Nat.le_of_ble_eq_true rfl) hh
    exact ⟨u, k1, k2, k3⟩
