/-! all lines -/
def olS (x y : Nat → Int) (T n k l : Nat) (st : Bool × (Nat → Bool)) : Bool × (Nat → Bool) := if 0 < dsZ x y k l then (true, mkA (mset x y T n k l) n 0 st.2) else st
def olI (x y : Nat → Int) (T n k : Nat) : Nat → Nat → Bool × (Nat → Bool) → Bool × (Nat → Bool)
  | 0, _, st => st
  | e + 1, l, st => olI x y T n k e (l + 1) (olS x y T n k l st)
def olO (x y : Nat → Int) (T n : Nat) : Nat → Nat → Bool × (Nat → Bool) → Bool × (Nat → Bool)
  | 0, _, st => st
  | e + 1, k, st => olO x y T n e (k + 1) (olI x y T n k (n - (k + 1)) (k + 1) st)
section
variable {x y : Nat → Int} {T n : Nat}
theorem olI_1 {k : Nat} : ∀ (e l : Nat) (st : Bool × (Nat → Bool)), ((olI x y T n k e l st).1 = true ↔ st.1 = true ∨ ∃ q, l ≤ q ∧ q < l + e ∧ 0 < dsZ x y k q) ∧ ∀ s, (olI x y T n k e l st).2 s = true ↔ st.2 s = true ∨ ∃ q, (l ≤ q ∧ q < l + e ∧ 0 < dsZ x y k q) ∧ ∃ i, i < n ∧ s = mset x y T n k q i := by
  intro e
  induction e with
  | zero =>
    intro l st
    refine ⟨⟨fun h => Or.inl h, ?_⟩, fun s => ⟨fun h => Or.inl h, ?_⟩⟩
    · rintro (h | ⟨q, h1, h2, -⟩)
      · exact h
      · omega
    · rintro (h | ⟨q, ⟨h1, h2, -⟩, -⟩)
      · exact h
      · omega
  | succ e ih =>
    intro l st
    obtain ⟨i1, i2⟩ := ih (l + 1) (olS x y T n k l st)
    have s1 : (olS x y T n k l st).1 = true ↔ st.1 = true ∨ 0 < dsZ x y k l := by
      unfold olS
      by_cases q : 0 < dsZ x y k l
      · rw [if_pos q]; simp [q]
      · rw [if_neg q]; simp [q]
    have s2 : ∀ s, (olS x y T n k l st).2 s = true ↔ st.2 s = true ∨ (0 < dsZ x y k l ∧ ∃ i, i < n ∧ s = mset x y T n k l i) := fun s => by
      unfold olS
      by_cases q : 0 < dsZ x y k l
      · rw [if_pos q]
        show mkA _ n 0 st.2 s = true ↔ _
        rw [mkA_iff]
        constructor
        · rintro (h | ⟨i, -, h2, h3⟩)
          · exact Or.inl h
          · exact Or.inr ⟨q, i, by omega, h3⟩
        · rintro (h | ⟨-, i, h2, h3⟩)
          · exact Or.inl h
          · exact Or.inr ⟨i, by omega, by omega, h3⟩
      · rw [if_neg q]
        constructor
        · exact fun h => Or.inl h
        · rintro (h | ⟨h, -⟩)
          · exact h
          · exact absurd h q
    show ((olI x y T n k e (l + 1) (olS x y T n k l st)).1 = true ↔ _) ∧ ∀ s, (olI x y T n k e (l + 1) (olS x y T n k l st)).2 s = true ↔ _
    rw [i1, s1]
    refine ⟨?_, fun s => ?_⟩
    · constructor
      · rintro ((h | h) | ⟨q, h1, h2, h3⟩)
        · exact Or.inl h
        · exact Or.inr ⟨l, by omega, by omega, h⟩
        · exact Or.inr ⟨q, by omega, by omega, h3⟩
      · rintro (h | ⟨q, h1, h2, h3⟩)
        · exact Or.inl (Or.inl h)
        · by_cases e' : q = l
          · rw [e'] at h3; exact Or.inl (Or.inr h3)
          · exact Or.inr ⟨q, by omega, by omega, h3⟩
    · rw [i2, s2]
      constructor
      · rintro ((h | ⟨h, h'⟩) | ⟨q, ⟨h1, h2, h3⟩, h4⟩)
        · exact Or.inl h
        · exact Or.inr ⟨l, ⟨by omega, by omega, h⟩, h'⟩
        · exact Or.inr ⟨q, ⟨by omega, by omega, h3⟩, h4⟩
      · rintro (h | ⟨q, ⟨h1, h2, h3⟩, h4⟩)
        · exact Or.inl (Or.inl h)
        · by_cases e' : q = l
          · rw [e'] at h3 h4; exact Or.inl (Or.inr ⟨h3, h4⟩)
          · exact Or.inr ⟨q, ⟨by omega, by omega, h3⟩, h4⟩
theorem olO_1 : ∀ (e k : Nat) (st : Bool × (Nat → Bool)), k + e = n → ((olO x y T n e k st).1 = true ↔ st.1 = true ∨ ∃ p q, k ≤ p ∧ p < q ∧ q < n ∧ 0 < dsZ x y p q) ∧ ∀ s, (olO x y T n e k st).2 s = true ↔ st.2 s = true ∨ ∃ p q, (k ≤ p ∧ p < q ∧ q < n ∧ 0 < dsZ x y p q) ∧ ∃ i, i < n ∧ s = mset x y T n p q i := by
  intro e
  induction e with
  | zero =>
    intro k st hk
    refine ⟨⟨fun h => Or.inl h, ?_⟩, fun s => ⟨fun h => Or.inl h, ?_⟩⟩
    · rintro (h | ⟨p, q, h1, h2, h3, -⟩)
      · exact h
      · omega
    · rintro (h | ⟨p, q, ⟨h1, h2, h3, -⟩, -⟩)
      · exact h
      · omega
  | succ e ih =>
    intro k st hk
    obtain ⟨i1, i2⟩ := ih (k + 1) (olI x y T n k (n - (k + 1)) (k + 1) st) (by omega)
    obtain ⟨j1, j2⟩ := olI_1 (x := x) (y := y) (T := T) (n := n) (k := k) (n - (k + 1)) (k + 1) st
    show ((olO x y T n e (k + 1) _).1 = true ↔ _) ∧ ∀ s, (olO x y T n e (k + 1) _).2 s = true ↔ _
    rw [i1, j1]
    refine ⟨?_, fun s => ?_⟩
    · constructor
      · rintro ((h | ⟨q, h1, h2, h3⟩) | ⟨p, q, h1, h2, h3, h4⟩)
        · exact Or.inl h
        · exact Or.inr ⟨k, q, by omega, by omega, by omega, h3⟩
        · exact Or.inr ⟨p, q, by omega, h2, h3, h4⟩
      · rintro (h | ⟨p, q, h1, h2, h3, h4⟩)
        · exact Or.inl (Or.inl h)
        · by_cases e' : p = k
          · rw [e'] at h4 h2; exact Or.inl (Or.inr ⟨q, by omega, by omega, h4⟩)
          · exact Or.inr ⟨p, q, by omega, h2, h3, h4⟩
    · rw [i2, j2]
      constructor
      · rintro ((h | ⟨q, ⟨h1, h2, h3⟩, h5⟩) | ⟨p, q, ⟨h1, h2, h3, h4⟩, h5⟩)
        · exact Or.inl h
        · exact Or.inr ⟨k, q, ⟨by omega, by omega, by omega, h3⟩, h5⟩
        · exact Or.inr ⟨p, q, ⟨by omega, h2, h3, h4⟩, h5⟩
      · rintro (h | ⟨p, q, ⟨h1, h2, h3, h4⟩, h5⟩)
        · exact Or.inl (Or.inl h)
        · by_cases e' : p = k
          · rw [e'] at h4 h2 h5; exact Or.inl (Or.inr ⟨q, ⟨by omega, by omega, h4⟩, h5⟩)
          · exact Or.inr ⟨p, q, ⟨by omega, h2, h3, h4⟩, h5⟩
end
def b01 (b : Bool) : Int32 := if b = true then 1 else 0
theorem lo_fl2 {d v n T k : Nat} {U V : Nat → Int32} {w0 : Wd} {a3 : Option Value} {Q : Option Value → Wd → Prop} (h3 : isc2 (some a3) = false) (hd : d + 1 < v ∨ v + 3 < d + 1) (hz : inZ n (uZ U) (uZ V)) (hT : T ≤ 999) (hk : k < n) : ∀ (e l : Nat) (w : Wd) (st : Bool × (Nat → Bool)), l + e = n → vIs w v n U V → isO w d → gdW w d n st.2 → FrX (Xg d) w0 w →
    (∀ u a6, vIs u v n U V → isO u d → gdW u d n (olI (uZ U) (uZ V) T n k e l st).2 → FrX (Xg d) w0 u → wp mX1_findGood 92 [some (.ref d), some (.ref v), some (.int (nI T)), a3, some (.int (b01 (olI (uZ U) (uZ V) T n k e l st).1)), some (.int (nI k)), some (.int a6)] [] u Q) →
    wp mX1_findGood 53 [some (.ref d), some (.ref v), some (.int (nI T)), a3, some (.int (b01 st.1)), some (.int (nI k)), some (.int (nI l))] [] w Q := by
  intro e
  induction e with
  | zero =>
    intro l w st hl hv ho hG hF hQ
    have e : l = n := by omega
    subst e
    have l' : ¬ nI l < nI l := Int32.lt_irrefl
    simp only [eX1_findGood_53, eX1_findGood_55, eX1_findGood_56, eX1_findGood_59, cont_some, tl_some, tl_none, csum_nil, csum_i, csum_r, csum_j, isc2_i, isc2_r, isc2_n, va_rf_s, vfn_ite, true_and, and_true, true_or, or_true, eq_self, Bool.false_eq_true, not_false_eq_true, not_true_eq_false, if_true, if_false, Nat.reduceAdd, Nat.reduceLeDiff, reduceIte, hv.1.1, hv.2.1, l']
    exact hQ w _ hv ho hG hF
  | succ e ih =>
    intro l w st hl hv ho hG hF hQ
    have h10 := hv.2.2.1
    have l' : nI l < nI n := nI_lt (by omega) (by omega)
    have ea := s_v_apart hv hk (show l < n by omega)
    have bd := dsZ_b hz hk (show l < n by omega)
    have bn := dsZ_nn (x := uZ U) (y := uZ V) (a := k) (b := l)
    have ep : 0 < dst U V k l ↔ 0 < dsZ (uZ U) (uZ V) k l := by
      rw [dst_I, show (0 : Int32) = iI 0 from rfl, iI_lt (by omega) (by omega)]
    have hQ' : ∀ u a6, vIs u v n U V → isO u d → gdW u d n (olI (uZ U) (uZ V) T n k e (l + 1) (olS (uZ U) (uZ V) T n k l st)).2 → FrX (Xg d) w0 u → wp mX1_findGood 92 [some (.ref d), some (.ref v), some (.int (nI T)), a3, some (.int (b01 (olI (uZ U) (uZ V) T n k e (l + 1) (olS (uZ U) (uZ V) T n k l st)).1)), some (.int (nI k)), some (.int a6)] [] u Q := hQ
    simp only [eX1_findGood_53, eX1_findGood_55, eX1_findGood_56, eX1_findGood_59, eX1_findGood_62, eX1_findGood_63, eX1_findGood_65, eX1_findGood_67, eX1_findGood_70, cont_some, tl_some, tl_none, csum_nil, csum_i, csum_r, csum_j, isc2_i, isc2_r, isc2_n, va_rf_s, vfn_ite, true_and, and_true, true_or, or_true, eq_self, Bool.false_eq_true, not_false_eq_true, not_true_eq_false, if_true, if_false, Nat.reduceAdd, Nat.reduceLeDiff, reduceIte, hv.1.1, hv.2.1, l', ea, ep]
    by_cases q : 0 < dsZ (uZ U) (uZ V) k l
    · obtain ⟨u, k1, k2, k3⟩ := s_mark hd hv hz hT hk (show l < n by omega) ho hG
      have es : olS (uZ U) (uZ V) T n k l st = (true, mkA (mset (uZ U) (uZ V) T n k l) n 0 st.2) := if_pos q
      rw [es] at hQ'
      rw [if_pos q]
      simp only [eX1_findGood_73, eX1_findGood_74, eX1_findGood_76, eX1_findGood_77, eX1_findGood_78, eX1_findGood_80, eX1_findGood_82, eX1_findGood_83, eX1_findGood_86, cont_some, tl_some, tl_none, csum_nil, csum_i, csum_r, csum_j, isc2_i, isc2_r, isc2_n, va_rf_s, vfn_ite, true_and, and_true, true_or, or_true, eq_self, Bool.false_eq_true, not_false_eq_true, not_true_eq_false, if_true, if_false, Nat.reduceAdd, Nat.reduceLeDiff, reduceIte, h3, ho.1, k1, nI_1]
      rw [eX1_findGood_89]
      exact ih (l + 1) u (true, mkA (mset (uZ U) (uZ V) T n k l) n 0 st.2) (by omega) (hv.fx k3 (fun c j y => by unfold Xg at y; omega)) (ho.fx k3) k2 (hF.tr k3) hQ'
    · have es : olS (uZ U) (uZ V) T n k l st = st := if_neg q
      rw [es] at hQ'
      rw [if_neg q]
      simp only [eX1_findGood_86, cont_some, tl_some, tl_none, csum_nil, csum_i, csum_r, csum_j, isc2_i, isc2_r, isc2_n, va_rf_s, vfn_ite, true_and, and_true, true_or, or_true, eq_self, Bool.false_eq_true, not_false_eq_true, not_true_eq_false, if_true, if_false, Nat.reduceAdd, Nat.reduceLeDiff, reduceIte, nI_1]
      rw [eX1_findGood_89]
      exact ih (l + 1) w st (by omega) hv ho hG hF hQ'
theorem lo_fl1 {d v n T : Nat} {U V : Nat → Int32} {w0 : Wd} {a3 : Option Value} {Q : Option Value → Wd → Prop} (h3 : isc2 (some a3) = false) (hd : d + 1 < v ∨ v + 3 < d + 1) (hz : inZ n (uZ U) (uZ V)) (hT : T ≤ 999) : ∀ (e k : Nat) (w : Wd) (st : Bool × (Nat → Bool)) (a6 : Option Value), k + e = n → vIs w v n U V → isO w d → gdW w d n st.2 → FrX (Xg d) w0 w →
    (∀ u a5 a6, vIs u v n U V → isO u d → gdW u d n (olO (uZ U) (uZ V) T n e k st).2 → FrX (Xg d) w0 u → wp mX1_findGood 98 [some (.ref d), some (.ref v), some (.int (nI T)), a3, some (.int (b01 (olO (uZ U) (uZ V) T n e k st).1)), some (.int a5), a6] [] u Q) →
    wp mX1_findGood 38 [some (.ref d), some (.ref v), some (.int (nI T)), a3, some (.int (b01 st.1)), some (.int (nI k)), a6] [] w Q := by
  intro e
  induction e with
  | zero =>
    intro k w st a6 hk hv ho hG hF hQ
    have e : k = n := by omega
    subst e
    have l' : ¬ nI k < nI k := Int32.lt_irrefl
    simp only [eX1_findGood_38, eX1_findGood_40, eX1_findGood_41, eX1_findGood_44, cont_some, tl_some, tl_none, csum_nil, csum_i, csum_r, csum_j, isc2_i, isc2_r, isc2_n, va_rf_s, vfn_ite, true_and, and_true, true_or, or_true, eq_self, Bool.false_eq_true, not_false_eq_true, not_true_eq_false, if_true, if_false, Nat.reduceAdd, Nat.reduceLeDiff, reduceIte, hv.1.1, hv.2.1, l']
    exact hQ w _ _ hv ho hG hF
  | succ e ih =>
    intro k w st a6 hk hv ho hG hF hQ
    have h10 := hv.2.2.1
    have l' : nI k < nI n := nI_lt (by omega) (by omega)
    simp only [eX1_findGood_38, eX1_findGood_40, eX1_findGood_41, eX1_findGood_44, eX1_findGood_47, eX1_findGood_49, eX1_findGood_50, eX1_findGood_51, cont_some, tl_some, tl_none, csum_nil, csum_i, csum_r, csum_j, isc2_i, isc2_r, isc2_n, va_rf_s, vfn_ite, true_and, and_true, true_or, or_true, eq_self, Bool.false_eq_true, not_false_eq_true, not_true_eq_false, if_true, if_false, Nat.reduceAdd, Nat.reduceLeDiff, reduceIte, hv.1.1, hv.2.1, l', nI_1]
    refine lo_fl2 (w0 := w0) h3 hd hz hT (show k < n by omega) (n - (k + 1)) (k + 1) w st (by omega) hv ho hG hF (fun u a6 k1 k2 k3 k4 => ?_)
    simp only [eX1_findGood_92, cont_some, tl_some, tl_none, csum_nil, csum_i, csum_r, csum_j, isc2_i, isc2_r, isc2_n, va_rf_s, vfn_ite, true_and, and_true, true_or, or_true, eq_self, Bool.false_eq_true, not_false_eq_true, not_true_eq_false, if_true, if_false, Nat.reduceAdd, Nat.reduceLeDiff, reduceIte, nI_1]
    rw [eX1_findGood_95]
    exact ih (k + 1) u _ _ (by omega) k1 k2 k3 k4 hQ
/-! parts -/
def mpI (s : Nat) : Nat → Nat → (Nat → Bool) → Nat → Bool
  | 0, _, G => G
  | e + 1, k, G => mpI s e (k + 1) (if G s = true then updT G (clr s k) else G)
def mpO (n : Nat) : Nat → (Nat → Bool) → Nat → Bool
  | 0, G => G
  | m + 1, G => mpO n m (mpI (m + 1) n 0 G)
theorem mpI_iff {s : Nat} (hs : s < 1024) : ∀ (e k : Nat) (G : Nat → Bool) (t : Nat), mpI s e k G t = true ↔ G t = true ∨ (G s = true ∧ ∃ q, k ≤ q ∧ q < k + e ∧ t = clr s q) := by
  intro e
  induction e with
  | zero =>
    intro k G t
    constructor
    · exact fun h => Or.inl h
    · rintro (h | ⟨-, q, h1, h2, -⟩)
      · exact h
      · omega
  | succ e ih =>
    intro k G t
    show mpI s e (k + 1) (if G s = true then updT G (clr s k) else G) t = true ↔ _
    rw [ih]
    by_cases g : G s = true
    · simp only [g, if_true, true_and]
      unfold updT
      simp only [Bool.or_eq_true, decide_eq_true_eq, g, or_true, true_and]
      constructor
      · rintro ((h | h) | ⟨q, h1, h2, h3⟩)
        · exact Or.inr ⟨k, by omega, by omega, h⟩
        · exact Or.inl h
        · exact Or.inr ⟨q, by omega, by omega, h3⟩
      · rintro (h | ⟨q, h1, h2, h3⟩)
        · exact Or.inl (Or.inr h)
        · by_cases e' : q = k
          · exact Or.inl (Or.inl (by rw [h3, e']))
          · exact Or.inr ⟨q, by omega, by omega, h3⟩
    · rw [if_neg g]
      constructor
      · rintro (h | ⟨h, -⟩)
        · exact Or.inl h
        · exact absurd h g
      · rintro (h | ⟨h, -⟩)
        · exact Or.inl h
        · exact absurd h g
/-- what is marked at the end: the marked ones and their parts -/
theorem mpO_iff {n : Nat} (h10 : n ≤ 10) : ∀ (m : Nat) (G G0 : Nat → Bool), m < 2 ^ n → (∀ t, G0 t = true → G t = true) → (∀ t, t < 2 ^ n → G t = true → ∃ u, u < 2 ^ n ∧ G0 u = true ∧ ∀ i, t.testBit i = true → u.testBit i = true) → (∀ s k, m < s → s < 2 ^ n → k < n → G s = true → G (clr s k) = true) →
    ∀ t, t < 2 ^ n → (mpO n m G t = true ↔ ∃ u, u < 2 ^ n ∧ G0 u = true ∧ ∀ i, t.testBit i = true → u.testBit i = true) := by
  have hp := pw_lt h10
  intro m
  induction m with
  | zero =>
    intro G G0 hm hsub hsnd hcl t ht
    refine ⟨fun h => hsnd t ht h, ?_⟩
    rintro ⟨u, hu, hG, hb⟩
    refine clr_all h10 (F := G) (fun s k hs hk hg => ?_) t u ht hu (fun i _ hi => hb i hi) (hsub u hG)
    by_cases q : s = 0
    · have : clr s k = 0 := by have := clr_le (s := s) (k := k); omega
      rw [this, ← q]; exact hg
    · exact hcl s k (by omega) hs hk hg
  | succ m ih =>
    intro G G0 hm hsub hsnd hcl t ht
    refine ih (mpI (m + 1) n 0 G) G0 (by omega) (fun t h => (mpI_iff (by omega) n 0 G t).mpr (Or.inl (hsub t h))) (fun t ht h => ?_) (fun s k hs1 hs2 hk hg => ?_) t ht
    · rcases (mpI_iff (by omega) n 0 G t).mp h with h | ⟨h, q, h1, h2, h3⟩
      · exact hsnd t ht h
      · obtain ⟨u, hu, hG, hb⟩ := hsnd (m + 1) hm h
        refine ⟨u, hu, hG, fun i hi => hb i ?_⟩
        rw [h3, clr_tb (by omega)] at hi
        simp at hi
        exact hi.1
    · rw [mpI_iff (by omega)] at hg ⊢
      by_cases q : s = m + 1
      · subst q
        have g : G (m + 1) = true := by rcases hg with y | ⟨y, -⟩ <;> exact y
        exact Or.inr ⟨g, k, by omega, by omega, rfl⟩
      · have g : G s = true := by
          rcases hg with y | ⟨-, q', -, -, y⟩
          · exact y
          · have := clr_le (s := m + 1) (k := q')
            omega
        exact Or.inl (hcl s k (by omega) hs2 hk g)
