/-! read, by the reference -/
theorem div3 : ∀ n, n < 11 → nI (3 * n) / 3 = nI n := by decide
theorem MC.frX {X : Nat → Nat → Prop} {w u : Wd} {o : Nat} {c : Cst} (h : MC w o c) (f : FrX X w u) (hd : ∀ a j, X a j → ¬ ((a = o ∧ j < 5) ∨ (o < a ∧ a < o + 4))) : MC u o c := by
  obtain ⟨h1, h2, h3, h4⟩ := h
  have r0 : ∀ j, j < 5 → rdI u o j = rdI w o j := fun j hj => f.1 _ _ (fun z => hd _ _ z (Or.inl ⟨rfl, hj⟩))
  have r1 : ∀ a j, o < a → a < o + 4 → rdI u a j = rdI w a j := fun a j h1 h2 => f.1 _ _ (fun z => hd _ _ z (Or.inr ⟨h1, h2⟩))
  obtain ⟨S, m, P, i⟩ := c
  refine ⟨f.md h1, h2.congr (fun j _ => r1 _ _ (by omega) (by omega)), ⟨by rw [r0 2 (by omega)]; exact h3.1, h3.2.1, fun k hk => (h3.2.2 k hk).congr (fun j _ => r1 _ _ (by omega) (by omega))⟩, ?_⟩
  cases i with
  | none => show rdI u o 4 = 0; rw [r0 4 (by omega)]; exact h4
  | some t =>
    obtain ⟨S', m', P'⟩ := t
    obtain ⟨g1, g2, g3, g4, g5⟩ := h4
    exact ⟨by rw [r0 4 (by omega)]; exact g1, g2.congr (fun j _ => r1 _ _ (by omega) (by omega)), by rw [r1 _ _ (by omega) (by omega)]; exact g3, g4, fun k hk => (g5 k hk).congr (fun j _ => r1 _ _ (by omega) (by omega))⟩
theorem lo_mread {w : Wd} {o m : Nat} {a1 : Option Value} {x : Int32} {Q : Option Value → Wd → Prop} (h1 : isc2 (some a1) = false) (h : isMd w o) (h25 : rdI w o 25 = nI m) (hm : m ≤ 30) (hx : rdI w (o + 1) 0 = x) (hQ : Q (some (.int x)) (cpI w (o + 12) 0 (o + 1) 3 m)) : ∀ (d t : Nat), t + d = m →
    wp mX9_read 40 [some (.ref o), a1, some (.int (nI t))] [] (cpI w (o + 12) 0 (o + 1) 3 t) Q := by
  have n1 : ¬ o = o + 1 := by omega
  intro d
  induction d with
  | zero =>
    intro t ht
    have : t = m := by omega
    subst this
    have l : ¬ nI t < nI t := Int32.lt_irrefl
    have i0 : inA 0 33 = true := by decide
    have c0 : (0 : Int32).toNatClampNeg = 0 := by decide
    have z3 : ¬ (3 ≤ 0) := by decide
    simp only [eX9_read_40, eX9_read_41, eX9_read_42, eX9_read_45, eX9_read_68, eX9_read_69, eX9_read_72, eX9_read_73, eX9_read_74, cont_some, tl_some, tl_none, csum_nil, csum_i, csum_r, csum_j, isc2_i, isc2_r, isc2_n, va_rf_s, vfn_ite, true_and, and_true, true_or, or_true, eq_self, Bool.false_eq_true, not_false_eq_true, not_true_eq_false, if_true, if_false, Nat.reduceAdd, Nat.reduceLeDiff, reduceIte, shp_cpI, rdR_cpI, rdI_cpI, n1, false_and, and_false, z3, h.1, h.2.1, h.2.2.1, h.2.2.2.1, h.2.2.2.2.1, h.2.2.2.2.2.1, h.2.2.2.2.2.2.1, h.2.2.2.2.2.2.2.1, h.2.2.2.2.2.2.2.2.1, h.2.2.2.2.2.2.2.2.2.1, h.2.2.2.2.2.2.2.2.2.2.1, h.2.2.2.2.2.2.2.2.2.2.2.1, h.2.2.2.2.2.2.2.2.2.2.2.2.1, h.2.2.2.2.2.2.2.2.2.2.2.2.2.1, h.2.2.2.2.2.2.2.2.2.2.2.2.2.2.1, h.2.2.2.2.2.2.2.2.2.2.2.2.2.2.2.1, h.2.2.2.2.2.2.2.2.2.2.2.2.2.2.2.2.1, h.2.2.2.2.2.2.2.2.2.2.2.2.2.2.2.2.2.1, h.2.2.2.2.2.2.2.2.2.2.2.2.2.2.2.2.2.2.1, h.2.2.2.2.2.2.2.2.2.2.2.2.2.2.2.2.2.2.2.1, h.2.2.2.2.2.2.2.2.2.2.2.2.2.2.2.2.2.2.2.2.1, h.2.2.2.2.2.2.2.2.2.2.2.2.2.2.2.2.2.2.2.2.2.1, h.2.2.2.2.2.2.2.2.2.2.2.2.2.2.2.2.2.2.2.2.2.2.1, h.2.2.2.2.2.2.2.2.2.2.2.2.2.2.2.2.2.2.2.2.2.2.2.1, h.2.2.2.2.2.2.2.2.2.2.2.2.2.2.2.2.2.2.2.2.2.2.2.2, h25, l, i0, c0, hx]
    exact hQ
  | succ d ih =>
    intro t ht
    have l : nI t < nI m := nI_lt (by omega) (by omega)
    have p3 : (3 : Int32) = nI 3 := rfl
    have r25 : rdI (cpI w (o + 12) 0 (o + 1) 3 t) o 25 = nI m := by rw [rdI_cpI, if_neg (by omega)]; exact h25
    simp only [eX9_read_40, eX9_read_41, eX9_read_42, eX9_read_45, cont_some, tl_some, tl_none, csum_nil, csum_i, csum_r, csum_j, isc2_i, isc2_r, isc2_n, va_rf_s, vfn_ite, true_and, and_true, true_or, or_true, eq_self, Bool.false_eq_true, not_false_eq_true, not_true_eq_false, if_true, if_false, Nat.reduceAdd, Nat.reduceLeDiff, reduceIte, shp_cpI, h.1, h.2.1, h.2.2.1, h.2.2.2.1, h.2.2.2.2.1, h.2.2.2.2.2.1, h.2.2.2.2.2.2.1, h.2.2.2.2.2.2.2.1, h.2.2.2.2.2.2.2.2.1, h.2.2.2.2.2.2.2.2.2.1, h.2.2.2.2.2.2.2.2.2.2.1, h.2.2.2.2.2.2.2.2.2.2.2.1, h.2.2.2.2.2.2.2.2.2.2.2.2.1, h.2.2.2.2.2.2.2.2.2.2.2.2.2.1, h.2.2.2.2.2.2.2.2.2.2.2.2.2.2.1, h.2.2.2.2.2.2.2.2.2.2.2.2.2.2.2.1, h.2.2.2.2.2.2.2.2.2.2.2.2.2.2.2.2.1, h.2.2.2.2.2.2.2.2.2.2.2.2.2.2.2.2.2.1, h.2.2.2.2.2.2.2.2.2.2.2.2.2.2.2.2.2.2.1, h.2.2.2.2.2.2.2.2.2.2.2.2.2.2.2.2.2.2.2.1, h.2.2.2.2.2.2.2.2.2.2.2.2.2.2.2.2.2.2.2.2.1, h.2.2.2.2.2.2.2.2.2.2.2.2.2.2.2.2.2.2.2.2.2.1, h.2.2.2.2.2.2.2.2.2.2.2.2.2.2.2.2.2.2.2.2.2.2.1, h.2.2.2.2.2.2.2.2.2.2.2.2.2.2.2.2.2.2.2.2.2.2.2.1, h.2.2.2.2.2.2.2.2.2.2.2.2.2.2.2.2.2.2.2.2.2.2.2.2, r25, l]
    simp only [eX9_read_48, eX9_read_49, eX9_read_52, eX9_read_53, eX9_read_54, eX9_read_55, eX9_read_56, eX9_read_59, eX9_read_60, eX9_read_61, eX9_read_62, cont_some, tl_some, tl_none, csum_nil, csum_i, csum_r, csum_j, isc2_i, isc2_r, isc2_n, va_rf_s, vfn_ite, true_and, and_true, true_or, or_true, eq_self, Bool.false_eq_true, not_false_eq_true, not_true_eq_false, if_true, if_false, Nat.reduceAdd, Nat.reduceLeDiff, reduceIte, shp_cpI, rdR_cpI, h.1, h.2.1, h.2.2.1, h.2.2.2.1, h.2.2.2.2.1, h.2.2.2.2.2.1, h.2.2.2.2.2.2.1, h.2.2.2.2.2.2.2.1, h.2.2.2.2.2.2.2.2.1, h.2.2.2.2.2.2.2.2.2.1, h.2.2.2.2.2.2.2.2.2.2.1, h.2.2.2.2.2.2.2.2.2.2.2.1, h.2.2.2.2.2.2.2.2.2.2.2.2.1, h.2.2.2.2.2.2.2.2.2.2.2.2.2.1, h.2.2.2.2.2.2.2.2.2.2.2.2.2.2.1, h.2.2.2.2.2.2.2.2.2.2.2.2.2.2.2.1, h.2.2.2.2.2.2.2.2.2.2.2.2.2.2.2.2.1, h.2.2.2.2.2.2.2.2.2.2.2.2.2.2.2.2.2.1, h.2.2.2.2.2.2.2.2.2.2.2.2.2.2.2.2.2.2.1, h.2.2.2.2.2.2.2.2.2.2.2.2.2.2.2.2.2.2.2.1, h.2.2.2.2.2.2.2.2.2.2.2.2.2.2.2.2.2.2.2.2.1, h.2.2.2.2.2.2.2.2.2.2.2.2.2.2.2.2.2.2.2.2.2.1, h.2.2.2.2.2.2.2.2.2.2.2.2.2.2.2.2.2.2.2.2.2.2.1, h.2.2.2.2.2.2.2.2.2.2.2.2.2.2.2.2.2.2.2.2.2.2.2.1, h.2.2.2.2.2.2.2.2.2.2.2.2.2.2.2.2.2.2.2.2.2.2.2.2, h1, p3, nI_a, inA_nI (show t < 30 by omega) (by omega), inA_nI (show 3 + t < 33 by omega) (by omega), nI_clamp (show t < 2 ^ 31 by omega), nI_clamp (show 3 + t < 2 ^ 31 by omega), nI_1]
    rw [cpI_t (Or.inl (by omega)) (by omega) (by omega), eX9_read_65]
    exact ih (t + 1) (by omega)
theorem m_read {w : Wd} {o : Nat} {c : Cst} {T : Tst} (hC : MC w o c) (hT : MT w o T) (hn3 : (rdR0 T).1 = -1 → ∃ n, (rdR0 T).2.1 = 3 * n ∧ n ≤ 10) : ∃ u, fX9_read [.ref o] w = some (some (.int (opRead c T).1), u) ∧ MC u o (opRead c T).2 ∧ MT u o (offT T) ∧ FrX (fun a j => Xc o a j ∨ Xt o a j) w u := by
  have hm := hC.1
  obtain ⟨r, u1, hp, rfl, p1, p2, p3, p4⟩ := m_isText hT
  obtain ⟨s1, s2, s3⟩ : simR (rdR0 T) (parF T 30 0 (rdI w (o + 12)) 0) := parF_congr 30 0 _ _ 0 (fun j hj => absurd hj (by omega))
  rw [← s1] at p3 p4
  simp only [← s1] at hp
  rw [← s2] at p4
  obtain ⟨v, hv⟩ : ∃ v, v = wrI u1 o 6 0 := ⟨_, rfl⟩
  have fv : FrX (Xt o) w v := by rw [hv]; exact p2.wrI (Or.inl ⟨rfl, by omega⟩)
  have vm : isMd v o := fv.md hm
  have u1m := p1.1
  have hCv : MC v o c := hC.frX fv (fun a j z => by unfold Xt at z; omega)
  have vT : ∀ y : Wd, isMd y o → rdI y o 6 = rdI v o 6 → MT y o (offT T) := fun y hy h6 => ⟨hy, by rw [h6, hv, rdI_wrI, if_pos ⟨rfl, rfl⟩]; rfl, Nat.zero_le _, fun i hi => absurd hi (Nat.not_lt_zero _)⟩
  by_cases q : (rdR0 T).1 = -1
  · obtain ⟨n, e1, e2⟩ := hn3 q
    obtain ⟨q1, q2⟩ := p4 q
    rw [e1] at q1
    have n5 : (rdR0 T).2.1 / 3 = n := by rw [e1]; omega
    have hop : opRead c T = (nI n, doC c (n, (rdR0 T).2.2, c.1.2.2.1, c.1.2.2.2)) := by unfold opRead; rw [if_pos q, n5]
    rw [hop]
    have hd := s_deed vm hCv.2.2.1.1 hCv.2.2.1.2.1
    have df := deedW_fr (w := v) (o := o) (m := c.2.1)
    obtain ⟨y, hy⟩ : ∃ y, y = deedW v o c.2.1 := ⟨_, rfl⟩
    rw [← hy] at hd df
    have ym := df.md vm
    have y25 : rdI y o 25 = nI (3 * n) := by rw [df.1 _ _ (by omega), hv, rdI_wrI, if_neg (by omega)]; exact q1
    have yt : ∀ j, rdI y (o + 12) j = rdI u1 (o + 12) j := fun j => by rw [df.1 _ _ (by omega), hv, rdI_wrI, if_neg (by omega)]
    have y1 : ∀ j, rdI y (o + 1) j = rdI v (o + 1) j := fun j => df.1 _ _ (by omega)
    obtain ⟨g, hg⟩ : ∃ g, g = wrI y (o + 1) 0 (nI n) := ⟨_, rfl⟩
    have gm : isMd g o := by rw [hg]; exact ym
    have g25 : rdI g o 25 = nI (3 * n) := by rw [hg, rdI_wrI, if_neg (by omega)]; exact y25
    have g0 : rdI g (o + 1) 0 = nI n := by rw [hg, rdI_wrI, if_pos ⟨rfl, rfl⟩]
    have fu : FrX (fun a _ => a = o + 1) y (cpI g (o + 12) 0 (o + 1) 3 (3 * n)) := by rw [hg]; exact FrX.cpI (X := fun a _ => a = o + 1) (FrX.wrI (X := fun a _ => a = o + 1) FrX.rf rfl) (fun _ _ _ => rfl)
    have i0 : inA 0 33 = true := by decide
    have c0 : (0 : Int32).toNatClampNeg = 0 := by decide
    have b0 : ¬ b2i ((rdR0 T).1 = -1) = 0 := by rw [b2i_0]; exact fun z => z q
    have n30 : ¬ (3 : Int32) = 0 := by decide
    have hb := hCv.2.1
    rw [hy] at fu
    obtain ⟨d1, d2⟩ := hCv.deed (S' := (n, (rdR0 T).2.2, c.1.2.2.1, c.1.2.2.2)) fu (by
      refine ⟨?_, e2, ?_, ?_, fun i hi => ?_⟩
      · rw [rdI_cpI, if_neg (by omega)]; exact g0
      · rw [rdI_cpI, if_neg (by omega), hg, rdI_wrI, if_neg (by omega), y1]; exact hb.2.2.1
      · rw [rdI_cpI, if_neg (by omega), hg, rdI_wrI, if_neg (by omega), y1]; exact hb.2.2.2.1
      · simp only at hi ⊢
        rw [rdI_cpI, if_pos ⟨rfl, by omega, by omega⟩, show 0 + (3 + i - 3) = i by omega, hg, rdI_wrI, if_neg (by omega), yt, q2, s3 i (by omega)])
    refine ⟨cpI g (o + 12) 0 (o + 1) 3 (3 * n), ?_, d1, vT _ d1.1 ?_, (fv.wide (fun _ _ z => Or.inr z)).tr (d2.wide (fun _ _ z => Or.inl z))⟩
    · refine sem_eq (Nat.le_of_ble_eq_true rfl) ?_
      show wp mX9_read 0 [some (.ref o), none, none] [] _ _
      simp only [eX9_read_0, eX9_read_1, eX9_read_4, eX9_read_5, eX9_read_6, eX9_read_7, cont_some, tl_some, tl_none, csum_nil, csum_i, csum_r, csum_j, isc2_i, isc2_r, isc2_n, va_rf_s, vfn_ite, true_and, and_true, true_or, or_true, eq_self, Bool.false_eq_true, not_false_eq_true, not_true_eq_false, if_true, if_false, Nat.reduceAdd, Nat.reduceLeDiff, reduceIte, hm.1, hm.2.1, hm.2.2.1, hm.2.2.2.1, hm.2.2.2.2.1, hm.2.2.2.2.2.1, hm.2.2.2.2.2.2.1, hm.2.2.2.2.2.2.2.1, hm.2.2.2.2.2.2.2.2.1, hm.2.2.2.2.2.2.2.2.2.1, hm.2.2.2.2.2.2.2.2.2.2.1, hm.2.2.2.2.2.2.2.2.2.2.2.1, hm.2.2.2.2.2.2.2.2.2.2.2.2.1, hm.2.2.2.2.2.2.2.2.2.2.2.2.2.1, hm.2.2.2.2.2.2.2.2.2.2.2.2.2.2.1, hm.2.2.2.2.2.2.2.2.2.2.2.2.2.2.2.1, hm.2.2.2.2.2.2.2.2.2.2.2.2.2.2.2.2.1, hm.2.2.2.2.2.2.2.2.2.2.2.2.2.2.2.2.2.1, hm.2.2.2.2.2.2.2.2.2.2.2.2.2.2.2.2.2.2.1, hm.2.2.2.2.2.2.2.2.2.2.2.2.2.2.2.2.2.2.2.1, hm.2.2.2.2.2.2.2.2.2.2.2.2.2.2.2.2.2.2.2.2.1, hm.2.2.2.2.2.2.2.2.2.2.2.2.2.2.2.2.2.2.2.2.2.1, hm.2.2.2.2.2.2.2.2.2.2.2.2.2.2.2.2.2.2.2.2.2.2.1, hm.2.2.2.2.2.2.2.2.2.2.2.2.2.2.2.2.2.2.2.2.2.2.2.1, hm.2.2.2.2.2.2.2.2.2.2.2.2.2.2.2.2.2.2.2.2.2.2.2.2, hp, u1m.1, u1m.2.1, u1m.2.2.1, u1m.2.2.2.1, u1m.2.2.2.2.1, u1m.2.2.2.2.2.1, u1m.2.2.2.2.2.2.1, u1m.2.2.2.2.2.2.2.1, u1m.2.2.2.2.2.2.2.2.1, u1m.2.2.2.2.2.2.2.2.2.1, u1m.2.2.2.2.2.2.2.2.2.2.1, u1m.2.2.2.2.2.2.2.2.2.2.2.1, u1m.2.2.2.2.2.2.2.2.2.2.2.2.1, u1m.2.2.2.2.2.2.2.2.2.2.2.2.2.1, u1m.2.2.2.2.2.2.2.2.2.2.2.2.2.2.1, u1m.2.2.2.2.2.2.2.2.2.2.2.2.2.2.2.1, u1m.2.2.2.2.2.2.2.2.2.2.2.2.2.2.2.2.1, u1m.2.2.2.2.2.2.2.2.2.2.2.2.2.2.2.2.2.1, u1m.2.2.2.2.2.2.2.2.2.2.2.2.2.2.2.2.2.2.1, u1m.2.2.2.2.2.2.2.2.2.2.2.2.2.2.2.2.2.2.2.1, u1m.2.2.2.2.2.2.2.2.2.2.2.2.2.2.2.2.2.2.2.2.1, u1m.2.2.2.2.2.2.2.2.2.2.2.2.2.2.2.2.2.2.2.2.2.1, u1m.2.2.2.2.2.2.2.2.2.2.2.2.2.2.2.2.2.2.2.2.2.2.1, u1m.2.2.2.2.2.2.2.2.2.2.2.2.2.2.2.2.2.2.2.2.2.2.2.1, u1m.2.2.2.2.2.2.2.2.2.2.2.2.2.2.2.2.2.2.2.2.2.2.2.2]
      rw [← hv]
      simp only [eX9_read_10, eX9_read_11, eX9_read_14, eX9_read_16, eX9_read_17, eX9_read_20, eX9_read_21, eX9_read_22, eX9_read_23, eX9_read_26, eX9_read_27, eX9_read_30, eX9_read_31, eX9_read_32, eX9_read_35, eX9_read_36, eX9_read_37, eX9_read_38, eX9_read_39, cont_some, tl_some, tl_none, csum_nil, csum_i, csum_r, csum_j, isc2_i, isc2_r, isc2_n, va_rf_s, vfn_ite, true_and, and_true, true_or, or_true, eq_self, Bool.false_eq_true, not_false_eq_true, not_true_eq_false, if_true, if_false, Nat.reduceAdd, Nat.reduceLeDiff, reduceIte, b0, vm.1, vm.2.1, vm.2.2.1, vm.2.2.2.1, vm.2.2.2.2.1, vm.2.2.2.2.2.1, vm.2.2.2.2.2.2.1, vm.2.2.2.2.2.2.2.1, vm.2.2.2.2.2.2.2.2.1, vm.2.2.2.2.2.2.2.2.2.1, vm.2.2.2.2.2.2.2.2.2.2.1, vm.2.2.2.2.2.2.2.2.2.2.2.1, vm.2.2.2.2.2.2.2.2.2.2.2.2.1, vm.2.2.2.2.2.2.2.2.2.2.2.2.2.1, vm.2.2.2.2.2.2.2.2.2.2.2.2.2.2.1, vm.2.2.2.2.2.2.2.2.2.2.2.2.2.2.2.1, vm.2.2.2.2.2.2.2.2.2.2.2.2.2.2.2.2.1, vm.2.2.2.2.2.2.2.2.2.2.2.2.2.2.2.2.2.1, vm.2.2.2.2.2.2.2.2.2.2.2.2.2.2.2.2.2.2.1, vm.2.2.2.2.2.2.2.2.2.2.2.2.2.2.2.2.2.2.2.1, vm.2.2.2.2.2.2.2.2.2.2.2.2.2.2.2.2.2.2.2.2.1, vm.2.2.2.2.2.2.2.2.2.2.2.2.2.2.2.2.2.2.2.2.2.1, vm.2.2.2.2.2.2.2.2.2.2.2.2.2.2.2.2.2.2.2.2.2.2.1, vm.2.2.2.2.2.2.2.2.2.2.2.2.2.2.2.2.2.2.2.2.2.2.2.1, vm.2.2.2.2.2.2.2.2.2.2.2.2.2.2.2.2.2.2.2.2.2.2.2.2, hd, ym.1, ym.2.1, ym.2.2.1, ym.2.2.2.1, ym.2.2.2.2.1, ym.2.2.2.2.2.1, ym.2.2.2.2.2.2.1, ym.2.2.2.2.2.2.2.1, ym.2.2.2.2.2.2.2.2.1, ym.2.2.2.2.2.2.2.2.2.1, ym.2.2.2.2.2.2.2.2.2.2.1, ym.2.2.2.2.2.2.2.2.2.2.2.1, ym.2.2.2.2.2.2.2.2.2.2.2.2.1, ym.2.2.2.2.2.2.2.2.2.2.2.2.2.1, ym.2.2.2.2.2.2.2.2.2.2.2.2.2.2.1, ym.2.2.2.2.2.2.2.2.2.2.2.2.2.2.2.1, ym.2.2.2.2.2.2.2.2.2.2.2.2.2.2.2.2.1, ym.2.2.2.2.2.2.2.2.2.2.2.2.2.2.2.2.2.1, ym.2.2.2.2.2.2.2.2.2.2.2.2.2.2.2.2.2.2.1, ym.2.2.2.2.2.2.2.2.2.2.2.2.2.2.2.2.2.2.2.1, ym.2.2.2.2.2.2.2.2.2.2.2.2.2.2.2.2.2.2.2.2.1, ym.2.2.2.2.2.2.2.2.2.2.2.2.2.2.2.2.2.2.2.2.2.1, ym.2.2.2.2.2.2.2.2.2.2.2.2.2.2.2.2.2.2.2.2.2.2.1, ym.2.2.2.2.2.2.2.2.2.2.2.2.2.2.2.2.2.2.2.2.2.2.2.1, ym.2.2.2.2.2.2.2.2.2.2.2.2.2.2.2.2.2.2.2.2.2.2.2.2, y25, n30, div3 n (by omega), i0, c0]
      rw [← hg]
      have := lo_mread (Q := fun r w_1 => r = some (.int (nI n)) ∧ w_1 = cpI g (o + 12) 0 (o + 1) 3 (3 * n)) (a1 := some (.int (b2i ((rdR0 T).1 = -1)))) rfl gm g25 (by omega) g0 ⟨rfl, rfl⟩ (3 * n) 0 (by omega)
      rw [cpI_0] at this
      exact this
    · rw [rdI_cpI, if_neg (by omega), hg, rdI_wrI, if_neg (by omega), df.1 _ _ (by omega)]
  · have hop : opRead c T = (-20 - (rdR0 T).1, c) := by unfold opRead; rw [if_neg q]
    have v27 : rdI v o 27 = (rdR0 T).1 := by rw [hv, rdI_wrI, if_neg (by omega)]; exact p3 q
    have b0 : b2i ((rdR0 T).1 = -1) = 0 := b2i_f q
    rw [b0] at hp
    rw [hop]
    refine ⟨v, ?_, hCv, vT v vm rfl, fv.wide (fun _ _ z => Or.inr z)⟩
    refine sem_eq (Nat.le_of_ble_eq_true rfl) ?_
    show wp mX9_read 0 [some (.ref o), none, none] [] _ _
    simp only [eX9_read_0, eX9_read_1, eX9_read_4, eX9_read_5, eX9_read_6, eX9_read_7, cont_some, tl_some, tl_none, csum_nil, csum_i, csum_r, csum_j, isc2_i, isc2_r, isc2_n, va_rf_s, vfn_ite, true_and, and_true, true_or, or_true, eq_self, Bool.false_eq_true, not_false_eq_true, not_true_eq_false, if_true, if_false, Nat.reduceAdd, Nat.reduceLeDiff, reduceIte, hm.1, hm.2.1, hm.2.2.1, hm.2.2.2.1, hm.2.2.2.2.1, hm.2.2.2.2.2.1, hm.2.2.2.2.2.2.1, hm.2.2.2.2.2.2.2.1, hm.2.2.2.2.2.2.2.2.1, hm.2.2.2.2.2.2.2.2.2.1, hm.2.2.2.2.2.2.2.2.2.2.1, hm.2.2.2.2.2.2.2.2.2.2.2.1, hm.2.2.2.2.2.2.2.2.2.2.2.2.1, hm.2.2.2.2.2.2.2.2.2.2.2.2.2.1, hm.2.2.2.2.2.2.2.2.2.2.2.2.2.2.1, hm.2.2.2.2.2.2.2.2.2.2.2.2.2.2.2.1, hm.2.2.2.2.2.2.2.2.2.2.2.2.2.2.2.2.1, hm.2.2.2.2.2.2.2.2.2.2.2.2.2.2.2.2.2.1, hm.2.2.2.2.2.2.2.2.2.2.2.2.2.2.2.2.2.2.1, hm.2.2.2.2.2.2.2.2.2.2.2.2.2.2.2.2.2.2.2.1, hm.2.2.2.2.2.2.2.2.2.2.2.2.2.2.2.2.2.2.2.2.1, hm.2.2.2.2.2.2.2.2.2.2.2.2.2.2.2.2.2.2.2.2.2.1, hm.2.2.2.2.2.2.2.2.2.2.2.2.2.2.2.2.2.2.2.2.2.2.1, hm.2.2.2.2.2.2.2.2.2.2.2.2.2.2.2.2.2.2.2.2.2.2.2.1, hm.2.2.2.2.2.2.2.2.2.2.2.2.2.2.2.2.2.2.2.2.2.2.2.2, hp, u1m.1, u1m.2.1, u1m.2.2.1, u1m.2.2.2.1, u1m.2.2.2.2.1, u1m.2.2.2.2.2.1, u1m.2.2.2.2.2.2.1, u1m.2.2.2.2.2.2.2.1, u1m.2.2.2.2.2.2.2.2.1, u1m.2.2.2.2.2.2.2.2.2.1, u1m.2.2.2.2.2.2.2.2.2.2.1, u1m.2.2.2.2.2.2.2.2.2.2.2.1, u1m.2.2.2.2.2.2.2.2.2.2.2.2.1, u1m.2.2.2.2.2.2.2.2.2.2.2.2.2.1, u1m.2.2.2.2.2.2.2.2.2.2.2.2.2.2.1, u1m.2.2.2.2.2.2.2.2.2.2.2.2.2.2.2.1, u1m.2.2.2.2.2.2.2.2.2.2.2.2.2.2.2.2.1, u1m.2.2.2.2.2.2.2.2.2.2.2.2.2.2.2.2.2.1, u1m.2.2.2.2.2.2.2.2.2.2.2.2.2.2.2.2.2.2.1, u1m.2.2.2.2.2.2.2.2.2.2.2.2.2.2.2.2.2.2.2.1, u1m.2.2.2.2.2.2.2.2.2.2.2.2.2.2.2.2.2.2.2.2.1, u1m.2.2.2.2.2.2.2.2.2.2.2.2.2.2.2.2.2.2.2.2.2.1, u1m.2.2.2.2.2.2.2.2.2.2.2.2.2.2.2.2.2.2.2.2.2.2.1, u1m.2.2.2.2.2.2.2.2.2.2.2.2.2.2.2.2.2.2.2.2.2.2.2.1, u1m.2.2.2.2.2.2.2.2.2.2.2.2.2.2.2.2.2.2.2.2.2.2.2.2]
    rw [← hv]
    simp only [eX9_read_10, eX9_read_11, eX9_read_14, eX9_read_16, eX9_read_17, eX9_read_20, eX9_read_21, cont_some, tl_some, tl_none, csum_nil, csum_i, csum_r, csum_j, isc2_i, isc2_r, isc2_n, va_rf_s, vfn_ite, true_and, and_true, true_or, or_true, eq_self, Bool.false_eq_true, not_false_eq_true, not_true_eq_false, if_true, if_false, Nat.reduceAdd, Nat.reduceLeDiff, reduceIte, vm.1, vm.2.1, vm.2.2.1, vm.2.2.2.1, vm.2.2.2.2.1, vm.2.2.2.2.2.1, vm.2.2.2.2.2.2.1, vm.2.2.2.2.2.2.2.1, vm.2.2.2.2.2.2.2.2.1, vm.2.2.2.2.2.2.2.2.2.1, vm.2.2.2.2.2.2.2.2.2.2.1, vm.2.2.2.2.2.2.2.2.2.2.2.1, vm.2.2.2.2.2.2.2.2.2.2.2.2.1, vm.2.2.2.2.2.2.2.2.2.2.2.2.2.1, vm.2.2.2.2.2.2.2.2.2.2.2.2.2.2.1, vm.2.2.2.2.2.2.2.2.2.2.2.2.2.2.2.1, vm.2.2.2.2.2.2.2.2.2.2.2.2.2.2.2.2.1, vm.2.2.2.2.2.2.2.2.2.2.2.2.2.2.2.2.2.1, vm.2.2.2.2.2.2.2.2.2.2.2.2.2.2.2.2.2.2.1, vm.2.2.2.2.2.2.2.2.2.2.2.2.2.2.2.2.2.2.2.1, vm.2.2.2.2.2.2.2.2.2.2.2.2.2.2.2.2.2.2.2.2.1, vm.2.2.2.2.2.2.2.2.2.2.2.2.2.2.2.2.2.2.2.2.2.1, vm.2.2.2.2.2.2.2.2.2.2.2.2.2.2.2.2.2.2.2.2.2.2.1, vm.2.2.2.2.2.2.2.2.2.2.2.2.2.2.2.2.2.2.2.2.2.2.2.1, vm.2.2.2.2.2.2.2.2.2.2.2.2.2.2.2.2.2.2.2.2.2.2.2.2, v27]
