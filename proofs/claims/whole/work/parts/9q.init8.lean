
theorem scIsS {w u : Wd} {a : Nat} {S : Sst} (h : scIs w a S) (s : ∀ c, a ≤ c → c < a + 2 → Sc w u c) : scIs u a S := by
  have s0 := s a (by omega) (by omega)
  have s1 := s (a + 1) (by omega) (by omega)
  unfold scIs isSc
  simp only [s0.1, s1.1, s0.2.2.1, s0.2.2.2, s1.2.2.2]
  exact h
theorem pa0S {w u : Wd} {a : Nat} (h : pa0 w a 6) (s : ∀ c, a ≤ c → c < a + 14 → Sc w u c) : pa0 u a 6 := by
  have s0 := s a (by omega) (by omega)
  have s1 := s (a + 1) (by omega) (by omega)
  obtain ⟨h1, h2, h3, h4, h5⟩ := h
  refine ⟨s0.2.2.2.trans h1, (s0.2.2.1 _).trans h2, s1.2.2.2.trans h3, (s0.1 _).trans h4, fun k hk => ⟨(s1.2.2.1 _).trans (h5 k hk).1, isScS (h5 k hk).2 (s _ (by omega) (by omega)) (s _ (by omega) (by omega))⟩⟩
theorem isVS {w u : Wd} {a : Nat} (h : isV w a) (s : ∀ c, a ≤ c → c < a + 4 → Sc w u c) : isV u a := by
  unfold isV
  simp only [(s a (by omega) (by omega)).2.2.1, (s a (by omega) (by omega)).2.2.2, (s (a + 1) (by omega) (by omega)).2.2.2, (s (a + 2) (by omega) (by omega)).2.2.2, (s (a + 3) (by omega) (by omega)).2.2.2]
  exact h
theorem isOS {w u : Wd} {a : Nat} (h : isO w a) (s : ∀ c, a ≤ c → c < a + 3 → Sc w u c) : isO u a := by
  unfold isO
  simp only [(s a (by omega) (by omega)).2.2.1, (s a (by omega) (by omega)).2.2.2, (s (a + 1) (by omega) (by omega)).2.2.2, (s (a + 2) (by omega) (by omega)).2.2.2]
  exact h
theorem CTS {w u : Wd} {a : Nat} {T : Tst} (h : CT w a T) (s : ∀ c, a ≤ c → c < a + 3 → Sc w u c) : CT u a T := by
  unfold CT isTp
  simp only [(s a (by omega) (by omega)).1, (s (a + 1) (by omega) (by omega)).1, (s a (by omega) (by omega)).2.2.1, (s a (by omega) (by omega)).2.2.2, (s (a + 1) (by omega) (by omega)).2.2.2, (s (a + 2) (by omega) (by omega)).2.2.2]
  exact h
theorem CSS {w u : Wd} {a : Nat} (h : CS w a sht0) (s : ∀ c, a ≤ c → c < a + 8 → Sc w u c) : CS u a sht0 := by
  obtain ⟨⟨h1, h2, h3, h4, h5, h6, h7, h8⟩, h9⟩ := h
  have s0 := s a (by omega) (by omega)
  have s1 := s (a + 1) (by omega) (by omega)
  have s6 := s (a + 6) (by omega) (by omega)
  have s7 := s (a + 7) (by omega) (by omega)
  refine ⟨⟨s0.2.2.2.trans h1, (s0.2.2.1 _).trans h2, (s0.2.2.1 _).trans h3, (s0.2.2.1 _).trans h4, s1.2.2.2.trans h5, s6.2.2.2.trans h6, s7.2.2.2.trans h7, fun k hk => ⟨(s1.2.2.1 _).trans (h8 k hk).1, (s (a + 2 + k) (by omega) (by omega)).2.2.2.trans (h8 k hk).2⟩⟩, fun k hk => ?_⟩
  obtain ⟨q1, q2⟩ := h9 k hk
  exact ⟨(s6.1 k).trans q1, fun i hi => ((s (a + 2 + k) (by omega) (by omega)).2.1 i).trans (q2 i hi)⟩
theorem z0S {w u : Wd} {a j : Nat} (h : z0 w a j 10) (s : ∀ c, a ≤ c → c < a + 18 → Sc w u c) : z0 u a j 10 :=
  ⟨zb0S h.1 (fun c h1 h2 => ⟨(s c h1 (by omega)).1, fun j _ => (s c h1 (by omega)).2.2.1 j, (s c h1 (by omega)).2.2.2⟩), frIsS h.2.1 (s _ (by omega) (by omega)), fun k hk => ⟨((s (a + 6) (by omega) (by omega)).2.2.1 k).trans (h.2.2 k hk).1, frIsS (h.2.2 k hk).2 (s _ (by omega) (by omega))⟩⟩
theorem n_X0 {w : Wd} {a : Nat} (hn : nxt w = a) : ∃ u, fX0_init [.ref a] (mk1 w 0 0 2) = some (none, u) ∧ shp (mk1 w 0 0 2) a = (0, 0) ∧ Ea a 1 2 w u ∧ frIs u a 0 1 := by
  have hs : shp (mk1 w 0 0 2) a = (0, 0) := if_pos hn.symm
  obtain ⟨u, e, E, F⟩ := s_X0_init (a := a) (w := mk1 w 0 0 2) hs
  refine ⟨u, e, hs, ?_, F⟩
  have := (Ea.refl (a := a) (w := w) |>.m1 (K := 0) (l := 0) (s := 2) (by omega)).tr E (Nat.le_refl _)
  exact this
theorem n_X1 {w : Wd} {a : Nat} (hn : nxt w = a) : ∃ u, fX1_init [.ref a] (mk1 w 1 0 2) = some (none, u) ∧ shp (mk1 w 1 0 2) a = (1, 0) ∧ Ea a 3 1037 w u ∧ isO u a := by
  have hs : shp (mk1 w 1 0 2) a = (1, 0) := if_pos hn.symm
  obtain ⟨u, e, E, F⟩ := s_X1_init (a := a) (w := mk1 w 1 0 2) hs (by rw [nxt_mk1, hn])
  refine ⟨u, e, hs, ?_, F⟩
  have := (Ea.refl (a := a) (w := w) |>.m1 (K := 1) (l := 0) (s := 2) (by omega)).tr E (Nat.le_refl _)
  exact this
theorem n_X2 {w : Wd} {a : Nat} (hn : nxt w = a) : ∃ u, fX2_init [.ref a] (mk1 w 2 0 2) = some (none, u) ∧ shp (mk1 w 2 0 2) a = (2, 0) ∧ Ea a 14 212 w u ∧ pa0 u a 6 := by
  have hs : shp (mk1 w 2 0 2) a = (2, 0) := if_pos hn.symm
  obtain ⟨u, e, E, F⟩ := s_X2_init (a := a) (w := mk1 w 2 0 2) hs (by rw [nxt_mk1, hn])
  refine ⟨u, e, hs, ?_, F⟩
  have := (Ea.refl (a := a) (w := w) |>.m1 (K := 2) (l := 0) (s := 2) (by omega)).tr E (Nat.le_refl _)
  exact this
theorem n_X3 {w : Wd} {a : Nat} (hn : nxt w = a) : ∃ u, fX3_init [.ref a] (mk1 w 3 0 3) = some (none, u) ∧ shp (mk1 w 3 0 3) a = (3, 0) ∧ Ea a 8 111 w u ∧ CS u a sht0 := by
  have hs : shp (mk1 w 3 0 3) a = (3, 0) := if_pos hn.symm
  obtain ⟨u, e, E, F⟩ := s_X3_init (a := a) (w := mk1 w 3 0 3) hs (by rw [nxt_mk1, hn])
  refine ⟨u, e, hs, ?_, F⟩
  have := (Ea.refl (a := a) (w := w) |>.m1 (K := 3) (l := 0) (s := 3) (by omega)).tr E (Nat.le_refl _)
  exact this
theorem n_X4 {w : Wd} {a : Nat} (hn : nxt w = a) : ∃ u, fX4_init [.ref a] (mk1 w 4 0 4) = some (none, u) ∧ shp (mk1 w 4 0 4) a = (4, 0) ∧ Ea a 2 34 w u ∧ scIs u a cst0 := by
  have hs : shp (mk1 w 4 0 4) a = (4, 0) := if_pos hn.symm
  obtain ⟨u, e, E, F⟩ := s_X4_init (a := a) (w := mk1 w 4 0 4) hs (by rw [nxt_mk1, hn])
  refine ⟨u, e, hs, ?_, F⟩
  have := (Ea.refl (a := a) (w := w) |>.m1 (K := 4) (l := 0) (s := 4) (by omega)).tr E (Nat.le_refl _)
  exact this
theorem n_X5 {w : Wd} {a : Nat} (hn : nxt w = a) : ∃ u, fX5_init [.ref a] (mk1 w 5 0 5) = some (none, u) ∧ shp (mk1 w 5 0 5) a = (5, 0) ∧ Ea a 3 125 w u ∧ CT u a (0, fun _ => 0) := by
  have hs : shp (mk1 w 5 0 5) a = (5, 0) := if_pos hn.symm
  obtain ⟨u, e, E, F⟩ := s_X5_init (a := a) (w := mk1 w 5 0 5) hs (by rw [nxt_mk1, hn])
  refine ⟨u, e, hs, ?_, F⟩
  have := (Ea.refl (a := a) (w := w) |>.m1 (K := 5) (l := 0) (s := 5) (by omega)).tr E (Nat.le_refl _)
  exact this
theorem n_X6 {w : Wd} {a : Nat} (hn : nxt w = a) : ∃ u, fX6_init [.ref a] (mk1 w 6 0 5) = some (none, u) ∧ shp (mk1 w 6 0 5) a = (6, 0) ∧ Ea a 4 35 w u ∧ isV u a := by
  have hs : shp (mk1 w 6 0 5) a = (6, 0) := if_pos hn.symm
  obtain ⟨u, e, E, F⟩ := s_X6_init (a := a) (w := mk1 w 6 0 5) hs (by rw [nxt_mk1, hn])
  refine ⟨u, e, hs, ?_, F⟩
  have := (Ea.refl (a := a) (w := w) |>.m1 (K := 6) (l := 0) (s := 5) (by omega)).tr E (Nat.le_refl _)
  exact this
theorem n_X7 {w : Wd} {a j : Nat} (hn : nxt w = a) : ∃ u, fX7_init [.ref a, .int (nI j)] (mk1 w 7 0 17) = some (none, u) ∧ shp (mk1 w 7 0 17) a = (7, 0) ∧ Ea a 18 230 w u ∧ z0 u a j 10 := by
  have hs : shp (mk1 w 7 0 17) a = (7, 0) := if_pos hn.symm
  obtain ⟨u, e, E, F⟩ := s_X7_init (a := a) (j := j) (w := mk1 w 7 0 17) hs (by rw [nxt_mk1, hn])
  refine ⟨u, e, hs, ?_, F⟩
  have := (Ea.refl (a := a) (w := w) |>.m1 (K := 7) (l := 0) (s := 17) (by omega)).tr E (Nat.le_refl _)
  exact this
def zs0 (w : Wd) (b n : Nat) : Prop := ∀ j, j < n → rdR w (b + 37) j = some (b + 53 + 18 * j) ∧ z0 w (b + 53 + 18 * j) j 10
theorem l_X8_init {b : Nat} {w0 : Wd} {Q : Option Value → Wd → Prop} (hQ : ∀ u, (∀ c, c < b + 53 → c ≠ b + 37 → Sc w0 u c) → nxt u = b + 125 → slt u = slt w0 + 920 → shp u (b + 37) = (16, 4) → zs0 u b 4 → Q none u) : ∀ (d k : Nat) (w : Wd), k + d = 4 → shp w b = (8, 0) → rdR w b 6 = some (b + 37) → (∀ c, c < b + 53 → c ≠ b + 37 → Sc w0 w c) → nxt w = b + 53 + 18 * k → slt w = slt w0 + 230 * k → shp w (b + 37) = (16, 4) → zs0 w b k → wp mX8_init 118 [some (.ref b), some (.int (nI k))] [] w Q := by
  intro d
  induction d with
  | zero =>
    intro k w hk h1 h2 hc hn hl hz hp
    have : k = 4 := by omega
    subst this
    have h6 : ((3 : Int32) < nI 4) = True := eq_true (by decide)
    simp only [eX8_init_118, eX8_init_119, eX8_init_120, eX8_init_143, cont_some, tl_some, tl_none, csum_nil, csum_i, csum_r, csum_j, isc2_i, isc2_r, isc2_n, va_rf_s, vfn_ite, true_and, and_true, true_or, or_true, eq_self, Bool.false_eq_true, not_false_eq_true, not_true_eq_false, if_true, if_false, Nat.reduceAdd, Nat.reduceLeDiff, reduceIte, h6]
    exact hQ w hc hn hl hz hp
  | succ d ih =>
    intro k w hk h1 h2 hc hn hl hz hp
    have h6 : ((3 : Int32) < nI k) = False := eq_false (by rw [show (3 : Int32) = nI 3 from rfl, nI_ltj (by omega) (by omega)]; omega)
    obtain ⟨u, e, hs, E, F⟩ := n_X7 (j := k) hn
    have hcl : (nI k).toNatClampNeg = k := nI_clamp (by omega)
    have hi : inA (nI k) 4 = true := inA_nI (by omega) (by omega)
    have g : shp u (b + 37) = (16, 4) := (E.1 _ (by omega)).2.2.2.trans hz
    have gn : shp u (b + 53 + 18 * k) = (7, 0) := F.1.1
    have e15 : elC 16 = 7 := rfl
    simp only [eX8_init_118, eX8_init_119, eX8_init_120, eX8_init_123, eX8_init_124, eX8_init_127, eX8_init_128, eX8_init_131, eX8_init_131i, eX8_init_132, eX8_init_133, eX8_init_136, eX8_init_137, cont_some, tl_some, tl_none, csum_nil, csum_i, csum_r, csum_j, isc2_i, isc2_r, isc2_n, va_rf_s, vfn_ite, true_and, and_true, true_or, or_true, eq_self, Bool.false_eq_true, not_false_eq_true, not_true_eq_false, if_true, if_false, Nat.reduceAdd, Nat.reduceLeDiff, reduceIte, h6, h1, h2, hs, hn, e, g, gn, hcl, hi, e15]
    rw [show nI k + 1 = nI (k + 1) from nI_a k 1, eX8_init_140]
    have S : ∀ c, c < b + 53 + 18 * k → c ≠ b + 37 → Sc w (wrR u (b + 37) k (some (b + 53 + 18 * k))) c := fun c h1 h2 => (E.1 c h1).tr (.wR h2)
    refine ih (k + 1) _ (by omega) ?_ ?_ ?_ ?_ ?_ ?_ ?_
    · exact (S b (by omega) (by omega)).2.2.2.trans h1
    · exact ((S b (by omega) (by omega)).2.2.1 _).trans h2
    · exact fun c h1 h2 => (hc c h1 h2).tr (S c (by omega) h2)
    · rw [nxt_wrR, E.2.1, hn]; omega
    · rw [slt_wrR, E.2.2, hl]; omega
    · rw [shp_wrR]; exact g
    · intro i hi
      by_cases hik : i = k
      · subst hik
        rw [rdR_wrR, if_pos ⟨rfl, rfl⟩]
        exact ⟨rfl, z0S F (fun c h1 h2 => .wR (by omega))⟩
      · obtain ⟨a1, a2⟩ := hp i (by omega)
        rw [rdR_wrR, if_neg (by omega), (E.1 _ (by omega)).2.2.1]
        exact ⟨a1, z0S a2 (fun c h1 h2 => S c (by omega) (by omega))⟩
def clS0 (w : Wd) (b : Nat) : Prop := isCl w b ∧ rdI w b 4 = 0 ∧ scIs w (b + 1) cst0 ∧ pa0 w (b + 3) 6 ∧ scIs w (b + 17) cst0 ∧ pa0 w (b + 19) 6 ∧ isV w (b + 33) ∧ isO w (b + 38) ∧ CT w (b + 41) (0, fun _ => 0) ∧ CS w (b + 44) sht0 ∧ frIs w (b + 52) 0 1 ∧ shp w (b + 37) = (16, 4) ∧ zs0 w b 4
def AX0 (w0 : Wd) (b : Nat) (w : Wd) : Prop := shp w b = (8, 0) ∧ nxt w = b + 1 ∧ slt w = slt w0 + 0 ∧ (∀ c, c < b → Sc w0 w c)
def AX1 (w0 : Wd) (b : Nat) (w : Wd) : Prop := shp w b = (8, 0) ∧ nxt w = b + 3 ∧ slt w = slt w0 + 34 ∧ (∀ c, c < b → Sc w0 w c) ∧ rdR w b 0 = some (b + 1) ∧ scIs w (b + 1) cst0
theorem x8_0 {w0 w : Wd} {b : Nat} {Q : Option Value → Wd → Prop} (h : AX0 w0 b w) (hQ : ∀ w', AX1 w0 b w' → wp mX8_init 15 [some (.ref b), none] [] w' Q) : wp mX8_init 4 [some (.ref b), none] [] w Q := by
  obtain ⟨s0, n0, l0, c0⟩ := h
  obtain ⟨u, e, q, E, F⟩ := n_X4 n0
  have v : shp u b = (8, 0) := (E.1 b (by omega)).2.2.2.trans s0
  simp only [eX8_init_4, eX8_init_5, eX8_init_8, eX8_init_8i, eX8_init_9, eX8_init_12, cont_some, tl_some, tl_none, csum_nil, csum_i, csum_r, csum_j, isc2_i, isc2_r, isc2_n, va_rf_s, vfn_ite, true_and, and_true, true_or, or_true, eq_self, Bool.false_eq_true, not_false_eq_true, not_true_eq_false, if_true, if_false, Nat.reduceAdd, Nat.reduceLeDiff, reduceIte, n0, e, q, v]
  have T : ∀ c, c < b + 1 → c ≠ b → Sc w (wrR u b 0 (some (b + 1))) c := fun c h1 h2 => (E.1 c h1).tr (.wR h2)
  have R : ∀ g, g ≠ 0 → rdR (wrR u b 0 (some (b + 1))) b g = rdR w b g := fun g hg => by rw [rdR_wrR, if_neg (fun q => hg q.2)]; exact (E.1 b (by omega)).2.2.1 g
  exact hQ _ ⟨v, by rw [nxt_wrR, E.2.1, n0], by rw [slt_wrR, E.2.2, l0], fun c hc => (c0 c hc).tr (T c (by omega) (by omega)), rdR_wrR.trans (if_pos ⟨rfl, rfl⟩), scIsS F (fun c h1 h2 => .wR (by omega))⟩
def AX2 (w0 : Wd) (b : Nat) (w : Wd) : Prop := shp w b = (8, 0) ∧ nxt w = b + 17 ∧ slt w = slt w0 + 246 ∧ (∀ c, c < b → Sc w0 w c) ∧ rdR w b 0 = some (b + 1) ∧ rdR w b 1 = some (b + 3) ∧ scIs w (b + 1) cst0 ∧ pa0 w (b + 3) 6
theorem x8_1 {w0 w : Wd} {b : Nat} {Q : Option Value → Wd → Prop} (h : AX1 w0 b w) (hQ : ∀ w', AX2 w0 b w' → wp mX8_init 26 [some (.ref b), none] [] w' Q) : wp mX8_init 15 [some (.ref b), none] [] w Q := by
  obtain ⟨s0, n0, l0, c0, r0, F0⟩ := h
  obtain ⟨u, e, q, E, F⟩ := n_X2 n0
  have v : shp u b = (8, 0) := (E.1 b (by omega)).2.2.2.trans s0
  simp only [eX8_init_15, eX8_init_16, eX8_init_19, eX8_init_19i, eX8_init_20, eX8_init_23, cont_some, tl_some, tl_none, csum_nil, csum_i, csum_r, csum_j, isc2_i, isc2_r, isc2_n, va_rf_s, vfn_ite, true_and, and_true, true_or, or_true, eq_self, Bool.false_eq_true, not_false_eq_true, not_true_eq_false, if_true, if_false, Nat.reduceAdd, Nat.reduceLeDiff, reduceIte, n0, e, q, v]
  have T : ∀ c, c < b + 3 → c ≠ b → Sc w (wrR u b 1 (some (b + 3))) c := fun c h1 h2 => (E.1 c h1).tr (.wR h2)
  have R : ∀ g, g ≠ 1 → rdR (wrR u b 1 (some (b + 3))) b g = rdR w b g := fun g hg => by rw [rdR_wrR, if_neg (fun q => hg q.2)]; exact (E.1 b (by omega)).2.2.1 g
  exact hQ _ ⟨v, by rw [nxt_wrR, E.2.1, n0], by rw [slt_wrR, E.2.2, l0], fun c hc => (c0 c hc).tr (T c (by omega) (by omega)), (R 0 (by decide)).trans r0, rdR_wrR.trans (if_pos ⟨rfl, rfl⟩), scIsS F0 (fun c h1 h2 => T c (by omega) (by omega)), pa0S F (fun c h1 h2 => .wR (by omega))⟩
def AX3 (w0 : Wd) (b : Nat) (w : Wd) : Prop := shp w b = (8, 0) ∧ nxt w = b + 19 ∧ slt w = slt w0 + 280 ∧ (∀ c, c < b → Sc w0 w c) ∧ rdR w b 0 = some (b + 1) ∧ rdR w b 1 = some (b + 3) ∧ rdR w b 2 = some (b + 17) ∧ scIs w (b + 1) cst0 ∧ pa0 w (b + 3) 6 ∧ scIs w (b + 17) cst0
theorem x8_2 {w0 w : Wd} {b : Nat} {Q : Option Value → Wd → Prop} (h : AX2 w0 b w) (hQ : ∀ w', AX3 w0 b w' → wp mX8_init 37 [some (.ref b), none] [] w' Q) : wp mX8_init 26 [some (.ref b), none] [] w Q := by
  obtain ⟨s0, n0, l0, c0, r0, r1, F0, F1⟩ := h
  obtain ⟨u, e, q, E, F⟩ := n_X4 n0
  have v : shp u b = (8, 0) := (E.1 b (by omega)).2.2.2.trans s0
  simp only [eX8_init_26, eX8_init_27, eX8_init_30, eX8_init_30i, eX8_init_31, eX8_init_34, cont_some, tl_some, tl_none, csum_nil, csum_i, csum_r, csum_j, isc2_i, isc2_r, isc2_n, va_rf_s, vfn_ite, true_and, and_true, true_or, or_true, eq_self, Bool.false_eq_true, not_false_eq_true, not_true_eq_false, if_true, if_false, Nat.reduceAdd, Nat.reduceLeDiff, reduceIte, n0, e, q, v]
  have T : ∀ c, c < b + 17 → c ≠ b → Sc w (wrR u b 2 (some (b + 17))) c := fun c h1 h2 => (E.1 c h1).tr (.wR h2)
  have R : ∀ g, g ≠ 2 → rdR (wrR u b 2 (some (b + 17))) b g = rdR w b g := fun g hg => by rw [rdR_wrR, if_neg (fun q => hg q.2)]; exact (E.1 b (by omega)).2.2.1 g
  exact hQ _ ⟨v, by rw [nxt_wrR, E.2.1, n0], by rw [slt_wrR, E.2.2, l0], fun c hc => (c0 c hc).tr (T c (by omega) (by omega)), (R 0 (by decide)).trans r0, (R 1 (by decide)).trans r1, rdR_wrR.trans (if_pos ⟨rfl, rfl⟩), scIsS F0 (fun c h1 h2 => T c (by omega) (by omega)), pa0S F1 (fun c h1 h2 => T c (by omega) (by omega)), scIsS F (fun c h1 h2 => .wR (by omega))⟩
def AX4 (w0 : Wd) (b : Nat) (w : Wd) : Prop := shp w b = (8, 0) ∧ nxt w = b + 33 ∧ slt w = slt w0 + 492 ∧ (∀ c, c < b → Sc w0 w c) ∧ rdR w b 0 = some (b + 1) ∧ rdR w b 1 = some (b + 3) ∧ rdR w b 2 = some (b + 17) ∧ rdR w b 3 = some (b + 19) ∧ scIs w (b + 1) cst0 ∧ pa0 w (b + 3) 6 ∧ scIs w (b + 17) cst0 ∧ pa0 w (b + 19) 6
theorem x8_3 {w0 w : Wd} {b : Nat} {Q : Option Value → Wd → Prop} (h : AX3 w0 b w) (hQ : ∀ w', AX4 w0 b w' → wp mX8_init 48 [some (.ref b), none] [] w' Q) : wp mX8_init 37 [some (.ref b), none] [] w Q := by
  obtain ⟨s0, n0, l0, c0, r0, r1, r2, F0, F1, F2⟩ := h
  obtain ⟨u, e, q, E, F⟩ := n_X2 n0
  have v : shp u b = (8, 0) := (E.1 b (by omega)).2.2.2.trans s0
  simp only [eX8_init_37, eX8_init_38, eX8_init_41, eX8_init_41i, eX8_init_42, eX8_init_45, cont_some, tl_some, tl_none, csum_nil, csum_i, csum_r, csum_j, isc2_i, isc2_r, isc2_n, va_rf_s, vfn_ite, true_and, and_true, true_or, or_true, eq_self, Bool.false_eq_true, not_false_eq_true, not_true_eq_false, if_true, if_false, Nat.reduceAdd, Nat.reduceLeDiff, reduceIte, n0, e, q, v]
  have T : ∀ c, c < b + 19 → c ≠ b → Sc w (wrR u b 3 (some (b + 19))) c := fun c h1 h2 => (E.1 c h1).tr (.wR h2)
  have R : ∀ g, g ≠ 3 → rdR (wrR u b 3 (some (b + 19))) b g = rdR w b g := fun g hg => by rw [rdR_wrR, if_neg (fun q => hg q.2)]; exact (E.1 b (by omega)).2.2.1 g
  exact hQ _ ⟨v, by rw [nxt_wrR, E.2.1, n0], by rw [slt_wrR, E.2.2, l0], fun c hc => (c0 c hc).tr (T c (by omega) (by omega)), (R 0 (by decide)).trans r0, (R 1 (by decide)).trans r1, (R 2 (by decide)).trans r2, rdR_wrR.trans (if_pos ⟨rfl, rfl⟩), scIsS F0 (fun c h1 h2 => T c (by omega) (by omega)), pa0S F1 (fun c h1 h2 => T c (by omega) (by omega)), scIsS F2 (fun c h1 h2 => T c (by omega) (by omega)), pa0S F (fun c h1 h2 => .wR (by omega))⟩
def AX5 (w0 : Wd) (b : Nat) (w : Wd) : Prop := shp w b = (8, 0) ∧ nxt w = b + 33 ∧ slt w = slt w0 + 492 ∧ (∀ c, c < b → Sc w0 w c) ∧ rdI w b 4 = 0 ∧ rdR w b 0 = some (b + 1) ∧ rdR w b 1 = some (b + 3) ∧ rdR w b 2 = some (b + 17) ∧ rdR w b 3 = some (b + 19) ∧ scIs w (b + 1) cst0 ∧ pa0 w (b + 3) 6 ∧ scIs w (b + 17) cst0 ∧ pa0 w (b + 19) 6
theorem x8_4 {w0 w : Wd} {b : Nat} {Q : Option Value → Wd → Prop} (h : AX4 w0 b w) (hQ : ∀ w', AX5 w0 b w' → wp mX8_init 53 [some (.ref b), none] [] w' Q) : wp mX8_init 48 [some (.ref b), none] [] w Q := by
  obtain ⟨s0, n0, l0, c0, r0, r1, r2, r3, F0, F1, F2, F3⟩ := h
  simp only [eX8_init_48, eX8_init_49, eX8_init_50, cont_some, tl_some, tl_none, csum_nil, csum_i, csum_r, csum_j, isc2_i, isc2_r, isc2_n, va_rf_s, vfn_ite, true_and, and_true, true_or, or_true, eq_self, Bool.false_eq_true, not_false_eq_true, not_true_eq_false, if_true, if_false, Nat.reduceAdd, Nat.reduceLeDiff, reduceIte, s0]
  have T : ∀ c, c < b + 33 → c ≠ b → Sc w (wrI w b 4 0) c := fun c h1 h2 => .wI h2
  exact hQ _ ⟨s0, n0, l0, fun c hc => (c0 c hc).tr (T c (by omega) (by omega)), by rw [rdI_wrI, if_pos ⟨rfl, rfl⟩], r0, r1, r2, r3, scIsS F0 (fun c h1 h2 => T c (by omega) (by omega)), pa0S F1 (fun c h1 h2 => T c (by omega) (by omega)), scIsS F2 (fun c h1 h2 => T c (by omega) (by omega)), pa0S F3 (fun c h1 h2 => T c (by omega) (by omega))⟩
def AX6 (w0 : Wd) (b : Nat) (w : Wd) : Prop := shp w b = (8, 0) ∧ nxt w = b + 37 ∧ slt w = slt w0 + 527 ∧ (∀ c, c < b → Sc w0 w c) ∧ rdI w b 4 = 0 ∧ rdR w b 0 = some (b + 1) ∧ rdR w b 1 = some (b + 3) ∧ rdR w b 2 = some (b + 17) ∧ rdR w b 3 = some (b + 19) ∧ rdR w b 5 = some (b + 33) ∧ scIs w (b + 1) cst0 ∧ pa0 w (b + 3) 6 ∧ scIs w (b + 17) cst0 ∧ pa0 w (b + 19) 6 ∧ isV w (b + 33)
theorem x8_5 {w0 w : Wd} {b : Nat} {Q : Option Value → Wd → Prop} (h : AX5 w0 b w) (hQ : ∀ w', AX6 w0 b w' → wp mX8_init 64 [some (.ref b), none] [] w' Q) : wp mX8_init 53 [some (.ref b), none] [] w Q := by
  obtain ⟨s0, n0, l0, c0, i4, r0, r1, r2, r3, F0, F1, F2, F3⟩ := h
  obtain ⟨u, e, q, E, F⟩ := n_X6 n0
  have v : shp u b = (8, 0) := (E.1 b (by omega)).2.2.2.trans s0
  simp only [eX8_init_53, eX8_init_54, eX8_init_57, eX8_init_57i, eX8_init_58, eX8_init_61, cont_some, tl_some, tl_none, csum_nil, csum_i, csum_r, csum_j, isc2_i, isc2_r, isc2_n, va_rf_s, vfn_ite, true_and, and_true, true_or, or_true, eq_self, Bool.false_eq_true, not_false_eq_true, not_true_eq_false, if_true, if_false, Nat.reduceAdd, Nat.reduceLeDiff, reduceIte, n0, e, q, v]
  have T : ∀ c, c < b + 33 → c ≠ b → Sc w (wrR u b 5 (some (b + 33))) c := fun c h1 h2 => (E.1 c h1).tr (.wR h2)
  have R : ∀ g, g ≠ 5 → rdR (wrR u b 5 (some (b + 33))) b g = rdR w b g := fun g hg => by rw [rdR_wrR, if_neg (fun q => hg q.2)]; exact (E.1 b (by omega)).2.2.1 g
  exact hQ _ ⟨v, by rw [nxt_wrR, E.2.1, n0], by rw [slt_wrR, E.2.2, l0], fun c hc => (c0 c hc).tr (T c (by omega) (by omega)), by rw [rdI_wrR, (E.1 b (by omega)).1]; exact i4, (R 0 (by decide)).trans r0, (R 1 (by decide)).trans r1, (R 2 (by decide)).trans r2, (R 3 (by decide)).trans r3, rdR_wrR.trans (if_pos ⟨rfl, rfl⟩), scIsS F0 (fun c h1 h2 => T c (by omega) (by omega)), pa0S F1 (fun c h1 h2 => T c (by omega) (by omega)), scIsS F2 (fun c h1 h2 => T c (by omega) (by omega)), pa0S F3 (fun c h1 h2 => T c (by omega) (by omega)), isVS F (fun c h1 h2 => .wR (by omega))⟩
def AX7 (w0 : Wd) (b : Nat) (w : Wd) : Prop := shp w b = (8, 0) ∧ nxt w = b + 38 ∧ slt w = slt w0 + 531 ∧ (∀ c, c < b → Sc w0 w c) ∧ rdI w b 4 = 0 ∧ rdR w b 0 = some (b + 1) ∧ rdR w b 1 = some (b + 3) ∧ rdR w b 2 = some (b + 17) ∧ rdR w b 3 = some (b + 19) ∧ rdR w b 5 = some (b + 33) ∧ rdR w b 6 = some (b + 37) ∧ scIs w (b + 1) cst0 ∧ pa0 w (b + 3) 6 ∧ scIs w (b + 17) cst0 ∧ pa0 w (b + 19) 6 ∧ isV w (b + 33) ∧ shp w (b + 37) = (16, 4)
theorem x8_6 {w0 w : Wd} {b : Nat} {Q : Option Value → Wd → Prop} (h : AX6 w0 b w) (hQ : ∀ w', AX7 w0 b w' → wp mX8_init 72 [some (.ref b), none] [] w' Q) : wp mX8_init 64 [some (.ref b), none] [] w Q := by
  obtain ⟨s0, n0, l0, c0, i4, r0, r1, r2, r3, r5, F0, F1, F2, F3, F5⟩ := h
  have E : Ea (b + 37) 1 4 w (mk1 w 16 4 4) := Ea.refl.m1 (by omega)
  have v : shp (mk1 w 16 4 4) b = (8, 0) := (E.1 b (by omega)).2.2.2.trans s0
  simp only [eX8_init_64, eX8_init_65, eX8_init_66, eX8_init_69, cont_some, tl_some, tl_none, csum_nil, csum_i, csum_r, csum_j, isc2_i, isc2_r, isc2_n, va_rf_s, vfn_ite, true_and, and_true, true_or, or_true, eq_self, Bool.false_eq_true, not_false_eq_true, not_true_eq_false, if_true, if_false, Nat.reduceAdd, Nat.reduceLeDiff, reduceIte, n0, v, nC_30, nL_30, nC_10, nL_10, nC_11, nL_11, nC_90, nL_90, nC_1024, nL_1024, nC_4, nL_4, nC_24, nL_24, nC_6, nL_6, nC_3, nL_3, nC_135, nL_135, nC_33, nL_33, nC_198, nL_198, nC_232, nL_232, nC_96, nL_96]
  have T : ∀ c, c < b + 37 → c ≠ b → Sc w (wrR (mk1 w 16 4 4) b 6 (some (b + 37))) c := fun c h1 h2 => (E.1 c h1).tr (.wR h2)
  have R : ∀ g, g ≠ 6 → rdR (wrR (mk1 w 16 4 4) b 6 (some (b + 37))) b g = rdR w b g := fun g hg => by rw [rdR_wrR, if_neg (fun q => hg q.2)]; exact (E.1 b (by omega)).2.2.1 g
  exact hQ _ ⟨v, by rw [nxt_wrR, E.2.1, n0], by rw [slt_wrR, E.2.2, l0], fun c hc => (c0 c hc).tr (T c (by omega) (by omega)), by rw [rdI_wrR, (E.1 b (by omega)).1]; exact i4, (R 0 (by decide)).trans r0, (R 1 (by decide)).trans r1, (R 2 (by decide)).trans r2, (R 3 (by decide)).trans r3, (R 5 (by decide)).trans r5, rdR_wrR.trans (if_pos ⟨rfl, rfl⟩), scIsS F0 (fun c h1 h2 => T c (by omega) (by omega)), pa0S F1 (fun c h1 h2 => T c (by omega) (by omega)), scIsS F2 (fun c h1 h2 => T c (by omega) (by omega)), pa0S F3 (fun c h1 h2 => T c (by omega) (by omega)), isVS F5 (fun c h1 h2 => T c (by omega) (by omega)), by rw [shp_wrR, shp_mk1, n0, if_pos rfl]⟩
def AX8 (w0 : Wd) (b : Nat) (w : Wd) : Prop := shp w b = (8, 0) ∧ nxt w = b + 41 ∧ slt w = slt w0 + 1568 ∧ (∀ c, c < b → Sc w0 w c) ∧ rdI w b 4 = 0 ∧ rdR w b 0 = some (b + 1) ∧ rdR w b 1 = some (b + 3) ∧ rdR w b 2 = some (b + 17) ∧ rdR w b 3 = some (b + 19) ∧ rdR w b 5 = some (b + 33) ∧ rdR w b 6 = some (b + 37) ∧ rdR w b 7 = some (b + 38) ∧ scIs w (b + 1) cst0 ∧ pa0 w (b + 3) 6 ∧ scIs w (b + 17) cst0 ∧ pa0 w (b + 19) 6 ∧ isV w (b + 33) ∧ shp w (b + 37) = (16, 4) ∧ isO w (b + 38)
theorem x8_7 {w0 w : Wd} {b : Nat} {Q : Option Value → Wd → Prop} (h : AX7 w0 b w) (hQ : ∀ w', AX8 w0 b w' → wp mX8_init 83 [some (.ref b), none] [] w' Q) : wp mX8_init 72 [some (.ref b), none] [] w Q := by
  obtain ⟨s0, n0, l0, c0, i4, r0, r1, r2, r3, r5, r6, F0, F1, F2, F3, F5, F6⟩ := h
  obtain ⟨u, e, q, E, F⟩ := n_X1 n0
  have v : shp u b = (8, 0) := (E.1 b (by omega)).2.2.2.trans s0
  simp only [eX8_init_72, eX8_init_73, eX8_init_76, eX8_init_76i, eX8_init_77, eX8_init_80, cont_some, tl_some, tl_none, csum_nil, csum_i, csum_r, csum_j, isc2_i, isc2_r, isc2_n, va_rf_s, vfn_ite, true_and, and_true, true_or, or_true, eq_self, Bool.false_eq_true, not_false_eq_true, not_true_eq_false, if_true, if_false, Nat.reduceAdd, Nat.reduceLeDiff, reduceIte, n0, e, q, v]
  have T : ∀ c, c < b + 38 → c ≠ b → Sc w (wrR u b 7 (some (b + 38))) c := fun c h1 h2 => (E.1 c h1).tr (.wR h2)
  have R : ∀ g, g ≠ 7 → rdR (wrR u b 7 (some (b + 38))) b g = rdR w b g := fun g hg => by rw [rdR_wrR, if_neg (fun q => hg q.2)]; exact (E.1 b (by omega)).2.2.1 g
  exact hQ _ ⟨v, by rw [nxt_wrR, E.2.1, n0], by rw [slt_wrR, E.2.2, l0], fun c hc => (c0 c hc).tr (T c (by omega) (by omega)), by rw [rdI_wrR, (E.1 b (by omega)).1]; exact i4, (R 0 (by decide)).trans r0, (R 1 (by decide)).trans r1, (R 2 (by decide)).trans r2, (R 3 (by decide)).trans r3, (R 5 (by decide)).trans r5, (R 6 (by decide)).trans r6, rdR_wrR.trans (if_pos ⟨rfl, rfl⟩), scIsS F0 (fun c h1 h2 => T c (by omega) (by omega)), pa0S F1 (fun c h1 h2 => T c (by omega) (by omega)), scIsS F2 (fun c h1 h2 => T c (by omega) (by omega)), pa0S F3 (fun c h1 h2 => T c (by omega) (by omega)), isVS F5 (fun c h1 h2 => T c (by omega) (by omega)), (T _ (by omega) (by omega)).2.2.2.trans F6, isOS F (fun c h1 h2 => .wR (by omega))⟩
def AX9 (w0 : Wd) (b : Nat) (w : Wd) : Prop := shp w b = (8, 0) ∧ nxt w = b + 44 ∧ slt w = slt w0 + 1693 ∧ (∀ c, c < b → Sc w0 w c) ∧ rdI w b 4 = 0 ∧ rdR w b 0 = some (b + 1) ∧ rdR w b 1 = some (b + 3) ∧ rdR w b 2 = some (b + 17) ∧ rdR w b 3 = some (b + 19) ∧ rdR w b 5 = some (b + 33) ∧ rdR w b 6 = some (b + 37) ∧ rdR w b 7 = some (b + 38) ∧ rdR w b 8 = some (b + 41) ∧ scIs w (b + 1) cst0 ∧ pa0 w (b + 3) 6 ∧ scIs w (b + 17) cst0 ∧ pa0 w (b + 19) 6 ∧ isV w (b + 33) ∧ shp w (b + 37) = (16, 4) ∧ isO w (b + 38) ∧ CT w (b + 41) (0, fun _ => 0)
theorem x8_8 {w0 w : Wd} {b : Nat} {Q : Option Value → Wd → Prop} (h : AX8 w0 b w) (hQ : ∀ w', AX9 w0 b w' → wp mX8_init 94 [some (.ref b), none] [] w' Q) : wp mX8_init 83 [some (.ref b), none] [] w Q := by
  obtain ⟨s0, n0, l0, c0, i4, r0, r1, r2, r3, r5, r6, r7, F0, F1, F2, F3, F5, F6, F7⟩ := h
  obtain ⟨u, e, q, E, F⟩ := n_X5 n0
  have v : shp u b = (8, 0) := (E.1 b (by omega)).2.2.2.trans s0
  simp only [eX8_init_83, eX8_init_84, eX8_init_87, eX8_init_87i, eX8_init_88, eX8_init_91, cont_some, tl_some, tl_none, csum_nil, csum_i, csum_r, csum_j, isc2_i, isc2_r, isc2_n, va_rf_s, vfn_ite, true_and, and_true, true_or, or_true, eq_self, Bool.false_eq_true, not_false_eq_true, not_true_eq_false, if_true, if_false, Nat.reduceAdd, Nat.reduceLeDiff, reduceIte, n0, e, q, v]
  have T : ∀ c, c < b + 41 → c ≠ b → Sc w (wrR u b 8 (some (b + 41))) c := fun c h1 h2 => (E.1 c h1).tr (.wR h2)
  have R : ∀ g, g ≠ 8 → rdR (wrR u b 8 (some (b + 41))) b g = rdR w b g := fun g hg => by rw [rdR_wrR, if_neg (fun q => hg q.2)]; exact (E.1 b (by omega)).2.2.1 g
  exact hQ _ ⟨v, by rw [nxt_wrR, E.2.1, n0], by rw [slt_wrR, E.2.2, l0], fun c hc => (c0 c hc).tr (T c (by omega) (by omega)), by rw [rdI_wrR, (E.1 b (by omega)).1]; exact i4, (R 0 (by decide)).trans r0, (R 1 (by decide)).trans r1, (R 2 (by decide)).trans r2, (R 3 (by decide)).trans r3, (R 5 (by decide)).trans r5, (R 6 (by decide)).trans r6, (R 7 (by decide)).trans r7, rdR_wrR.trans (if_pos ⟨rfl, rfl⟩), scIsS F0 (fun c h1 h2 => T c (by omega) (by omega)), pa0S F1 (fun c h1 h2 => T c (by omega) (by omega)), scIsS F2 (fun c h1 h2 => T c (by omega) (by omega)), pa0S F3 (fun c h1 h2 => T c (by omega) (by omega)), isVS F5 (fun c h1 h2 => T c (by omega) (by omega)), (T _ (by omega) (by omega)).2.2.2.trans F6, isOS F7 (fun c h1 h2 => T c (by omega) (by omega)), CTS F (fun c h1 h2 => .wR (by omega))⟩
def AX10 (w0 : Wd) (b : Nat) (w : Wd) : Prop := shp w b = (8, 0) ∧ nxt w = b + 52 ∧ slt w = slt w0 + 1804 ∧ (∀ c, c < b → Sc w0 w c) ∧ rdI w b 4 = 0 ∧ rdR w b 0 = some (b + 1) ∧ rdR w b 1 = some (b + 3) ∧ rdR w b 2 = some (b + 17) ∧ rdR w b 3 = some (b + 19) ∧ rdR w b 5 = some (b + 33) ∧ rdR w b 6 = some (b + 37) ∧ rdR w b 7 = some (b + 38) ∧ rdR w b 8 = some (b + 41) ∧ rdR w b 9 = some (b + 44) ∧ scIs w (b + 1) cst0 ∧ pa0 w (b + 3) 6 ∧ scIs w (b + 17) cst0 ∧ pa0 w (b + 19) 6 ∧ isV w (b + 33) ∧ shp w (b + 37) = (16, 4) ∧ isO w (b + 38) ∧ CT w (b + 41) (0, fun _ => 0) ∧ CS w (b + 44) sht0
theorem x8_9 {w0 w : Wd} {b : Nat} {Q : Option Value → Wd → Prop} (h : AX9 w0 b w) (hQ : ∀ w', AX10 w0 b w' → wp mX8_init 105 [some (.ref b), none] [] w' Q) : wp mX8_init 94 [some (.ref b), none] [] w Q := by
  obtain ⟨s0, n0, l0, c0, i4, r0, r1, r2, r3, r5, r6, r7, r8, F0, F1, F2, F3, F5, F6, F7, F8⟩ := h
  obtain ⟨u, e, q, E, F⟩ := n_X3 n0
  have v : shp u b = (8, 0) := (E.1 b (by omega)).2.2.2.trans s0
  simp only [eX8_init_94, eX8_init_95, eX8_init_98, eX8_init_98i, eX8_init_99, eX8_init_102, cont_some, tl_some, tl_none, csum_nil, csum_i, csum_r, csum_j, isc2_i, isc2_r, isc2_n, va_rf_s, vfn_ite, true_and, and_true, true_or, or_true, eq_self, Bool.false_eq_true, not_false_eq_true, not_true_eq_false, if_true, if_false, Nat.reduceAdd, Nat.reduceLeDiff, reduceIte, n0, e, q, v]
  have T : ∀ c, c < b + 44 → c ≠ b → Sc w (wrR u b 9 (some (b + 44))) c := fun c h1 h2 => (E.1 c h1).tr (.wR h2)
  have R : ∀ g, g ≠ 9 → rdR (wrR u b 9 (some (b + 44))) b g = rdR w b g := fun g hg => by rw [rdR_wrR, if_neg (fun q => hg q.2)]; exact (E.1 b (by omega)).2.2.1 g
  exact hQ _ ⟨v, by rw [nxt_wrR, E.2.1, n0], by rw [slt_wrR, E.2.2, l0], fun c hc => (c0 c hc).tr (T c (by omega) (by omega)), by rw [rdI_wrR, (E.1 b (by omega)).1]; exact i4, (R 0 (by decide)).trans r0, (R 1 (by decide)).trans r1, (R 2 (by decide)).trans r2, (R 3 (by decide)).trans r3, (R 5 (by decide)).trans r5, (R 6 (by decide)).trans r6, (R 7 (by decide)).trans r7, (R 8 (by decide)).trans r8, rdR_wrR.trans (if_pos ⟨rfl, rfl⟩), scIsS F0 (fun c h1 h2 => T c (by omega) (by omega)), pa0S F1 (fun c h1 h2 => T c (by omega) (by omega)), scIsS F2 (fun c h1 h2 => T c (by omega) (by omega)), pa0S F3 (fun c h1 h2 => T c (by omega) (by omega)), isVS F5 (fun c h1 h2 => T c (by omega) (by omega)), (T _ (by omega) (by omega)).2.2.2.trans F6, isOS F7 (fun c h1 h2 => T c (by omega) (by omega)), CTS F8 (fun c h1 h2 => T c (by omega) (by omega)), CSS F (fun c h1 h2 => .wR (by omega))⟩
def AX11 (w0 : Wd) (b : Nat) (w : Wd) : Prop := shp w b = (8, 0) ∧ nxt w = b + 53 ∧ slt w = slt w0 + 1806 ∧ (∀ c, c < b → Sc w0 w c) ∧ rdI w b 4 = 0 ∧ rdR w b 0 = some (b + 1) ∧ rdR w b 1 = some (b + 3) ∧ rdR w b 2 = some (b + 17) ∧ rdR w b 3 = some (b + 19) ∧ rdR w b 5 = some (b + 33) ∧ rdR w b 6 = some (b + 37) ∧ rdR w b 7 = some (b + 38) ∧ rdR w b 8 = some (b + 41) ∧ rdR w b 9 = some (b + 44) ∧ rdR w b 10 = some (b + 52) ∧ scIs w (b + 1) cst0 ∧ pa0 w (b + 3) 6 ∧ scIs w (b + 17) cst0 ∧ pa0 w (b + 19) 6 ∧ isV w (b + 33) ∧ shp w (b + 37) = (16, 4) ∧ isO w (b + 38) ∧ CT w (b + 41) (0, fun _ => 0) ∧ CS w (b + 44) sht0 ∧ frIs w (b + 52) 0 1
theorem x8_10 {w0 w : Wd} {b : Nat} {Q : Option Value → Wd → Prop} (h : AX10 w0 b w) (hQ : ∀ w', AX11 w0 b w' → wp mX8_init 116 [some (.ref b), none] [] w' Q) : wp mX8_init 105 [some (.ref b), none] [] w Q := by
  obtain ⟨s0, n0, l0, c0, i4, r0, r1, r2, r3, r5, r6, r7, r8, r9, F0, F1, F2, F3, F5, F6, F7, F8, F9⟩ := h
  obtain ⟨u, e, q, E, F⟩ := n_X0 n0
  have v : shp u b = (8, 0) := (E.1 b (by omega)).2.2.2.trans s0
  simp only [eX8_init_105, eX8_init_106, eX8_init_109, eX8_init_109i, eX8_init_110, eX8_init_113, cont_some, tl_some, tl_none, csum_nil, csum_i, csum_r, csum_j, isc2_i, isc2_r, isc2_n, va_rf_s, vfn_ite, true_and, and_true, true_or, or_true, eq_self, Bool.false_eq_true, not_false_eq_true, not_true_eq_false, if_true, if_false, Nat.reduceAdd, Nat.reduceLeDiff, reduceIte, n0, e, q, v]
  have T : ∀ c, c < b + 52 → c ≠ b → Sc w (wrR u b 10 (some (b + 52))) c := fun c h1 h2 => (E.1 c h1).tr (.wR h2)
  have R : ∀ g, g ≠ 10 → rdR (wrR u b 10 (some (b + 52))) b g = rdR w b g := fun g hg => by rw [rdR_wrR, if_neg (fun q => hg q.2)]; exact (E.1 b (by omega)).2.2.1 g
  exact hQ _ ⟨v, by rw [nxt_wrR, E.2.1, n0], by rw [slt_wrR, E.2.2, l0], fun c hc => (c0 c hc).tr (T c (by omega) (by omega)), by rw [rdI_wrR, (E.1 b (by omega)).1]; exact i4, (R 0 (by decide)).trans r0, (R 1 (by decide)).trans r1, (R 2 (by decide)).trans r2, (R 3 (by decide)).trans r3, (R 5 (by decide)).trans r5, (R 6 (by decide)).trans r6, (R 7 (by decide)).trans r7, (R 8 (by decide)).trans r8, (R 9 (by decide)).trans r9, rdR_wrR.trans (if_pos ⟨rfl, rfl⟩), scIsS F0 (fun c h1 h2 => T c (by omega) (by omega)), pa0S F1 (fun c h1 h2 => T c (by omega) (by omega)), scIsS F2 (fun c h1 h2 => T c (by omega) (by omega)), pa0S F3 (fun c h1 h2 => T c (by omega) (by omega)), isVS F5 (fun c h1 h2 => T c (by omega) (by omega)), (T _ (by omega) (by omega)).2.2.2.trans F6, isOS F7 (fun c h1 h2 => T c (by omega) (by omega)), CTS F8 (fun c h1 h2 => T c (by omega) (by omega)), CSS F9 (fun c h1 h2 => T c (by omega) (by omega)), frIsS F (.wR (by omega))⟩
theorem s_X8_init {b : Nat} {w : Wd} (s0 : shp w b = (8, 0)) (n0 : nxt w = b + 1) : ∃ u, fX8_init [.ref b] w = some (none, u) ∧ Ea b 124 2726 w u ∧ clS0 u b := by
  have hh : wp mX8_init 0 [some (.ref b), none] [] w (fun r u => r = none ∧ Ea b 124 2726 w u ∧ clS0 u b) := by
    simp only [eX8_init_0, eX8_init_1, cont_some, tl_some, tl_none, csum_nil, csum_i, csum_r, csum_j, isc2_i, isc2_r, isc2_n, va_rf_s, vfn_ite, true_and, and_true, true_or, or_true, eq_self, Bool.false_eq_true, not_false_eq_true, not_true_eq_false, if_true, if_false, Nat.reduceAdd, Nat.reduceLeDiff, reduceIte, obj_eq]
    refine x8_0 (w0 := w) ⟨s0, n0, rfl, fun c _ => Sc.rfl'⟩ (fun w1 h => x8_1 h (fun w2 h => x8_2 h (fun w3 h => x8_3 h (fun w4 h => x8_4 h (fun w5 h => x8_5 h (fun w6 h => x8_6 h (fun w7 h => x8_7 h (fun w8 h => x8_8 h (fun w9 h => x8_9 h (fun w10 h => x8_10 h (fun w11 h => ?_)))))))))))
    obtain ⟨s0, n11, l0, c0, i4, r0, r1, r2, r3, r5, r6, r7, r8, r9, r10, F0, F1, F2, F3, F5, F6, F7, F8, F9, F10⟩ := h
    simp only [eX8_init_116, eX8_init_117, cont_some, tl_some, tl_none, csum_nil, csum_i, csum_r, csum_j, isc2_i, isc2_r, isc2_n, va_rf_s, vfn_ite, true_and, and_true, true_or, or_true, eq_self, Bool.false_eq_true, not_false_eq_true, not_true_eq_false, if_true, if_false, Nat.reduceAdd, Nat.reduceLeDiff, reduceIte]
    refine l_X8_init (b := b) (w0 := w11) (fun u a1 a2 a3 a4 a5 => ⟨rfl, ⟨fun c hc => (c0 c hc).tr (a1 c (by omega) (by omega)), by rw [a2, n0], by rw [a3, l0]⟩, ?_⟩) 4 0 w11 rfl s0 r6 (fun c _ _ => Sc.rfl') n11 rfl F6 (fun j hj => absurd hj (by omega))
    have zb := a1 b (by omega) (by omega)
    have R : ∀ f x, rdR w11 b f = some x → rdR u b f = some x := fun f x h => (zb.2.2.1 f).trans h
    refine ⟨⟨zb.2.2.2.trans s0, R _ _ r0, R _ _ r1, R _ _ r2, R _ _ r3, R _ _ r5, R _ _ r6, R _ _ r7, R _ _ r8, R _ _ r9, R _ _ r10⟩, (zb.1 _).trans i4, scIsS F0 (fun c h1 h2 => a1 c (by omega) (by omega)), pa0S F1 (fun c h1 h2 => a1 c (by omega) (by omega)), scIsS F2 (fun c h1 h2 => a1 c (by omega) (by omega)), pa0S F3 (fun c h1 h2 => a1 c (by omega) (by omega)), isVS F5 (fun c h1 h2 => a1 c (by omega) (by omega)), isOS F7 (fun c h1 h2 => a1 c (by omega) (by omega)), CTS F8 (fun c h1 h2 => a1 c (by omega) (by omega)), CSS F9 (fun c h1 h2 => a1 c (by omega) (by omega)), frIsS F10 (a1 _ (by omega) (by omega)), a4, a5⟩
  obtain ⟨r, u, h1, rfl, h2, h3⟩ := sem_wp (nL := 2) (as := [.ref b]) (Nat.le_of_ble_eq_true rfl) hh
  exact ⟨u, h1, h2, h3⟩
