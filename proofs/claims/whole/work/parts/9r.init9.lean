
def MX0 (w0 : Wd) (o : Nat) (w : Wd) : Prop := shp w o = (9, 0) ∧ nxt w = o + 1 ∧ slt w = slt w0 + 0 ∧ (∀ c, c < o → Sc w0 w c) ∧ (∀ c, o ≤ c → c < o + 1 → ∀ j, rdI w c j = 0 ∧ rdJ w c j = 0)
def MX1 (w0 : Wd) (o : Nat) (w : Wd) : Prop := shp w o = (9, 0) ∧ nxt w = o + 2 ∧ slt w = slt w0 + 33 ∧ (∀ c, c < o → Sc w0 w c) ∧ (∀ c, o ≤ c → c < o + 2 → ∀ j, rdI w c j = 0 ∧ rdJ w c j = 0) ∧ rdR w o 0 = some (o + 1) ∧ shp w (o + 1) = (10, 33)
theorem x9_0 {w0 w : Wd} {o : Nat} {Q : Option Value → Wd → Prop} (h : MX0 w0 o w) (hQ : ∀ w', MX1 w0 o w' → wp mX9_init 12 [some (.ref o), none] [] w' Q) : wp mX9_init 4 [some (.ref o), none] [] w Q := by
  obtain ⟨s0, n0, l0, c0, z0⟩ := h
  have E : Ea (o + 1) 1 33 w (mk1 w 10 33 33) := Ea.refl.m1 (by omega)
  have v : shp (mk1 w 10 33 33) o = (9, 0) := (E.1 o (by omega)).2.2.2.trans s0
  simp only [eX9_init_4, eX9_init_5, eX9_init_7, eX9_init_9, cont_some, tl_some, tl_none, csum_nil, csum_i, csum_r, csum_j, isc2_i, isc2_r, isc2_n, va_rf_s, vfn_ite, true_and, and_true, true_or, or_true, eq_self, Bool.false_eq_true, not_false_eq_true, not_true_eq_false, if_true, if_false, Nat.reduceAdd, Nat.reduceLeDiff, reduceIte, n0, v, nC_30, nL_30, nC_10, nL_10, nC_11, nL_11, nC_90, nL_90, nC_1024, nL_1024, nC_4, nL_4, nC_24, nL_24, nC_6, nL_6, nC_3, nL_3, nC_135, nL_135, nC_33, nL_33, nC_198, nL_198, nC_232, nL_232, nC_96, nL_96]
  have T : ∀ c, c < o + 1 → c ≠ o → Sc w (wrR (mk1 w 10 33 33) o 0 (some (o + 1))) c := fun c h1 h2 => (E.1 c h1).tr (.wR h2)
  have R : ∀ g, g ≠ 0 → rdR (wrR (mk1 w 10 33 33) o 0 (some (o + 1))) o g = rdR w o g := fun g hg => by rw [rdR_wrR, if_neg (fun q => hg q.2)]; exact (E.1 o (by omega)).2.2.1 g
  have Z : ∀ c, o ≤ c → c < o + 2 → ∀ j, rdI (wrR (mk1 w 10 33 33) o 0 (some (o + 1))) c j = 0 ∧ rdJ (wrR (mk1 w 10 33 33) o 0 (some (o + 1))) c j = 0 := fun c h1 h2 j => by
    rw [rdI_wrR, rdJ_wrR, rdI_mk1, rdJ_mk1, n0]
    by_cases hc : c = o + 1
    · rw [if_pos hc, if_pos hc]; exact ⟨rfl, rfl⟩
    · rw [if_neg hc, if_neg hc]; exact z0 c h1 (by omega) j
  exact hQ _ ⟨v, by rw [nxt_wrR, E.2.1, n0], by rw [slt_wrR, E.2.2, l0], fun c hc => (c0 c hc).tr (T c (by omega) (by omega)), Z, rdR_wrR.trans (if_pos ⟨rfl, rfl⟩), by rw [shp_wrR, shp_mk1, n0, if_pos rfl]⟩
def MX2 (w0 : Wd) (o : Nat) (w : Wd) : Prop := shp w o = (9, 0) ∧ nxt w = o + 3 ∧ slt w = slt w0 + 231 ∧ (∀ c, c < o → Sc w0 w c) ∧ (∀ c, o ≤ c → c < o + 3 → ∀ j, rdI w c j = 0 ∧ rdJ w c j = 0) ∧ rdR w o 0 = some (o + 1) ∧ rdR w o 1 = some (o + 2) ∧ shp w (o + 1) = (10, 33) ∧ shp w (o + 2) = (10, 198)
theorem x9_1 {w0 w : Wd} {o : Nat} {Q : Option Value → Wd → Prop} (h : MX1 w0 o w) (hQ : ∀ w', MX2 w0 o w' → wp mX9_init 21 [some (.ref o), none] [] w' Q) : wp mX9_init 12 [some (.ref o), none] [] w Q := by
  obtain ⟨s0, n0, l0, c0, z0, r0, p0⟩ := h
  have E : Ea (o + 2) 1 198 w (mk1 w 10 198 198) := Ea.refl.m1 (by omega)
  have v : shp (mk1 w 10 198 198) o = (9, 0) := (E.1 o (by omega)).2.2.2.trans s0
  simp only [eX9_init_12, eX9_init_13, eX9_init_16, eX9_init_18, cont_some, tl_some, tl_none, csum_nil, csum_i, csum_r, csum_j, isc2_i, isc2_r, isc2_n, va_rf_s, vfn_ite, true_and, and_true, true_or, or_true, eq_self, Bool.false_eq_true, not_false_eq_true, not_true_eq_false, if_true, if_false, Nat.reduceAdd, Nat.reduceLeDiff, reduceIte, n0, v, nC_30, nL_30, nC_10, nL_10, nC_11, nL_11, nC_90, nL_90, nC_1024, nL_1024, nC_4, nL_4, nC_24, nL_24, nC_6, nL_6, nC_3, nL_3, nC_135, nL_135, nC_33, nL_33, nC_198, nL_198, nC_232, nL_232, nC_96, nL_96]
  have T : ∀ c, c < o + 2 → c ≠ o → Sc w (wrR (mk1 w 10 198 198) o 1 (some (o + 2))) c := fun c h1 h2 => (E.1 c h1).tr (.wR h2)
  have R : ∀ g, g ≠ 1 → rdR (wrR (mk1 w 10 198 198) o 1 (some (o + 2))) o g = rdR w o g := fun g hg => by rw [rdR_wrR, if_neg (fun q => hg q.2)]; exact (E.1 o (by omega)).2.2.1 g
  have Z : ∀ c, o ≤ c → c < o + 3 → ∀ j, rdI (wrR (mk1 w 10 198 198) o 1 (some (o + 2))) c j = 0 ∧ rdJ (wrR (mk1 w 10 198 198) o 1 (some (o + 2))) c j = 0 := fun c h1 h2 j => by
    rw [rdI_wrR, rdJ_wrR, rdI_mk1, rdJ_mk1, n0]
    by_cases hc : c = o + 2
    · rw [if_pos hc, if_pos hc]; exact ⟨rfl, rfl⟩
    · rw [if_neg hc, if_neg hc]; exact z0 c h1 (by omega) j
  exact hQ _ ⟨v, by rw [nxt_wrR, E.2.1, n0], by rw [slt_wrR, E.2.2, l0], fun c hc => (c0 c hc).tr (T c (by omega) (by omega)), Z, (R 0 (by decide)).trans r0, rdR_wrR.trans (if_pos ⟨rfl, rfl⟩), (T _ (by omega) (by omega)).2.2.2.trans p0, by rw [shp_wrR, shp_mk1, n0, if_pos rfl]⟩
def MX3 (w0 : Wd) (o : Nat) (w : Wd) : Prop := shp w o = (9, 0) ∧ nxt w = o + 4 ∧ slt w = slt w0 + 463 ∧ (∀ c, c < o → Sc w0 w c) ∧ (∀ c, o ≤ c → c < o + 4 → ∀ j, rdI w c j = 0 ∧ rdJ w c j = 0) ∧ rdR w o 0 = some (o + 1) ∧ rdR w o 1 = some (o + 2) ∧ rdR w o 3 = some (o + 3) ∧ shp w (o + 1) = (10, 33) ∧ shp w (o + 2) = (10, 198) ∧ shp w (o + 3) = (10, 232)
theorem x9_2 {w0 w : Wd} {o : Nat} {Q : Option Value → Wd → Prop} (h : MX2 w0 o w) (hQ : ∀ w', MX3 w0 o w' → wp mX9_init 30 [some (.ref o), none] [] w' Q) : wp mX9_init 21 [some (.ref o), none] [] w Q := by
  obtain ⟨s0, n0, l0, c0, z0, r0, r1, p0, p1⟩ := h
  have E : Ea (o + 3) 1 232 w (mk1 w 10 232 232) := Ea.refl.m1 (by omega)
  have v : shp (mk1 w 10 232 232) o = (9, 0) := (E.1 o (by omega)).2.2.2.trans s0
  simp only [eX9_init_21, eX9_init_22, eX9_init_25, eX9_init_27, cont_some, tl_some, tl_none, csum_nil, csum_i, csum_r, csum_j, isc2_i, isc2_r, isc2_n, va_rf_s, vfn_ite, true_and, and_true, true_or, or_true, eq_self, Bool.false_eq_true, not_false_eq_true, not_true_eq_false, if_true, if_false, Nat.reduceAdd, Nat.reduceLeDiff, reduceIte, n0, v, nC_30, nL_30, nC_10, nL_10, nC_11, nL_11, nC_90, nL_90, nC_1024, nL_1024, nC_4, nL_4, nC_24, nL_24, nC_6, nL_6, nC_3, nL_3, nC_135, nL_135, nC_33, nL_33, nC_198, nL_198, nC_232, nL_232, nC_96, nL_96]
  have T : ∀ c, c < o + 3 → c ≠ o → Sc w (wrR (mk1 w 10 232 232) o 3 (some (o + 3))) c := fun c h1 h2 => (E.1 c h1).tr (.wR h2)
  have R : ∀ g, g ≠ 3 → rdR (wrR (mk1 w 10 232 232) o 3 (some (o + 3))) o g = rdR w o g := fun g hg => by rw [rdR_wrR, if_neg (fun q => hg q.2)]; exact (E.1 o (by omega)).2.2.1 g
  have Z : ∀ c, o ≤ c → c < o + 4 → ∀ j, rdI (wrR (mk1 w 10 232 232) o 3 (some (o + 3))) c j = 0 ∧ rdJ (wrR (mk1 w 10 232 232) o 3 (some (o + 3))) c j = 0 := fun c h1 h2 j => by
    rw [rdI_wrR, rdJ_wrR, rdI_mk1, rdJ_mk1, n0]
    by_cases hc : c = o + 3
    · rw [if_pos hc, if_pos hc]; exact ⟨rfl, rfl⟩
    · rw [if_neg hc, if_neg hc]; exact z0 c h1 (by omega) j
  exact hQ _ ⟨v, by rw [nxt_wrR, E.2.1, n0], by rw [slt_wrR, E.2.2, l0], fun c hc => (c0 c hc).tr (T c (by omega) (by omega)), Z, (R 0 (by decide)).trans r0, (R 1 (by decide)).trans r1, rdR_wrR.trans (if_pos ⟨rfl, rfl⟩), (T _ (by omega) (by omega)).2.2.2.trans p0, (T _ (by omega) (by omega)).2.2.2.trans p1, by rw [shp_wrR, shp_mk1, n0, if_pos rfl]⟩
def MX4 (w0 : Wd) (o : Nat) (w : Wd) : Prop := shp w o = (9, 0) ∧ nxt w = o + 5 ∧ slt w = slt w0 + 553 ∧ (∀ c, c < o → Sc w0 w c) ∧ (∀ c, o ≤ c → c < o + 5 → ∀ j, rdI w c j = 0 ∧ rdJ w c j = 0) ∧ rdR w o 0 = some (o + 1) ∧ rdR w o 1 = some (o + 2) ∧ rdR w o 3 = some (o + 3) ∧ rdR w o 5 = some (o + 4) ∧ shp w (o + 1) = (10, 33) ∧ shp w (o + 2) = (10, 198) ∧ shp w (o + 3) = (10, 232) ∧ shp w (o + 4) = (10, 90)
theorem x9_3 {w0 w : Wd} {o : Nat} {Q : Option Value → Wd → Prop} (h : MX3 w0 o w) (hQ : ∀ w', MX4 w0 o w' → wp mX9_init 38 [some (.ref o), none] [] w' Q) : wp mX9_init 30 [some (.ref o), none] [] w Q := by
  obtain ⟨s0, n0, l0, c0, z0, r0, r1, r2, p0, p1, p2⟩ := h
  have E : Ea (o + 4) 1 90 w (mk1 w 10 90 90) := Ea.refl.m1 (by omega)
  have v : shp (mk1 w 10 90 90) o = (9, 0) := (E.1 o (by omega)).2.2.2.trans s0
  simp only [eX9_init_30, eX9_init_31, eX9_init_33, eX9_init_35, cont_some, tl_some, tl_none, csum_nil, csum_i, csum_r, csum_j, isc2_i, isc2_r, isc2_n, va_rf_s, vfn_ite, true_and, and_true, true_or, or_true, eq_self, Bool.false_eq_true, not_false_eq_true, not_true_eq_false, if_true, if_false, Nat.reduceAdd, Nat.reduceLeDiff, reduceIte, n0, v, nC_30, nL_30, nC_10, nL_10, nC_11, nL_11, nC_90, nL_90, nC_1024, nL_1024, nC_4, nL_4, nC_24, nL_24, nC_6, nL_6, nC_3, nL_3, nC_135, nL_135, nC_33, nL_33, nC_198, nL_198, nC_232, nL_232, nC_96, nL_96]
  have T : ∀ c, c < o + 4 → c ≠ o → Sc w (wrR (mk1 w 10 90 90) o 5 (some (o + 4))) c := fun c h1 h2 => (E.1 c h1).tr (.wR h2)
  have R : ∀ g, g ≠ 5 → rdR (wrR (mk1 w 10 90 90) o 5 (some (o + 4))) o g = rdR w o g := fun g hg => by rw [rdR_wrR, if_neg (fun q => hg q.2)]; exact (E.1 o (by omega)).2.2.1 g
  have Z : ∀ c, o ≤ c → c < o + 5 → ∀ j, rdI (wrR (mk1 w 10 90 90) o 5 (some (o + 4))) c j = 0 ∧ rdJ (wrR (mk1 w 10 90 90) o 5 (some (o + 4))) c j = 0 := fun c h1 h2 j => by
    rw [rdI_wrR, rdJ_wrR, rdI_mk1, rdJ_mk1, n0]
    by_cases hc : c = o + 4
    · rw [if_pos hc, if_pos hc]; exact ⟨rfl, rfl⟩
    · rw [if_neg hc, if_neg hc]; exact z0 c h1 (by omega) j
  exact hQ _ ⟨v, by rw [nxt_wrR, E.2.1, n0], by rw [slt_wrR, E.2.2, l0], fun c hc => (c0 c hc).tr (T c (by omega) (by omega)), Z, (R 0 (by decide)).trans r0, (R 1 (by decide)).trans r1, (R 3 (by decide)).trans r2, rdR_wrR.trans (if_pos ⟨rfl, rfl⟩), (T _ (by omega) (by omega)).2.2.2.trans p0, (T _ (by omega) (by omega)).2.2.2.trans p1, (T _ (by omega) (by omega)).2.2.2.trans p2, by rw [shp_wrR, shp_mk1, n0, if_pos rfl]⟩
def MX5 (w0 : Wd) (o : Nat) (w : Wd) : Prop := shp w o = (9, 0) ∧ nxt w = o + 6 ∧ slt w = slt w0 + 557 ∧ (∀ c, c < o → Sc w0 w c) ∧ (∀ c, o ≤ c → c < o + 6 → ∀ j, rdI w c j = 0 ∧ rdJ w c j = 0) ∧ rdR w o 0 = some (o + 1) ∧ rdR w o 1 = some (o + 2) ∧ rdR w o 3 = some (o + 3) ∧ rdR w o 5 = some (o + 4) ∧ rdR w o 7 = some (o + 5) ∧ shp w (o + 1) = (10, 33) ∧ shp w (o + 2) = (10, 198) ∧ shp w (o + 3) = (10, 232) ∧ shp w (o + 4) = (10, 90) ∧ shp w (o + 5) = (10, 4)
theorem x9_4 {w0 w : Wd} {o : Nat} {Q : Option Value → Wd → Prop} (h : MX4 w0 o w) (hQ : ∀ w', MX5 w0 o w' → wp mX9_init 45 [some (.ref o), none] [] w' Q) : wp mX9_init 38 [some (.ref o), none] [] w Q := by
  obtain ⟨s0, n0, l0, c0, z0, r0, r1, r2, r3, p0, p1, p2, p3⟩ := h
  have E : Ea (o + 5) 1 4 w (mk1 w 10 4 4) := Ea.refl.m1 (by omega)
  have v : shp (mk1 w 10 4 4) o = (9, 0) := (E.1 o (by omega)).2.2.2.trans s0
  simp only [eX9_init_38, eX9_init_39, eX9_init_40, eX9_init_42, cont_some, tl_some, tl_none, csum_nil, csum_i, csum_r, csum_j, isc2_i, isc2_r, isc2_n, va_rf_s, vfn_ite, true_and, and_true, true_or, or_true, eq_self, Bool.false_eq_true, not_false_eq_true, not_true_eq_false, if_true, if_false, Nat.reduceAdd, Nat.reduceLeDiff, reduceIte, n0, v, nC_30, nL_30, nC_10, nL_10, nC_11, nL_11, nC_90, nL_90, nC_1024, nL_1024, nC_4, nL_4, nC_24, nL_24, nC_6, nL_6, nC_3, nL_3, nC_135, nL_135, nC_33, nL_33, nC_198, nL_198, nC_232, nL_232, nC_96, nL_96]
  have T : ∀ c, c < o + 5 → c ≠ o → Sc w (wrR (mk1 w 10 4 4) o 7 (some (o + 5))) c := fun c h1 h2 => (E.1 c h1).tr (.wR h2)
  have R : ∀ g, g ≠ 7 → rdR (wrR (mk1 w 10 4 4) o 7 (some (o + 5))) o g = rdR w o g := fun g hg => by rw [rdR_wrR, if_neg (fun q => hg q.2)]; exact (E.1 o (by omega)).2.2.1 g
  have Z : ∀ c, o ≤ c → c < o + 6 → ∀ j, rdI (wrR (mk1 w 10 4 4) o 7 (some (o + 5))) c j = 0 ∧ rdJ (wrR (mk1 w 10 4 4) o 7 (some (o + 5))) c j = 0 := fun c h1 h2 j => by
    rw [rdI_wrR, rdJ_wrR, rdI_mk1, rdJ_mk1, n0]
    by_cases hc : c = o + 5
    · rw [if_pos hc, if_pos hc]; exact ⟨rfl, rfl⟩
    · rw [if_neg hc, if_neg hc]; exact z0 c h1 (by omega) j
  exact hQ _ ⟨v, by rw [nxt_wrR, E.2.1, n0], by rw [slt_wrR, E.2.2, l0], fun c hc => (c0 c hc).tr (T c (by omega) (by omega)), Z, (R 0 (by decide)).trans r0, (R 1 (by decide)).trans r1, (R 3 (by decide)).trans r2, (R 5 (by decide)).trans r3, rdR_wrR.trans (if_pos ⟨rfl, rfl⟩), (T _ (by omega) (by omega)).2.2.2.trans p0, (T _ (by omega) (by omega)).2.2.2.trans p1, (T _ (by omega) (by omega)).2.2.2.trans p2, (T _ (by omega) (by omega)).2.2.2.trans p3, by rw [shp_wrR, shp_mk1, n0, if_pos rfl]⟩
def MX6 (w0 : Wd) (o : Nat) (w : Wd) : Prop := shp w o = (9, 0) ∧ nxt w = o + 7 ∧ slt w = slt w0 + 561 ∧ (∀ c, c < o → Sc w0 w c) ∧ (∀ c, o ≤ c → c < o + 7 → ∀ j, rdI w c j = 0 ∧ rdJ w c j = 0) ∧ rdR w o 0 = some (o + 1) ∧ rdR w o 1 = some (o + 2) ∧ rdR w o 3 = some (o + 3) ∧ rdR w o 5 = some (o + 4) ∧ rdR w o 7 = some (o + 5) ∧ rdR w o 8 = some (o + 6) ∧ shp w (o + 1) = (10, 33) ∧ shp w (o + 2) = (10, 198) ∧ shp w (o + 3) = (10, 232) ∧ shp w (o + 4) = (10, 90) ∧ shp w (o + 5) = (10, 4) ∧ shp w (o + 6) = (10, 4)
theorem x9_5 {w0 w : Wd} {o : Nat} {Q : Option Value → Wd → Prop} (h : MX5 w0 o w) (hQ : ∀ w', MX6 w0 o w' → wp mX9_init 52 [some (.ref o), none] [] w' Q) : wp mX9_init 45 [some (.ref o), none] [] w Q := by
  obtain ⟨s0, n0, l0, c0, z0, r0, r1, r2, r3, r4, p0, p1, p2, p3, p4⟩ := h
  have E : Ea (o + 6) 1 4 w (mk1 w 10 4 4) := Ea.refl.m1 (by omega)
  have v : shp (mk1 w 10 4 4) o = (9, 0) := (E.1 o (by omega)).2.2.2.trans s0
  simp only [eX9_init_45, eX9_init_46, eX9_init_47, eX9_init_49, cont_some, tl_some, tl_none, csum_nil, csum_i, csum_r, csum_j, isc2_i, isc2_r, isc2_n, va_rf_s, vfn_ite, true_and, and_true, true_or, or_true, eq_self, Bool.false_eq_true, not_false_eq_true, not_true_eq_false, if_true, if_false, Nat.reduceAdd, Nat.reduceLeDiff, reduceIte, n0, v, nC_30, nL_30, nC_10, nL_10, nC_11, nL_11, nC_90, nL_90, nC_1024, nL_1024, nC_4, nL_4, nC_24, nL_24, nC_6, nL_6, nC_3, nL_3, nC_135, nL_135, nC_33, nL_33, nC_198, nL_198, nC_232, nL_232, nC_96, nL_96]
  have T : ∀ c, c < o + 6 → c ≠ o → Sc w (wrR (mk1 w 10 4 4) o 8 (some (o + 6))) c := fun c h1 h2 => (E.1 c h1).tr (.wR h2)
  have R : ∀ g, g ≠ 8 → rdR (wrR (mk1 w 10 4 4) o 8 (some (o + 6))) o g = rdR w o g := fun g hg => by rw [rdR_wrR, if_neg (fun q => hg q.2)]; exact (E.1 o (by omega)).2.2.1 g
  have Z : ∀ c, o ≤ c → c < o + 7 → ∀ j, rdI (wrR (mk1 w 10 4 4) o 8 (some (o + 6))) c j = 0 ∧ rdJ (wrR (mk1 w 10 4 4) o 8 (some (o + 6))) c j = 0 := fun c h1 h2 j => by
    rw [rdI_wrR, rdJ_wrR, rdI_mk1, rdJ_mk1, n0]
    by_cases hc : c = o + 6
    · rw [if_pos hc, if_pos hc]; exact ⟨rfl, rfl⟩
    · rw [if_neg hc, if_neg hc]; exact z0 c h1 (by omega) j
  exact hQ _ ⟨v, by rw [nxt_wrR, E.2.1, n0], by rw [slt_wrR, E.2.2, l0], fun c hc => (c0 c hc).tr (T c (by omega) (by omega)), Z, (R 0 (by decide)).trans r0, (R 1 (by decide)).trans r1, (R 3 (by decide)).trans r2, (R 5 (by decide)).trans r3, (R 7 (by decide)).trans r4, rdR_wrR.trans (if_pos ⟨rfl, rfl⟩), (T _ (by omega) (by omega)).2.2.2.trans p0, (T _ (by omega) (by omega)).2.2.2.trans p1, (T _ (by omega) (by omega)).2.2.2.trans p2, (T _ (by omega) (by omega)).2.2.2.trans p3, (T _ (by omega) (by omega)).2.2.2.trans p4, by rw [shp_wrR, shp_mk1, n0, if_pos rfl]⟩
def MX7 (w0 : Wd) (o : Nat) (w : Wd) : Prop := shp w o = (9, 0) ∧ nxt w = o + 8 ∧ slt w = slt w0 + 657 ∧ (∀ c, c < o → Sc w0 w c) ∧ (∀ c, o ≤ c → c < o + 8 → ∀ j, rdI w c j = 0 ∧ rdJ w c j = 0) ∧ rdR w o 0 = some (o + 1) ∧ rdR w o 1 = some (o + 2) ∧ rdR w o 3 = some (o + 3) ∧ rdR w o 5 = some (o + 4) ∧ rdR w o 7 = some (o + 5) ∧ rdR w o 8 = some (o + 6) ∧ rdR w o 9 = some (o + 7) ∧ shp w (o + 1) = (10, 33) ∧ shp w (o + 2) = (10, 198) ∧ shp w (o + 3) = (10, 232) ∧ shp w (o + 4) = (10, 90) ∧ shp w (o + 5) = (10, 4) ∧ shp w (o + 6) = (10, 4) ∧ shp w (o + 7) = (11, 96)
theorem x9_6 {w0 w : Wd} {o : Nat} {Q : Option Value → Wd → Prop} (h : MX6 w0 o w) (hQ : ∀ w', MX7 w0 o w' → wp mX9_init 60 [some (.ref o), none] [] w' Q) : wp mX9_init 52 [some (.ref o), none] [] w Q := by
  obtain ⟨s0, n0, l0, c0, z0, r0, r1, r2, r3, r4, r5, p0, p1, p2, p3, p4, p5⟩ := h
  have E : Ea (o + 7) 1 96 w (mk1 w 11 96 96) := Ea.refl.m1 (by omega)
  have v : shp (mk1 w 11 96 96) o = (9, 0) := (E.1 o (by omega)).2.2.2.trans s0
  simp only [eX9_init_52, eX9_init_53, eX9_init_55, eX9_init_57, cont_some, tl_some, tl_none, csum_nil, csum_i, csum_r, csum_j, isc2_i, isc2_r, isc2_n, va_rf_s, vfn_ite, true_and, and_true, true_or, or_true, eq_self, Bool.false_eq_true, not_false_eq_true, not_true_eq_false, if_true, if_false, Nat.reduceAdd, Nat.reduceLeDiff, reduceIte, n0, v, nC_30, nL_30, nC_10, nL_10, nC_11, nL_11, nC_90, nL_90, nC_1024, nL_1024, nC_4, nL_4, nC_24, nL_24, nC_6, nL_6, nC_3, nL_3, nC_135, nL_135, nC_33, nL_33, nC_198, nL_198, nC_232, nL_232, nC_96, nL_96]
  have T : ∀ c, c < o + 7 → c ≠ o → Sc w (wrR (mk1 w 11 96 96) o 9 (some (o + 7))) c := fun c h1 h2 => (E.1 c h1).tr (.wR h2)
  have R : ∀ g, g ≠ 9 → rdR (wrR (mk1 w 11 96 96) o 9 (some (o + 7))) o g = rdR w o g := fun g hg => by rw [rdR_wrR, if_neg (fun q => hg q.2)]; exact (E.1 o (by omega)).2.2.1 g
  have Z : ∀ c, o ≤ c → c < o + 8 → ∀ j, rdI (wrR (mk1 w 11 96 96) o 9 (some (o + 7))) c j = 0 ∧ rdJ (wrR (mk1 w 11 96 96) o 9 (some (o + 7))) c j = 0 := fun c h1 h2 j => by
    rw [rdI_wrR, rdJ_wrR, rdI_mk1, rdJ_mk1, n0]
    by_cases hc : c = o + 7
    · rw [if_pos hc, if_pos hc]; exact ⟨rfl, rfl⟩
    · rw [if_neg hc, if_neg hc]; exact z0 c h1 (by omega) j
  exact hQ _ ⟨v, by rw [nxt_wrR, E.2.1, n0], by rw [slt_wrR, E.2.2, l0], fun c hc => (c0 c hc).tr (T c (by omega) (by omega)), Z, (R 0 (by decide)).trans r0, (R 1 (by decide)).trans r1, (R 3 (by decide)).trans r2, (R 5 (by decide)).trans r3, (R 7 (by decide)).trans r4, (R 8 (by decide)).trans r5, rdR_wrR.trans (if_pos ⟨rfl, rfl⟩), (T _ (by omega) (by omega)).2.2.2.trans p0, (T _ (by omega) (by omega)).2.2.2.trans p1, (T _ (by omega) (by omega)).2.2.2.trans p2, (T _ (by omega) (by omega)).2.2.2.trans p3, (T _ (by omega) (by omega)).2.2.2.trans p4, (T _ (by omega) (by omega)).2.2.2.trans p5, by rw [shp_wrR, shp_mk1, n0, if_pos rfl]⟩
def MX8 (w0 : Wd) (o : Nat) (w : Wd) : Prop := shp w o = (9, 0) ∧ nxt w = o + 9 ∧ slt w = slt w0 + 681 ∧ (∀ c, c < o → Sc w0 w c) ∧ (∀ c, o ≤ c → c < o + 9 → ∀ j, rdI w c j = 0 ∧ rdJ w c j = 0) ∧ rdR w o 0 = some (o + 1) ∧ rdR w o 1 = some (o + 2) ∧ rdR w o 3 = some (o + 3) ∧ rdR w o 5 = some (o + 4) ∧ rdR w o 7 = some (o + 5) ∧ rdR w o 8 = some (o + 6) ∧ rdR w o 9 = some (o + 7) ∧ rdR w o 10 = some (o + 8) ∧ shp w (o + 1) = (10, 33) ∧ shp w (o + 2) = (10, 198) ∧ shp w (o + 3) = (10, 232) ∧ shp w (o + 4) = (10, 90) ∧ shp w (o + 5) = (10, 4) ∧ shp w (o + 6) = (10, 4) ∧ shp w (o + 7) = (11, 96) ∧ shp w (o + 8) = (11, 24)
theorem x9_7 {w0 w : Wd} {o : Nat} {Q : Option Value → Wd → Prop} (h : MX7 w0 o w) (hQ : ∀ w', MX8 w0 o w' → wp mX9_init 68 [some (.ref o), none] [] w' Q) : wp mX9_init 60 [some (.ref o), none] [] w Q := by
  obtain ⟨s0, n0, l0, c0, z0, r0, r1, r2, r3, r4, r5, r6, p0, p1, p2, p3, p4, p5, p6⟩ := h
  have E : Ea (o + 8) 1 24 w (mk1 w 11 24 24) := Ea.refl.m1 (by omega)
  have v : shp (mk1 w 11 24 24) o = (9, 0) := (E.1 o (by omega)).2.2.2.trans s0
  simp only [eX9_init_60, eX9_init_61, eX9_init_63, eX9_init_65, cont_some, tl_some, tl_none, csum_nil, csum_i, csum_r, csum_j, isc2_i, isc2_r, isc2_n, va_rf_s, vfn_ite, true_and, and_true, true_or, or_true, eq_self, Bool.false_eq_true, not_false_eq_true, not_true_eq_false, if_true, if_false, Nat.reduceAdd, Nat.reduceLeDiff, reduceIte, n0, v, nC_30, nL_30, nC_10, nL_10, nC_11, nL_11, nC_90, nL_90, nC_1024, nL_1024, nC_4, nL_4, nC_24, nL_24, nC_6, nL_6, nC_3, nL_3, nC_135, nL_135, nC_33, nL_33, nC_198, nL_198, nC_232, nL_232, nC_96, nL_96]
  have T : ∀ c, c < o + 8 → c ≠ o → Sc w (wrR (mk1 w 11 24 24) o 10 (some (o + 8))) c := fun c h1 h2 => (E.1 c h1).tr (.wR h2)
  have R : ∀ g, g ≠ 10 → rdR (wrR (mk1 w 11 24 24) o 10 (some (o + 8))) o g = rdR w o g := fun g hg => by rw [rdR_wrR, if_neg (fun q => hg q.2)]; exact (E.1 o (by omega)).2.2.1 g
  have Z : ∀ c, o ≤ c → c < o + 9 → ∀ j, rdI (wrR (mk1 w 11 24 24) o 10 (some (o + 8))) c j = 0 ∧ rdJ (wrR (mk1 w 11 24 24) o 10 (some (o + 8))) c j = 0 := fun c h1 h2 j => by
    rw [rdI_wrR, rdJ_wrR, rdI_mk1, rdJ_mk1, n0]
    by_cases hc : c = o + 8
    · rw [if_pos hc, if_pos hc]; exact ⟨rfl, rfl⟩
    · rw [if_neg hc, if_neg hc]; exact z0 c h1 (by omega) j
  exact hQ _ ⟨v, by rw [nxt_wrR, E.2.1, n0], by rw [slt_wrR, E.2.2, l0], fun c hc => (c0 c hc).tr (T c (by omega) (by omega)), Z, (R 0 (by decide)).trans r0, (R 1 (by decide)).trans r1, (R 3 (by decide)).trans r2, (R 5 (by decide)).trans r3, (R 7 (by decide)).trans r4, (R 8 (by decide)).trans r5, (R 9 (by decide)).trans r6, rdR_wrR.trans (if_pos ⟨rfl, rfl⟩), (T _ (by omega) (by omega)).2.2.2.trans p0, (T _ (by omega) (by omega)).2.2.2.trans p1, (T _ (by omega) (by omega)).2.2.2.trans p2, (T _ (by omega) (by omega)).2.2.2.trans p3, (T _ (by omega) (by omega)).2.2.2.trans p4, (T _ (by omega) (by omega)).2.2.2.trans p5, (T _ (by omega) (by omega)).2.2.2.trans p6, by rw [shp_wrR, shp_mk1, n0, if_pos rfl]⟩
def MX9 (w0 : Wd) (o : Nat) (w : Wd) : Prop := shp w o = (9, 0) ∧ nxt w = o + 10 ∧ slt w = slt w0 + 691 ∧ (∀ c, c < o → Sc w0 w c) ∧ (∀ c, o ≤ c → c < o + 10 → ∀ j, rdI w c j = 0 ∧ rdJ w c j = 0) ∧ rdR w o 0 = some (o + 1) ∧ rdR w o 1 = some (o + 2) ∧ rdR w o 3 = some (o + 3) ∧ rdR w o 5 = some (o + 4) ∧ rdR w o 7 = some (o + 5) ∧ rdR w o 8 = some (o + 6) ∧ rdR w o 9 = some (o + 7) ∧ rdR w o 10 = some (o + 8) ∧ rdR w o 19 = some (o + 9) ∧ shp w (o + 1) = (10, 33) ∧ shp w (o + 2) = (10, 198) ∧ shp w (o + 3) = (10, 232) ∧ shp w (o + 4) = (10, 90) ∧ shp w (o + 5) = (10, 4) ∧ shp w (o + 6) = (10, 4) ∧ shp w (o + 7) = (11, 96) ∧ shp w (o + 8) = (11, 24) ∧ shp w (o + 9) = (10, 10)
theorem x9_8 {w0 w : Wd} {o : Nat} {Q : Option Value → Wd → Prop} (h : MX8 w0 o w) (hQ : ∀ w', MX9 w0 o w' → wp mX9_init 76 [some (.ref o), none] [] w' Q) : wp mX9_init 68 [some (.ref o), none] [] w Q := by
  obtain ⟨s0, n0, l0, c0, z0, r0, r1, r2, r3, r4, r5, r6, r7, p0, p1, p2, p3, p4, p5, p6, p7⟩ := h
  have E : Ea (o + 9) 1 10 w (mk1 w 10 10 10) := Ea.refl.m1 (by omega)
  have v : shp (mk1 w 10 10 10) o = (9, 0) := (E.1 o (by omega)).2.2.2.trans s0
  simp only [eX9_init_68, eX9_init_69, eX9_init_71, eX9_init_73, cont_some, tl_some, tl_none, csum_nil, csum_i, csum_r, csum_j, isc2_i, isc2_r, isc2_n, va_rf_s, vfn_ite, true_and, and_true, true_or, or_true, eq_self, Bool.false_eq_true, not_false_eq_true, not_true_eq_false, if_true, if_false, Nat.reduceAdd, Nat.reduceLeDiff, reduceIte, n0, v, nC_30, nL_30, nC_10, nL_10, nC_11, nL_11, nC_90, nL_90, nC_1024, nL_1024, nC_4, nL_4, nC_24, nL_24, nC_6, nL_6, nC_3, nL_3, nC_135, nL_135, nC_33, nL_33, nC_198, nL_198, nC_232, nL_232, nC_96, nL_96]
  have T : ∀ c, c < o + 9 → c ≠ o → Sc w (wrR (mk1 w 10 10 10) o 19 (some (o + 9))) c := fun c h1 h2 => (E.1 c h1).tr (.wR h2)
  have R : ∀ g, g ≠ 19 → rdR (wrR (mk1 w 10 10 10) o 19 (some (o + 9))) o g = rdR w o g := fun g hg => by rw [rdR_wrR, if_neg (fun q => hg q.2)]; exact (E.1 o (by omega)).2.2.1 g
  have Z : ∀ c, o ≤ c → c < o + 10 → ∀ j, rdI (wrR (mk1 w 10 10 10) o 19 (some (o + 9))) c j = 0 ∧ rdJ (wrR (mk1 w 10 10 10) o 19 (some (o + 9))) c j = 0 := fun c h1 h2 j => by
    rw [rdI_wrR, rdJ_wrR, rdI_mk1, rdJ_mk1, n0]
    by_cases hc : c = o + 9
    · rw [if_pos hc, if_pos hc]; exact ⟨rfl, rfl⟩
    · rw [if_neg hc, if_neg hc]; exact z0 c h1 (by omega) j
  exact hQ _ ⟨v, by rw [nxt_wrR, E.2.1, n0], by rw [slt_wrR, E.2.2, l0], fun c hc => (c0 c hc).tr (T c (by omega) (by omega)), Z, (R 0 (by decide)).trans r0, (R 1 (by decide)).trans r1, (R 3 (by decide)).trans r2, (R 5 (by decide)).trans r3, (R 7 (by decide)).trans r4, (R 8 (by decide)).trans r5, (R 9 (by decide)).trans r6, (R 10 (by decide)).trans r7, rdR_wrR.trans (if_pos ⟨rfl, rfl⟩), (T _ (by omega) (by omega)).2.2.2.trans p0, (T _ (by omega) (by omega)).2.2.2.trans p1, (T _ (by omega) (by omega)).2.2.2.trans p2, (T _ (by omega) (by omega)).2.2.2.trans p3, (T _ (by omega) (by omega)).2.2.2.trans p4, (T _ (by omega) (by omega)).2.2.2.trans p5, (T _ (by omega) (by omega)).2.2.2.trans p6, (T _ (by omega) (by omega)).2.2.2.trans p7, by rw [shp_wrR, shp_mk1, n0, if_pos rfl]⟩
def MX10 (w0 : Wd) (o : Nat) (w : Wd) : Prop := shp w o = (9, 0) ∧ nxt w = o + 11 ∧ slt w = slt w0 + 701 ∧ (∀ c, c < o → Sc w0 w c) ∧ (∀ c, o ≤ c → c < o + 11 → ∀ j, rdI w c j = 0 ∧ rdJ w c j = 0) ∧ rdR w o 0 = some (o + 1) ∧ rdR w o 1 = some (o + 2) ∧ rdR w o 3 = some (o + 3) ∧ rdR w o 5 = some (o + 4) ∧ rdR w o 7 = some (o + 5) ∧ rdR w o 8 = some (o + 6) ∧ rdR w o 9 = some (o + 7) ∧ rdR w o 10 = some (o + 8) ∧ rdR w o 19 = some (o + 9) ∧ rdR w o 20 = some (o + 10) ∧ shp w (o + 1) = (10, 33) ∧ shp w (o + 2) = (10, 198) ∧ shp w (o + 3) = (10, 232) ∧ shp w (o + 4) = (10, 90) ∧ shp w (o + 5) = (10, 4) ∧ shp w (o + 6) = (10, 4) ∧ shp w (o + 7) = (11, 96) ∧ shp w (o + 8) = (11, 24) ∧ shp w (o + 9) = (10, 10) ∧ shp w (o + 10) = (10, 10)
theorem x9_9 {w0 w : Wd} {o : Nat} {Q : Option Value → Wd → Prop} (h : MX9 w0 o w) (hQ : ∀ w', MX10 w0 o w' → wp mX9_init 84 [some (.ref o), none] [] w' Q) : wp mX9_init 76 [some (.ref o), none] [] w Q := by
  obtain ⟨s0, n0, l0, c0, z0, r0, r1, r2, r3, r4, r5, r6, r7, r8, p0, p1, p2, p3, p4, p5, p6, p7, p8⟩ := h
  have E : Ea (o + 10) 1 10 w (mk1 w 10 10 10) := Ea.refl.m1 (by omega)
  have v : shp (mk1 w 10 10 10) o = (9, 0) := (E.1 o (by omega)).2.2.2.trans s0
  simp only [eX9_init_76, eX9_init_77, eX9_init_79, eX9_init_81, cont_some, tl_some, tl_none, csum_nil, csum_i, csum_r, csum_j, isc2_i, isc2_r, isc2_n, va_rf_s, vfn_ite, true_and, and_true, true_or, or_true, eq_self, Bool.false_eq_true, not_false_eq_true, not_true_eq_false, if_true, if_false, Nat.reduceAdd, Nat.reduceLeDiff, reduceIte, n0, v, nC_30, nL_30, nC_10, nL_10, nC_11, nL_11, nC_90, nL_90, nC_1024, nL_1024, nC_4, nL_4, nC_24, nL_24, nC_6, nL_6, nC_3, nL_3, nC_135, nL_135, nC_33, nL_33, nC_198, nL_198, nC_232, nL_232, nC_96, nL_96]
  have T : ∀ c, c < o + 10 → c ≠ o → Sc w (wrR (mk1 w 10 10 10) o 20 (some (o + 10))) c := fun c h1 h2 => (E.1 c h1).tr (.wR h2)
  have R : ∀ g, g ≠ 20 → rdR (wrR (mk1 w 10 10 10) o 20 (some (o + 10))) o g = rdR w o g := fun g hg => by rw [rdR_wrR, if_neg (fun q => hg q.2)]; exact (E.1 o (by omega)).2.2.1 g
  have Z : ∀ c, o ≤ c → c < o + 11 → ∀ j, rdI (wrR (mk1 w 10 10 10) o 20 (some (o + 10))) c j = 0 ∧ rdJ (wrR (mk1 w 10 10 10) o 20 (some (o + 10))) c j = 0 := fun c h1 h2 j => by
    rw [rdI_wrR, rdJ_wrR, rdI_mk1, rdJ_mk1, n0]
    by_cases hc : c = o + 10
    · rw [if_pos hc, if_pos hc]; exact ⟨rfl, rfl⟩
    · rw [if_neg hc, if_neg hc]; exact z0 c h1 (by omega) j
  exact hQ _ ⟨v, by rw [nxt_wrR, E.2.1, n0], by rw [slt_wrR, E.2.2, l0], fun c hc => (c0 c hc).tr (T c (by omega) (by omega)), Z, (R 0 (by decide)).trans r0, (R 1 (by decide)).trans r1, (R 3 (by decide)).trans r2, (R 5 (by decide)).trans r3, (R 7 (by decide)).trans r4, (R 8 (by decide)).trans r5, (R 9 (by decide)).trans r6, (R 10 (by decide)).trans r7, (R 19 (by decide)).trans r8, rdR_wrR.trans (if_pos ⟨rfl, rfl⟩), (T _ (by omega) (by omega)).2.2.2.trans p0, (T _ (by omega) (by omega)).2.2.2.trans p1, (T _ (by omega) (by omega)).2.2.2.trans p2, (T _ (by omega) (by omega)).2.2.2.trans p3, (T _ (by omega) (by omega)).2.2.2.trans p4, (T _ (by omega) (by omega)).2.2.2.trans p5, (T _ (by omega) (by omega)).2.2.2.trans p6, (T _ (by omega) (by omega)).2.2.2.trans p7, (T _ (by omega) (by omega)).2.2.2.trans p8, by rw [shp_wrR, shp_mk1, n0, if_pos rfl]⟩
def MX11 (w0 : Wd) (o : Nat) (w : Wd) : Prop := shp w o = (9, 0) ∧ nxt w = o + 12 ∧ slt w = slt w0 + 712 ∧ (∀ c, c < o → Sc w0 w c) ∧ (∀ c, o ≤ c → c < o + 12 → ∀ j, rdI w c j = 0 ∧ rdJ w c j = 0) ∧ rdR w o 0 = some (o + 1) ∧ rdR w o 1 = some (o + 2) ∧ rdR w o 3 = some (o + 3) ∧ rdR w o 5 = some (o + 4) ∧ rdR w o 7 = some (o + 5) ∧ rdR w o 8 = some (o + 6) ∧ rdR w o 9 = some (o + 7) ∧ rdR w o 10 = some (o + 8) ∧ rdR w o 19 = some (o + 9) ∧ rdR w o 20 = some (o + 10) ∧ rdR w o 22 = some (o + 11) ∧ shp w (o + 1) = (10, 33) ∧ shp w (o + 2) = (10, 198) ∧ shp w (o + 3) = (10, 232) ∧ shp w (o + 4) = (10, 90) ∧ shp w (o + 5) = (10, 4) ∧ shp w (o + 6) = (10, 4) ∧ shp w (o + 7) = (11, 96) ∧ shp w (o + 8) = (11, 24) ∧ shp w (o + 9) = (10, 10) ∧ shp w (o + 10) = (10, 10) ∧ shp w (o + 11) = (10, 11)
theorem x9_10 {w0 w : Wd} {o : Nat} {Q : Option Value → Wd → Prop} (h : MX10 w0 o w) (hQ : ∀ w', MX11 w0 o w' → wp mX9_init 92 [some (.ref o), none] [] w' Q) : wp mX9_init 84 [some (.ref o), none] [] w Q := by
  obtain ⟨s0, n0, l0, c0, z0, r0, r1, r2, r3, r4, r5, r6, r7, r8, r9, p0, p1, p2, p3, p4, p5, p6, p7, p8, p9⟩ := h
  have E : Ea (o + 11) 1 11 w (mk1 w 10 11 11) := Ea.refl.m1 (by omega)
  have v : shp (mk1 w 10 11 11) o = (9, 0) := (E.1 o (by omega)).2.2.2.trans s0
  simp only [eX9_init_84, eX9_init_85, eX9_init_87, eX9_init_89, cont_some, tl_some, tl_none, csum_nil, csum_i, csum_r, csum_j, isc2_i, isc2_r, isc2_n, va_rf_s, vfn_ite, true_and, and_true, true_or, or_true, eq_self, Bool.false_eq_true, not_false_eq_true, not_true_eq_false, if_true, if_false, Nat.reduceAdd, Nat.reduceLeDiff, reduceIte, n0, v, nC_30, nL_30, nC_10, nL_10, nC_11, nL_11, nC_90, nL_90, nC_1024, nL_1024, nC_4, nL_4, nC_24, nL_24, nC_6, nL_6, nC_3, nL_3, nC_135, nL_135, nC_33, nL_33, nC_198, nL_198, nC_232, nL_232, nC_96, nL_96]
  have T : ∀ c, c < o + 11 → c ≠ o → Sc w (wrR (mk1 w 10 11 11) o 22 (some (o + 11))) c := fun c h1 h2 => (E.1 c h1).tr (.wR h2)
  have R : ∀ g, g ≠ 22 → rdR (wrR (mk1 w 10 11 11) o 22 (some (o + 11))) o g = rdR w o g := fun g hg => by rw [rdR_wrR, if_neg (fun q => hg q.2)]; exact (E.1 o (by omega)).2.2.1 g
  have Z : ∀ c, o ≤ c → c < o + 12 → ∀ j, rdI (wrR (mk1 w 10 11 11) o 22 (some (o + 11))) c j = 0 ∧ rdJ (wrR (mk1 w 10 11 11) o 22 (some (o + 11))) c j = 0 := fun c h1 h2 j => by
    rw [rdI_wrR, rdJ_wrR, rdI_mk1, rdJ_mk1, n0]
    by_cases hc : c = o + 11
    · rw [if_pos hc, if_pos hc]; exact ⟨rfl, rfl⟩
    · rw [if_neg hc, if_neg hc]; exact z0 c h1 (by omega) j
  exact hQ _ ⟨v, by rw [nxt_wrR, E.2.1, n0], by rw [slt_wrR, E.2.2, l0], fun c hc => (c0 c hc).tr (T c (by omega) (by omega)), Z, (R 0 (by decide)).trans r0, (R 1 (by decide)).trans r1, (R 3 (by decide)).trans r2, (R 5 (by decide)).trans r3, (R 7 (by decide)).trans r4, (R 8 (by decide)).trans r5, (R 9 (by decide)).trans r6, (R 10 (by decide)).trans r7, (R 19 (by decide)).trans r8, (R 20 (by decide)).trans r9, rdR_wrR.trans (if_pos ⟨rfl, rfl⟩), (T _ (by omega) (by omega)).2.2.2.trans p0, (T _ (by omega) (by omega)).2.2.2.trans p1, (T _ (by omega) (by omega)).2.2.2.trans p2, (T _ (by omega) (by omega)).2.2.2.trans p3, (T _ (by omega) (by omega)).2.2.2.trans p4, (T _ (by omega) (by omega)).2.2.2.trans p5, (T _ (by omega) (by omega)).2.2.2.trans p6, (T _ (by omega) (by omega)).2.2.2.trans p7, (T _ (by omega) (by omega)).2.2.2.trans p8, (T _ (by omega) (by omega)).2.2.2.trans p9, by rw [shp_wrR, shp_mk1, n0, if_pos rfl]⟩
def MX12 (w0 : Wd) (o : Nat) (w : Wd) : Prop := shp w o = (9, 0) ∧ nxt w = o + 13 ∧ slt w = slt w0 + 742 ∧ (∀ c, c < o → Sc w0 w c) ∧ (∀ c, o ≤ c → c < o + 13 → ∀ j, rdI w c j = 0 ∧ rdJ w c j = 0) ∧ rdR w o 0 = some (o + 1) ∧ rdR w o 1 = some (o + 2) ∧ rdR w o 3 = some (o + 3) ∧ rdR w o 5 = some (o + 4) ∧ rdR w o 7 = some (o + 5) ∧ rdR w o 8 = some (o + 6) ∧ rdR w o 9 = some (o + 7) ∧ rdR w o 10 = some (o + 8) ∧ rdR w o 19 = some (o + 9) ∧ rdR w o 20 = some (o + 10) ∧ rdR w o 22 = some (o + 11) ∧ rdR w o 24 = some (o + 12) ∧ shp w (o + 1) = (10, 33) ∧ shp w (o + 2) = (10, 198) ∧ shp w (o + 3) = (10, 232) ∧ shp w (o + 4) = (10, 90) ∧ shp w (o + 5) = (10, 4) ∧ shp w (o + 6) = (10, 4) ∧ shp w (o + 7) = (11, 96) ∧ shp w (o + 8) = (11, 24) ∧ shp w (o + 9) = (10, 10) ∧ shp w (o + 10) = (10, 10) ∧ shp w (o + 11) = (10, 11) ∧ shp w (o + 12) = (10, 30)
theorem x9_11 {w0 w : Wd} {o : Nat} {Q : Option Value → Wd → Prop} (h : MX11 w0 o w) (hQ : ∀ w', MX12 w0 o w' → wp mX9_init 100 [some (.ref o), none] [] w' Q) : wp mX9_init 92 [some (.ref o), none] [] w Q := by
  obtain ⟨s0, n0, l0, c0, z0, r0, r1, r2, r3, r4, r5, r6, r7, r8, r9, r10, p0, p1, p2, p3, p4, p5, p6, p7, p8, p9, p10⟩ := h
  have E : Ea (o + 12) 1 30 w (mk1 w 10 30 30) := Ea.refl.m1 (by omega)
  have v : shp (mk1 w 10 30 30) o = (9, 0) := (E.1 o (by omega)).2.2.2.trans s0
  simp only [eX9_init_92, eX9_init_93, eX9_init_95, eX9_init_97, cont_some, tl_some, tl_none, csum_nil, csum_i, csum_r, csum_j, isc2_i, isc2_r, isc2_n, va_rf_s, vfn_ite, true_and, and_true, true_or, or_true, eq_self, Bool.false_eq_true, not_false_eq_true, not_true_eq_false, if_true, if_false, Nat.reduceAdd, Nat.reduceLeDiff, reduceIte, n0, v, nC_30, nL_30, nC_10, nL_10, nC_11, nL_11, nC_90, nL_90, nC_1024, nL_1024, nC_4, nL_4, nC_24, nL_24, nC_6, nL_6, nC_3, nL_3, nC_135, nL_135, nC_33, nL_33, nC_198, nL_198, nC_232, nL_232, nC_96, nL_96]
  have T : ∀ c, c < o + 12 → c ≠ o → Sc w (wrR (mk1 w 10 30 30) o 24 (some (o + 12))) c := fun c h1 h2 => (E.1 c h1).tr (.wR h2)
  have R : ∀ g, g ≠ 24 → rdR (wrR (mk1 w 10 30 30) o 24 (some (o + 12))) o g = rdR w o g := fun g hg => by rw [rdR_wrR, if_neg (fun q => hg q.2)]; exact (E.1 o (by omega)).2.2.1 g
  have Z : ∀ c, o ≤ c → c < o + 13 → ∀ j, rdI (wrR (mk1 w 10 30 30) o 24 (some (o + 12))) c j = 0 ∧ rdJ (wrR (mk1 w 10 30 30) o 24 (some (o + 12))) c j = 0 := fun c h1 h2 j => by
    rw [rdI_wrR, rdJ_wrR, rdI_mk1, rdJ_mk1, n0]
    by_cases hc : c = o + 12
    · rw [if_pos hc, if_pos hc]; exact ⟨rfl, rfl⟩
    · rw [if_neg hc, if_neg hc]; exact z0 c h1 (by omega) j
  exact hQ _ ⟨v, by rw [nxt_wrR, E.2.1, n0], by rw [slt_wrR, E.2.2, l0], fun c hc => (c0 c hc).tr (T c (by omega) (by omega)), Z, (R 0 (by decide)).trans r0, (R 1 (by decide)).trans r1, (R 3 (by decide)).trans r2, (R 5 (by decide)).trans r3, (R 7 (by decide)).trans r4, (R 8 (by decide)).trans r5, (R 9 (by decide)).trans r6, (R 10 (by decide)).trans r7, (R 19 (by decide)).trans r8, (R 20 (by decide)).trans r9, (R 22 (by decide)).trans r10, rdR_wrR.trans (if_pos ⟨rfl, rfl⟩), (T _ (by omega) (by omega)).2.2.2.trans p0, (T _ (by omega) (by omega)).2.2.2.trans p1, (T _ (by omega) (by omega)).2.2.2.trans p2, (T _ (by omega) (by omega)).2.2.2.trans p3, (T _ (by omega) (by omega)).2.2.2.trans p4, (T _ (by omega) (by omega)).2.2.2.trans p5, (T _ (by omega) (by omega)).2.2.2.trans p6, (T _ (by omega) (by omega)).2.2.2.trans p7, (T _ (by omega) (by omega)).2.2.2.trans p8, (T _ (by omega) (by omega)).2.2.2.trans p9, (T _ (by omega) (by omega)).2.2.2.trans p10, by rw [shp_wrR, shp_mk1, n0, if_pos rfl]⟩
def mdS0 (w : Wd) (o : Nat) : Prop := isMd w o ∧ (∀ j, rdI w o j = 0) ∧ rdI w (o + 1) 0 = 0 ∧ rdI w (o + 1) 1 = 10 ∧ rdI w (o + 1) 2 = 1 ∧ (∀ i, i < 4 → rdI w (o + 6) i = -4) ∧ ∀ i, rdJ w (o + 7) i = 0
theorem l_X9_init {o : Nat} {w0 : Wd} {Q : Option Value → Wd → Prop} (hQ : ∀ u, Ea o 12 742 w0 u → mdS0 u o → Q none u) : ∀ (d k : Nat) (w : Wd), k + d = 4 → isMd w o → (∀ j, rdI w o j = 0) → rdI w (o + 1) 0 = 0 → rdI w (o + 1) 1 = 10 → rdI w (o + 1) 2 = 1 → (∀ i, i < k → rdI w (o + 6) i = -4) → (∀ i, rdJ w (o + 7) i = 0) → Ea o 12 742 w0 w → wp mX9_init 117 [some (.ref o), some (.int (nI k))] [] w Q := by
  intro d
  induction d with
  | zero =>
    intro k w hk hp h1 h2 h3 h4 h5 h7 he
    have : k = 4 := by omega
    subst this
    have h6 : (nI 4 < (4 : Int32)) = False := eq_false (by decide)
    simp only [eX9_init_117, eX9_init_118, eX9_init_119, eX9_init_136, cont_some, tl_some, tl_none, csum_nil, csum_i, csum_r, csum_j, isc2_i, isc2_r, isc2_n, va_rf_s, vfn_ite, true_and, and_true, true_or, or_true, eq_self, Bool.false_eq_true, not_false_eq_true, not_true_eq_false, if_true, if_false, Nat.reduceAdd, Nat.reduceLeDiff, reduceIte, h6]
    exact hQ w he ⟨hp, h1, h2, h3, h4, h5, h7⟩
  | succ d ih =>
    intro k w hk hp h1 h2 h3 h4 h5 h7 he
    have h6 : (nI k < (4 : Int32)) = True := eq_true (by rw [show (4 : Int32) = nI 4 from rfl]; exact (nI_ltj (by omega) (by omega)).mpr (by omega))
    have hc : (nI k).toNatClampNeg = k := nI_clamp (by omega)
    have hi : inA (nI k) 4 = true := inA_nI (by omega) (by omega)
    simp only [eX9_init_117, eX9_init_118, eX9_init_119, eX9_init_122, eX9_init_123, eX9_init_126, eX9_init_127, eX9_init_129, eX9_init_130, cont_some, tl_some, tl_none, csum_nil, csum_i, csum_r, csum_j, isc2_i, isc2_r, isc2_n, va_rf_s, vfn_ite, true_and, and_true, true_or, or_true, eq_self, Bool.false_eq_true, not_false_eq_true, not_true_eq_false, if_true, if_false, Nat.reduceAdd, Nat.reduceLeDiff, reduceIte, h6, hp.1, hp.2.1, hp.2.2.1, hp.2.2.2.1, hp.2.2.2.2.1, hp.2.2.2.2.2.1, hp.2.2.2.2.2.2.1, hp.2.2.2.2.2.2.2.1, hp.2.2.2.2.2.2.2.2.1, hp.2.2.2.2.2.2.2.2.2.1, hp.2.2.2.2.2.2.2.2.2.2.1, hp.2.2.2.2.2.2.2.2.2.2.2.1, hp.2.2.2.2.2.2.2.2.2.2.2.2.1, hp.2.2.2.2.2.2.2.2.2.2.2.2.2.1, hp.2.2.2.2.2.2.2.2.2.2.2.2.2.2.1, hp.2.2.2.2.2.2.2.2.2.2.2.2.2.2.2.1, hp.2.2.2.2.2.2.2.2.2.2.2.2.2.2.2.2.1, hp.2.2.2.2.2.2.2.2.2.2.2.2.2.2.2.2.2.1, hp.2.2.2.2.2.2.2.2.2.2.2.2.2.2.2.2.2.2.1, hp.2.2.2.2.2.2.2.2.2.2.2.2.2.2.2.2.2.2.2.1, hp.2.2.2.2.2.2.2.2.2.2.2.2.2.2.2.2.2.2.2.2.1, hp.2.2.2.2.2.2.2.2.2.2.2.2.2.2.2.2.2.2.2.2.2.1, hp.2.2.2.2.2.2.2.2.2.2.2.2.2.2.2.2.2.2.2.2.2.2.1, hp.2.2.2.2.2.2.2.2.2.2.2.2.2.2.2.2.2.2.2.2.2.2.2.1, hp.2.2.2.2.2.2.2.2.2.2.2.2.2.2.2.2.2.2.2.2.2.2.2.2, hc, hi]
    rw [show nI k + 1 = nI (k + 1) from nI_a k 1, eX9_init_133]
    refine ih (k + 1) _ (by omega) ?_ (fun j => ?_) ?_ ?_ ?_ (fun i hi => ?_) (fun i => by rw [rdJ_wrI]; exact h7 i) (he.wI (by omega))
    · unfold isMd
      simp only [shp_wrI, rdR_wrI]
      exact hp
    · rw [rdI_wrI, if_neg (by omega)]; exact h1 j
    · rw [rdI_wrI, if_neg (by omega)]; exact h2
    · rw [rdI_wrI, if_neg (by omega)]; exact h3
    · rw [rdI_wrI, if_neg (by omega)]; exact h4
    · rw [rdI_wrI]
      by_cases hik : i = k
      · rw [if_pos ⟨rfl, hik⟩]
      · rw [if_neg (by omega)]; exact h5 i (by omega)
theorem s_X9_init {o : Nat} {w : Wd} (s0 : shp w o = (9, 0)) (n0 : nxt w = o + 1) (z0 : ∀ j, rdI w o j = 0 ∧ rdJ w o j = 0) : ∃ u, fX9_init [.ref o] w = some (none, u) ∧ Ea o 12 742 w u ∧ mdS0 u o := by
  have hh : wp mX9_init 0 [some (.ref o), none] [] w (fun r u => r = none ∧ Ea o 12 742 w u ∧ mdS0 u o) := by
    simp only [eX9_init_0, eX9_init_1, cont_some, tl_some, tl_none, csum_nil, csum_i, csum_r, csum_j, isc2_i, isc2_r, isc2_n, va_rf_s, vfn_ite, true_and, and_true, true_or, or_true, eq_self, Bool.false_eq_true, not_false_eq_true, not_true_eq_false, if_true, if_false, Nat.reduceAdd, Nat.reduceLeDiff, reduceIte, obj_eq]
    refine x9_0 (w0 := w) ⟨s0, n0, rfl, fun c _ => Sc.rfl', fun c h1 h2 j => by rw [show c = o by omega]; exact z0 j⟩ (fun v1 h => x9_1 h (fun v2 h => x9_2 h (fun v3 h => x9_3 h (fun v4 h => x9_4 h (fun v5 h => x9_5 h (fun v6 h => x9_6 h (fun v7 h => x9_7 h (fun v8 h => x9_8 h (fun v9 h => x9_9 h (fun v10 h => x9_10 h (fun v11 h => x9_11 h (fun v12 h => ?_))))))))))))
    obtain ⟨s0, n12, l0, c0, z0, r0, r1, r2, r3, r4, r5, r6, r7, r8, r9, r10, r11, p0, p1, p2, p3, p4, p5, p6, p7, p8, p9, p10, p11⟩ := h
    have hp : isMd v12 o := ⟨s0, r0, r1, r2, r3, r4, r5, r6, r7, r8, r9, r10, r11, p0, p1, p2, p3, p4, p5, p6, p7, p8, p9, p10, p11⟩
    have i1 : inA (1 : Int32) 33 = true := by decide
    have i2 : inA (2 : Int32) 33 = true := by decide
    have c1 : (1 : Int32).toNatClampNeg = 1 := by decide
    have c2 : (2 : Int32).toNatClampNeg = 2 := by decide
    have hq : isMd (wrI v12 (o + 1) 1 10) o := by unfold isMd; simp only [shp_wrI, rdR_wrI]; exact hp
    simp only [eX9_init_100, eX9_init_101, eX9_init_104, eX9_init_105, eX9_init_107, eX9_init_108, eX9_init_109, eX9_init_112, eX9_init_113, eX9_init_114, eX9_init_115, eX9_init_116, cont_some, tl_some, tl_none, csum_nil, csum_i, csum_r, csum_j, isc2_i, isc2_r, isc2_n, va_rf_s, vfn_ite, true_and, and_true, true_or, or_true, eq_self, Bool.false_eq_true, not_false_eq_true, not_true_eq_false, if_true, if_false, Nat.reduceAdd, Nat.reduceLeDiff, reduceIte, hp.1, hp.2.1, hp.2.2.1, hp.2.2.2.1, hp.2.2.2.2.1, hp.2.2.2.2.2.1, hp.2.2.2.2.2.2.1, hp.2.2.2.2.2.2.2.1, hp.2.2.2.2.2.2.2.2.1, hp.2.2.2.2.2.2.2.2.2.1, hp.2.2.2.2.2.2.2.2.2.2.1, hp.2.2.2.2.2.2.2.2.2.2.2.1, hp.2.2.2.2.2.2.2.2.2.2.2.2.1, hp.2.2.2.2.2.2.2.2.2.2.2.2.2.1, hp.2.2.2.2.2.2.2.2.2.2.2.2.2.2.1, hp.2.2.2.2.2.2.2.2.2.2.2.2.2.2.2.1, hp.2.2.2.2.2.2.2.2.2.2.2.2.2.2.2.2.1, hp.2.2.2.2.2.2.2.2.2.2.2.2.2.2.2.2.2.1, hp.2.2.2.2.2.2.2.2.2.2.2.2.2.2.2.2.2.2.1, hp.2.2.2.2.2.2.2.2.2.2.2.2.2.2.2.2.2.2.2.1, hp.2.2.2.2.2.2.2.2.2.2.2.2.2.2.2.2.2.2.2.2.1, hp.2.2.2.2.2.2.2.2.2.2.2.2.2.2.2.2.2.2.2.2.2.1, hp.2.2.2.2.2.2.2.2.2.2.2.2.2.2.2.2.2.2.2.2.2.2.1, hp.2.2.2.2.2.2.2.2.2.2.2.2.2.2.2.2.2.2.2.2.2.2.2.1, hp.2.2.2.2.2.2.2.2.2.2.2.2.2.2.2.2.2.2.2.2.2.2.2.2, hq.1, hq.2.1, hq.2.2.1, hq.2.2.2.1, hq.2.2.2.2.1, hq.2.2.2.2.2.1, hq.2.2.2.2.2.2.1, hq.2.2.2.2.2.2.2.1, hq.2.2.2.2.2.2.2.2.1, hq.2.2.2.2.2.2.2.2.2.1, hq.2.2.2.2.2.2.2.2.2.2.1, hq.2.2.2.2.2.2.2.2.2.2.2.1, hq.2.2.2.2.2.2.2.2.2.2.2.2.1, hq.2.2.2.2.2.2.2.2.2.2.2.2.2.1, hq.2.2.2.2.2.2.2.2.2.2.2.2.2.2.1, hq.2.2.2.2.2.2.2.2.2.2.2.2.2.2.2.1, hq.2.2.2.2.2.2.2.2.2.2.2.2.2.2.2.2.1, hq.2.2.2.2.2.2.2.2.2.2.2.2.2.2.2.2.2.1, hq.2.2.2.2.2.2.2.2.2.2.2.2.2.2.2.2.2.2.1, hq.2.2.2.2.2.2.2.2.2.2.2.2.2.2.2.2.2.2.2.1, hq.2.2.2.2.2.2.2.2.2.2.2.2.2.2.2.2.2.2.2.2.1, hq.2.2.2.2.2.2.2.2.2.2.2.2.2.2.2.2.2.2.2.2.2.1, hq.2.2.2.2.2.2.2.2.2.2.2.2.2.2.2.2.2.2.2.2.2.2.1, hq.2.2.2.2.2.2.2.2.2.2.2.2.2.2.2.2.2.2.2.2.2.2.2.1, hq.2.2.2.2.2.2.2.2.2.2.2.2.2.2.2.2.2.2.2.2.2.2.2.2, i1, i2, c1, c2]
    refine l_X9_init (o := o) (w0 := w) (Q := fun r u => r = none ∧ Ea o 12 742 w u ∧ mdS0 u o) (fun u h1 h2 => ⟨rfl, h1, h2⟩) 4 0 _ rfl ?_ (fun j => ?_) ?_ ?_ ?_ (fun i hi => absurd hi (by omega)) (fun i => ?_) ?_
    · unfold isMd
      simp only [shp_wrI, rdR_wrI]
      exact hp
    · rw [rdI_wrI, if_neg (by omega), rdI_wrI, if_neg (by omega)]; exact (z0 o (by omega) (by omega) j).1
    · rw [rdI_wrI, if_neg (by omega), rdI_wrI, if_neg (by omega)]; exact (z0 _ (by omega) (by omega) 0).1
    · rw [rdI_wrI, if_neg (by omega), rdI_wrI, if_pos ⟨rfl, rfl⟩]
    · rw [rdI_wrI, if_pos ⟨rfl, rfl⟩]
    · rw [rdJ_wrI, rdJ_wrI]; exact (z0 _ (by omega) (by omega) i).2
    · exact (Ea.wI (Ea.wI ⟨c0, by rw [n12, n0], l0⟩ (by omega)) (by omega))
  obtain ⟨r, u, h1, rfl, h2, h3⟩ := sem_wp (nL := 2) (as := [.ref o]) (Nat.le_of_ble_eq_true rfl) hh
  exact ⟨u, h1, h2, h3⟩
