/-! what a call does to a scene -/
def addS (S : Sst) (x y z : Int32) : Sst := (S.1 + 1, fun i => if i = 3 * S.1 then x else if i = 3 * S.1 + 1 then y else if i = 3 * S.1 + 2 then z else S.2.1 i, S.2.2)
def rmS (S : Sst) (k : Nat) : Sst := (S.1 - 1, fun i => if i < 3 * k then S.2.1 i else S.2.1 (i + 3), S.2.2)
def mvS (S : Sst) (k j : Nat) (v : Int32) : Sst := (S.1, fun i => if i = 3 * k + j then v else S.2.1 i, S.2.2)
def tolS (S : Sst) (t : Int32) : Sst := (S.1, S.2.1, t, S.2.2.2)
def drwS (S : Sst) (d : Int32) : Sst := (S.1, S.2.1, S.2.2.1, d)
def doC (c : Cst) (S' : Sst) : Cst := (S', pushM c.2.1, pushS c.2.1 c.2.2.1 c.1, c.2.2.2)
def opAdd (c : Cst) (x y z : Int32) : Int32 × Cst := if (-15 ≤ x ∧ x ≤ 15) ∧ (-15 ≤ y ∧ y ≤ 15) ∧ (-15 ≤ z ∧ z ≤ 15) then (if hasF c.1.2.1 x y z c.1.1 0 = true then (-2, c) else if c.1.1 = 10 then (-3, c) else (nI (c.1.1 + 1), doC c (addS c.1 x y z))) else (-1, c)
def isPt (n : Nat) (k : Int32) : Prop := 0 ≤ k ∧ k ≤ nI n - 1
theorem isPt_iff {n : Nat} {k : Int32} (hn : n ≤ 10) : isPt n k ↔ ∃ j, j < n ∧ k = nI j := by
  unfold isPt
  constructor
  · rintro ⟨h1, h2⟩
    obtain ⟨j, hj, rfl⟩ := nI_of (Int32.not_lt.mpr h1)
    refine ⟨j, ?_, rfl⟩
    cases n with
    | zero =>
      have : nI 0 - 1 = -1 := by decide
      rw [this] at h2
      exact absurd (Int32.le_trans h1 h2) (by decide)
    | succ n =>
      rw [nI_pred] at h2
      have := (nI_leI hj (by omega)).mp h2
      omega
  · rintro ⟨j, hj, rfl⟩
    obtain ⟨n, rfl⟩ : ∃ m, n = m + 1 := ⟨n - 1, by omega⟩
    rw [nI_pred]
    exact ⟨nI_pos' (by omega), nI_le (by omega) (by omega)⟩
theorem ax_iff {a : Int32} : 0 ≤ a ∧ a ≤ 2 ↔ ∃ j, j < 3 ∧ a = nI j := by
  constructor
  · rintro ⟨h1, h2⟩
    obtain ⟨j, hj, rfl⟩ := nI_of2 (M := 2) (n := 2) (by decide) (Int32.not_lt.mpr h1) h2
    exact ⟨j, by omega, rfl⟩
  · rintro ⟨j, hj, rfl⟩
    have : j = 0 ∨ j = 1 ∨ j = 2 := by omega
    rcases this with rfl | rfl | rfl <;> decide
def opOut (c : Cst) (k : Int32) : Int32 × Cst := if 0 ≤ k ∧ k ≤ nI c.1.1 - 1 then (nI (c.1.1 - 1), doC c (rmS c.1 k.toNatClampNeg)) else (-1, c)
def opMove (c : Cst) (k a v : Int32) : Int32 × Cst := if (0 ≤ k ∧ k ≤ nI c.1.1 - 1) ∧ (0 ≤ a ∧ a ≤ 2) ∧ (-15 ≤ v ∧ v ≤ 15) then (if freeB c.1.2.1 c.1.1 k.toNatClampNeg a v = true then (c.1.2.1 (3 * k.toNatClampNeg + a.toNatClampNeg) + 15, doC c (mvS c.1 k.toNatClampNeg a.toNatClampNeg v)) else (-2, c)) else (-1, c)
def opTol (c : Cst) (t : Int32) : Int32 × Cst := if 0 ≤ t ∧ t ≤ 999 then (if c.1.2.2.1 = t then (-2, c) else (c.1.2.2.1, doC c (tolS c.1 t))) else (-1, c)
def opPoint (c : Cst) (k a : Int32) : Int32 := if (0 ≤ k ∧ k ≤ nI c.1.1 - 1) ∧ (0 ≤ a ∧ a ≤ 2) then c.1.2.1 (3 * k.toNatClampNeg + a.toNatClampNeg) + 15 else -1
def opSeed (c : Cst) (v : Int32) : Int32 × Cst := if v < 0 then (-1, c) else (c.1.2.2.2, (drwS c.1 v, c.2))
/-! the reference -/
theorem mdI.fr {w u : Wd} {o : Nat} {i : Img} (h : mdI w o i) (e1 : rdI u o 4 = rdI w o 4) (e2 : ∀ j, rdI u (o + 3) j = rdI w (o + 3) j) : mdI u o i := by
  cases i with
  | none => simp only [mdI] at h ⊢; rw [e1]; exact h
  | some t =>
    obtain ⟨S, m, P⟩ := t
    simp only [mdI] at h ⊢
    obtain ⟨g1, g2, g3, g4, g5⟩ := h
    exact ⟨by rw [e1]; exact g1, g2.congr (fun i _ => e2 _), by rw [e2]; exact g3, g4, fun k hk => (g5 k hk).congr (fun i _ => e2 _)⟩
/-- a deed, then a change of the row s -/
theorem MC.deed {w u : Wd} {o : Nat} {c : Cst} {S' : Sst} (h : MC w o c) (f : FrX (fun a _ => a = o + 1) (deedW w o c.2.1) u) (hS : blkIs (rdI u (o + 1)) S') : MC u o (doC c S') ∧ FrX (Xc o) w u := by
  obtain ⟨h1, h2, h3, h4⟩ := h
  have f1 := deedW_fr (w := w) (o := o) (m := c.2.1)
  have hd := deedW_is h3 h2
  have f2 : FrX (Xc o) w u := (f1.wide (fun a j q => by
    rcases q with ⟨q1, q2⟩ | q
    · exact Or.inl ⟨q1, Or.inl q2⟩
    · exact Or.inr ⟨by omega, by omega⟩)).tr (f.wide (fun a j q => Or.inr ⟨by omega, by omega⟩))
  refine ⟨⟨f.md (f1.md h1), hS, ⟨?_, hd.2.1, fun k hk => (hd.2.2 k hk).congr (fun i _ => f.1 _ _ (by omega))⟩, ?_⟩, f2⟩
  · rw [f.1 _ _ (by omega)]; exact hd.1
  · refine mdI.fr h4 ?_ (fun j => ?_)
    · rw [f.1 _ _ (by omega), f1.1 _ _ (by omega)]
    · rw [f.1 _ _ (by omega), f1.1 _ _ (by omega)]
theorem deed_s {w : Wd} {o m j : Nat} : rdI (deedW w o m) (o + 1) j = rdI w (o + 1) j := deedW_fr.1 _ _ (by omega)
theorem m_add {w : Wd} {o : Nat} {c : Cst} {x y z : Int32} (h : MC w o c) : ∃ u, fX9_add [.ref o, .int x, .int y, .int z] w = some (some (.int (opAdd c x y z).1), u) ∧ MC u o (opAdd c x y z).2 ∧ FrX (Xc o) w u := by
  obtain ⟨S, m, P, i⟩ := c
  obtain ⟨n, C, tol, drw⟩ := S
  have hMC := h
  obtain ⟨h1, h2, h3, h4⟩ := h
  obtain ⟨b1, b2, b3, b4, b5⟩ := h2
  simp only at b1 b2 b3 b4 b5 h3 h4
  have e0 : inA 0 33 = true := by decide
  have c0 : (0 : Int32).toNatClampNeg = 0 := rfl
  have hhas : hasF (fun i => rdI w (o + 1) (3 + i)) x y z n 0 = hasF C x y z n 0 := hasF_congr n 0 (fun i hi => b5 i (by omega))
  have hT := s_isThere (x := x) (y := y) (z := z) h1 b1 b2
  rw [hhas] at hT
  by_cases qb : (-15 ≤ x ∧ x ≤ 15) ∧ (-15 ≤ y ∧ y ≤ 15) ∧ (-15 ≤ z ∧ z ≤ 15)
  · by_cases qh : hasF C x y z n 0 = true
    · refine ⟨w, ?_, by simp only [opAdd, qb, qh, and_self, if_true]; exact hMC, FrX.rf⟩
      simp only [opAdd, qb, qh, and_self, if_true]
      refine sem_eq (Nat.le_of_ble_eq_true rfl) ?_
      show wp mX9_add 0 [some (.ref o), some (.int x), some (.int y), some (.int z), none] [] _ _
      simp only [eX9_add_0, eX9_add_1, eX9_add_2, eX9_add_5, eX9_add_8, eX9_add_11, eX9_add_14, eX9_add_15, eX9_add_16, eX9_add_19, eX9_add_22, eX9_add_25, eX9_add_28, eX9_add_29, eX9_add_30, eX9_add_33, eX9_add_36, eX9_add_39, eX9_add_42, eX9_add_43, eX9_add_44, eX9_add_45, eX9_add_46, eX9_add_47, eX9_add_48, eX9_add_51, eX9_add_54, eX9_add_56, cont_some, tl_some, tl_none, csum_nil, csum_i, csum_r, csum_j, isc2_i, isc2_r, isc2_n, va_rf_s, vfn_ite, true_and, and_true, true_or, or_true, eq_self, Bool.false_eq_true, not_false_eq_true, not_true_eq_false, if_true, if_false, Nat.reduceAdd, Nat.reduceLeDiff, reduceIte, h1.1, h1.2.1, h1.2.2.1, h1.2.2.2.1, h1.2.2.2.2.1, h1.2.2.2.2.2.1, h1.2.2.2.2.2.2.1, h1.2.2.2.2.2.2.2.1, h1.2.2.2.2.2.2.2.2.1, h1.2.2.2.2.2.2.2.2.2.1, h1.2.2.2.2.2.2.2.2.2.2.1, h1.2.2.2.2.2.2.2.2.2.2.2.1, h1.2.2.2.2.2.2.2.2.2.2.2.2.1, h1.2.2.2.2.2.2.2.2.2.2.2.2.2.1, h1.2.2.2.2.2.2.2.2.2.2.2.2.2.2.1, h1.2.2.2.2.2.2.2.2.2.2.2.2.2.2.2.1, h1.2.2.2.2.2.2.2.2.2.2.2.2.2.2.2.2.1, h1.2.2.2.2.2.2.2.2.2.2.2.2.2.2.2.2.2.1, h1.2.2.2.2.2.2.2.2.2.2.2.2.2.2.2.2.2.2.1, h1.2.2.2.2.2.2.2.2.2.2.2.2.2.2.2.2.2.2.2.1, h1.2.2.2.2.2.2.2.2.2.2.2.2.2.2.2.2.2.2.2.2.1, h1.2.2.2.2.2.2.2.2.2.2.2.2.2.2.2.2.2.2.2.2.2.1, h1.2.2.2.2.2.2.2.2.2.2.2.2.2.2.2.2.2.2.2.2.2.2.1, h1.2.2.2.2.2.2.2.2.2.2.2.2.2.2.2.2.2.2.2.2.2.2.2.1, h1.2.2.2.2.2.2.2.2.2.2.2.2.2.2.2.2.2.2.2.2.2.2.2.2, in15, b2i_0, qb, and_self, not_true_eq_false, hT, qh]
    · by_cases q10 : n = 10
      · subst q10
        refine ⟨w, ?_, by simp only [opAdd, qb, qh, and_self, if_true, if_false]; exact hMC, FrX.rf⟩
        have e10 : nI 10 = 10 := rfl
        simp only [opAdd, qb, qh, and_self, if_true, if_false]
        refine sem_eq (Nat.le_of_ble_eq_true rfl) ?_
        show wp mX9_add 0 [some (.ref o), some (.int x), some (.int y), some (.int z), none] [] _ _
        simp only [eX9_add_0, eX9_add_1, eX9_add_2, eX9_add_5, eX9_add_8, eX9_add_11, eX9_add_14, eX9_add_15, eX9_add_16, eX9_add_19, eX9_add_22, eX9_add_25, eX9_add_28, eX9_add_29, eX9_add_30, eX9_add_33, eX9_add_36, eX9_add_39, eX9_add_42, eX9_add_43, eX9_add_44, eX9_add_45, eX9_add_46, eX9_add_47, eX9_add_48, eX9_add_51, eX9_add_54, eX9_add_56, eX9_add_57, eX9_add_58, eX9_add_61, eX9_add_62, eX9_add_63, eX9_add_65, eX9_add_68, eX9_add_70, cont_some, tl_some, tl_none, csum_nil, csum_i, csum_r, csum_j, isc2_i, isc2_r, isc2_n, va_rf_s, vfn_ite, true_and, and_true, true_or, or_true, eq_self, Bool.false_eq_true, not_false_eq_true, not_true_eq_false, if_true, if_false, Nat.reduceAdd, Nat.reduceLeDiff, reduceIte, h1.1, h1.2.1, h1.2.2.1, h1.2.2.2.1, h1.2.2.2.2.1, h1.2.2.2.2.2.1, h1.2.2.2.2.2.2.1, h1.2.2.2.2.2.2.2.1, h1.2.2.2.2.2.2.2.2.1, h1.2.2.2.2.2.2.2.2.2.1, h1.2.2.2.2.2.2.2.2.2.2.1, h1.2.2.2.2.2.2.2.2.2.2.2.1, h1.2.2.2.2.2.2.2.2.2.2.2.2.1, h1.2.2.2.2.2.2.2.2.2.2.2.2.2.1, h1.2.2.2.2.2.2.2.2.2.2.2.2.2.2.1, h1.2.2.2.2.2.2.2.2.2.2.2.2.2.2.2.1, h1.2.2.2.2.2.2.2.2.2.2.2.2.2.2.2.2.1, h1.2.2.2.2.2.2.2.2.2.2.2.2.2.2.2.2.2.1, h1.2.2.2.2.2.2.2.2.2.2.2.2.2.2.2.2.2.2.1, h1.2.2.2.2.2.2.2.2.2.2.2.2.2.2.2.2.2.2.2.1, h1.2.2.2.2.2.2.2.2.2.2.2.2.2.2.2.2.2.2.2.2.1, h1.2.2.2.2.2.2.2.2.2.2.2.2.2.2.2.2.2.2.2.2.2.1, h1.2.2.2.2.2.2.2.2.2.2.2.2.2.2.2.2.2.2.2.2.2.2.1, h1.2.2.2.2.2.2.2.2.2.2.2.2.2.2.2.2.2.2.2.2.2.2.2.1, h1.2.2.2.2.2.2.2.2.2.2.2.2.2.2.2.2.2.2.2.2.2.2.2.2, in15, b2i_0, qb, and_self, not_true_eq_false, hT, qh, not_false_eq_true, e0, c0, b1, e10]
      · have hn10 : ¬ nI n = 10 := fun z => q10 ((nI_eq (b := 10) (by omega) (by omega)).mp z)
        obtain ⟨v, hv⟩ : ∃ v, v = deedW w o m := ⟨_, rfl⟩
        have fv := deedW_fr (w := w) (o := o) (m := m)
        rw [← hv] at fv
        have hmv : isMd v o := fv.md h1
        have bv : ∀ j, rdI v (o + 1) j = rdI w (o + 1) j := fun j => fv.1 _ _ (by omega)
        have i0 := inA_nI (show 3 + 3 * n < 33 by omega) (by omega)
        have i1 := inA_nI (show 3 + 3 * n + 1 < 33 by omega) (by omega)
        have i2 := inA_nI (show 3 + 3 * n + 2 < 33 by omega) (by omega)
        have k0 := nI_clamp (show 3 + 3 * n < 2 ^ 31 by omega)
        have k1 := nI_clamp (show 3 + 3 * n + 1 < 2 ^ 31 by omega)
        have k2 := nI_clamp (show 3 + 3 * n + 2 < 2 ^ 31 by omega)
        have s0 : ∀ a b : Int32, rdI (wrI (wrI (wrI v (o + 1) (3 + 3 * n) x) (o + 1) (3 + 3 * n + 1) a) (o + 1) (3 + 3 * n + 2) b) (o + 1) 0 = nI n := by
          intro a b
          rw [rdI_wrI, if_neg (by omega), rdI_wrI, if_neg (by omega), rdI_wrI, if_neg (by omega), bv]; exact b1
        have hidx : (3 : Int32) + 3 * nI n = nI (3 + 3 * n) := by rw [nI_p3, pk_mul, nI_a]
        have hidx1 : nI (3 + 3 * n) + 1 = nI (3 + 3 * n + 1) := nI_1 _
        have hidx2 : nI (3 + 3 * n) + 2 = nI (3 + 3 * n + 2) := by rw [nI_p2, nI_a]
        obtain ⟨u, hu⟩ : ∃ u, u = wrI (wrI (wrI (wrI v (o + 1) (3 + 3 * n) x) (o + 1) (3 + 3 * n + 1) y) (o + 1) (3 + 3 * n + 2) z) (o + 1) 0 (nI (n + 1)) := ⟨_, rfl⟩
        have fu : FrX (fun a _ => a = o + 1) (deedW w o m) u := by
          rw [hu, ← hv]
          exact (((FrX.wrI (X := fun a _ => a = o + 1) FrX.rf rfl).wrI rfl).wrI rfl).wrI rfl
        have hb : blkIs (rdI u (o + 1)) (addS (n, C, tol, drw) x y z) := by
          subst hu
          refine ⟨by simp [rdI_wrI, addS], by simp only [addS]; omega, ?_, ?_, fun i hi => ?_⟩
          · rw [rdI_wrI, if_neg (by omega), rdI_wrI, if_neg (by omega), rdI_wrI, if_neg (by omega), rdI_wrI, if_neg (by omega), bv]; exact b3
          · rw [rdI_wrI, if_neg (by omega), rdI_wrI, if_neg (by omega), rdI_wrI, if_neg (by omega), rdI_wrI, if_neg (by omega), bv]; exact b4
          · simp only [addS] at hi ⊢
            simp only [rdI_wrI, true_and]
            rw [if_neg (by omega)]
            by_cases z2 : i = 3 * n + 2
            · rw [if_pos (by omega), if_neg (by omega), if_neg (by omega), if_pos z2]
            · rw [if_neg (by omega)]
              by_cases z1 : i = 3 * n + 1
              · rw [if_pos (by omega), if_neg (by omega), if_pos z1]
              · rw [if_neg (by omega)]
                by_cases z0 : i = 3 * n
                · rw [if_pos (by omega), if_pos z0]
                · rw [if_neg (by omega), if_neg z0, if_neg z1, if_neg z2, bv]
                  exact b5 i (by omega)
        obtain ⟨r1, r2⟩ := hMC.deed (S' := addS (n, C, tol, drw) x y z) fu hb
        refine ⟨u, ?_, by simp only [opAdd, qb, qh, q10, and_self, if_true, if_false]; exact r1, r2⟩
        have hD := s_deed h1 h3.1 h3.2.1
        rw [← hv] at hD
        simp only [opAdd, qb, qh, q10, and_self, if_true, if_false]
        refine sem_eq (Nat.le_of_ble_eq_true rfl) ?_
        show wp mX9_add 0 [some (.ref o), some (.int x), some (.int y), some (.int z), none] [] _ _
        simp only [eX9_add_0, eX9_add_1, eX9_add_2, eX9_add_5, eX9_add_8, eX9_add_11, eX9_add_14, eX9_add_15, eX9_add_16, eX9_add_19, eX9_add_22, eX9_add_25, eX9_add_28, eX9_add_29, eX9_add_30, eX9_add_33, eX9_add_36, eX9_add_39, eX9_add_42, eX9_add_43, eX9_add_44, eX9_add_45, eX9_add_46, eX9_add_47, eX9_add_48, eX9_add_51, eX9_add_54, eX9_add_56, eX9_add_57, eX9_add_58, eX9_add_61, eX9_add_62, eX9_add_63, eX9_add_65, eX9_add_68, eX9_add_70, eX9_add_71, eX9_add_72, cont_some, tl_some, tl_none, csum_nil, csum_i, csum_r, csum_j, isc2_i, isc2_r, isc2_n, va_rf_s, vfn_ite, true_and, and_true, true_or, or_true, eq_self, Bool.false_eq_true, not_false_eq_true, not_true_eq_false, if_true, if_false, Nat.reduceAdd, Nat.reduceLeDiff, reduceIte, h1.1, h1.2.1, h1.2.2.1, h1.2.2.2.1, h1.2.2.2.2.1, h1.2.2.2.2.2.1, h1.2.2.2.2.2.2.1, h1.2.2.2.2.2.2.2.1, h1.2.2.2.2.2.2.2.2.1, h1.2.2.2.2.2.2.2.2.2.1, h1.2.2.2.2.2.2.2.2.2.2.1, h1.2.2.2.2.2.2.2.2.2.2.2.1, h1.2.2.2.2.2.2.2.2.2.2.2.2.1, h1.2.2.2.2.2.2.2.2.2.2.2.2.2.1, h1.2.2.2.2.2.2.2.2.2.2.2.2.2.2.1, h1.2.2.2.2.2.2.2.2.2.2.2.2.2.2.2.1, h1.2.2.2.2.2.2.2.2.2.2.2.2.2.2.2.2.1, h1.2.2.2.2.2.2.2.2.2.2.2.2.2.2.2.2.2.1, h1.2.2.2.2.2.2.2.2.2.2.2.2.2.2.2.2.2.2.1, h1.2.2.2.2.2.2.2.2.2.2.2.2.2.2.2.2.2.2.2.1, h1.2.2.2.2.2.2.2.2.2.2.2.2.2.2.2.2.2.2.2.2.1, h1.2.2.2.2.2.2.2.2.2.2.2.2.2.2.2.2.2.2.2.2.2.1, h1.2.2.2.2.2.2.2.2.2.2.2.2.2.2.2.2.2.2.2.2.2.2.1, h1.2.2.2.2.2.2.2.2.2.2.2.2.2.2.2.2.2.2.2.2.2.2.2.1, h1.2.2.2.2.2.2.2.2.2.2.2.2.2.2.2.2.2.2.2.2.2.2.2.2, in15, b2i_0, qb, and_self, not_true_eq_false, hT, qh, not_false_eq_true, e0, c0, b1, hn10, hD]
        simp only [eX9_add_75, eX9_add_76, eX9_add_77, eX9_add_78, eX9_add_81, eX9_add_82, eX9_add_83, eX9_add_84, eX9_add_85, eX9_add_87, eX9_add_88, eX9_add_91, eX9_add_93, eX9_add_94, eX9_add_95, eX9_add_96, eX9_add_99, eX9_add_101, eX9_add_102, eX9_add_103, eX9_add_104, eX9_add_105, eX9_add_106, eX9_add_109, eX9_add_111, eX9_add_112, eX9_add_113, eX9_add_114, eX9_add_115, eX9_add_116, eX9_add_119, eX9_add_120, eX9_add_120j, eX9_add_121, eX9_add_122, eX9_add_123, eX9_add_124, eX9_add_125, eX9_add_126, eX9_add_129, eX9_add_130, eX9_add_131, cont_some, tl_some, tl_none, csum_nil, csum_i, csum_r, csum_j, isc2_i, isc2_r, isc2_n, va_rf_s, vfn_ite, true_and, and_true, true_or, or_true, eq_self, Bool.false_eq_true, not_false_eq_true, not_true_eq_false, if_true, if_false, Nat.reduceAdd, Nat.reduceLeDiff, reduceIte, shp_wrI, rdR_wrI, hmv.1, hmv.2.1, hmv.2.2.1, hmv.2.2.2.1, hmv.2.2.2.2.1, hmv.2.2.2.2.2.1, hmv.2.2.2.2.2.2.1, hmv.2.2.2.2.2.2.2.1, hmv.2.2.2.2.2.2.2.2.1, hmv.2.2.2.2.2.2.2.2.2.1, hmv.2.2.2.2.2.2.2.2.2.2.1, hmv.2.2.2.2.2.2.2.2.2.2.2.1, hmv.2.2.2.2.2.2.2.2.2.2.2.2.1, hmv.2.2.2.2.2.2.2.2.2.2.2.2.2.1, hmv.2.2.2.2.2.2.2.2.2.2.2.2.2.2.1, hmv.2.2.2.2.2.2.2.2.2.2.2.2.2.2.2.1, hmv.2.2.2.2.2.2.2.2.2.2.2.2.2.2.2.2.1, hmv.2.2.2.2.2.2.2.2.2.2.2.2.2.2.2.2.2.1, hmv.2.2.2.2.2.2.2.2.2.2.2.2.2.2.2.2.2.2.1, hmv.2.2.2.2.2.2.2.2.2.2.2.2.2.2.2.2.2.2.2.1, hmv.2.2.2.2.2.2.2.2.2.2.2.2.2.2.2.2.2.2.2.2.1, hmv.2.2.2.2.2.2.2.2.2.2.2.2.2.2.2.2.2.2.2.2.2.1, hmv.2.2.2.2.2.2.2.2.2.2.2.2.2.2.2.2.2.2.2.2.2.2.1, hmv.2.2.2.2.2.2.2.2.2.2.2.2.2.2.2.2.2.2.2.2.2.2.2.1, hmv.2.2.2.2.2.2.2.2.2.2.2.2.2.2.2.2.2.2.2.2.2.2.2.2, e0, c0, bv, b1, hidx, hidx1, hidx2, i0, i1, i2, k0, k1, k2, s0, nI_1]
        rw [← hu]
        simp [hu, rdI_wrI]
  · have qb' : ¬ ((-15 ≤ x ∧ x ≤ 15) ∧ (-15 ≤ y ∧ y ≤ 15) ∧ (-15 ≤ z ∧ z ≤ 15)) := qb
    refine ⟨w, ?_, by simp only [opAdd, qb, if_false]; exact hMC, FrX.rf⟩
    simp only [opAdd, qb, if_false]
    refine sem_eq (Nat.le_of_ble_eq_true rfl) ?_
    show wp mX9_add 0 [some (.ref o), some (.int x), some (.int y), some (.int z), none] [] _ _
    simp only [eX9_add_0, eX9_add_1, eX9_add_2, eX9_add_5, eX9_add_8, eX9_add_11, eX9_add_14, eX9_add_15, eX9_add_16, eX9_add_19, eX9_add_22, eX9_add_25, eX9_add_28, eX9_add_29, eX9_add_30, eX9_add_33, eX9_add_36, eX9_add_39, eX9_add_42, eX9_add_43, cont_some, tl_some, tl_none, csum_nil, csum_i, csum_r, csum_j, isc2_i, isc2_r, isc2_n, va_rf_s, vfn_ite, true_and, and_true, true_or, or_true, eq_self, Bool.false_eq_true, not_false_eq_true, not_true_eq_false, if_true, if_false, Nat.reduceAdd, Nat.reduceLeDiff, reduceIte, in15, b2i_0]
    by_cases p1 : -15 ≤ x ∧ x ≤ 15
    · by_cases p2 : -15 ≤ y ∧ y ≤ 15
      · by_cases p3 : -15 ≤ z ∧ z ≤ 15
        · exact absurd ⟨p1, p2, p3⟩ qb
        · simp [p1, p2, p3]
      · simp [p1, p2]
    · simp [p1]
