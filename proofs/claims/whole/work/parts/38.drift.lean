/-! a turn of a drift -/
theorem mask31 (x : Int64) : ∃ d : Nat, d < 2147483648 ∧ (x &&& 2147483647).toInt32 = nI d := by
  refine ⟨(x &&& 2147483647).toBitVec.toNat, ?_, ?_⟩
  · have e : (x &&& 2147483647).toBitVec.toNat = x.toBitVec.toNat &&& 2147483647 := by
      rw [Int64.toBitVec_and, BitVec.toNat_and]; rfl
    rw [e]
    exact Nat.lt_of_le_of_lt Nat.and_le_right (by omega)
  · generalize (x &&& 2147483647) = y
    apply Int32.toBitVec_inj.mp
    rw [Int64.toBitVec_toInt32]
    show BitVec.signExtend 32 y.toBitVec = BitVec.ofNat 32 y.toBitVec.toNat
    rw [BitVec.signExtend_eq_setWidth_of_le _ (by omega)]
    rfl
def nxD (d : Int32) : Int32 := (d.toInt64 * 1103515245 + 12345 &&& 2147483647).toInt32
def turnC (c : Cst) : Bool × Cst :=
  if c.1.1 = 0 then (false, doC c (drwS c.1 (nxD c.1.2.2.2)))
  else if freeB c.1.2.1 c.1.1 (nxD c.1.2.2.2 / 65536 - nxD c.1.2.2.2 / 65536 / nI c.1.1 * nI c.1.1).toNatClampNeg (nxD c.1.2.2.2 / 65536 / 4 - nxD c.1.2.2.2 / 65536 / 4 / 3 * 3) (nxD c.1.2.2.2 / 65536 / 16 - nxD c.1.2.2.2 / 65536 / 16 / 31 * 31 - 15) = true then
    (true, doC c (mvS (drwS c.1 (nxD c.1.2.2.2)) (nxD c.1.2.2.2 / 65536 - nxD c.1.2.2.2 / 65536 / nI c.1.1 * nI c.1.1).toNatClampNeg (nxD c.1.2.2.2 / 65536 / 4 - nxD c.1.2.2.2 / 65536 / 4 / 3 * 3).toNatClampNeg (nxD c.1.2.2.2 / 65536 / 16 - nxD c.1.2.2.2 / 65536 / 16 / 31 * 31 - 15)))
  else (false, doC c (drwS c.1 (nxD c.1.2.2.2)))
/-- the numbers of a turn -/
theorem turn_nums {d : Int32} {n : Nat} (hn : 0 < n) (h10 : n ≤ 10) : ∃ k a t : Nat, k < n ∧ a < 3 ∧ t < 31 ∧ nxD d / 65536 - nxD d / 65536 / nI n * nI n = nI k ∧ nxD d / 65536 / 4 - nxD d / 65536 / 4 / 3 * 3 = nI a ∧ nxD d / 65536 / 16 - nxD d / 65536 / 16 / 31 * 31 - 15 = nI t - 15 := by
  obtain ⟨q, hq, e⟩ := mask31 (d.toInt64 * 1103515245 + 12345)
  have e' : nxD d = nI q := e
  have l1 : (65536 : Int32) = nI 65536 := rfl
  have l2 : (4 : Int32) = nI 4 := rfl
  have l3 : (16 : Int32) = nI 16 := rfl
  have l4 : (31 : Int32) = nI 31 := rfl
  have b1 : q / 65536 < 2 ^ 31 := Nat.lt_of_le_of_lt (Nat.div_le_self _ _) (by omega)
  have b2 : q / 65536 / 4 < 2 ^ 31 := Nat.lt_of_le_of_lt (Nat.div_le_self _ _) b1
  have b3 : q / 65536 / 16 < 2 ^ 31 := Nat.lt_of_le_of_lt (Nat.div_le_self _ _) b1
  refine ⟨q / 65536 % n, q / 65536 / 4 % 3, q / 65536 / 16 % 31, Nat.mod_lt _ hn, Nat.mod_lt _ (by omega), Nat.mod_lt _ (by omega), ?_, ?_, ?_⟩
  · rw [e', l1, pk_div (by omega) (by omega) (by omega), pk_rem b1 hn (by omega)]
  · rw [e', l1, pk_div (by omega) (by omega) (by omega), l2, pk_div b1 (by omega) (by omega), nI_p3, pk_rem b2 (by omega) (by omega)]
  · rw [e', l1, pk_div (by omega) (by omega) (by omega), l3, pk_div b1 (by omega) (by omega), l4, pk_rem b3 (by omega) (by omega)]
theorem b2i_T [Decidable True] : b2i True = 1 := if_pos trivial
theorem b2i_F [Decidable False] : b2i False = 0 := if_neg id
theorem m_turns {w : Wd} {o : Nat} {c : Cst} (h : MC w o c) : ∃ u, fX9_turns [.ref o] w = some (some (.int (b2i ((turnC c).1 = true))), u) ∧ MC u o (turnC c).2 ∧ FrX (Xc o) w u := by
  obtain ⟨S, m, P, i⟩ := c
  obtain ⟨n, C, tol, drw⟩ := S
  have hMC := h
  obtain ⟨h1, h2, h3, h4⟩ := h
  obtain ⟨b1, b2, b3, b4, b5⟩ := h2
  simp only at b1 b2 b3 b4 b5 h3 h4
  have e0 : inA 0 33 = true := by decide
  have c0 : (0 : Int32).toNatClampNeg = 0 := rfl
  have e2 : inA 2 33 = true := by decide
  have c2 : (2 : Int32).toNatClampNeg = 2 := rfl
  have z1 : ¬ (65536 : Int32) = 0 := by decide
  have z2 : ¬ (4 : Int32) = 0 := by decide
  have z3 : ¬ (3 : Int32) = 0 := by decide
  have z4 : ¬ (16 : Int32) = 0 := by decide
  have z5 : ¬ (31 : Int32) = 0 := by decide
  obtain ⟨D, hfold, hDn⟩ : ∃ D, (drw.toInt64 * 1103515245 + 12345 &&& 2147483647).toInt32 = D ∧ nxD drw = D := ⟨_, rfl, rfl⟩
  obtain ⟨v, hv⟩ : ∃ v, v = deedW w o m := ⟨_, rfl⟩
  have fv := deedW_fr (w := w) (o := o) (m := m)
  rw [← hv] at fv
  have hmv : isMd v o := fv.md h1
  have bv : ∀ j, rdI v (o + 1) j = rdI w (o + 1) j := fun j => fv.1 _ _ (by omega)
  have hD := s_deed h1 h3.1 h3.2.1
  rw [← hv] at hD
  obtain ⟨x, hx⟩ : ∃ x, x = wrI v (o + 1) 2 (D) := ⟨_, rfl⟩
  have hmx : isMd x o := by rw [hx]; exact hmv
  have bx2 : rdI x (o + 1) 2 = D := by rw [hx, rdI_wrI, if_pos ⟨rfl, rfl⟩]
  have bx : ∀ j, j ≠ 2 → rdI x (o + 1) j = rdI w (o + 1) j := fun j hj => by rw [hx, rdI_wrI, if_neg (by omega), bv]
  have fx : FrX (fun a _ => a = o + 1) (deedW w o m) x := by
    rw [hx, ← hv]
    exact FrX.wrI (X := fun a _ => a = o + 1) FrX.rf rfl
  have hbx : blkIs (rdI x (o + 1)) (drwS (n, C, tol, drw) (D)) := ⟨by rw [bx _ (by omega)]; exact b1, b2, by rw [bx _ (by omega)]; exact b3, bx2, fun i hi => by rw [bx _ (by omega)]; exact b5 i hi⟩
  by_cases q0 : n = 0
  · subst q0
    obtain ⟨r1, r2⟩ := hMC.deed (S' := drwS (0, C, tol, drw) (D)) fx hbx
    refine ⟨x, ?_, by simp only [turnC, if_true, hDn]; exact r1, r2⟩
    have hz : nI 0 = 0 := rfl
    simp only [turnC, if_true, hDn]
    refine sem_eq (Nat.le_of_ble_eq_true rfl) ?_
    show wp mX9_turns 0 [some (.ref o), none, none, none, none, none] [] _ _
    simp only [eX9_turns_0, eX9_turns_1, eX9_turns_4, eX9_turns_5, eX9_turns_8, eX9_turns_9, eX9_turns_10, eX9_turns_13, eX9_turns_14, eX9_turns_15, eX9_turns_16, eX9_turns_19, eX9_turns_20, eX9_turns_23, eX9_turns_24, eX9_turns_27, eX9_turns_28, eX9_turns_29, cont_some, tl_some, tl_none, csum_nil, csum_i, csum_r, csum_j, isc2_i, isc2_r, isc2_n, va_rf_s, vfn_ite, true_and, and_true, true_or, or_true, eq_self, Bool.false_eq_true, not_false_eq_true, not_true_eq_false, if_true, if_false, Nat.reduceAdd, Nat.reduceLeDiff, reduceIte, h1.1, h1.2.1, h1.2.2.1, h1.2.2.2.1, h1.2.2.2.2.1, h1.2.2.2.2.2.1, h1.2.2.2.2.2.2.1, h1.2.2.2.2.2.2.2.1, h1.2.2.2.2.2.2.2.2.1, h1.2.2.2.2.2.2.2.2.2.1, h1.2.2.2.2.2.2.2.2.2.2.1, h1.2.2.2.2.2.2.2.2.2.2.2.1, h1.2.2.2.2.2.2.2.2.2.2.2.2.1, h1.2.2.2.2.2.2.2.2.2.2.2.2.2.1, h1.2.2.2.2.2.2.2.2.2.2.2.2.2.2.1, h1.2.2.2.2.2.2.2.2.2.2.2.2.2.2.2.1, h1.2.2.2.2.2.2.2.2.2.2.2.2.2.2.2.2.1, h1.2.2.2.2.2.2.2.2.2.2.2.2.2.2.2.2.2.1, h1.2.2.2.2.2.2.2.2.2.2.2.2.2.2.2.2.2.2.1, h1.2.2.2.2.2.2.2.2.2.2.2.2.2.2.2.2.2.2.2.1, h1.2.2.2.2.2.2.2.2.2.2.2.2.2.2.2.2.2.2.2.2.1, h1.2.2.2.2.2.2.2.2.2.2.2.2.2.2.2.2.2.2.2.2.2.1, h1.2.2.2.2.2.2.2.2.2.2.2.2.2.2.2.2.2.2.2.2.2.2.1, h1.2.2.2.2.2.2.2.2.2.2.2.2.2.2.2.2.2.2.2.2.2.2.2.1, h1.2.2.2.2.2.2.2.2.2.2.2.2.2.2.2.2.2.2.2.2.2.2.2.2, hmv.1, hmv.2.1, hmv.2.2.1, hmv.2.2.2.1, hmv.2.2.2.2.1, hmv.2.2.2.2.2.1, hmv.2.2.2.2.2.2.1, hmv.2.2.2.2.2.2.2.1, hmv.2.2.2.2.2.2.2.2.1, hmv.2.2.2.2.2.2.2.2.2.1, hmv.2.2.2.2.2.2.2.2.2.2.1, hmv.2.2.2.2.2.2.2.2.2.2.2.1, hmv.2.2.2.2.2.2.2.2.2.2.2.2.1, hmv.2.2.2.2.2.2.2.2.2.2.2.2.2.1, hmv.2.2.2.2.2.2.2.2.2.2.2.2.2.2.1, hmv.2.2.2.2.2.2.2.2.2.2.2.2.2.2.2.1, hmv.2.2.2.2.2.2.2.2.2.2.2.2.2.2.2.2.1, hmv.2.2.2.2.2.2.2.2.2.2.2.2.2.2.2.2.2.1, hmv.2.2.2.2.2.2.2.2.2.2.2.2.2.2.2.2.2.2.1, hmv.2.2.2.2.2.2.2.2.2.2.2.2.2.2.2.2.2.2.2.1, hmv.2.2.2.2.2.2.2.2.2.2.2.2.2.2.2.2.2.2.2.2.1, hmv.2.2.2.2.2.2.2.2.2.2.2.2.2.2.2.2.2.2.2.2.2.1, hmv.2.2.2.2.2.2.2.2.2.2.2.2.2.2.2.2.2.2.2.2.2.2.1, hmv.2.2.2.2.2.2.2.2.2.2.2.2.2.2.2.2.2.2.2.2.2.2.2.1, hmv.2.2.2.2.2.2.2.2.2.2.2.2.2.2.2.2.2.2.2.2.2.2.2.2, hD, e2, c2, bv, b4, hfold]
    rw [← hx]
    simp only [eX9_turns_30, eX9_turns_31, eX9_turns_34, eX9_turns_35, eX9_turns_36, eX9_turns_38, eX9_turns_39, eX9_turns_40, eX9_turns_41, eX9_turns_44, eX9_turns_45, eX9_turns_46, eX9_turns_49, eX9_turns_50, cont_some, tl_some, tl_none, csum_nil, csum_i, csum_r, csum_j, isc2_i, isc2_r, isc2_n, va_rf_s, vfn_ite, true_and, and_true, true_or, or_true, eq_self, Bool.false_eq_true, not_false_eq_true, not_true_eq_false, if_true, if_false, Nat.reduceAdd, Nat.reduceLeDiff, reduceIte, hmx.1, hmx.2.1, hmx.2.2.1, hmx.2.2.2.1, hmx.2.2.2.2.1, hmx.2.2.2.2.2.1, hmx.2.2.2.2.2.2.1, hmx.2.2.2.2.2.2.2.1, hmx.2.2.2.2.2.2.2.2.1, hmx.2.2.2.2.2.2.2.2.2.1, hmx.2.2.2.2.2.2.2.2.2.2.1, hmx.2.2.2.2.2.2.2.2.2.2.2.1, hmx.2.2.2.2.2.2.2.2.2.2.2.2.1, hmx.2.2.2.2.2.2.2.2.2.2.2.2.2.1, hmx.2.2.2.2.2.2.2.2.2.2.2.2.2.2.1, hmx.2.2.2.2.2.2.2.2.2.2.2.2.2.2.2.1, hmx.2.2.2.2.2.2.2.2.2.2.2.2.2.2.2.2.1, hmx.2.2.2.2.2.2.2.2.2.2.2.2.2.2.2.2.2.1, hmx.2.2.2.2.2.2.2.2.2.2.2.2.2.2.2.2.2.2.1, hmx.2.2.2.2.2.2.2.2.2.2.2.2.2.2.2.2.2.2.2.1, hmx.2.2.2.2.2.2.2.2.2.2.2.2.2.2.2.2.2.2.2.2.1, hmx.2.2.2.2.2.2.2.2.2.2.2.2.2.2.2.2.2.2.2.2.2.1, hmx.2.2.2.2.2.2.2.2.2.2.2.2.2.2.2.2.2.2.2.2.2.2.1, hmx.2.2.2.2.2.2.2.2.2.2.2.2.2.2.2.2.2.2.2.2.2.2.2.1, hmx.2.2.2.2.2.2.2.2.2.2.2.2.2.2.2.2.2.2.2.2.2.2.2.2, e0, e2, c0, c2, bx2, bx 0 (by omega), b1, z1, hz]
    simp [b2i]
  · obtain ⟨k, a, t, hk, ha, ht, ek, ea, et⟩ := turn_nums (d := drw) (n := n) (by omega) b2
    rw [hDn] at ek ea et
    have kk := nI_clamp (show k < 2 ^ 31 by omega)
    have ka := nI_clamp (show a < 2 ^ 31 by omega)
    have hnz : ¬ nI n = 0 := nI_ne0 (by omega) (by omega)
    have hgo := s_mayGo (a := nI a) (v := nI t - 15) hmx (by rw [bx 0 (by omega)]; exact b1) b2 hk
    rw [freeB_congr (C' := C) hk (fun i hi => by rw [bx _ (by omega)]; exact b5 i hi)] at hgo
    have hidx : (3 : Int32) + 3 * nI k + nI a = nI (3 + (3 * k + a)) := by
      rw [nI_p3, pk_mul, nI_a, nI_a]; congr 1; omega
    have iI := inA_nI (show 3 + (3 * k + a) < 33 by omega) (by omega)
    have iK := nI_clamp (show 3 + (3 * k + a) < 2 ^ 31 by omega)
    have hp := s_part (k := k) (j := a) hmx (by omega)
    have head : ∀ (Q : Option Value → Wd → Prop), (wp mX9_turns 88 [some (.ref o), some (.int (D / 65536)), some (.int (nI k)), some (.int (nI a)), some (.int (nI t - 15)), some (.int (b2i (freeB C n k (nI a) (nI t - 15) = true)))] [] x Q) → wp mX9_turns 0 [some (.ref o), none, none, none, none, none] [] w Q := by
      intro Q hQ
      simp only [eX9_turns_0, eX9_turns_1, eX9_turns_4, eX9_turns_5, eX9_turns_8, eX9_turns_9, eX9_turns_10, eX9_turns_13, eX9_turns_14, eX9_turns_15, eX9_turns_16, eX9_turns_19, eX9_turns_20, eX9_turns_23, eX9_turns_24, eX9_turns_27, eX9_turns_28, eX9_turns_29, cont_some, tl_some, tl_none, csum_nil, csum_i, csum_r, csum_j, isc2_i, isc2_r, isc2_n, va_rf_s, vfn_ite, true_and, and_true, true_or, or_true, eq_self, Bool.false_eq_true, not_false_eq_true, not_true_eq_false, if_true, if_false, Nat.reduceAdd, Nat.reduceLeDiff, reduceIte, h1.1, h1.2.1, h1.2.2.1, h1.2.2.2.1, h1.2.2.2.2.1, h1.2.2.2.2.2.1, h1.2.2.2.2.2.2.1, h1.2.2.2.2.2.2.2.1, h1.2.2.2.2.2.2.2.2.1, h1.2.2.2.2.2.2.2.2.2.1, h1.2.2.2.2.2.2.2.2.2.2.1, h1.2.2.2.2.2.2.2.2.2.2.2.1, h1.2.2.2.2.2.2.2.2.2.2.2.2.1, h1.2.2.2.2.2.2.2.2.2.2.2.2.2.1, h1.2.2.2.2.2.2.2.2.2.2.2.2.2.2.1, h1.2.2.2.2.2.2.2.2.2.2.2.2.2.2.2.1, h1.2.2.2.2.2.2.2.2.2.2.2.2.2.2.2.2.1, h1.2.2.2.2.2.2.2.2.2.2.2.2.2.2.2.2.2.1, h1.2.2.2.2.2.2.2.2.2.2.2.2.2.2.2.2.2.2.1, h1.2.2.2.2.2.2.2.2.2.2.2.2.2.2.2.2.2.2.2.1, h1.2.2.2.2.2.2.2.2.2.2.2.2.2.2.2.2.2.2.2.2.1, h1.2.2.2.2.2.2.2.2.2.2.2.2.2.2.2.2.2.2.2.2.2.1, h1.2.2.2.2.2.2.2.2.2.2.2.2.2.2.2.2.2.2.2.2.2.2.1, h1.2.2.2.2.2.2.2.2.2.2.2.2.2.2.2.2.2.2.2.2.2.2.2.1, h1.2.2.2.2.2.2.2.2.2.2.2.2.2.2.2.2.2.2.2.2.2.2.2.2, hmv.1, hmv.2.1, hmv.2.2.1, hmv.2.2.2.1, hmv.2.2.2.2.1, hmv.2.2.2.2.2.1, hmv.2.2.2.2.2.2.1, hmv.2.2.2.2.2.2.2.1, hmv.2.2.2.2.2.2.2.2.1, hmv.2.2.2.2.2.2.2.2.2.1, hmv.2.2.2.2.2.2.2.2.2.2.1, hmv.2.2.2.2.2.2.2.2.2.2.2.1, hmv.2.2.2.2.2.2.2.2.2.2.2.2.1, hmv.2.2.2.2.2.2.2.2.2.2.2.2.2.1, hmv.2.2.2.2.2.2.2.2.2.2.2.2.2.2.1, hmv.2.2.2.2.2.2.2.2.2.2.2.2.2.2.2.1, hmv.2.2.2.2.2.2.2.2.2.2.2.2.2.2.2.2.1, hmv.2.2.2.2.2.2.2.2.2.2.2.2.2.2.2.2.2.1, hmv.2.2.2.2.2.2.2.2.2.2.2.2.2.2.2.2.2.2.1, hmv.2.2.2.2.2.2.2.2.2.2.2.2.2.2.2.2.2.2.2.1, hmv.2.2.2.2.2.2.2.2.2.2.2.2.2.2.2.2.2.2.2.2.1, hmv.2.2.2.2.2.2.2.2.2.2.2.2.2.2.2.2.2.2.2.2.2.1, hmv.2.2.2.2.2.2.2.2.2.2.2.2.2.2.2.2.2.2.2.2.2.2.1, hmv.2.2.2.2.2.2.2.2.2.2.2.2.2.2.2.2.2.2.2.2.2.2.2.1, hmv.2.2.2.2.2.2.2.2.2.2.2.2.2.2.2.2.2.2.2.2.2.2.2.2, hD, e2, c2, bv, b4, hfold]
      rw [← hx]
      simp only [eX9_turns_30, eX9_turns_31, eX9_turns_34, eX9_turns_35, eX9_turns_36, eX9_turns_38, eX9_turns_39, eX9_turns_40, eX9_turns_41, eX9_turns_44, eX9_turns_45, eX9_turns_46, eX9_turns_49, eX9_turns_50, eX9_turns_51, eX9_turns_52, eX9_turns_53, eX9_turns_56, eX9_turns_57, eX9_turns_58, eX9_turns_59, eX9_turns_60, eX9_turns_61, eX9_turns_62, eX9_turns_63, eX9_turns_64, eX9_turns_65, eX9_turns_66, eX9_turns_67, eX9_turns_69, eX9_turns_70, eX9_turns_72, eX9_turns_73, eX9_turns_75, eX9_turns_76, cont_some, tl_some, tl_none, csum_nil, csum_i, csum_r, csum_j, isc2_i, isc2_r, isc2_n, va_rf_s, vfn_ite, true_and, and_true, true_or, or_true, eq_self, Bool.false_eq_true, not_false_eq_true, not_true_eq_false, if_true, if_false, Nat.reduceAdd, Nat.reduceLeDiff, reduceIte, hmx.1, hmx.2.1, hmx.2.2.1, hmx.2.2.2.1, hmx.2.2.2.2.1, hmx.2.2.2.2.2.1, hmx.2.2.2.2.2.2.1, hmx.2.2.2.2.2.2.2.1, hmx.2.2.2.2.2.2.2.2.1, hmx.2.2.2.2.2.2.2.2.2.1, hmx.2.2.2.2.2.2.2.2.2.2.1, hmx.2.2.2.2.2.2.2.2.2.2.2.1, hmx.2.2.2.2.2.2.2.2.2.2.2.2.1, hmx.2.2.2.2.2.2.2.2.2.2.2.2.2.1, hmx.2.2.2.2.2.2.2.2.2.2.2.2.2.2.1, hmx.2.2.2.2.2.2.2.2.2.2.2.2.2.2.2.1, hmx.2.2.2.2.2.2.2.2.2.2.2.2.2.2.2.2.1, hmx.2.2.2.2.2.2.2.2.2.2.2.2.2.2.2.2.2.1, hmx.2.2.2.2.2.2.2.2.2.2.2.2.2.2.2.2.2.2.1, hmx.2.2.2.2.2.2.2.2.2.2.2.2.2.2.2.2.2.2.2.1, hmx.2.2.2.2.2.2.2.2.2.2.2.2.2.2.2.2.2.2.2.2.1, hmx.2.2.2.2.2.2.2.2.2.2.2.2.2.2.2.2.2.2.2.2.2.1, hmx.2.2.2.2.2.2.2.2.2.2.2.2.2.2.2.2.2.2.2.2.2.2.1, hmx.2.2.2.2.2.2.2.2.2.2.2.2.2.2.2.2.2.2.2.2.2.2.2.1, hmx.2.2.2.2.2.2.2.2.2.2.2.2.2.2.2.2.2.2.2.2.2.2.2.2, e0, e2, c0, c2, bx2, bx 0 (by omega), b1, z1, z2, z3, z4, z5, hnz, ek, ea, et]
      simp only [eX9_turns_78, eX9_turns_79, eX9_turns_80, eX9_turns_81, eX9_turns_83, eX9_turns_86, cont_some, tl_some, tl_none, csum_nil, csum_i, csum_r, csum_j, isc2_i, isc2_r, isc2_n, va_rf_s, vfn_ite, true_and, and_true, true_or, or_true, eq_self, Bool.false_eq_true, not_false_eq_true, not_true_eq_false, if_true, if_false, Nat.reduceAdd, Nat.reduceLeDiff, reduceIte, hmx.1, hmx.2.1, hmx.2.2.1, hmx.2.2.2.1, hmx.2.2.2.2.1, hmx.2.2.2.2.2.1, hmx.2.2.2.2.2.2.1, hmx.2.2.2.2.2.2.2.1, hmx.2.2.2.2.2.2.2.2.1, hmx.2.2.2.2.2.2.2.2.2.1, hmx.2.2.2.2.2.2.2.2.2.2.1, hmx.2.2.2.2.2.2.2.2.2.2.2.1, hmx.2.2.2.2.2.2.2.2.2.2.2.2.1, hmx.2.2.2.2.2.2.2.2.2.2.2.2.2.1, hmx.2.2.2.2.2.2.2.2.2.2.2.2.2.2.1, hmx.2.2.2.2.2.2.2.2.2.2.2.2.2.2.2.1, hmx.2.2.2.2.2.2.2.2.2.2.2.2.2.2.2.2.1, hmx.2.2.2.2.2.2.2.2.2.2.2.2.2.2.2.2.2.1, hmx.2.2.2.2.2.2.2.2.2.2.2.2.2.2.2.2.2.2.1, hmx.2.2.2.2.2.2.2.2.2.2.2.2.2.2.2.2.2.2.2.1, hmx.2.2.2.2.2.2.2.2.2.2.2.2.2.2.2.2.2.2.2.2.1, hmx.2.2.2.2.2.2.2.2.2.2.2.2.2.2.2.2.2.2.2.2.2.1, hmx.2.2.2.2.2.2.2.2.2.2.2.2.2.2.2.2.2.2.2.2.2.2.1, hmx.2.2.2.2.2.2.2.2.2.2.2.2.2.2.2.2.2.2.2.2.2.2.2.1, hmx.2.2.2.2.2.2.2.2.2.2.2.2.2.2.2.2.2.2.2.2.2.2.2.2, hgo]
      exact hQ
    by_cases qf : freeB C n k (nI a) (nI t - 15) = true
    · obtain ⟨u, hu⟩ : ∃ u, u = wrI x (o + 1) (3 + (3 * k + a)) (nI t - 15) := ⟨_, rfl⟩
      have fu : FrX (fun a _ => a = o + 1) (deedW w o m) u := by
        rw [hu]
        exact fx.wrI rfl
      have hb : blkIs (rdI u (o + 1)) (mvS (drwS (n, C, tol, drw) (D)) k a (nI t - 15)) := by
        subst hu
        refine ⟨?_, b2, ?_, ?_, fun i hi => ?_⟩
        · rw [rdI_wrI, if_neg (by omega), bx _ (by omega)]; exact b1
        · rw [rdI_wrI, if_neg (by omega), bx _ (by omega)]; exact b3
        · rw [rdI_wrI, if_neg (by omega)]; exact bx2
        · simp only [mvS, drwS, rdI_wrI, true_and]
          by_cases z : i = 3 * k + a
          · rw [if_pos (by omega), if_pos z]
          · rw [if_neg (by omega), if_neg z, bx _ (by omega)]; exact b5 i hi
      obtain ⟨r1, r2⟩ := hMC.deed (S' := mvS (drwS (n, C, tol, drw) (D)) k a (nI t - 15)) fu hb
      refine ⟨u, ?_, by simp only [turnC, q0, if_false, hDn, ek, ea, et, kk, ka, qf, if_true]; exact r1, r2⟩
      simp only [turnC, q0, if_false, hDn, ek, ea, et, kk, ka, qf, if_true]
      refine sem_eq (Nat.le_of_ble_eq_true rfl) ?_
      show wp mX9_turns 0 [some (.ref o), none, none, none, none, none] [] _ _
      refine head _ ?_
      simp only [qf, if_true]
      have k1 : ¬ (1 : Int32) = 0 := by decide
      simp only [eX9_turns_88, eX9_turns_89, eX9_turns_92, eX9_turns_93, eX9_turns_94, eX9_turns_95, eX9_turns_96, eX9_turns_97, eX9_turns_98, eX9_turns_99, eX9_turns_101, eX9_turns_104, eX9_turns_106, eX9_turns_109, eX9_turns_110, eX9_turns_111, eX9_turns_112, eX9_turns_115, eX9_turns_116, eX9_turns_118, cont_some, tl_some, tl_none, csum_nil, csum_i, csum_r, csum_j, isc2_i, isc2_r, isc2_n, va_rf_s, vfn_ite, true_and, and_true, true_or, or_true, eq_self, Bool.false_eq_true, not_false_eq_true, not_true_eq_false, if_true, if_false, Nat.reduceAdd, Nat.reduceLeDiff, reduceIte, hmx.1, hmx.2.1, hmx.2.2.1, hmx.2.2.2.1, hmx.2.2.2.2.1, hmx.2.2.2.2.2.1, hmx.2.2.2.2.2.2.1, hmx.2.2.2.2.2.2.2.1, hmx.2.2.2.2.2.2.2.2.1, hmx.2.2.2.2.2.2.2.2.2.1, hmx.2.2.2.2.2.2.2.2.2.2.1, hmx.2.2.2.2.2.2.2.2.2.2.2.1, hmx.2.2.2.2.2.2.2.2.2.2.2.2.1, hmx.2.2.2.2.2.2.2.2.2.2.2.2.2.1, hmx.2.2.2.2.2.2.2.2.2.2.2.2.2.2.1, hmx.2.2.2.2.2.2.2.2.2.2.2.2.2.2.2.1, hmx.2.2.2.2.2.2.2.2.2.2.2.2.2.2.2.2.1, hmx.2.2.2.2.2.2.2.2.2.2.2.2.2.2.2.2.2.1, hmx.2.2.2.2.2.2.2.2.2.2.2.2.2.2.2.2.2.2.1, hmx.2.2.2.2.2.2.2.2.2.2.2.2.2.2.2.2.2.2.2.1, hmx.2.2.2.2.2.2.2.2.2.2.2.2.2.2.2.2.2.2.2.2.1, hmx.2.2.2.2.2.2.2.2.2.2.2.2.2.2.2.2.2.2.2.2.2.1, hmx.2.2.2.2.2.2.2.2.2.2.2.2.2.2.2.2.2.2.2.2.2.2.1, hmx.2.2.2.2.2.2.2.2.2.2.2.2.2.2.2.2.2.2.2.2.2.2.2.1, hmx.2.2.2.2.2.2.2.2.2.2.2.2.2.2.2.2.2.2.2.2.2.2.2.2, b2i_T, k1, hidx, iI, iK]
      exact hu.symm
    · obtain ⟨u, hu⟩ : ∃ u, u = wrI x (o + 1) (3 + (3 * k + a)) (rdI x (o + 1) (3 + (3 * k + a))) := ⟨_, rfl⟩
      have fu : FrX (fun a _ => a = o + 1) (deedW w o m) u := by
        rw [hu]
        exact fx.wrI rfl
      have eu : ∀ j, rdI u (o + 1) j = rdI x (o + 1) j := by
        intro j
        rw [hu, rdI_wrI]
        split
        · rename_i z; rw [z.2]
        · rfl
      have hb : blkIs (rdI u (o + 1)) (drwS (n, C, tol, drw) (D)) := hbx.congr (fun i _ => eu i)
      obtain ⟨r1, r2⟩ := hMC.deed (S' := drwS (n, C, tol, drw) (D)) fu hb
      refine ⟨u, ?_, by simp only [turnC, q0, if_false, hDn, ek, ea, et, kk, qf, Bool.false_eq_true]; exact r1, r2⟩
      simp only [turnC, q0, if_false, hDn, ek, ea, et, kk, qf, Bool.false_eq_true]
      refine sem_eq (Nat.le_of_ble_eq_true rfl) ?_
      show wp mX9_turns 0 [some (.ref o), none, none, none, none, none] [] _ _
      refine head _ ?_
      have hb0 : b2i (freeB C n k (nI a) (nI t - 15) = true) = 0 := b2i_f qf
      simp only [eX9_turns_88, eX9_turns_89, eX9_turns_92, eX9_turns_93, eX9_turns_94, eX9_turns_95, eX9_turns_96, eX9_turns_97, eX9_turns_98, eX9_turns_99, eX9_turns_101, eX9_turns_104, eX9_turns_106, eX9_turns_109, eX9_turns_110, eX9_turns_111, eX9_turns_112, eX9_turns_115, eX9_turns_116, eX9_turns_118, cont_some, tl_some, tl_none, csum_nil, csum_i, csum_r, csum_j, isc2_i, isc2_r, isc2_n, va_rf_s, vfn_ite, true_and, and_true, true_or, or_true, eq_self, Bool.false_eq_true, not_false_eq_true, not_true_eq_false, if_true, if_false, Nat.reduceAdd, Nat.reduceLeDiff, reduceIte, hmx.1, hmx.2.1, hmx.2.2.1, hmx.2.2.2.1, hmx.2.2.2.2.1, hmx.2.2.2.2.2.1, hmx.2.2.2.2.2.2.1, hmx.2.2.2.2.2.2.2.1, hmx.2.2.2.2.2.2.2.2.1, hmx.2.2.2.2.2.2.2.2.2.1, hmx.2.2.2.2.2.2.2.2.2.2.1, hmx.2.2.2.2.2.2.2.2.2.2.2.1, hmx.2.2.2.2.2.2.2.2.2.2.2.2.1, hmx.2.2.2.2.2.2.2.2.2.2.2.2.2.1, hmx.2.2.2.2.2.2.2.2.2.2.2.2.2.2.1, hmx.2.2.2.2.2.2.2.2.2.2.2.2.2.2.2.1, hmx.2.2.2.2.2.2.2.2.2.2.2.2.2.2.2.2.1, hmx.2.2.2.2.2.2.2.2.2.2.2.2.2.2.2.2.2.1, hmx.2.2.2.2.2.2.2.2.2.2.2.2.2.2.2.2.2.2.1, hmx.2.2.2.2.2.2.2.2.2.2.2.2.2.2.2.2.2.2.2.1, hmx.2.2.2.2.2.2.2.2.2.2.2.2.2.2.2.2.2.2.2.2.1, hmx.2.2.2.2.2.2.2.2.2.2.2.2.2.2.2.2.2.2.2.2.2.1, hmx.2.2.2.2.2.2.2.2.2.2.2.2.2.2.2.2.2.2.2.2.2.2.1, hmx.2.2.2.2.2.2.2.2.2.2.2.2.2.2.2.2.2.2.2.2.2.2.2.1, hmx.2.2.2.2.2.2.2.2.2.2.2.2.2.2.2.2.2.2.2.2.2.2.2.2, hb0, b2i_F, hidx, hp, iI, iK]
      exact hu.symm
def driftN : Nat → Nat → Cst → Nat × Cst
  | 0, g, c => (g, c)
  | d + 1, g, c => driftN d (if (turnC c).1 = true then g + 1 else g) (turnC c).2
def opDrift (c : Cst) (n : Int32) : Int32 × Cst := if 1 ≤ n ∧ n ≤ 40 then (nI (driftN n.toNatClampNeg 0 c).1, (driftN n.toNatClampNeg 0 c).2) else (-1, c)
theorem lo_mdrift {w0 : Wd} {o j : Nat} (hj : j ≤ 40) (r : Int32 × Cst) : ∀ (d k g : Nat) (w : Wd) (c : Cst), k + d = j → g ≤ k → MC w o c → FrX (Xc o) w0 w → (nI (driftN d g c).1, (driftN d g c).2) = r →
    wp mX9_drift 18 [some (.ref o), some (.int (nI j)), some (.int (nI g)), some (.int (nI k))] [] w (fun r1 w1 => r1 = some (.int r.1) ∧ MC w1 o r.2 ∧ FrX (Xc o) w0 w1) := by
  intro d
  induction d with
  | zero =>
    intro k g w c hk hg h hf hr
    have h1 : ¬ nI k < nI j := nI_nlt (by omega) (by omega)
    subst hr
    simp only [eX9_drift_18, eX9_drift_19, eX9_drift_20, eX9_drift_44, eX9_drift_45, cont_some, tl_some, tl_none, csum_nil, csum_i, csum_r, csum_j, isc2_i, isc2_r, isc2_n, va_rf_s, vfn_ite, true_and, and_true, true_or, or_true, eq_self, Bool.false_eq_true, not_false_eq_true, not_true_eq_false, if_true, if_false, Nat.reduceAdd, Nat.reduceLeDiff, reduceIte, h1, driftN]
    exact ⟨h, hf⟩
  | succ d ih =>
    intro k g w c hk hg h hf hr
    have h1 : nI k < nI j := nI_lt (by omega) (by omega)
    obtain ⟨u, hu, hM, hF⟩ := m_turns h
    unfold driftN at hr
    simp only [eX9_drift_18, eX9_drift_19, eX9_drift_20, eX9_drift_23, eX9_drift_24, eX9_drift_25, cont_some, tl_some, tl_none, csum_nil, csum_i, csum_r, csum_j, isc2_i, isc2_r, isc2_n, va_rf_s, vfn_ite, true_and, and_true, true_or, or_true, eq_self, Bool.false_eq_true, not_false_eq_true, not_true_eq_false, if_true, if_false, Nat.reduceAdd, Nat.reduceLeDiff, reduceIte, h1, h.1.1, hu]
    by_cases q : (turnC c).1 = true
    · have k1 : ¬ b2i ((turnC c).1 = true) = 0 := by rw [b2i_t q]; decide
      rw [if_pos q] at hr
      simp only [eX9_drift_28, eX9_drift_31, eX9_drift_32, eX9_drift_35, eX9_drift_36, eX9_drift_37, eX9_drift_38, cont_some, tl_some, tl_none, csum_nil, csum_i, csum_r, csum_j, isc2_i, isc2_r, isc2_n, va_rf_s, vfn_ite, true_and, and_true, true_or, or_true, eq_self, Bool.false_eq_true, not_false_eq_true, not_true_eq_false, if_true, if_false, Nat.reduceAdd, Nat.reduceLeDiff, reduceIte, k1, nI_1]
      rw [eX9_drift_41]
      exact ih (k + 1) (g + 1) u _ (by omega) (by omega) hM (hf.tr hF) hr
    · have k1 : b2i ((turnC c).1 = true) = 0 := b2i_f q
      rw [if_neg q] at hr
      have g0 : nI g + 0 = nI g := by rw [nI_p0, nI_a, Nat.add_zero]
      simp only [eX9_drift_28, eX9_drift_31, eX9_drift_32, eX9_drift_35, eX9_drift_36, eX9_drift_37, eX9_drift_38, cont_some, tl_some, tl_none, csum_nil, csum_i, csum_r, csum_j, isc2_i, isc2_r, isc2_n, va_rf_s, vfn_ite, true_and, and_true, true_or, or_true, eq_self, Bool.false_eq_true, not_false_eq_true, not_true_eq_false, if_true, if_false, Nat.reduceAdd, Nat.reduceLeDiff, reduceIte, k1, g0, nI_1]
      rw [eX9_drift_41]
      exact ih (k + 1) g u _ (by omega) (by omega) hM (hf.tr hF) hr
theorem m_drift {w : Wd} {o : Nat} {c : Cst} {n : Int32} (h : MC w o c) : ∃ u, fX9_drift [.ref o, .int n] w = some (some (.int (opDrift c n).1), u) ∧ MC u o (opDrift c n).2 ∧ FrX (Xc o) w u := by
  by_cases q : 1 ≤ n ∧ n ≤ 40
  · obtain ⟨j, hj, rfl⟩ := nI_of2 (M := 40) (n := 40) (by decide) (Int32.not_lt.mpr (Int32.le_trans (by decide) q.1)) q.2
    have kj := nI_clamp (show j < 2 ^ 31 by omega)
    have hh : wp mX9_drift 0 [some (.ref o), some (.int (nI j)), none, none] [] w (fun r1 w1 => r1 = some (.int (opDrift c (nI j)).1) ∧ MC w1 o (opDrift c (nI j)).2 ∧ FrX (Xc o) w w1) := by
      simp only [eX9_drift_0, eX9_drift_1, eX9_drift_2, eX9_drift_3, eX9_drift_6, eX9_drift_9, eX9_drift_12, eX9_drift_13, eX9_drift_14, eX9_drift_15, eX9_drift_16, eX9_drift_17, cont_some, tl_some, tl_none, csum_nil, csum_i, csum_r, csum_j, isc2_i, isc2_r, isc2_n, va_rf_s, vfn_ite, true_and, and_true, true_or, or_true, eq_self, Bool.false_eq_true, not_false_eq_true, not_true_eq_false, if_true, if_false, Nat.reduceAdd, Nat.reduceLeDiff, reduceIte, in140, b2i_0, q, and_self]
      refine lo_mdrift hj (opDrift c (nI j)) j 0 0 w c (by omega) (by omega) h FrX.rf ?_
      simp only [opDrift, q, and_self, if_true, kj]
    obtain ⟨r, u, h1, rfl, h2⟩ := sem_wp (nL := 4) (as := [.ref o, .int (nI j)]) (Nat.le_of_ble_eq_true rfl) hh
    exact ⟨u, h1, h2⟩
  · refine ⟨w, ?_, by simp only [opDrift, q, if_false]; exact h, FrX.rf⟩
    simp only [opDrift, q, if_false]
    refine sem_eq (Nat.le_of_ble_eq_true rfl) ?_
    show wp mX9_drift 0 [some (.ref o), some (.int n), none, none] [] _ _
    simp only [eX9_drift_0, eX9_drift_1, eX9_drift_2, eX9_drift_3, eX9_drift_6, eX9_drift_9, eX9_drift_12, eX9_drift_13, cont_some, tl_some, tl_none, csum_nil, csum_i, csum_r, csum_j, isc2_i, isc2_r, isc2_n, va_rf_s, vfn_ite, true_and, and_true, true_or, or_true, eq_self, Bool.false_eq_true, not_false_eq_true, not_true_eq_false, if_true, if_false, Nat.reduceAdd, Nat.reduceLeDiff, reduceIte, in140, b2i_0, q]
