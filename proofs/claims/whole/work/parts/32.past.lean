/-- outside lo .. hi nothing has changed -/
def Fr (lo hi : Nat) (w u : Wd) : Prop := (∀ c, c < lo ∨ hi ≤ c → u.1 c = w.1 c ∧ u.2.1 c = w.2.1 c ∧ u.2.2.1 c = w.2.2.1 c) ∧ u.2.2.2 = w.2.2.2
section
variable {lo hi lo' hi' a b c k j : Nat} {w u v : Wd}
theorem Fr.rf : Fr lo hi w w := ⟨fun _ _ => ⟨rfl, rfl, rfl⟩, rfl⟩
theorem Fr.tr (h : Fr lo hi w u) (h' : Fr lo hi u v) : Fr lo hi w v := ⟨fun c hc => ⟨(h'.1 c hc).1.trans (h.1 c hc).1, (h'.1 c hc).2.1.trans (h.1 c hc).2.1, (h'.1 c hc).2.2.trans (h.1 c hc).2.2⟩, h'.2.trans h.2⟩
theorem Fr.wide (h : Fr lo hi w u) (h1 : lo' ≤ lo) (h2 : hi ≤ hi') : Fr lo' hi' w u := ⟨fun c hc => h.1 c (by omega), h.2⟩
theorem Fr.wrI {x : Int32} (h : Fr lo hi w u) (h1 : lo ≤ a ∧ a < hi) : Fr lo hi w (wrI u a k x) := ⟨fun c hc => ⟨(up2_ne (by omega)).trans (h.1 c hc).1, (h.1 c hc).2⟩, h.2⟩
theorem Fr.wrJ {x : Int64} (h : Fr lo hi w u) (h1 : lo ≤ a ∧ a < hi) : Fr lo hi w (wrJ u a k x) := ⟨fun c hc => ⟨(h.1 c hc).1, (up2_ne (by omega)).trans (h.1 c hc).2.1, (h.1 c hc).2.2⟩, h.2⟩
theorem Fr.wrR {x : Option Nat} (h : Fr lo hi w u) (h1 : lo ≤ a ∧ a < hi) : Fr lo hi w (wrR u a k x) := ⟨fun c hc => ⟨(h.1 c hc).1, (h.1 c hc).2.1, (up2_ne (by omega)).trans (h.1 c hc).2.2⟩, h.2⟩
theorem Fr.cpI {sa sp da dp n : Nat} (h : Fr lo hi w u) (h1 : lo ≤ da ∧ da < hi) : Fr lo hi w (cpI u sa sp da dp n) := ⟨fun c hc => ⟨by
    rw [← (h.1 c hc).1]
    funext j
    show (if c = da ∧ _ then _ else _) = _
    rw [if_neg (fun q => by omega)], (h.1 c hc).2⟩, h.2⟩
theorem Fr.cpJ {sa sp da dp n : Nat} (h : Fr lo hi w u) (h1 : lo ≤ da ∧ da < hi) : Fr lo hi w (cpJ u sa sp da dp n) := ⟨fun c hc => ⟨(h.1 c hc).1, by
    rw [← (h.1 c hc).2.1]
    funext j
    show (if c = da ∧ _ then _ else _) = _
    rw [if_neg (fun q => by omega)], (h.1 c hc).2.2⟩, h.2⟩
theorem Fr.shp (h : Fr lo hi w u) : shp u c = shp w c := congrArg (fun q : (Nat → Nat × Nat) × Nat × Nat => q.1 c) h.2
theorem Fr.nxt (h : Fr lo hi w u) : nxt u = nxt w := congrArg (fun q : (Nat → Nat × Nat) × Nat × Nat => q.2.1) h.2
theorem Fr.slt (h : Fr lo hi w u) : slt u = slt w := congrArg (fun q : (Nat → Nat × Nat) × Nat × Nat => q.2.2) h.2
theorem Fr.I (h : Fr lo hi w u) (hc : c < lo ∨ hi ≤ c) : rdI u c j = rdI w c j := congrFun (h.1 c hc).1 j
theorem Fr.J (h : Fr lo hi w u) (hc : c < lo ∨ hi ≤ c) : rdJ u c j = rdJ w c j := congrFun (h.1 c hc).2.1 j
theorem Fr.R (h : Fr lo hi w u) (hc : c < lo ∨ hi ≤ c) : rdR u c j = rdR w c j := congrFun (h.1 c hc).2.2 j
theorem isSc.fr (h : isSc w a) (f : Fr lo hi w u) (d : a + 2 ≤ lo ∨ hi ≤ a) : isSc u a := ⟨by rw [f.shp]; exact h.1, by rw [f.R (by omega)]; exact h.2.1, by rw [f.shp]; exact h.2.2⟩
end
/-- a scene: how many places, their numbers in a row, the tolerance, the draw -/
abbrev Sst : Type := Nat × (Nat → Int32) × Int32 × Int32
def scIs (w : Wd) (sc : Nat) (S : Sst) : Prop := isSc w sc ∧ rdI w sc 1 = nI S.1 ∧ S.1 ≤ 10 ∧ (∀ i, i < 3 * S.1 → rdI w (sc + 1) i = S.2.1 i) ∧ rdI w sc 2 = S.2.2.1 ∧ rdI w sc 3 = S.2.2.2
theorem scIs.fr {lo hi a : Nat} {w u : Wd} {S : Sst} (h : scIs w a S) (f : Fr lo hi w u) (d : a + 2 ≤ lo ∨ hi ≤ a) : scIs u a S := by
  obtain ⟨h1, h2, h3, h4, h5, h6⟩ := h
  exact ⟨h1.fr f d, by rw [f.I (by omega)]; exact h2, h3, fun i hi => by rw [f.I (by omega)]; exact h4 i hi, by rw [f.I (by omega)]; exact h5, by rw [f.I (by omega)]; exact h6⟩
theorem s_cpyI {w : Wd} {sa da sp dp n l1 l2 : Nat} (hs : shp w sa = (10, l1)) (hd : shp w da = (10, l2)) (h1 : sp + n ≤ l1) (h2 : dp + n ≤ l2) (h3 : l1 < 2147483648) (h4 : l2 < 2147483648) : cpyFn [.ref sa, .int (nI sp), .ref da, .int (nI dp), .int (nI n)] w = some (none, cpI w sa sp da dp n) := by
  have p : ∀ k, k < 2147483648 → (0 : Int32) ≤ nI k := fun k hk => nI_pos' (by omega)
  simp only [cpyFn, hs, hd, nI_clamp (show sp < 2 ^ 31 by omega), nI_clamp (show dp < 2 ^ 31 by omega), nI_clamp (show n < 2 ^ 31 by omega), p sp (by omega), p dp (by omega), p n (by omega), h1, h2, and_self, if_true]
theorem s_cpyJ {w : Wd} {sa da sp dp n l1 l2 : Nat} (hs : shp w sa = (11, l1)) (hd : shp w da = (11, l2)) (h1 : sp + n ≤ l1) (h2 : dp + n ≤ l2) (h3 : l1 < 2147483648) (h4 : l2 < 2147483648) : cpyFn [.ref sa, .int (nI sp), .ref da, .int (nI dp), .int (nI n)] w = some (none, cpJ w sa sp da dp n) := by
  have p : ∀ k, k < 2147483648 → (0 : Int32) ≤ nI k := fun k hk => nI_pos' (by omega)
  have e : ¬ (11 = 10) := by decide
  simp only [cpyFn, hs, hd, nI_clamp (show sp < 2 ^ 31 by omega), nI_clamp (show dp < 2 ^ 31 by omega), nI_clamp (show n < 2 ^ 31 by omega), p sp (by omega), p dp (by omega), p n (by omega), h1, h2, and_self, if_true, e, if_false]
def bcW (w : Wd) (a b : Nat) : Wd := wrI (wrI (wrI (cpI w (b + 1) 0 (a + 1) 0 30) a 1 (rdI w b 1)) a 2 (rdI w b 2)) a 3 (rdI w b 3)
theorem s_sc_become {w : Wd} {a b : Nat} (ha : isSc w a) (hb : isSc w b) : fX4_become [.ref a, .ref b] w = some (none, bcW w a b) := by
  have hne : b ≠ a + 1 := fun q => by
    have := hb.1
    rw [q, ha.2.2] at this
    exact absurd (congrArg (fun z => z.1) this) (by decide)
  have c0 : cpyFn [.ref (b + 1), .int 0, .ref (a + 1), .int 0, .int (Int32.ofNat 30)] w = some (none, cpI w (b + 1) 0 (a + 1) 0 30) := s_cpyI (sp := 0) (dp := 0) (n := 30) hb.2.2 ha.2.2 (by omega) (by omega) (by omega) (by omega)
  refine sem_eq (Nat.le_of_ble_eq_true rfl) ?_
  show wp mX4_become 0 [some (.ref a), some (.ref b)] [] _ _
  simp only [eX4_become_0, eX4_become_1, eX4_become_4, eX4_become_5, eX4_become_6, eX4_become_9, eX4_become_10, eX4_become_11, eX4_become_14, eX4_become_15, eX4_become_18, eX4_become_19, eX4_become_20, eX4_become_23, eX4_become_26, eX4_become_27, eX4_become_28, eX4_become_31, eX4_become_34, eX4_become_35, eX4_become_36, eX4_become_39, eX4_become_42, cont_some, tl_some, tl_none, csum_nil, csum_i, csum_r, csum_j, isc2_i, isc2_r, isc2_n, va_rf_s, vfn_ite, true_and, and_true, true_or, or_true, eq_self, Bool.false_eq_true, not_false_eq_true, not_true_eq_false, if_true, if_false, Nat.reduceAdd, Nat.reduceLeDiff, reduceIte, ha.1, ha.2.1, ha.2.2, hb.1, hb.2.1, hb.2.2, c0, shp_cpI, shp_wrI, rdI_cpI, rdI_wrI, hne, false_and, Nat.reduceLeDiff, and_self]
  have e2 : (if b = a ∧ 2 = 1 then rdI w b 1 else rdI w b 2) = rdI w b 2 := if_neg (fun q => absurd q.2 (by decide))
  have e3 : (if b = a ∧ 3 = 2 then (if b = a ∧ 2 = 1 then rdI w b 1 else rdI w b 2) else if b = a ∧ 3 = 1 then rdI w b 1 else rdI w b 3) = rdI w b 3 := by
    rw [if_neg (fun q => absurd q.2 (by decide)), if_neg (fun q => absurd q.2 (by decide))]
  simp [bcW]
theorem bcW_fr {w : Wd} {a b : Nat} : Fr a (a + 2) w (bcW w a b) := ((((Fr.rf.cpI ⟨by omega, by omega⟩).wrI ⟨by omega, by omega⟩).wrI ⟨by omega, by omega⟩).wrI ⟨by omega, by omega⟩)
theorem bcW_is {w : Wd} {a b : Nat} {S : Sst} (ha : isSc w a) (hb : scIs w b S) : scIs (bcW w a b) a S := by
  obtain ⟨h1, h2, h3, h4, h5, h6⟩ := hb
  have n1 : ¬ a + 1 = a := by omega
  refine ⟨ha, by simp [bcW, rdI_wrI, h2], h3, fun i hi => ?_, by simp [bcW, rdI_wrI, h5], by simp [bcW, rdI_wrI, h6]⟩
  simp only [bcW, rdI_wrI, rdI_cpI, n1, false_and, if_false]
  rw [if_pos ⟨trivial, by omega, by omega⟩, Nat.zero_add, Nat.sub_zero]
  exact h4 i hi
/-! Past: the cell at pa, its row behind it, then six scenes, which the row holds in some order -/
def isPa (w : Wd) (pa : Nat) (ad : Nat → Nat) : Prop := shp w pa = (2, 0) ∧ rdR w pa 0 = some (pa + 1) ∧ shp w (pa + 1) = (15, 6) ∧ (∀ k, k < 6 → rdR w (pa + 1) k = some (ad k) ∧ isSc w (ad k) ∧ pa + 2 ≤ ad k ∧ ad k + 2 ≤ pa + 14) ∧ ∀ i j, i < 6 → j < 6 → i ≠ j → ad i + 2 ≤ ad j ∨ ad j + 2 ≤ ad i
def paIs (w : Wd) (pa m : Nat) (S : Nat → Sst) : Prop := ∃ ad, isPa w pa ad ∧ rdI w pa 1 = nI m ∧ m ≤ 6 ∧ ∀ k, k < m → scIs w (ad k) (S k)
theorem isPa.fr {lo hi pa : Nat} {ad : Nat → Nat} {w u : Wd} (h : isPa w pa ad) (f : Fr lo hi w u) (d : pa + 14 ≤ lo ∨ hi ≤ pa) : isPa u pa ad := by
  obtain ⟨h1, h2, h3, h4, h5⟩ := h
  refine ⟨by rw [f.shp]; exact h1, by rw [f.R (by omega)]; exact h2, by rw [f.shp]; exact h3, fun k hk => ?_, h5⟩
  obtain ⟨g1, g2, g3, g4⟩ := h4 k hk
  exact ⟨by rw [f.R (by omega)]; exact g1, g2.fr f (by omega), g3, g4⟩
theorem paIs.fr {lo hi pa m : Nat} {S : Nat → Sst} {w u : Wd} (h : paIs w pa m S) (f : Fr lo hi w u) (d : pa + 14 ≤ lo ∨ hi ≤ pa) : paIs u pa m S := by
  obtain ⟨ad, h1, h2, h3, h4⟩ := h
  refine ⟨ad, h1.fr f d, by rw [f.I (by omega)]; exact h2, h3, fun k hk => ?_⟩
  obtain ⟨-, -, g3, g4⟩ := h1.2.2.2.1 k (by omega)
  exact (h4 k hk).fr f (by omega)
/-- the past with one more -/
def pushM (m : Nat) : Nat := if m < 6 then m + 1 else 6
def pushS (m : Nat) (S : Nat → Sst) (s : Sst) : Nat → Sst := fun k => if m < 6 then (if k = m then s else S k) else (if k = 5 then s else S (k + 1))
def rotA (ad : Nat → Nat) : Nat → Nat := fun k => if k = 5 then ad 0 else ad (k + 1)
theorem lit6 : inA 0 6 = true ∧ inA 1 6 = true ∧ inA 2 6 = true ∧ inA 3 6 = true ∧ inA 4 6 = true ∧ inA 5 6 = true := by decide
theorem litc : (0 : Int32).toNatClampNeg = 0 ∧ (1 : Int32).toNatClampNeg = 1 ∧ (2 : Int32).toNatClampNeg = 2 ∧ (3 : Int32).toNatClampNeg = 3 ∧ (4 : Int32).toNatClampNeg = 4 ∧ (5 : Int32).toNatClampNeg = 5 := by decide
def fgW (w : Wd) (pa : Nat) (ad : Nat → Nat) : Wd := wrI (wrR (wrR (wrR (wrR (wrR (wrR w (pa + 1) 0 (some (ad 1))) (pa + 1) 1 (some (ad 2))) (pa + 1) 2 (some (ad 3))) (pa + 1) 3 (some (ad 4))) (pa + 1) 4 (some (ad 5))) (pa + 1) 5 (some (ad 0))) pa 1 5
theorem s_forget {w : Wd} {pa : Nat} {ad : Nat → Nat} (h : isPa w pa ad) : fX2_forgetOldest [.ref pa] w = some (none, fgW w pa ad) := by
  obtain ⟨h1, h2, h3, h4, h5⟩ := h
  have n1 : ¬ pa = pa + 1 := by omega
  have r0 := (h4 0 (by omega)).1
  have r1 := (h4 1 (by omega)).1
  have r2 := (h4 2 (by omega)).1
  have r3 := (h4 3 (by omega)).1
  have r4 := (h4 4 (by omega)).1
  have r5 := (h4 5 (by omega)).1
  have s0 := (h4 0 (by omega)).2.1.1
  have s1 := (h4 1 (by omega)).2.1.1
  have s2 := (h4 2 (by omega)).2.1.1
  have s3 := (h4 3 (by omega)).2.1.1
  have s4 := (h4 4 (by omega)).2.1.1
  have s5 := (h4 5 (by omega)).2.1.1
  have q1 : (1 : Int32) < 6 := by decide
  have q2 : (2 : Int32) < 6 := by decide
  have q3 : (3 : Int32) < 6 := by decide
  have q4 : (4 : Int32) < 6 := by decide
  have q5 : (5 : Int32) < 6 := by decide
  have q6 : ¬ (6 : Int32) < 6 := by decide
  have a1 : (1 : Int32) + 1 = 2 := by decide
  have a2 : (2 : Int32) + 1 = 3 := by decide
  have a3 : (3 : Int32) + 1 = 4 := by decide
  have a4 : (4 : Int32) + 1 = 5 := by decide
  have a5 : (5 : Int32) + 1 = 6 := by decide
  have b1 : (1 : Int32) - 1 = 0 := by decide
  have b2 : (2 : Int32) - 1 = 1 := by decide
  have b3 : (3 : Int32) - 1 = 2 := by decide
  have b4 : (4 : Int32) - 1 = 3 := by decide
  have b5 : (5 : Int32) - 1 = 4 := by decide
  obtain ⟨i0, i1, i2, i3, i4, i5⟩ := lit6
  obtain ⟨c0, c1, c2, c3, c4, c5⟩ := litc
  have elc : elC 15 = 4 := rfl
  have m15 : 15 ∈ [14, 15, 16, 17] := by decide
  refine sem_eq (Nat.le_of_ble_eq_true rfl) ?_
  show wp mX2_forgetOldest 0 [some (.ref pa), none, none] [] _ _
  simp only [eX2_forgetOldest_0, eX2_forgetOldest_1, eX2_forgetOldest_4, eX2_forgetOldest_5, eX2_forgetOldest_6, eX2_forgetOldest_7, eX2_forgetOldest_8, eX2_forgetOldest_9, eX2_forgetOldest_10, eX2_forgetOldest_12, eX2_forgetOldest_15, eX2_forgetOldest_16, eX2_forgetOldest_19, eX2_forgetOldest_20, eX2_forgetOldest_21, eX2_forgetOldest_22, eX2_forgetOldest_23, eX2_forgetOldest_26, eX2_forgetOldest_27, eX2_forgetOldest_28, eX2_forgetOldest_29, eX2_forgetOldest_32, eX2_forgetOldest_35, eX2_forgetOldest_36, eX2_forgetOldest_39, eX2_forgetOldest_40, eX2_forgetOldest_41, eX2_forgetOldest_42, eX2_forgetOldest_43, eX2_forgetOldest_44, eX2_forgetOldest_47, cont_some, tl_some, tl_none, csum_nil, csum_i, csum_r, csum_j, isc2_i, isc2_r, isc2_n, va_rf_s, vfn_ite, true_and, and_true, true_or, or_true, eq_self, Bool.false_eq_true, not_false_eq_true, not_true_eq_false, if_true, if_false, Nat.reduceAdd, Nat.reduceLeDiff, reduceIte, h1, h2, h3, r0, r1, r2, r3, r4, r5, s0, s1, s2, s3, s4, s5, q1, q2, q3, q4, q5, q6, a1, a2, a3, a4, a5, b1, b2, b3, b4, b5, i0, i1, i2, i3, i4, i5, c0, c1, c2, c3, c4, c5, elc, m15, shp_wrR, shp_wrI, rdR_wrR, n1, false_and, and_self, Nat.reduceEqDiff, and_false, fgW]
theorem fgW_is {w : Wd} {pa : Nat} {ad : Nat → Nat} (h : isPa w pa ad) : isPa (fgW w pa ad) pa (rotA ad) ∧ rdI (fgW w pa ad) pa 1 = 5 ∧ Fr pa (pa + 2) w (fgW w pa ad) ∧ ∀ c, c ≠ pa → rdI (fgW w pa ad) c = rdI w c := by
  obtain ⟨h1, h2, h3, h4, h5⟩ := h
  have n1 : ¬ pa = pa + 1 := by omega
  have fr : Fr pa (pa + 2) w (fgW w pa ad) := by
    unfold fgW
    exact ((((((Fr.rf.wrR ⟨by omega, by omega⟩).wrR ⟨by omega, by omega⟩).wrR ⟨by omega, by omega⟩).wrR ⟨by omega, by omega⟩).wrR ⟨by omega, by omega⟩).wrR ⟨by omega, by omega⟩).wrI ⟨by omega, by omega⟩
  refine ⟨⟨h1, by simp [fgW, rdR_wrI, rdR_wrR, n1, h2], h3, fun k hk => ?_, fun i j hi hj hij => ?_⟩, by simp [fgW, rdI_wrI], fr, fun c hc => ?_⟩
  · have hr : rdR (fgW w pa ad) (pa + 1) k = some (rotA ad k) := by
      have : k = 0 ∨ k = 1 ∨ k = 2 ∨ k = 3 ∨ k = 4 ∨ k = 5 := by omega
      rcases this with q | q | q | q | q | q <;> subst q <;> simp [fgW, rdR_wrI, rdR_wrR, rotA]
    have hx : ∃ i, i < 6 ∧ rotA ad k = ad i := by
      unfold rotA
      split
      · exact ⟨0, by omega, rfl⟩
      · exact ⟨k + 1, by omega, rfl⟩
    obtain ⟨i, hi, e⟩ := hx
    obtain ⟨-, g2, g3, g4⟩ := h4 i hi
    rw [hr, e]
    exact ⟨rfl, g2.fr fr (by omega), g3, g4⟩
  · unfold rotA
    split <;> split
    · omega
    · exact h5 0 (j + 1) (by omega) (by omega) (by omega)
    · exact h5 (i + 1) 0 (by omega) (by omega) (by omega)
    · exact h5 (i + 1) (j + 1) (by omega) (by omega) (by omega)
  · funext j
    simp [fgW, rdI_wrI, rdI_wrR, hc]
theorem isPa.upd {w u : Wd} {pa lo hi : Nat} {ad : Nat → Nat} (h : isPa w pa ad) (f : Fr lo hi w u) (hr : u.2.2.1 = w.2.2.1) : isPa u pa ad := by
  obtain ⟨h1, h2, h3, h4, h5⟩ := h
  have er : ∀ c j, rdR u c j = rdR w c j := fun c j => by unfold rdR; rw [hr]
  refine ⟨by rw [f.shp]; exact h1, by rw [er]; exact h2, by rw [f.shp]; exact h3, fun k hk => ?_, h5⟩
  obtain ⟨g1, g2, g3, g4⟩ := h4 k hk
  exact ⟨by rw [er]; exact g1, ⟨by rw [f.shp]; exact g2.1, by rw [er]; exact g2.2.1, by rw [f.shp]; exact g2.2.2⟩, g3, g4⟩
theorem s_keep {w : Wd} {pa sc m : Nat} {S : Nat → Sst} {s : Sst} (h : paIs w pa m S) (hs : scIs w sc s) (hd : sc + 2 ≤ pa ∨ pa + 14 ≤ sc) : ∃ u, fX2_keep [.ref pa, .ref sc] w = some (none, u) ∧ paIs u pa (pushM m) (pushS m S s) ∧ Fr pa (pa + 14) w u := by
  obtain ⟨ad, hp, hm, hm6, hS⟩ := h
  have m15 : 15 ∈ [14, 15, 16, 17] := by decide
  -- from 13 on, with k < 6 known
  have fin_ : ∀ (v : Wd) (ad : Nat → Nat) (k : Nat), isPa v pa ad → rdI v pa 1 = nI k → k < 6 → isSc v sc →
      wp mX2_keep 13 [some (.ref pa), some (.ref sc)] [] v (fun r1 w1 => r1 = none ∧ w1 = wrI (bcW v (ad k) sc) pa 1 (nI (k + 1))) := by
    intro v ad k hv hk hk6 hsc
    obtain ⟨h1, h2, h3, h4, h5⟩ := hv
    obtain ⟨g1, g2, g3, g4⟩ := h4 k hk6
    have bi : rdI (bcW v (ad k) sc) pa 1 = nI k := by rw [bcW_fr.I (by omega)]; exact hk
    have bs : shp (bcW v (ad k) sc) pa = (2, 0) := h1
    simp only [eX2_keep_13, eX2_keep_14, eX2_keep_17, eX2_keep_18, eX2_keep_21, eX2_keep_22, eX2_keep_23, eX2_keep_26, eX2_keep_27, eX2_keep_27i, eX2_keep_28, eX2_keep_31, eX2_keep_32, eX2_keep_33, eX2_keep_36, cont_some, tl_some, tl_none, csum_nil, csum_i, csum_r, csum_j, isc2_i, isc2_r, isc2_n, va_rf_s, vfn_ite, true_and, and_true, true_or, or_true, eq_self, Bool.false_eq_true, not_false_eq_true, not_true_eq_false, if_true, if_false, Nat.reduceAdd, Nat.reduceLeDiff, reduceIte, h1, h2, h3, hk, inA_nI hk6 (by omega), nI_clamp (show k < 2 ^ 31 by omega), g1, g2.1, m15, s_sc_become g2 hsc, bi, bs, nI_1]
  by_cases q : m < 6
  · have hlt : nI m < 6 := nI_lt (b := 6) q (by decide)
    have hh : wp mX2_keep 0 [some (.ref pa), some (.ref sc)] [] w (fun r1 w1 => r1 = none ∧ w1 = wrI (bcW w (ad m) sc) pa 1 (nI (m + 1))) := by
      simp only [eX2_keep_0, eX2_keep_1, eX2_keep_4, eX2_keep_6, cont_some, tl_some, tl_none, csum_nil, csum_i, csum_r, csum_j, isc2_i, isc2_r, isc2_n, va_rf_s, vfn_ite, true_and, and_true, true_or, or_true, eq_self, Bool.false_eq_true, not_false_eq_true, not_true_eq_false, if_true, if_false, Nat.reduceAdd, Nat.reduceLeDiff, reduceIte, hp.1, hm, hlt]
      exact fin_ w ad m hp hm q hs.1
    obtain ⟨g1, g2, g3, g4⟩ := hp.2.2.2.1 m q
    refine ⟨_, sem_eq (Nat.le_of_ble_eq_true rfl) hh, ⟨ad, (hp.upd (Fr.wrI (Fr.wide (lo' := pa) (hi' := pa + 14) bcW_fr (by omega) g4) ⟨by omega, by omega⟩) rfl), by simp [rdI_wrI, pushM, q], by simp [pushM, q]; omega, fun k hk => ?_⟩, (Fr.wide (lo' := pa) (hi' := pa + 14) bcW_fr (by omega) g4).wrI ⟨by omega, by omega⟩⟩
    simp only [pushM, q, if_true] at hk
    simp only [pushS, q, if_true]
    have frP : Fr pa (pa + 1) (bcW w (ad m) sc) (wrI (bcW w (ad m) sc) pa 1 (nI (m + 1))) := Fr.rf.wrI ⟨by omega, by omega⟩
    by_cases e : k = m
    · rw [if_pos e]; subst e
      exact (bcW_is g2 hs).fr frP (by omega)
    · rw [if_neg e]
      have hx := hp.2.2.2.1 k (by omega)
      have hy := hp.2.2.2.2 k m (by omega) q e
      exact ((hS k (by omega)).fr bcW_fr (by omega)).fr frP (by omega)
  · have h6 : m = 6 := by omega
    subst h6
    have hlt : ¬ nI 6 < 6 := by decide
    obtain ⟨f1, f2, f3, f4⟩ := fgW_is hp
    have hsc : isSc (fgW w pa ad) sc := hs.1.fr f3 (by omega)
    have hh : wp mX2_keep 0 [some (.ref pa), some (.ref sc)] [] w (fun r1 w1 => r1 = none ∧ w1 = wrI (bcW (fgW w pa ad) (rotA ad 5) sc) pa 1 (nI 6)) := by
      simp only [eX2_keep_0, eX2_keep_1, eX2_keep_4, eX2_keep_6, eX2_keep_9, eX2_keep_10, cont_some, tl_some, tl_none, csum_nil, csum_i, csum_r, csum_j, isc2_i, isc2_r, isc2_n, va_rf_s, vfn_ite, true_and, and_true, true_or, or_true, eq_self, Bool.false_eq_true, not_false_eq_true, not_true_eq_false, if_true, if_false, Nat.reduceAdd, Nat.reduceLeDiff, reduceIte, hp.1, hm, hlt, s_forget hp]
      exact fin_ _ (rotA ad) 5 f1 f2 (by omega) hsc
    obtain ⟨g1, g2, g3, g4⟩ := f1.2.2.2.1 5 (by omega)
    refine ⟨_, sem_eq (Nat.le_of_ble_eq_true rfl) hh, ⟨rotA ad, f1.upd (Fr.wrI (Fr.wide (lo' := pa) (hi' := pa + 14) bcW_fr (by omega) g4) ⟨by omega, by omega⟩) rfl, by simp [rdI_wrI, pushM], by simp [pushM], fun k hk => ?_⟩, (f3.wide (by omega) (by omega)).tr ((Fr.wide (lo' := pa) (hi' := pa + 14) bcW_fr (by omega) g4).wrI ⟨by omega, by omega⟩)⟩
    simp only [pushM] at hk
    have frP : Fr pa (pa + 1) (bcW (fgW w pa ad) (rotA ad 5) sc) (wrI (bcW (fgW w pa ad) (rotA ad 5) sc) pa 1 (nI 6)) := Fr.rf.wrI ⟨by omega, by omega⟩
    have hs' : scIs (fgW w pa ad) sc s := hs.fr f3 (by omega)
    by_cases e : k = 5
    · subst e
      simp only [pushS]
      exact (bcW_is g2 hs').fr frP (by omega)
    · have hk6 : k < 6 := hk
      simp only [pushS, e, if_false]
      have hx := f1.2.2.2.1 k (by omega)
      have hy := f1.2.2.2.2 k 5 (by omega) (by omega) e
      have hz := hS (k + 1) (by omega)
      have er : rotA ad k = ad (k + 1) := by simp [rotA, e]
      have h0 := hp.2.2.2.1 (k + 1) (by omega)
      rw [er] at hy ⊢
      exact ((hz.fr f3 (by omega)).fr bcW_fr (by omega)).fr frP (by omega)
theorem s_bringBack {w : Wd} {pa sc m : Nat} {S : Nat → Sst} (h : paIs w pa (m + 1) S) (hs : isSc w sc) (hd : sc + 2 ≤ pa ∨ pa + 14 ≤ sc) : ∃ u v, fX2_bringBack [.ref pa, .ref sc] w = some (none, u) ∧ paIs u pa m S ∧ scIs u sc (S m) ∧ Fr pa (pa + 14) w v ∧ Fr sc (sc + 2) v u := by
  obtain ⟨ad, hp, hm, hm6, hS⟩ := h
  have m15 : 15 ∈ [14, 15, 16, 17] := by decide
  obtain ⟨g1, g2, g3, g4⟩ := hp.2.2.2.1 m (by omega)
  have hpos : 0 < nI (m + 1) := nI_lt (a := 0) (by omega) (by omega)
  have g2' : isSc (wrI w pa 1 (nI m)) (ad m) := g2
  have hs' : isSc (wrI w pa 1 (nI m)) sc := hs
  have hh : wp mX2_bringBack 0 [some (.ref pa), some (.ref sc)] [] w (fun r1 w1 => r1 = none ∧ w1 = bcW (wrI w pa 1 (nI m)) sc (ad m)) := by
    simp only [eX2_bringBack_0, eX2_bringBack_1, eX2_bringBack_4, eX2_bringBack_7, eX2_bringBack_8, eX2_bringBack_8i, eX2_bringBack_9, eX2_bringBack_12, eX2_bringBack_13, eX2_bringBack_14, eX2_bringBack_17, eX2_bringBack_18, eX2_bringBack_19, eX2_bringBack_22, eX2_bringBack_23, eX2_bringBack_26, eX2_bringBack_27, eX2_bringBack_30, cont_some, tl_some, tl_none, csum_nil, csum_i, csum_r, csum_j, isc2_i, isc2_r, isc2_n, va_rf_s, vfn_ite, true_and, and_true, true_or, or_true, eq_self, Bool.false_eq_true, not_false_eq_true, not_true_eq_false, if_true, if_false, Nat.reduceAdd, Nat.reduceLeDiff, reduceIte, hp.1, hp.2.1, hp.2.2.1, hm, hpos, nI_pred, shp_wrI, rdR_wrI, rdI_wrI, and_self, inA_nI (show m < 6 by omega) (by omega), nI_clamp (show m < 2 ^ 31 by omega), g1, g2.1, m15, hs.1, s_sc_become hs' g2']
  have frP : Fr pa (pa + 1) w (wrI w pa 1 (nI m)) := Fr.rf.wrI ⟨by omega, by omega⟩
  refine ⟨_, wrI w pa 1 (nI m), sem_eq (Nat.le_of_ble_eq_true rfl) hh, ⟨ad, (isPa.upd (show isPa (wrI w pa 1 (nI m)) pa ad from hp) bcW_fr rfl), by rw [bcW_fr.I (by omega)]; simp [rdI_wrI], by omega, fun k hk => ?_⟩, bcW_is hs' ((hS m (by omega)).fr frP (by omega)), frP.wide (by omega) (by omega), bcW_fr⟩
  have hx := hp.2.2.2.1 k (by omega)
  exact ((hS k (by omega)).fr frP (by omega)).fr bcW_fr (by omega)
theorem lo_paBecome {w0 : Wd} {pa pb m : Nat} {ad bd : Nat → Nat} {S : Nat → Sst} (hm6 : m ≤ 6) (hd : pa + 14 ≤ pb ∨ pb + 14 ≤ pa) : ∀ (d k : Nat) (v : Wd), k + d = m → isPa v pa ad → isPa v pb bd → rdI v pa 1 = nI m → (∀ i, i < k → scIs v (ad i) (S i)) → (∀ i, i < m → scIs v (bd i) (S i)) → Fr pa (pa + 14) w0 v →
    wp mX2_become 10 [some (.ref pa), some (.ref pb), some (.int (nI k))] [] v (fun r1 w1 => r1 = none ∧ paIs w1 pa m S ∧ Fr pa (pa + 14) w0 w1) := by
  have m15 : 15 ∈ [14, 15, 16, 17] := by decide
  intro d
  induction d with
  | zero =>
    intro k v hk ha hb hm hA hB hf
    have h1 : ¬ nI k < nI m := nI_nlt (by omega) (by omega)
    simp only [eX2_become_10, eX2_become_11, eX2_become_12, eX2_become_15, eX2_become_39, cont_some, tl_some, tl_none, csum_nil, csum_i, csum_r, csum_j, isc2_i, isc2_r, isc2_n, va_rf_s, vfn_ite, true_and, and_true, true_or, or_true, eq_self, Bool.false_eq_true, not_false_eq_true, not_true_eq_false, if_true, if_false, Nat.reduceAdd, Nat.reduceLeDiff, reduceIte, ha.1, hm, h1]
    exact ⟨⟨ad, ha, hm, hm6, fun i hi => hA i (by omega)⟩, hf⟩
  | succ d ih =>
    intro k v hk ha hb hm hA hB hf
    have h1 : nI k < nI m := nI_lt (by omega) (by omega)
    obtain ⟨g1, g2, g3, g4⟩ := ha.2.2.2.1 k (by omega)
    obtain ⟨e1, e2, e3, e4⟩ := hb.2.2.2.1 k (by omega)
    simp only [eX2_become_10, eX2_become_11, eX2_become_12, eX2_become_15, eX2_become_18, eX2_become_19, eX2_become_22, eX2_become_23, eX2_become_24, eX2_become_25, eX2_become_28, eX2_become_29, eX2_become_30, eX2_become_33, cont_some, tl_some, tl_none, csum_nil, csum_i, csum_r, csum_j, isc2_i, isc2_r, isc2_n, va_rf_s, vfn_ite, true_and, and_true, true_or, or_true, eq_self, Bool.false_eq_true, not_false_eq_true, not_true_eq_false, if_true, if_false, Nat.reduceAdd, Nat.reduceLeDiff, reduceIte, ha.1, ha.2.1, ha.2.2.1, hb.1, hb.2.1, hb.2.2.1, hm, h1, inA_nI (show k < 6 by omega) (by omega), nI_clamp (show k < 2 ^ 31 by omega), g1, e1, g2.1, m15, s_sc_become g2 e2, nI_1]
    rw [eX2_become_36]
    refine ih (k + 1) (bcW v (ad k) (bd k)) (by omega) (ha.upd (lo := ad k) (hi := ad k + 2) bcW_fr rfl) (hb.upd (lo := ad k) (hi := ad k + 2) bcW_fr rfl) (by rw [bcW_fr.I (by omega)]; exact hm) (fun i hi => ?_) (fun i hi => ?_) (hf.tr (bcW_fr.wide (by omega) g4))
    · by_cases e : i = k
      · subst e; exact bcW_is g2 (hB i (by omega))
      · have hx := ha.2.2.2.2 i k (by omega) (by omega) e
        exact (hA i (by omega)).fr bcW_fr (by omega)
    · have hx := hb.2.2.2.1 i (by omega)
      exact (hB i hi).fr bcW_fr (by omega)
theorem s_paBecome {w : Wd} {pa pb m m0 : Nat} {S S0 : Nat → Sst} (ha : paIs w pa m0 S0) (hb : paIs w pb m S) (hd : pa + 14 ≤ pb ∨ pb + 14 ≤ pa) : ∃ u, fX2_become [.ref pa, .ref pb] w = some (none, u) ∧ paIs u pa m S ∧ Fr pa (pa + 14) w u := by
  obtain ⟨ad, a1, a2, a3, a4⟩ := ha
  obtain ⟨bd, b1, b2, b3, b4⟩ := hb
  have frP : Fr pa (pa + 1) w (wrI w pa 1 (nI m)) := Fr.rf.wrI ⟨by omega, by omega⟩
  have hh : wp mX2_become 0 [some (.ref pa), some (.ref pb), none] [] w (fun r1 w1 => r1 = none ∧ paIs w1 pa m S ∧ Fr pa (pa + 14) w w1) := by
    simp only [eX2_become_0, eX2_become_1, eX2_become_2, eX2_become_5, eX2_become_8, eX2_become_9, cont_some, tl_some, tl_none, csum_nil, csum_i, csum_r, csum_j, isc2_i, isc2_r, isc2_n, va_rf_s, vfn_ite, true_and, and_true, true_or, or_true, eq_self, Bool.false_eq_true, not_false_eq_true, not_true_eq_false, if_true, if_false, Nat.reduceAdd, Nat.reduceLeDiff, reduceIte, a1.1, b1.1, b2]
    refine lo_paBecome (ad := ad) (bd := bd) b3 hd m 0 _ (by omega) a1 b1 (by simp [rdI_wrI]) (fun i hi => absurd hi (by omega)) (fun i hi => ?_) (frP.wide (by omega) (by omega))
    have hx := b1.2.2.2.1 i (by omega)
    exact (b4 i hi).fr frP (by omega)
  obtain ⟨r, u, h1, rfl, h2⟩ := sem_wp (nL := 3) (as := [.ref pa, .ref pb]) (Nat.le_of_ble_eq_true rfl) hh
  exact ⟨u, h1, h2⟩
/-! Scene: out, apart, a turn -/
def rmW (w : Wd) (sc n k : Nat) : Wd := wrI (cpI w (sc + 1) (3 * (k + 1)) (sc + 1) (3 * k) (3 * n - 3 * (k + 1))) sc 1 (nI (n - 1))
theorem s_remove {w : Wd} {sc n k : Nat} (h : isSc w sc) (hn : rdI w sc 1 = nI n) (h10 : n ≤ 10) (hk : k < n) : fX4_remove [.ref sc, .int (nI k)] w = some (none, rmW w sc n k) := by
  have n1 : ¬ sc = sc + 1 := by omega
  have c0 := s_cpyI (w := w) (sa := sc + 1) (da := sc + 1) (sp := 3 * (k + 1)) (dp := 3 * k) (n := 3 * n - 3 * (k + 1)) h.2.2 h.2.2 (by omega) (by omega) (by omega) (by omega)
  obtain ⟨n', rfl⟩ : ∃ n', n = n' + 1 := ⟨n - 1, by omega⟩
  refine sem_eq (Nat.le_of_ble_eq_true rfl) ?_
  show wp mX4_remove 0 [some (.ref sc), some (.int (nI k)), none] [] _ _
  simp only [eX4_remove_0, eX4_remove_1, eX4_remove_2, eX4_remove_3, eX4_remove_4, eX4_remove_5, eX4_remove_6, eX4_remove_7, eX4_remove_10, eX4_remove_11, eX4_remove_12, eX4_remove_15, eX4_remove_16, eX4_remove_17, eX4_remove_18, eX4_remove_19, eX4_remove_22, eX4_remove_23, eX4_remove_24, eX4_remove_25, eX4_remove_26, eX4_remove_29, eX4_remove_30, eX4_remove_30i, eX4_remove_31, eX4_remove_34, eX4_remove_35, eX4_remove_36, eX4_remove_39, cont_some, tl_some, tl_none, csum_nil, csum_i, csum_r, csum_j, isc2_i, isc2_r, isc2_n, va_rf_s, vfn_ite, true_and, and_true, true_or, or_true, eq_self, Bool.false_eq_true, not_false_eq_true, not_true_eq_false, if_true, if_false, Nat.reduceAdd, Nat.reduceLeDiff, reduceIte, h.1, h.2.1, h.2.2, hn, nI_1, nI_m3, pk_sub (show 3 * (k + 1) ≤ 3 * (n' + 1) by omega), c0, shp_cpI, rdI_cpI, n1, false_and, nI_pred, rmW, Nat.add_sub_cancel]
/-- a set's way apart, squared -/
def ap3 (C : Nat → Int32) (k l : Nat) : Int32 := 0 + (C (3 * k) - C (3 * l)) * (C (3 * k) - C (3 * l)) + (C (3 * k + 1) - C (3 * l + 1)) * (C (3 * k + 1) - C (3 * l + 1)) + (C (3 * k + 2) - C (3 * l + 2)) * (C (3 * k + 2) - C (3 * l + 2))
theorem s_sc_apart {w : Wd} {sc k l : Nat} (h : isSc w sc) (hk : k < 10) (hl : l < 10) : fX4_apart [.ref sc, .int (nI k), .int (nI l)] w = some (some (.int (ap3 (rdI w (sc + 1)) k l)), w) := by
  have c0 : fX4_coordinate [.ref sc, .int (nI k), .int 0] w = some (some (.int (rdI w (sc + 1) (3 * k))), w) := s_coordinate (j := 0) h (by omega)
  have c1 : fX4_coordinate [.ref sc, .int (nI k), .int 1] w = some (some (.int (rdI w (sc + 1) (3 * k + 1))), w) := s_coordinate (j := 1) h (by omega)
  have c2 : fX4_coordinate [.ref sc, .int (nI k), .int 2] w = some (some (.int (rdI w (sc + 1) (3 * k + 2))), w) := s_coordinate (j := 2) h (by omega)
  have e0 : fX4_coordinate [.ref sc, .int (nI l), .int 0] w = some (some (.int (rdI w (sc + 1) (3 * l))), w) := s_coordinate (j := 0) h (by omega)
  have e1 : fX4_coordinate [.ref sc, .int (nI l), .int 1] w = some (some (.int (rdI w (sc + 1) (3 * l + 1))), w) := s_coordinate (j := 1) h (by omega)
  have e2 : fX4_coordinate [.ref sc, .int (nI l), .int 2] w = some (some (.int (rdI w (sc + 1) (3 * l + 2))), w) := s_coordinate (j := 2) h (by omega)
  have q0 : (0 : Int32) < 3 := by decide
  have q1 : (1 : Int32) < 3 := by decide
  have q2 : (2 : Int32) < 3 := by decide
  have q3 : ¬ (3 : Int32) < 3 := by decide
  have a0 : (0 : Int32) + 1 = 1 := by decide
  have a1 : (1 : Int32) + 1 = 2 := by decide
  have a2 : (2 : Int32) + 1 = 3 := by decide
  refine sem_eq (Nat.le_of_ble_eq_true rfl) ?_
  show wp mX4_apart 0 [some (.ref sc), some (.int (nI k)), some (.int (nI l)), none, none, none] [] _ _
  simp only [eX4_apart_0, eX4_apart_1, eX4_apart_2, eX4_apart_3, eX4_apart_5, eX4_apart_7, eX4_apart_8, eX4_apart_11, eX4_apart_12, eX4_apart_13, eX4_apart_15, eX4_apart_18, eX4_apart_19, eX4_apart_20, eX4_apart_22, eX4_apart_25, eX4_apart_26, eX4_apart_28, eX4_apart_29, eX4_apart_31, eX4_apart_33, eX4_apart_34, eX4_apart_35, eX4_apart_36, eX4_apart_39, eX4_apart_42, eX4_apart_43, cont_some, tl_some, tl_none, csum_nil, csum_i, csum_r, csum_j, isc2_i, isc2_r, isc2_n, va_rf_s, vfn_ite, true_and, and_true, true_or, or_true, eq_self, Bool.false_eq_true, not_false_eq_true, not_true_eq_false, if_true, if_false, Nat.reduceAdd, Nat.reduceLeDiff, reduceIte, h.1, c0, c1, c2, e0, e1, e2, q0, q1, q2, q3, a0, a1, a2, ap3]
