/-! a way held against the best one, by the class -/
def fOK (p : Nat × Nat) : Prop := 0 < p.2 ∧ Nat.gcd p.1 p.2 = 1 ∧ p.1 ≤ 26244000000 ∧ p.2 ≤ 9720000
theorem fOK_red {N D : Nat} (hD : 0 < D) (h1 : N ≤ 26244000000) (h2 : D ≤ 9720000) : fOK (red N D) := ⟨red_pos hD, red_co hD, Nat.le_trans red_ub.1 h1, Nat.le_trans red_ub.2 h2⟩
def wws (w : Wd) (z : Nat) (ww : Nat → Nat × Nat) : Prop := ∀ k, k < 10 → frIs w (z + 8 + k) (ww k).1 (ww k).2
theorem wws.fx {X : Nat → Nat → Prop} {w u : Wd} {z : Nat} {ww : Nat → Nat × Nat} (h : wws w z ww) (f : FrX X w u) (hn : ∀ k j, k < 10 → ¬ X (z + 8 + k) j) : wws u z ww := fun k hk => (h k hk).fx f (fun j => hn k j hk)
def wwL (ww : Nat → Nat × Nat) (k0 X B : Nat) : Nat → Nat × Nat := fun k => if k = k0 ∧ X * (ww k).2 < (ww k).1 * B then red X B else ww k
theorem mulb {a b A B : Nat} (h1 : a ≤ A) (h2 : b ≤ B) : a * b ≤ A * B := Nat.mul_le_mul h1 h2
theorem s_low1 {z k0 X B : Nat} {w : Wd} {ww : Nat → Nat × Nat} (h : wws w z ww) (hk : k0 < 10) (ho : ∀ k, k < 10 → fOK (ww k)) (hX : X ≤ 26244000000) (hB : B ≤ 9720000) (h0 : 0 < B) : ∃ u, fX0_lowerTo [.ref (z + 8 + k0), .long (lN X), .long (lN B)] w = some (none, u) ∧ wws u z (wwL ww k0 X B) ∧ (∀ k, k < 10 → fOK (wwL ww k0 X B k)) ∧ FrX (fun c _ => c = z + 8 + k0) w u := by
  obtain ⟨o1, o2, o3, o4⟩ := ho k0 hk
  have m1 := mulb hX o4
  have m2 := mulb o3 hB
  have hl := s_fr_lower (h k0 hk) (a := X) (b := B) (by omega) (by omega) (by omega) (by omega) h0
  have okk : ∀ k, k < 10 → fOK (wwL ww k0 X B k) := fun k hk' => by
    unfold wwL
    split
    · exact fOK_red h0 hX hB
    · exact ho k hk'
  by_cases q : X * (ww k0).2 < (ww k0).1 * B
  · rw [if_pos q] at hl
    refine ⟨_, hl, fun k hk' => ?_, okk, frW_fx⟩
    by_cases e : k = k0
    · subst e
      have : wwL ww k X B k = red X B := by unfold wwL; rw [if_pos ⟨rfl, q⟩]
      rw [this]
      exact frW_is (h k hk).1
    · have : wwL ww k0 X B k = ww k := by unfold wwL; rw [if_neg (fun y => e y.1)]
      rw [this]
      exact (h k hk').fx frW_fx (fun j y => by omega)
  · rw [if_neg q] at hl
    refine ⟨_, hl, fun k hk' => ?_, okk, FrX.rf⟩
    have : wwL ww k0 X B k = ww k := by
      unfold wwL
      rw [if_neg]
      rintro ⟨rfl, y⟩
      exact q y
    rw [this]
    exact h k hk'
def Xz (z : Nat) : Nat → Nat → Prop := fun c j => (c = z ∧ j = 5) ∨ c = z + 3 ∨ c = z + 4 ∨ c = z + 5 ∨ (z + 8 ≤ c ∧ c < z + 18)
theorem fr_cmp {n : Nat} {C : Nat → Int32} {t e : V3} {W B : Nat} (h0 : t ≠ (0, 0, 0)) (he0 : e ≠ (0, 0, 0)) (hW : (W : Int) = wdP n C t) (hB : (B : Int) = dt t t) :
    (W * (frB (wdP n C) (some e)) < frA (wdP n C) (some e) * B ↔ wdP n C (nrm t) * dt e e < wdP n C e * dt (nrm t) (nrm t)) ∧ (W * (frB (wdP n C) (some e)) = frA (wdP n C) (some e) * B ↔ wdP n C (nrm t) * dt e e = wdP n C e * dt (nrm t) (nrm t)) ∧ red W B = (frA (wdP n C) (some (nrm t)), frB (wdP n C) (some (nrm t))) := by
  have g0 := gv_0 h0
  have gs := gv_sq t
  have gp : 0 < gN t * gN t := by
    have : gN t ≠ 0 := fun z => h0 (gN_0.mp z)
    exact Nat.mul_pos (by omega) (by omega)
  have eW : W = gN t * gN t * (wdP n C (nrm t)).natAbs := by
    have h1 : wdP n C t = gv t * gv t * wdP n C (nrm t) := wd_scale
    have h2 : 0 ≤ wdP n C (nrm t) := wdA_nn
    rw [h1, gs] at hW
    have h3 : ((wdP n C (nrm t)).natAbs : Int) = wdP n C (nrm t) := by omega
    rw [← h3, ← Int.natCast_mul] at hW
    exact Int.ofNat.inj hW
  have eB : B = gN t * gN t * (dt (nrm t) (nrm t)).natAbs := by
    have h1 := dt_nrm2 t
    have h2 := dt_nn (nrm t)
    rw [h1, gs] at hB
    have h3 : ((dt (nrm t) (nrm t)).natAbs : Int) = dt (nrm t) (nrm t) := by omega
    rw [← h3, ← Int.natCast_mul] at hB
    exact Int.ofNat.inj hB
  have De : 0 < (dt e e).natAbs := by have := dt_p he0; omega
  have ei : ((wdP n C e).natAbs : Int) = wdP n C e := by have : 0 ≤ wdP n C e := wdA_nn; omega
  have ed : ((wdP n C (nrm t)).natAbs : Int) = wdP n C (nrm t) := by have : 0 ≤ wdP n C (nrm t) := wdA_nn; omega
  have fe : ((dt e e).natAbs : Int) = dt e e := by have := dt_nn e; omega
  have fd : ((dt (nrm t) (nrm t)).natAbs : Int) = dt (nrm t) (nrm t) := by have := dt_nn (nrm t); omega
  have key : ∀ a b : Nat, (gN t * gN t * a < gN t * gN t * b ↔ a < b) ∧ (gN t * gN t * a = gN t * gN t * b ↔ a = b) := fun a b => ⟨Nat.mul_lt_mul_left gp, ⟨fun h => Nat.eq_of_mul_eq_mul_left gp h, fun h => by rw [h]⟩⟩
  refine ⟨?_, ?_, ?_⟩
  · have := red_lt (N := (wdP n C e).natAbs) (D := (dt e e).natAbs) (W := W) (B := B) De
    refine this.trans ?_
    rw [eW, eB, Nat.mul_assoc, Nat.mul_left_comm (wdP n C e).natAbs, (key _ _).1, ← Int.ofNat_lt, Int.natCast_mul, Int.natCast_mul, ei, ed, fe, fd]
  · have := red_eq (N := (wdP n C e).natAbs) (D := (dt e e).natAbs) (W := W) (B := B) De
    refine this.trans ?_
    rw [eW, eB, Nat.mul_assoc, Nat.mul_left_comm (wdP n C e).natAbs, (key _ _).2, ← Int.ofNat_inj, Int.natCast_mul, Int.natCast_mul, ei, ed, fe, fd]
  · rw [eW, eB, red_scale gp]; rfl
theorem sq_T {x : Int} (h : x.natAbs ≤ 162000) : (iI x).toInt64 * (iI x).toInt64 = lN (x.natAbs * x.natAbs) := by
  rw [iI_i2l (by omega), jJ_mul, jJ_sq]
theorem s_compare {z n : Nat} {C : Nat → Int32} {t : V3} {s g : Ls} {so : Option V3} {ww : Nat → Nat × Nat} {w : Wd} (h10 : n ≤ 10) (hn : 2 ≤ n) (h : isZ w z) (hM : zM w z n s g) (hs : lsI (dP C t) n s) (hg : lsI (fun i => -dP C t i) n g) (bs : s.1.natAbs ≤ 81000 ∧ s.2.1.natAbs ≤ 81000) (bg : g.1.natAbs ≤ 81000 ∧ g.2.1.natAbs ≤ 81000)
    (ht : in3 1800 t) (h0 : t ≠ (0, 0, 0)) (hT : zT w (z + 4) t) (hB : zB w z so) (hso : nzO so) (hbA : ∀ e, in3 1800 e → (wdP n C e).natAbs ≤ 26244000000) (hw : frIs w (z + 5) (frA (wdP n C) so) (frB (wdP n C) so)) (hww : wws w z ww) (hok : ∀ k, k < 10 → fOK (ww k)) :
    ∃ u, fX7_compare [.ref z, .long (lN (dt t t).natAbs)] w = some (none, u) ∧ zB u z (stW (wdP n C) t so) ∧ frIs u (z + 5) (frA (wdP n C) (stW (wdP n C) t so)) (frB (wdP n C) (stW (wdP n C) t so)) ∧ FrX (Xz z) w u ∧ ∃ ww1, (ww1 = if so = none then fun _ => red (wdP n C t).natAbs (dt t t).natAbs else ww) ∧ wws u z (wwL (wwL ww1 s.2.2 (wdK n C s.2.2 t).natAbs (dt t t).natAbs) g.2.2 (wdK n C g.2.2 t).natAbs (dt t t).natAbs) ∧ ∀ k, k < 10 → fOK (wwL (wwL ww1 s.2.2 (wdK n C s.2.2 t).natAbs (dt t t).natAbs) g.2.2 (wdK n C g.2.2 t).natAbs (dt t t).natAbs k) := by
  obtain ⟨A, hA⟩ : ∃ A, A = wdP n C := ⟨_, rfl⟩
  have la : s.2.2 < n := by rcases hs with ⟨q, -⟩ | ⟨q, -⟩ <;> omega
  have ga : g.2.2 < n := by rcases hg with ⟨q, -⟩ | ⟨q, -⟩ <;> omega
  have eW := wdP_eq h10 (ms_all (by omega) hs hg)
  have eX1 := wdK_eq h10 la (ms_lo hn hs hg)
  have eX2 := wdK_eq h10 ga (ms_hi hn hs hg)
  obtain ⟨W, hW⟩ : ∃ W, W = (wdP n C t).natAbs := ⟨_, rfl⟩
  obtain ⟨X1, hX1⟩ : ∃ X, X = (wdK n C s.2.2 t).natAbs := ⟨_, rfl⟩
  obtain ⟨X2, hX2⟩ : ∃ X, X = (wdK n C g.2.2 t).natAbs := ⟨_, rfl⟩
  obtain ⟨B, hBd⟩ : ∃ B, B = (dt t t).natAbs := ⟨_, rfl⟩
  have B0 : 0 < B := by have := dt_p h0; omega
  have BB : B ≤ 9720000 := by rw [hBd]; exact dt_bb ht
  have rb : (-g.1 - s.1).natAbs ≤ 162000 := by omega
  have rb1 : (-g.1 - s.2.1).natAbs ≤ 162000 := by omega
  have rb2 : (-g.2.1 - s.1).natAbs ≤ 162000 := by omega
  have W' : W = (-g.1 - s.1).natAbs * (-g.1 - s.1).natAbs := by rw [hW, eW, Int.natAbs_mul]
  have X1' : X1 = (-g.1 - s.2.1).natAbs * (-g.1 - s.2.1).natAbs := by rw [hX1, eX1, Int.natAbs_mul]
  have X2' : X2 = (-g.2.1 - s.1).natAbs * (-g.2.1 - s.1).natAbs := by rw [hX2, eX2, Int.natAbs_mul]
  have WB : W ≤ 26244000000 := by rw [W']; exact mulb rb rb
  have X1B : X1 ≤ 26244000000 := by rw [X1']; exact mulb rb1 rb1
  have X2B : X2 ≤ 26244000000 := by rw [X2']; exact mulb rb2 rb2
  have sW := sq_T rb
  have sX1 := sq_T rb1
  have sX2 := sq_T rb2
  rw [← W'] at sW
  rw [← X1'] at sX1
  rw [← X2'] at sX2
  rw [← hW, ← hX1, ← hX2, ← hBd]
  obtain ⟨m1, m2, m3, m4, m5, m6⟩ := hM
  have m3 := m3 (by omega)
  have m6 := m6 (by omega)
  have eWi : (W : Int) = wdP n C t := by have : 0 ≤ wdP n C t := wdA_nn; omega
  have eBi : (B : Int) = dt t t := by have := dt_nn t; omega
  have m14 : 14 ∈ [14, 15, 16, 17] := by decide
  have s5 : shp w (z + 5) = (0, 0) := h.2.2.2.2.2.2.2.2.2.2.2.2.1
  have r8 : rdR w z 8 = some (z + 5) := h.2.2.2.2.2.1
  obtain ⟨ww1, hww1⟩ : ∃ ww1, ww1 = if so = none then (fun _ => red W B) else ww := ⟨_, rfl⟩
  -- the second half
  have tail : ∀ v, isZ v z → wws v z ww1 → (∀ k, k < 10 → fOK (ww1 k)) → (∀ j, 11 ≤ j → j ≤ 16 → rdI v z j = rdI w z j) →
      ∃ u, wp mX7_compare 77 [some (.ref z), some (.long (lN B)), none, some (.long (lN W)), none] [] v (fun r u' => r = none ∧ u' = u) ∧ wws u z (wwL (wwL ww1 s.2.2 X1 B) g.2.2 X2 B) ∧ (∀ k, k < 10 → fOK (wwL (wwL ww1 s.2.2 X1 B) g.2.2 X2 B k)) ∧ FrX (fun c _ => z + 8 ≤ c ∧ c < z + 18) v u := by
    intro v hv hvw hvo hvm
    obtain ⟨v1, k1, k2, k3, k4⟩ := s_low1 hvw (show s.2.2 < 10 by omega) hvo X1B BB B0
    have hv1 := hv.fx k4
    obtain ⟨v2, l1, l2, l3, l4⟩ := s_low1 k2 (show g.2.2 < 10 by omega) k3 X2B BB B0
    refine ⟨v2, ?_, l2, l3, (k4.wide (fun c j q => by omega)).tr (l4.wide (fun c j q => by omega))⟩
    have E1 : ∀ j, rdI v1 z j = rdI v z j := fun j => k4.1 z j (fun q => by omega)
    obtain ⟨g1, g2⟩ := hv.2.2.2.2.2.2.2.2.2.2.2.2.2.2.2 s.2.2 (by omega)
    obtain ⟨g3, g4⟩ := hv1.2.2.2.2.2.2.2.2.2.2.2.2.2.2.2 g.2.2 (by omega)
    simp only [eX7_compare_77, eX7_compare_78, eX7_compare_81, eX7_compare_82, eX7_compare_85, eX7_compare_86, eX7_compare_87, eX7_compare_90, eX7_compare_91, eX7_compare_94, eX7_compare_95, eX7_compare_98, eX7_compare_99, cont_some, tl_some, tl_none, csum_nil, csum_i, csum_r, csum_j, isc2_i, isc2_r, isc2_n, va_rf_s, vfn_ite, true_and, and_true, true_or, or_true, eq_self, Bool.false_eq_true, not_false_eq_true, not_true_eq_false, if_true, if_false, Nat.reduceAdd, Nat.reduceLeDiff, reduceIte, hv.1, hv.2.2.2.2.2.2.1, hv.2.2.2.2.2.2.2.2.2.2.2.2.2.1, hvm 13 (by omega) (by omega), m3, m14, inA_nI (show s.2.2 < 10 by omega) (show 10 < 2147483648 by omega), nI_clamp (show s.2.2 < 2 ^ 31 by omega), g1, g2, hvm 14 (by omega) (by omega), m4, hvm 12 (by omega) (by omega), m2, iI_sub, s_square, sX1, k1]
    simp only [eX7_compare_102, eX7_compare_103, eX7_compare_106, eX7_compare_107, eX7_compare_110, eX7_compare_111, eX7_compare_112, eX7_compare_115, eX7_compare_116, eX7_compare_119, eX7_compare_120, eX7_compare_123, eX7_compare_124, eX7_compare_127, cont_some, tl_some, tl_none, csum_nil, csum_i, csum_r, csum_j, isc2_i, isc2_r, isc2_n, va_rf_s, vfn_ite, true_and, and_true, true_or, or_true, eq_self, Bool.false_eq_true, not_false_eq_true, not_true_eq_false, if_true, if_false, Nat.reduceAdd, Nat.reduceLeDiff, reduceIte, hv1.1, hv1.2.2.2.2.2.2.1, hv1.2.2.2.2.2.2.2.2.2.2.2.2.2.1, E1, hvm 16 (by omega) (by omega), m6, m14, inA_nI (show g.2.2 < 10 by omega) (show 10 < 2147483648 by omega), nI_clamp (show g.2.2 < 2 ^ 31 by omega), g3, g4, hvm 15 (by omega) (by omega), m5, hvm 11 (by omega) (by omega), m1, iI_sub, s_square, sX2, l1]
  have hgo : ∀ v, isZ v z → wws v z ww1 → (∀ k, k < 10 → fOK (ww1 k)) → (∀ j, 11 ≤ j → j ≤ 16 → rdI v z j = rdI w z j) → FrX (Xz z) w v → zB v z (stW A t so) → frIs v (z + 5) (frA A (stW A t so)) (frB A (stW A t so)) →
      (∀ Q, wp mX7_compare 77 [some (.ref z), some (.long (lN B)), none, some (.long (lN W)), none] [] v Q → wp mX7_compare 0 [some (.ref z), some (.long (lN B)), none, none, none] [] w Q) →
      ∃ u, fX7_compare [.ref z, .long (lN B)] w = some (none, u) ∧ zB u z (stW A t so) ∧ frIs u (z + 5) (frA A (stW A t so)) (frB A (stW A t so)) ∧ FrX (Xz z) w u ∧ ∃ ww1, (ww1 = if so = none then fun _ => red W B else ww) ∧ wws u z (wwL (wwL ww1 s.2.2 X1 B) g.2.2 X2 B) ∧ ∀ k, k < 10 → fOK (wwL (wwL ww1 s.2.2 X1 B) g.2.2 X2 B k) := by
    intro v hv hvw hvo hvm hF hzB hwd hQ
    obtain ⟨u, k1, k2, k3, k4⟩ := tail v hv hvw hvo hvm
    refine ⟨u, ?_, ?_, hwd.fx k4 (fun j q => by omega), hF.tr (k4.wide (fun c j q => by unfold Xz; omega)), ww1, hww1, k2, k3⟩
    · refine sem_eq (Nat.le_of_ble_eq_true rfl) ?_
      show wp mX7_compare 0 [some (.ref z), some (.long (lN B)), none, none, none] [] _ _
      exact hQ _ k1
    · cases e : stW A t so with
      | none => rw [e] at hzB; exact (k4.1 z 5 (fun q => by omega)).trans hzB
      | some d => rw [e] at hzB; exact ⟨(k4.1 z 5 (fun q => by omega)).trans hzB.1, hzB.2.fx k4 (fun j q => by omega)⟩
  rw [← hA] at hbA hw ⊢
  cases so with
  | none =>
    have e : stW A t none = some (nrm t) := by unfold stW; rw [if_neg h0]; rfl
    have hz5 : rdI w z 5 = 0 := hB
    have ew : ww1 = fun _ => red W B := by rw [hww1, if_pos rfl]
    obtain ⟨v1, k1, k2, k3, k4⟩ := s_widths (z := z) (A := W) (B := B) (by omega) (by omega) B0 h
    have hv1 := h.fx k4
    obtain ⟨v2, l1, l2, l3⟩ := s_takeWay hv1 ht h0 (hT.fx k4 (fun j q => by unfold Xw at q; omega))
    have hv2 := hv1.fx l3
    have er := (fr_cmp (e := nrm t) h0 (nrm_ne h0) eWi eBi).2.2
    rw [← hA] at er
    refine hgo v2 hv2 ?_ ?_ ?_ ((k4.wide (fun c j q => by unfold Xw at q; unfold Xz; omega)).tr (l3.wide (fun c j q => by unfold Xb at q; unfold Xz; omega))) (by rw [e]; exact l2) ?_ ?_
    · rw [ew]
      exact fun k hk => (k3 k hk).fx l3 (fun j q => by unfold Xb at q; omega)
    · rw [ew]
      exact fun k hk => fOK_red B0 WB BB
    · intro j j1 j2
      rw [l3.1 z j (fun q => by unfold Xb at q; omega), k4.1 z j (fun q => by unfold Xw at q; omega)]
    · rw [e, show frA A (some (nrm t)) = (red W B).1 by rw [er], show frB A (some (nrm t)) = (red W B).2 by rw [er]]
      exact k2.fx l3 (fun j q => by unfold Xb at q; omega)
    · intro Q hQ
      simp only [eX7_compare_0, eX7_compare_1, eX7_compare_4, eX7_compare_5, eX7_compare_8, eX7_compare_9, eX7_compare_12, eX7_compare_13, eX7_compare_14, eX7_compare_17, eX7_compare_20, eX7_compare_21, eX7_compare_22, eX7_compare_23, cont_some, tl_some, tl_none, csum_nil, csum_i, csum_r, csum_j, isc2_i, isc2_r, isc2_n, va_rf_s, vfn_ite, true_and, and_true, true_or, or_true, eq_self, Bool.false_eq_true, not_false_eq_true, not_true_eq_false, if_true, if_false, Nat.reduceAdd, Nat.reduceLeDiff, reduceIte, h.1, m1, m4, iI_sub, s_square, sW, hz5, k1]
      simp only [eX7_compare_26, eX7_compare_27, eX7_compare_30, cont_some, tl_some, tl_none, csum_nil, csum_i, csum_r, csum_j, isc2_i, isc2_r, isc2_n, va_rf_s, vfn_ite, true_and, and_true, true_or, or_true, eq_self, Bool.false_eq_true, not_false_eq_true, not_true_eq_false, if_true, if_false, Nat.reduceAdd, Nat.reduceLeDiff, reduceIte, hv1.1, l1]
      exact hQ
  | some e =>
    have hz5 : rdI w z 5 = 1 := hB.1
    obtain ⟨he, he0⟩ := hso e rfl
    have ew : ww1 = ww := by rw [hww1, if_neg (by simp)]
    have n10 : ¬ (1 : Int32) = 0 := by decide
    obtain ⟨f1, f2, er⟩ := fr_cmp (e := e) h0 he0 eWi eBi
    rw [← hA] at f1 f2 er
    have oa : frA A (some e) ≤ 26244000000 := Nat.le_trans (Nat.div_le_self _ _) (hbA e he)
    have ob : frB A (some e) ≤ 9720000 := Nat.le_trans (Nat.div_le_self _ _) (dt_bb he)
    have k1 := mulb WB ob
    have k2 := mulb oa BB
    have cl : sgL (lN (W * frB A (some e))) (lN (frA A (some e) * B)) < 0 ↔ A (nrm t) * dt e e < A e * dt (nrm t) (nrm t) := by rw [sgL_lt, pk_lLT (by omega) (by omega)]; exact f1
    have ce : sgL (lN (W * frB A (some e))) (lN (frA A (some e) * B)) = 0 ↔ A (nrm t) * dt e e = A e * dt (nrm t) (nrm t) := by rw [sgL_0, pk_lEQ (by omega) (by omega)]; exact f2
    have hcmp := s_fr_compare (a := W) (b := B) hw
    have est : stW A t (some e) = if btr A (nrm t) e then some (nrm t) else some e := by unfold stW; rw [if_neg h0]; rfl
    by_cases q1 : A (nrm t) * dt e e < A e * dt (nrm t) (nrm t)
    · have es : stW A t (some e) = some (nrm t) := by rw [est, if_pos (Or.inl q1)]
      have hb := s_fr_become (w := w) (q := z + 5) s5 (show W < 2 ^ 62 by omega) (show B < 2 ^ 50 by omega) B0
      have fb := frW_fx (w := w) (q := z + 5) (A := W) (B := B)
      have hv1 := h.fx fb
      obtain ⟨v2, l1, l2, l3⟩ := s_takeWay hv1 ht h0 (hT.fx fb (fun j q => by omega))
      have q1' := cl.mpr q1
      refine hgo v2 (hv1.fx l3) ?_ (by rw [ew]; exact hok) ?_ ((fb.wide (fun c j q => by unfold Xz; omega)).tr (l3.wide (fun c j q => by unfold Xb at q; unfold Xz; omega))) (by rw [es]; exact l2) ?_ ?_
      · rw [ew]
        exact (hww.fx fb (fun k j hk q => by omega)).fx l3 (fun k j hk q => by unfold Xb at q; omega)
      · intro j j1 j2
        rw [l3.1 z j (fun q => by unfold Xb at q; omega), fb.1 z j (fun q => by omega)]
      · rw [es, show frA A (some (nrm t)) = (red W B).1 by rw [er], show frB A (some (nrm t)) = (red W B).2 by rw [er]]
        exact (frW_is s5).fx l3 (fun j q => by unfold Xb at q; omega)
      · intro Q hQ
        simp only [eX7_compare_0, eX7_compare_1, eX7_compare_4, eX7_compare_5, eX7_compare_8, eX7_compare_9, eX7_compare_12, eX7_compare_13, eX7_compare_14, eX7_compare_17, eX7_compare_20, eX7_compare_21, eX7_compare_22, eX7_compare_23, eX7_compare_26, eX7_compare_27, eX7_compare_30, eX7_compare_33, eX7_compare_34, eX7_compare_37, eX7_compare_38, eX7_compare_39, eX7_compare_42, eX7_compare_45, eX7_compare_46, eX7_compare_49, eX7_compare_50, eX7_compare_51, cont_some, tl_some, tl_none, csum_nil, csum_i, csum_r, csum_j, isc2_i, isc2_r, isc2_n, va_rf_s, vfn_ite, true_and, and_true, true_or, or_true, eq_self, Bool.false_eq_true, not_false_eq_true, not_true_eq_false, if_true, if_false, Nat.reduceAdd, Nat.reduceLeDiff, reduceIte, h.1, m1, m4, iI_sub, s_square, sW, hz5, n10, r8, s5, hcmp, q1', hb]
        simp only [eX7_compare_54, eX7_compare_55, eX7_compare_58, cont_some, tl_some, tl_none, csum_nil, csum_i, csum_r, csum_j, isc2_i, isc2_r, isc2_n, va_rf_s, vfn_ite, true_and, and_true, true_or, or_true, eq_self, Bool.false_eq_true, not_false_eq_true, not_true_eq_false, if_true, if_false, Nat.reduceAdd, Nat.reduceLeDiff, reduceIte, hv1.1, l1]
        exact hQ
    · have q1' : ¬ sgL (lN (W * frB A (some e))) (lN (frA A (some e) * B)) < 0 := fun y => q1 (cl.mp y)
      by_cases q2 : A (nrm t) * dt e e = A e * dt (nrm t) (nrm t)
      · have q2' := ce.mpr q2
        have es : stW A t (some e) = if lexl (nrm t) e then some (nrm t) else some e := by
          rw [est]
          by_cases y : lexl (nrm t) e
          · rw [if_pos y, if_pos (Or.inr ⟨q2, y⟩)]
          · rw [if_neg y, if_neg (fun x => x.elim q1 (fun x' => y x'.2))]
        obtain ⟨v2, l1, l2, l3⟩ := s_takeFirst h ht h0 hT he hB
        have esw : frA A (stW A t (some e)) = frA A (some e) ∧ frB A (stW A t (some e)) = frB A (some e) := by
          rw [es]
          by_cases y : lexl (nrm t) e
          · rw [if_pos y]
            have u := fr_uniq (a := frA A (some (nrm t))) (b := frB A (some (nrm t))) (c := frA A (some e)) (d := frB A (some e)) ?_ ?_ ?_ ?_ ?_
            · exact u
            · exact red_pos (by have := dt_p (nrm_ne h0); show 0 < (dt (nrm t) (nrm t)).natAbs; omega)
            · exact red_pos (by have := dt_p he0; show 0 < (dt e e).natAbs; omega)
            · exact red_co (by have := dt_p (nrm_ne h0); show 0 < (dt (nrm t) (nrm t)).natAbs; omega)
            · exact red_co (by have := dt_p he0; show 0 < (dt e e).natAbs; omega)
            · have D1 : 0 < (dt (nrm t) (nrm t)).natAbs := by have := dt_p (nrm_ne h0); omega
              have D2 : 0 < (dt e e).natAbs := by have := dt_p he0; omega
              have nA : ∀ x, 0 ≤ A x := fun x => by rw [hA]; exact wdA_nn
              have a1 := red_eq (N := (A e).natAbs) (D := (dt e e).natAbs) (W := frA A (some (nrm t))) (B := frB A (some (nrm t))) D2
              refine a1.mpr ?_
              have a2 := red_eq (N := (A (nrm t)).natAbs) (D := (dt (nrm t) (nrm t)).natAbs) (W := (A e).natAbs) (B := (dt e e).natAbs) D1
              refine (a2.mpr ?_).symm
              have n1 := nA e
              have n2 := nA (nrm t)
              have n3 := dt_nn e
              have n4 := dt_nn (nrm t)
              refine Int.ofNat.inj ?_
              show (((A e).natAbs * (dt (nrm t) (nrm t)).natAbs : Nat) : Int) = (((A (nrm t)).natAbs * (dt e e).natAbs : Nat) : Int)
              rw [Int.natCast_mul, Int.natCast_mul, show ((A e).natAbs : Int) = A e by omega, show ((A (nrm t)).natAbs : Int) = A (nrm t) by omega, show ((dt e e).natAbs : Int) = dt e e by omega, show ((dt (nrm t) (nrm t)).natAbs : Int) = dt (nrm t) (nrm t) by omega]
              exact q2.symm
          · rw [if_neg y]; exact ⟨rfl, rfl⟩
        refine hgo v2 (h.fx l3) ?_ (by rw [ew]; exact hok) ?_ (l3.wide (fun c j q => by unfold Xb at q; unfold Xz; omega)) (by rw [es]; exact l2) ?_ ?_
        · rw [ew]
          exact hww.fx l3 (fun k j hk q => by unfold Xb at q; omega)
        · intro j j1 j2
          rw [l3.1 z j (fun q => by unfold Xb at q; omega)]
        · rw [esw.1, esw.2]
          exact hw.fx l3 (fun j q => by unfold Xb at q; omega)
        · intro Q hQ
          simp only [eX7_compare_0, eX7_compare_1, eX7_compare_4, eX7_compare_5, eX7_compare_8, eX7_compare_9, eX7_compare_12, eX7_compare_13, eX7_compare_14, eX7_compare_17, eX7_compare_20, eX7_compare_21, eX7_compare_22, eX7_compare_23, eX7_compare_26, eX7_compare_27, eX7_compare_30, eX7_compare_33, eX7_compare_34, eX7_compare_37, eX7_compare_38, eX7_compare_39, eX7_compare_42, eX7_compare_45, eX7_compare_46, eX7_compare_49, eX7_compare_50, eX7_compare_51, eX7_compare_54, eX7_compare_55, eX7_compare_58, eX7_compare_61, eX7_compare_62, eX7_compare_65, eX7_compare_66, eX7_compare_67, eX7_compare_70, cont_some, tl_some, tl_none, csum_nil, csum_i, csum_r, csum_j, isc2_i, isc2_r, isc2_n, va_rf_s, vfn_ite, true_and, and_true, true_or, or_true, eq_self, Bool.false_eq_true, not_false_eq_true, not_true_eq_false, if_true, if_false, Nat.reduceAdd, Nat.reduceLeDiff, reduceIte, h.1, m1, m4, iI_sub, s_square, sW, hz5, n10, r8, s5, hcmp, q1', q2']
          simp only [eX7_compare_73, eX7_compare_74, cont_some, tl_some, tl_none, csum_nil, csum_i, csum_r, csum_j, isc2_i, isc2_r, isc2_n, va_rf_s, vfn_ite, true_and, and_true, true_or, or_true, eq_self, Bool.false_eq_true, not_false_eq_true, not_true_eq_false, if_true, if_false, Nat.reduceAdd, Nat.reduceLeDiff, reduceIte, h.1, l1]
          exact hQ
      · have q2' : ¬ sgL (lN (W * frB A (some e))) (lN (frA A (some e) * B)) = 0 := fun y => q2 (ce.mp y)
        have es : stW A t (some e) = some e := by rw [est, if_neg (fun x => x.elim q1 (fun x' => q2 x'.1))]
        refine hgo w h (by rw [ew]; exact hww) (by rw [ew]; exact hok) (fun _ _ _ => rfl) FrX.rf (by rw [es]; exact hB) (by rw [es]; exact hw) ?_
        intro Q hQ
        simp only [eX7_compare_0, eX7_compare_1, eX7_compare_4, eX7_compare_5, eX7_compare_8, eX7_compare_9, eX7_compare_12, eX7_compare_13, eX7_compare_14, eX7_compare_17, eX7_compare_20, eX7_compare_21, eX7_compare_22, eX7_compare_23, eX7_compare_26, eX7_compare_27, eX7_compare_30, eX7_compare_33, eX7_compare_34, eX7_compare_37, eX7_compare_38, eX7_compare_39, eX7_compare_42, eX7_compare_45, eX7_compare_46, eX7_compare_49, eX7_compare_50, eX7_compare_51, eX7_compare_54, eX7_compare_55, eX7_compare_58, eX7_compare_61, eX7_compare_62, eX7_compare_65, eX7_compare_66, eX7_compare_67, eX7_compare_70, cont_some, tl_some, tl_none, csum_nil, csum_i, csum_r, csum_j, isc2_i, isc2_r, isc2_n, va_rf_s, vfn_ite, true_and, and_true, true_or, or_true, eq_self, Bool.false_eq_true, not_false_eq_true, not_true_eq_false, if_true, if_false, Nat.reduceAdd, Nat.reduceLeDiff, reduceIte, h.1, m1, m4, iI_sub, s_square, sW, hz5, n10, r8, s5, hcmp, q1', q2']
        exact hQ
