/-! what a set's judgement leaves -/
def nmO (A : V3 → Int) (s : Option V3) : Nat := match s with
  | none => 0
  | some e => (A e).natAbs
def dnO (s : Option V3) : Nat := match s with
  | none => 1
  | some e => (dt e e).natAbs
def frA (A : V3 → Int) (s : Option V3) : Nat := nmO A s / Nat.gcd (nmO A s) (dnO s)
def frB (A : V3 → Int) (s : Option V3) : Nat := dnO s / Nat.gcd (nmO A s) (dnO s)
def nzO (s : Option V3) : Prop := ∀ e, s = some e → in3 1800 e ∧ e ≠ (0, 0, 0)
theorem nrm_ne {t : V3} (h : t ≠ (0, 0, 0)) : nrm t ≠ (0, 0, 0) := fun z => h (by
  have h1 := nrm_1 t
  have h2 := nrm_2 t
  have h3 := nrm_3 t
  rw [z] at h1 h2 h3
  exact V3x (by simpa using h1) (by simpa using h2) (by simpa using h3))
theorem nz_step {A : V3 → Int} {t : V3} {s : Option V3} (ht : in3 1800 t) (h : nzO s) : nzO (stW A t s) := by
  unfold stW
  by_cases q : t = (0, 0, 0)
  · rw [if_pos q]; exact h
  · rw [if_neg q]
    have hn : nzO (some (nrm t)) := fun e he => by cases he; exact ⟨in3_nrm ht, nrm_ne q⟩
    cases s with
    | none => exact hn
    | some e =>
      show nzO (if btr A (nrm t) e then some (nrm t) else some e)
      split
      · exact hn
      · exact h
theorem nz_tw {A : V3 → Int} {l : V3} (hl : in3 30 l) : ∀ (L : List V3) (s : Option V3), (∀ x, x ∈ L → in3 30 x) → nzO s → nzO (twF A l L s) := by
  intro L
  induction L with
  | nil => intro s _ h; exact h
  | cons x r ih =>
    intro s hL h
    exact ih _ (fun y hy => hL y (List.mem_cons_of_mem _ hy)) (nz_step (in3_cx hl (hL x (List.mem_cons_self))) h)
theorem nz_jd {j : Nat} {A : V3 → Int} : ∀ (L : List V3) (s : Option V3), (∀ x, x ∈ L → in3 30 x) → nzO s → nzO (jdF j A L s) := by
  unfold jdF
  by_cases q : j = 3
  · simp only [q, if_true]
    intro L
    induction L with
    | nil => intro s _ h; exact h
    | cons x r ih =>
      intro s hL h
      exact ih _ (fun y hy => hL y (List.mem_cons_of_mem _ hy)) (nz_tw (hL x (List.mem_cons_self)) r s (fun y hy => hL y (List.mem_cons_of_mem _ hy)) h)
  · simp only [q, if_false]
    intro L
    induction L with
    | nil => intro s _ h; exact h
    | cons x r ih =>
      intro s hL h
      exact ih _ (fun y hy => hL y (List.mem_cons_of_mem _ hy)) (nz_step (c1_in (hL x (List.mem_cons_self))) h)
theorem lnL_mem {m : Nat} {f : Nat → V3} : ∀ (e p : Nat) (x : V3), x ∈ lnL m f e p ↔ ∃ q, p ≤ q ∧ q < p + e ∧ prP m q ∧ x = f q := by
  intro e
  induction e with
  | zero =>
    intro p x
    constructor
    · intro h; cases h
    · rintro ⟨q, h1, h2, -⟩; omega
  | succ e ih =>
    intro p x
    unfold lnL
    by_cases z : prP m p
    · rw [if_pos z, List.mem_cons, ih]
      constructor
      · rintro (rfl | ⟨q, h1, h2, h3, h4⟩)
        · exact ⟨p, by omega, by omega, z, rfl⟩
        · exact ⟨q, by omega, by omega, h3, h4⟩
      · rintro ⟨q, h1, h2, h3, h4⟩
        by_cases e' : q = p
        · exact Or.inl (by rw [h4, e'])
        · exact Or.inr ⟨q, by omega, by omega, h3, h4⟩
    · rw [if_neg z, ih]
      constructor
      · rintro ⟨q, h1, h2, h3, h4⟩; exact ⟨q, by omega, by omega, h3, h4⟩
      · rintro ⟨q, h1, h2, h3, h4⟩
        have : q ≠ p := fun e' => z (by rw [← e']; exact h3)
        exact ⟨q, by omega, by omega, h3, h4⟩
theorem lnL_in {n m j : Nat} {C : Nat → Int32} (hb : bdC n C) (hmn : ∀ i, i < 10 → bt m i → i < n) : ∀ x, x ∈ lnL m (vcP j C) 100 0 → in3 30 x := by
  intro x hx
  obtain ⟨q, h1, h2, h3, rfl⟩ := (lnL_mem 100 0 x).mp hx
  exact vc_in hb (hmn _ (by omega) h3.2.2) (hmn _ (by omega) h3.2.1)
/-- all ways of a set, one behind another -/
def jdS (j n m : Nat) (C : Nat → Int32) : Option V3 := jdF j (wdA n m (qZ j C)) (lnL m (vcP j C) 100 0) none
def mrI (w : Wd) (o : Nat) (A : V3 → Int) (s : Option V3) : Prop := rdJ w o 12 = lN (frA A s) ∧ rdJ w o 13 = lN (frB A s) ∧ match s with
  | none => rdI w o 11 = 0
  | some e => rdI w o 11 = 1 ∧ rdI w o 14 = iI e.1 ∧ rdI w o 15 = iI e.2.1 ∧ rdI w o 16 = iI e.2.2
theorem wdA_nn {n m : Nat} {Q : Nat → V3} {d : V3} : 0 ≤ wdA n m Q d := sqNN _
theorem jd_nz {n m j : Nat} {C : Nat → Int32} (hb : bdC n C) (hmn : ∀ i, i < 10 → bt m i → i < n) : nzO (jdS j n m C) := nz_jd _ _ (lnL_in hb hmn) (fun e he => by cases he)
theorem m_judges {w : Wd} {o n m j : Nat} {C : Nat → Int32} (h : MB w o n C) (hb : bdC n C) (hj : j < 4) (hm : m < 2 ^ 31) (hmn : ∀ i, i < 10 → bt m i → i < n) : ∃ u, fX9_judges [.ref o, .int (nI j), .int (nI m)] w = some (none, u) ∧ mrI u o (wdA n m (qZ j C)) (jdS j n m C) ∧ FrX (Xj o) w u := by
  have hmd := h.1
  obtain ⟨A, hA⟩ : ∃ A, A = wdA n m (qZ j C) := ⟨_, rfl⟩
  have bA : ∀ e, in3 1800 e → (A e).natAbs ≤ 26244000000 := fun e he => by rw [hA]; exact wdA_b hb he
  have nA : ∀ e, 0 ≤ A e := fun e => by rw [hA]; exact wdA_nn
  obtain ⟨s, hs⟩ : ∃ s, s = jdS j n m C := ⟨_, rfl⟩
  have hz : nzO s := by rw [hs]; exact jd_nz hb hmn
  have hw0 : MB (wrJ (wrJ (wrI w o 11 0) o 12 0) o 13 1) o n C := h.frX (((FrX.rf.wrI ⟨rfl, by omega, by omega⟩).wrJ ⟨rfl, by omega, by omega⟩).wrJ ⟨rfl, by omega, by omega⟩)
  have hj0 : mjI (wrJ (wrJ (wrI w o 11 0) o 12 0) o 13 1) o A none := by
    refine ⟨?_, ?_, ?_⟩ <;> simp [rdI_wrI, rdI_wrJ, rdJ_wrI, rdJ_wrJ]
  have hh : wp mX9_judges 0 [some (.ref o), some (.int (nI j)), some (.int (nI m)), none, none] [] w (fun r u => r = none ∧ mrI u o A s ∧ FrX (Xj o) w u) := by
    simp only [eX9_judges_0, eX9_judges_1, eX9_judges_2, eX9_judges_5, eX9_judges_6, eX9_judges_7, eX9_judges_10, eX9_judges_11, eX9_judges_12, eX9_judges_15, eX9_judges_16, cont_some, tl_some, tl_none, csum_nil, csum_i, csum_r, csum_j, isc2_i, isc2_r, isc2_n, va_rf_s, vfn_ite, true_and, and_true, true_or, or_true, eq_self, Bool.false_eq_true, not_false_eq_true, not_true_eq_false, if_true, if_false, Nat.reduceAdd, Nat.reduceLeDiff, reduceIte, hmd.1, hmd.2.1, hmd.2.2.1, hmd.2.2.2.1, hmd.2.2.2.2.1, hmd.2.2.2.2.2.1, hmd.2.2.2.2.2.2.1, hmd.2.2.2.2.2.2.2.1, hmd.2.2.2.2.2.2.2.2.1, hmd.2.2.2.2.2.2.2.2.2.1, hmd.2.2.2.2.2.2.2.2.2.2.1, hmd.2.2.2.2.2.2.2.2.2.2.2.1, hmd.2.2.2.2.2.2.2.2.2.2.2.2.1, hmd.2.2.2.2.2.2.2.2.2.2.2.2.2.1, hmd.2.2.2.2.2.2.2.2.2.2.2.2.2.2.1, hmd.2.2.2.2.2.2.2.2.2.2.2.2.2.2.2.1, hmd.2.2.2.2.2.2.2.2.2.2.2.2.2.2.2.2.1, hmd.2.2.2.2.2.2.2.2.2.2.2.2.2.2.2.2.2.1, hmd.2.2.2.2.2.2.2.2.2.2.2.2.2.2.2.2.2.2.1, hmd.2.2.2.2.2.2.2.2.2.2.2.2.2.2.2.2.2.2.2.1, hmd.2.2.2.2.2.2.2.2.2.2.2.2.2.2.2.2.2.2.2.2.1, hmd.2.2.2.2.2.2.2.2.2.2.2.2.2.2.2.2.2.2.2.2.2.1, hmd.2.2.2.2.2.2.2.2.2.2.2.2.2.2.2.2.2.2.2.2.2.2.1, hmd.2.2.2.2.2.2.2.2.2.2.2.2.2.2.2.2.2.2.2.2.2.2.2.1, hmd.2.2.2.2.2.2.2.2.2.2.2.2.2.2.2.2.2.2.2.2.2.2.2.2, shp_wrI, shp_wrJ]
    refine lo_jout (w0 := w) hb hj hm hmn 100 0 _ none _ (by omega) hw0 (by rw [← hA]; exact hj0) (((FrX.rf.wrI ⟨rfl, by omega, by omega⟩).wrJ ⟨rfl, by omega, by omega⟩).wrJ ⟨rfl, by omega, by omega⟩) (fun u a4 k1 k2 k3 => ?_)
    have hmu := k3.1
    have k1' : mjI u o A s := by rw [hs]; unfold jdS; rw [hA]; exact k1
    have jA : rdJ u o 12 = lN (nmO A s) := by
      cases s with
      | none => exact k1'.2.1
      | some e => rw [k1'.2.2.1, lN_jJ]; congr 1; have := nA e; show _ = ((A e).natAbs : Int); omega
    have jB : rdJ u o 13 = lN (dnO s) := by
      cases s with
      | none => exact k1'.2.2
      | some e => rw [k1'.2.2.2.1, lN_jJ]; congr 1; have := dt_nn e; show _ = ((dt e e).natAbs : Int); omega
    have cA : nmO A s ≤ 26244000000 := by
      cases s with
      | none => exact Nat.zero_le _
      | some e => exact bA e (hz e rfl).1
    have cB : dnO s ≤ 9720000 ∧ 0 < dnO s := by
      cases s with
      | none => exact ⟨by show 1 ≤ _; omega, by show 0 < 1; omega⟩
      | some e =>
        have := dt_bb (hz e rfl).1
        have := dt_p (hz e rfl).2
        show (dt e e).natAbs ≤ _ ∧ 0 < (dt e e).natAbs
        omega
    have hg : 0 < Nat.gcd (nmO A s) (dnO s) := Nat.gcd_pos_of_pos_right _ cB.2
    have hgB : Nat.gcd (nmO A s) (dnO s) ≤ dnO s := Nat.le_of_dvd cB.2 (Nat.gcd_dvd_right _ _)
    have gn : ¬ lN (Nat.gcd (nmO A s) (dnO s)) = 0 := fun y => by
      have := (pk_lEQ (b := 0) (by omega) (by omega)).mp y
      omega
    have cm := s_commonN (w := u) (a := nmO A s) (b := dnO s) (by omega) (by omega)
    have m2 : isc2 (some (some (Value.int (nI m)))) = false := rfl
    simp only [eX9_judges_115, eX9_judges_116, eX9_judges_119, eX9_judges_120, eX9_judges_123, eX9_judges_126, eX9_judges_127, eX9_judges_128, eX9_judges_128i, eX9_judges_129, eX9_judges_132, eX9_judges_133, eX9_judges_134, eX9_judges_137, eX9_judges_138, eX9_judges_138i, eX9_judges_139, eX9_judges_142, eX9_judges_143, eX9_judges_144, eX9_judges_147, cont_some, tl_some, tl_none, csum_nil, csum_i, csum_r, csum_j, isc2_i, isc2_r, isc2_n, va_rf_s, vfn_ite, true_and, and_true, true_or, or_true, eq_self, Bool.false_eq_true, not_false_eq_true, not_true_eq_false, if_true, if_false, Nat.reduceAdd, Nat.reduceLeDiff, reduceIte, hmu.1, hmu.2.1, hmu.2.2.1, hmu.2.2.2.1, hmu.2.2.2.2.1, hmu.2.2.2.2.2.1, hmu.2.2.2.2.2.2.1, hmu.2.2.2.2.2.2.2.1, hmu.2.2.2.2.2.2.2.2.1, hmu.2.2.2.2.2.2.2.2.2.1, hmu.2.2.2.2.2.2.2.2.2.2.1, hmu.2.2.2.2.2.2.2.2.2.2.2.1, hmu.2.2.2.2.2.2.2.2.2.2.2.2.1, hmu.2.2.2.2.2.2.2.2.2.2.2.2.2.1, hmu.2.2.2.2.2.2.2.2.2.2.2.2.2.2.1, hmu.2.2.2.2.2.2.2.2.2.2.2.2.2.2.2.1, hmu.2.2.2.2.2.2.2.2.2.2.2.2.2.2.2.2.1, hmu.2.2.2.2.2.2.2.2.2.2.2.2.2.2.2.2.2.1, hmu.2.2.2.2.2.2.2.2.2.2.2.2.2.2.2.2.2.2.1, hmu.2.2.2.2.2.2.2.2.2.2.2.2.2.2.2.2.2.2.2.1, hmu.2.2.2.2.2.2.2.2.2.2.2.2.2.2.2.2.2.2.2.2.1, hmu.2.2.2.2.2.2.2.2.2.2.2.2.2.2.2.2.2.2.2.2.2.1, hmu.2.2.2.2.2.2.2.2.2.2.2.2.2.2.2.2.2.2.2.2.2.2.1, hmu.2.2.2.2.2.2.2.2.2.2.2.2.2.2.2.2.2.2.2.2.2.2.2.1, hmu.2.2.2.2.2.2.2.2.2.2.2.2.2.2.2.2.2.2.2.2.2.2.2.2, jA, jB, cm, gn, pk_lDiv (show nmO A s < 2 ^ 63 by omega) hg (show Nat.gcd (nmO A s) (dnO s) < 2 ^ 63 by omega), shp_wrJ, rdJ_wrJ, pk_lDiv (show dnO s < 2 ^ 63 by omega) hg (show Nat.gcd (nmO A s) (dnO s) < 2 ^ 63 by omega)]
    have ne : ¬ (13 = 12) := by omega
    simp only [ne, and_false, if_false, jB, pk_lDiv (show dnO s < 2 ^ 63 by omega) hg (show Nat.gcd (nmO A s) (dnO s) < 2 ^ 63 by omega)]
    refine ⟨⟨?_, ?_, ?_⟩, (k2.wrJ ⟨rfl, by omega, by omega⟩).wrJ ⟨rfl, by omega, by omega⟩⟩
    · rw [rdJ_wrJ, if_neg (by omega), rdJ_wrJ, if_pos ⟨rfl, rfl⟩]; rfl
    · rw [rdJ_wrJ, if_pos ⟨rfl, rfl⟩]; rfl
    · cases s with
      | none => exact k1'.1
      | some e => exact ⟨k1'.2.1, k1'.2.2.2.2.1, k1'.2.2.2.2.2.1, k1'.2.2.2.2.2.2⟩
  obtain ⟨r, u, h1, rfl, h2, h3⟩ := sem_wp (nL := 5) (as := [.ref o, .int (nI j), .int (nI m)]) (Nat.le_of_ble_eq_true rfl) hh
  refine ⟨u, h1, ?_, h3⟩
  rw [← hA, ← hs]
  exact h2
