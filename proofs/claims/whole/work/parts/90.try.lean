/-! the ways tried, one behind another -/
def sfo (A : V3 → Int) (sn : List V3) : Option V3 := sn.foldl (fun s t => stW A t s) none
theorem sfo_app {A : V3 → Int} {sn : List V3} {t : V3} : sfo A (sn ++ [t]) = stW A t (sfo A sn) := by
  unfold sfo; rw [List.foldl_append]; rfl
def wInv (n : Nat) (C : Nat → Int32) (sn : List V3) (so : Option V3) (ww : Nat → Nat × Nat) : Prop :=
  (so = none → (∀ k, k < 10 → ww k = (0, 1)) ∧ ∀ t, t ∈ sn → t = (0, 0, 0)) ∧ (∀ k, k < 10 → fOK (ww k)) ∧
  (so ≠ none → ∀ k, k < n → ∃ t, t ∈ sn ∧ t ≠ (0, 0, 0) ∧ (wdK n C k t).natAbs * (ww k).2 ≤ (ww k).1 * (dt t t).natAbs) ∧
  (∀ k, k < n → ∀ t, t ∈ sn → t ≠ (0, 0, 0) → (ww k).1 * (dt t t).natAbs ≤ (wdK n C k t).natAbs * (ww k).2 ∨ wdK n C k t = wdP n C t) ∧ nzO so
theorem wwL_le {ww : Nat → Nat × Nat} {k0 X B k : Nat} (h0 : 0 < B) (hk : 0 < (ww k).2) : (wwL ww k0 X B k).1 * (ww k).2 ≤ (ww k).1 * (wwL ww k0 X B k).2 := by
  unfold wwL
  split
  · rename_i q
    exact (red_le h0).mpr (Nat.le_of_lt q.2)
  · exact Nat.le_refl _
theorem wwL_at {ww : Nat → Nat × Nat} {k0 X B : Nat} (h0 : 0 < B) : (wwL ww k0 X B k0).1 * B ≤ X * (wwL ww k0 X B k0).2 := by
  unfold wwL
  by_cases q : X * (ww k0).2 < (ww k0).1 * B
  · rw [if_pos ⟨rfl, q⟩]
    exact (red_le h0).mpr (Nat.le_refl _)
  · rw [if_neg (fun y => q y.2)]
    omega
theorem wwL_or {ww : Nat → Nat × Nat} {k0 X B k : Nat} : wwL ww k0 X B k = ww k ∨ (k = k0 ∧ wwL ww k0 X B k = red X B) := by
  unfold wwL
  split
  · rename_i q; exact Or.inr ⟨q.1, rfl⟩
  · exact Or.inl rfl
/-- fractions: a / b <= c / d <= e / f -/
theorem fr_tr {a b c d e f : Nat} (hd : 0 < d) (h1 : a * d ≤ c * b) (h2 : c * f ≤ e * d) : a * f ≤ e * b := by
  refine Nat.le_of_mul_le_mul_right (c := d) ?_ hd
  have k1 := Nat.mul_le_mul_right f h1
  have k2 := Nat.mul_le_mul_right b h2
  have e1 : a * f * d = a * d * f := by rw [Nat.mul_right_comm]
  have e2 : c * b * f = c * f * b := by rw [Nat.mul_right_comm]
  have e3 : e * b * d = e * d * b := by rw [Nat.mul_right_comm]
  omega
theorem wInv_zero {n : Nat} {C : Nat → Int32} {sn : List V3} {so : Option V3} {ww : Nat → Nat × Nat} (h : wInv n C sn so ww) : wInv n C (sn ++ [(0, 0, 0)]) so ww := by
  obtain ⟨h1, h2, h3, h4, h5⟩ := h
  refine ⟨fun e => ⟨(h1 e).1, fun t ht => ?_⟩, h2, fun e k hk => ?_, fun k hk t ht hne => ?_, h5⟩
  · rcases List.mem_append.mp ht with q | q
    · exact (h1 e).2 t q
    · exact List.mem_singleton.mp q
  · obtain ⟨t, a1, a2, a3⟩ := h3 e k hk
    exact ⟨t, List.mem_append_left _ a1, a2, a3⟩
  · rcases List.mem_append.mp ht with q | q
    · exact h4 k hk t q hne
    · exact absurd (List.mem_singleton.mp q) hne
theorem wInv_step {n : Nat} {C : Nat → Int32} {sn : List V3} {so : Option V3} {ww ww1 : Nat → Nat × Nat} {t : V3} {s g : Ls} (h10 : n ≤ 10) (hn : 2 ≤ n) (h : wInv n C sn so ww) (ht : in3 1800 t) (h0 : t ≠ (0, 0, 0)) (hs : lsI (dP C t) n s) (hg : lsI (fun i => -dP C t i) n g)
    (hww1 : ww1 = if so = none then fun _ => red (wdP n C t).natAbs (dt t t).natAbs else ww) (hok : ∀ k, k < 10 → fOK (wwL (wwL ww1 s.2.2 (wdK n C s.2.2 t).natAbs (dt t t).natAbs) g.2.2 (wdK n C g.2.2 t).natAbs (dt t t).natAbs k)) :
    wInv n C (sn ++ [t]) (stW (wdP n C) t so) (wwL (wwL ww1 s.2.2 (wdK n C s.2.2 t).natAbs (dt t t).natAbs) g.2.2 (wdK n C g.2.2 t).natAbs (dt t t).natAbs) := by
  obtain ⟨h1, h2, h3, h4, h5⟩ := h
  have la : s.2.2 < n := by rcases hs with ⟨q, -⟩ | ⟨q, -⟩ <;> omega
  have ga : g.2.2 < n := by rcases hg with ⟨q, -⟩ | ⟨q, -⟩ <;> omega
  have B0 : 0 < (dt t t).natAbs := by have := dt_p h0; omega
  obtain ⟨B, hB⟩ : ∃ B, B = (dt t t).natAbs := ⟨_, rfl⟩
  obtain ⟨X1, hX1⟩ : ∃ X, X = (wdK n C s.2.2 t).natAbs := ⟨_, rfl⟩
  obtain ⟨X2, hX2⟩ : ∃ X, X = (wdK n C g.2.2 t).natAbs := ⟨_, rfl⟩
  have hkle : ∀ k, k < n → (wdK n C k t).natAbs ≤ (wdP n C t).natAbs := fun k hk => by
    have e1 := wdP_eq h10 (ms_all (by omega) hs hg)
    have rr := ms_all (by omega) hs hg
    obtain ⟨j, hj⟩ : ∃ j, j < n ∧ j ≠ k := by
      by_cases q : k = 0
      · exact ⟨1, by omega, by omega⟩
      · exact ⟨0, by omega, by omega⟩
    obtain ⟨r, hr⟩ := rg_ex (n := n) (S := fun i => i ≠ k) (P := ptZ C) (v := t) (t := j) hj
    have e2 := wdK_eq h10 hk hr
    obtain ⟨⟨a, b, ha, hb, er⟩, hr2⟩ := hr
    have l1 := rr.2 a b ha.1 trivial hb.1 trivial
    have l0 := hr2 a a ha.1 ha.2 ha.1 ha.2
    have z0 : dt t (sb (ptZ C a) (ptZ C a)) = 0 := by simp only [dt, sb]; grind
    rw [e1, e2]
    have := sq_le (a := r) (r := -g.1 - s.1) (by omega) (by omega)
    have p1 := sqNN r
    have p2 := sqNN (-g.1 - s.1)
    omega
  rw [← hB, ← hX1, ← hX2] at hok ⊢
  rw [← hB] at hww1 B0
  have ne : stW (wdP n C) t so ≠ none := by
    unfold stW
    rw [if_neg h0]
    cases so with
    | none => exact fun q => by cases q
    | some e =>
      show (if btr (wdP n C) (nrm t) e then _ else _) ≠ none
      split <;> exact fun q => by cases q
  refine ⟨fun e => absurd e ne, hok, fun _ k hk => ?_, fun k hk t' ht' hne => ?_, nz_step ht h5⟩
  · -- what it is, is reached
    have base : ∃ t', t' ∈ sn ++ [t] ∧ t' ≠ (0, 0, 0) ∧ (wdK n C k t').natAbs * (ww1 k).2 ≤ (ww1 k).1 * (dt t' t').natAbs := by
      by_cases q : so = none
      · rw [if_pos q] at hww1
        refine ⟨t, List.mem_append_right _ (List.mem_singleton.mpr rfl), h0, ?_⟩
        rw [hww1, ← hB]
        exact (red_le' B0).mpr (Nat.mul_le_mul_right _ (hkle k hk))
      · rw [if_neg q] at hww1
        rw [hww1]
        obtain ⟨t', a1, a2, a3⟩ := h3 q k hk
        exact ⟨t', List.mem_append_left _ a1, a2, a3⟩
    rcases wwL_or (ww := wwL ww1 s.2.2 X1 B) (k0 := g.2.2) (X := X2) (B := B) (k := k) with q | ⟨q, q'⟩
    · rw [q]
      rcases wwL_or (ww := ww1) (k0 := s.2.2) (X := X1) (B := B) (k := k) with y | ⟨y, y'⟩
      · rw [y]; exact base
      · rw [y']
        refine ⟨t, List.mem_append_right _ (List.mem_singleton.mpr rfl), h0, ?_⟩
        rw [y, ← hX1, ← hB]
        exact (red_le' B0).mpr (Nat.le_refl _)
    · rw [q']
      refine ⟨t, List.mem_append_right _ (List.mem_singleton.mpr rfl), h0, ?_⟩
      rw [q, ← hX2, ← hB]
      exact (red_le' B0).mpr (Nat.le_refl _)
  · rcases List.mem_append.mp ht' with q | q
    · by_cases e : so = none
      · exact absurd ((h1 e).2 t' q) hne
      · rw [if_neg e] at hww1
        rw [hww1] at hok ⊢
        rcases h4 k hk t' q hne with y | y
        · refine Or.inl ?_
          have p0 := (h2 k (by omega)).1
          have l1 := wwL_le (ww := ww) (k0 := s.2.2) (X := X1) (B := B) (k := k) B0 p0
          have p1 : 0 < (wwL ww s.2.2 X1 B k).2 := by
            rcases wwL_or (ww := ww) (k0 := s.2.2) (X := X1) (B := B) (k := k) with z | ⟨-, z⟩
            · rw [z]; exact p0
            · rw [z]; exact red_pos B0
          have l2 := wwL_le (ww := wwL ww s.2.2 X1 B) (k0 := g.2.2) (X := X2) (B := B) (k := k) B0 p1
          exact fr_tr p0 (fr_tr p1 l2 l1) y
        · exact Or.inr y
    · have e : t' = t := List.mem_singleton.mp q
      rw [e, ← hB]
      by_cases q1 : k = g.2.2
      · refine Or.inl ?_
        rw [q1, ← hX2]
        exact wwL_at B0
      · by_cases q2 : k = s.2.2
        · refine Or.inl ?_
          have : wwL (wwL ww1 s.2.2 X1 B) g.2.2 X2 B k = wwL ww1 s.2.2 X1 B k := by
            rcases wwL_or (ww := wwL ww1 s.2.2 X1 B) (k0 := g.2.2) (X := X2) (B := B) (k := k) with y | ⟨y, -⟩
            · exact y
            · exact absurd y q1
          rw [this, q2, ← hX1]
          exact wwL_at B0
        · refine Or.inr ?_
          rw [wdK_eq h10 hk (ms_no hn hs hg q2 q1), wdP_eq h10 (ms_all (by omega) hs hg)]
