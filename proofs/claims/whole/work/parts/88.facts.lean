/-! fractions -/
def red (N D : Nat) : Nat × Nat := (N / Nat.gcd N D, D / Nat.gcd N D)
theorem red_scale {k N D : Nat} (hk : 0 < k) : red (k * N) (k * D) = red N D := by
  unfold red
  rw [Nat.gcd_mul_left, Nat.mul_div_mul_left _ _ hk, Nat.mul_div_mul_left _ _ hk]
theorem red_m {N D : Nat} : Nat.gcd N D * (red N D).1 = N ∧ Nat.gcd N D * (red N D).2 = D := ⟨Nat.mul_div_cancel' (Nat.gcd_dvd_left N D), Nat.mul_div_cancel' (Nat.gcd_dvd_right N D)⟩
theorem red_lt {N D W B : Nat} (hD : 0 < D) : W * (red N D).2 < (red N D).1 * B ↔ W * D < N * B := by
  have hg : 0 < Nat.gcd N D := Nat.gcd_pos_of_pos_right _ hD
  obtain ⟨h1, h2⟩ := red_m (N := N) (D := D)
  rw [← Nat.mul_lt_mul_left hg]
  have e1 : Nat.gcd N D * (W * (red N D).2) = W * D := by rw [Nat.mul_left_comm, h2]
  have e2 : Nat.gcd N D * ((red N D).1 * B) = N * B := by rw [← Nat.mul_assoc, h1]
  rw [e1, e2]
theorem red_eq {N D W B : Nat} (hD : 0 < D) : W * (red N D).2 = (red N D).1 * B ↔ W * D = N * B := by
  have hg : 0 < Nat.gcd N D := Nat.gcd_pos_of_pos_right _ hD
  obtain ⟨h1, h2⟩ := red_m (N := N) (D := D)
  have e1 : Nat.gcd N D * (W * (red N D).2) = W * D := by rw [Nat.mul_left_comm, h2]
  have e2 : Nat.gcd N D * ((red N D).1 * B) = N * B := by rw [← Nat.mul_assoc, h1]
  rw [← e1, ← e2]
  exact ⟨fun h => by rw [h], fun h => Nat.eq_of_mul_eq_mul_left hg h⟩
theorem red_le {N D W B : Nat} (hD : 0 < D) : (red N D).1 * B ≤ W * (red N D).2 ↔ N * B ≤ W * D := by
  have := red_lt (N := N) (W := W) (B := B) hD
  omega
theorem red_le' {N D W B : Nat} (hD : 0 < D) : W * (red N D).2 ≤ (red N D).1 * B ↔ W * D ≤ N * B := by
  have h1 := red_lt (N := N) (W := W) (B := B) hD
  have h2 := red_eq (N := N) (W := W) (B := B) hD
  omega
theorem red_co {N D : Nat} (hD : 0 < D) : Nat.gcd (red N D).1 (red N D).2 = 1 := by
  have hg : 0 < Nat.gcd N D := Nat.gcd_pos_of_pos_right _ hD
  unfold red
  rw [Nat.gcd_div (Nat.gcd_dvd_left N D) (Nat.gcd_dvd_right N D)]
  exact Nat.div_self hg
theorem red_pos {N D : Nat} (hD : 0 < D) : 0 < (red N D).2 := by
  obtain ⟨h1, h2⟩ := red_m (N := N) (D := D)
  rcases Nat.eq_zero_or_pos (red N D).2 with q | q
  · rw [q] at h2; omega
  · exact q
theorem red_ub {N D : Nat} : (red N D).1 ≤ N ∧ (red N D).2 ≤ D := ⟨Nat.div_le_self _ _, Nat.div_le_self _ _⟩
theorem fr_uniq {a b c d : Nat} (hb : 0 < b) (hd : 0 < d) (h1 : Nat.gcd a b = 1) (h2 : Nat.gcd c d = 1) (h : a * d = c * b) : a = c ∧ b = d := by
  have k1 : b ∣ d := (Nat.Coprime.dvd_of_dvd_mul_left (k := b) (m := a) (n := d) (by unfold Nat.Coprime; rw [Nat.gcd_comm]; exact h1) (by rw [h]; exact Nat.dvd_mul_left b c))
  have k2 : d ∣ b := (Nat.Coprime.dvd_of_dvd_mul_left (k := d) (m := c) (n := b) (by unfold Nat.Coprime; rw [Nat.gcd_comm]; exact h2) (by rw [← h]; exact Nat.dvd_mul_left d a))
  have e := Nat.dvd_antisymm k1 k2
  subst e
  exact ⟨Nat.eq_of_mul_eq_mul_right hb h, rfl⟩
/-! widths of sets -/
theorem RG.congr {n : Nat} {S S' : Nat → Prop} {P : Nat → V3} {w : V3} {r : Int} (h : RG n S P w r) (e : ∀ i, i < n → (S i ↔ S' i)) : RG n S' P w r := by
  obtain ⟨⟨a, b, ha, hb, er⟩, h2⟩ := h
  exact ⟨⟨a, b, ⟨ha.1, (e a ha.1).mp ha.2⟩, ⟨hb.1, (e b hb.1).mp hb.2⟩, er⟩, fun a b h3 h4 h5 h6 => h2 a b h3 ((e a h3).mpr h4) h5 ((e b h5).mpr h6)⟩
theorem wd_eq {n m : Nat} {Q : Nat → V3} {t : V3} {r : Int} (h : RG n (bt m) Q t r) : wdA n m Q t = r * r := by
  obtain ⟨⟨a, b, ha, -, -⟩, -⟩ := id h
  have := h.uniq (rgN_RG ⟨a, ha.1, ha.2⟩)
  unfold wdA; rw [← this]
theorem rgN_0 {n m : Nat} {Q : Nat → V3} {t : V3} (h : ¬ ∃ i, i < n ∧ bt m i) : rgN n m Q t = 0 := by
  have k := mm_all (m := m) (Q := Q) (d := t) n 0 none (fun i hi => absurd hi (Nat.not_lt_zero _))
  rw [Nat.zero_add] at k
  unfold rgN
  cases e : mmF m Q t n 0 none with
  | none => rfl
  | some q =>
    rw [e] at k
    obtain ⟨⟨i1, a1, a2, a3⟩, -⟩ := k
    exact absurd ⟨i1, a1, a2⟩ h
theorem wd_scale {n m : Nat} {Q : Nat → V3} {t : V3} : wdA n m Q t = gv t * gv t * wdA n m Q (nrm t) := by
  by_cases q : ∃ i, i < n ∧ bt m i
  · have h := rgN_RG (Q := Q) (d := nrm t) q
    obtain ⟨⟨a, b, ha, hb, er⟩, h2⟩ := id h
    obtain ⟨r, hr⟩ : ∃ r, r = rgN n m Q (nrm t) := ⟨_, rfl⟩
    rw [← hr] at h2 er
    have e1 : wdA n m Q (nrm t) = r * r := by unfold wdA; rw [← hr]
    rw [e1]
    have r0 : 0 ≤ r := by
      have := h2 a a ha.1 ha.2 ha.1 ha.2
      have e : dt (nrm t) (sb (Q a) (Q a)) = 0 := by simp only [dt, sb]; grind
      omega
    rcases Int.le_total 0 (gv t) with g | g
    · have : RG n (bt m) Q t (gv t * r) := by
        refine ⟨⟨a, b, ha, hb, by rw [dt_nrm, er]⟩, fun a b h3 h4 h5 h6 => ?_⟩
        rw [dt_nrm]
        exact Int.mul_le_mul_of_nonneg_left (h2 a b h3 h4 h5 h6) g
      rw [wd_eq this]; grind
    · have : RG n (bt m) Q t (-(gv t) * r) := by
        refine ⟨⟨b, a, hb, ha, by rw [dt_nrm, dt_sw (a := Q b), er]; grind⟩, fun a b h3 h4 h5 h6 => ?_⟩
        have k := h2 b a h5 h6 h3 h4
        rw [dt_nrm, dt_sw]
        have := Int.mul_le_mul_of_nonneg_left k (show 0 ≤ - gv t by omega)
        have e2 : gv t * -dt (nrm t) (sb (Q b) (Q a)) = -gv t * dt (nrm t) (sb (Q b) (Q a)) := by grind
        omega
      rw [wd_eq this]; grind
  · unfold wdA
    rw [rgN_0 q, rgN_0 q]; simp
theorem btF : ∀ n, n ≤ 10 → ∀ i, i < 10 → (bt (2 ^ n - 1) i ↔ i < n) := by decide
theorem btW : ∀ n, n ≤ 10 → ∀ k, k < n → ∀ i, i < 10 → (bt (2 ^ n - 1 - 2 ^ k) i ↔ (i < n ∧ i ≠ k)) := by decide
section
variable {n : Nat} {C : Nat → Int32} {t : V3} {s g : Ls}
theorem df (a b : Nat) : dt t (sb (ptZ C a) (ptZ C b)) = dP C t a - dP C t b := by
  unfold dP
  generalize ptZ C a = p
  generalize ptZ C b = q
  simp only [dt, sb]; grind
theorem ms_all (hn : 0 < n) (hs : lsI (dP C t) n s) (hg : lsI (fun i => -dP C t i) n g) : RG n (fun _ => True) (ptZ C) t (-g.1 - s.1) := by
  rcases hs with ⟨h0, -⟩ | ⟨a1, a2, a3, -, -⟩
  · omega
  rcases hg with ⟨h0, -⟩ | ⟨b1, b2', b3', -, -⟩
  · omega
  have b2 : -dP C t g.2.2 = g.1 := b2'
  have b3 : ∀ i, i < n → g.1 ≤ -dP C t i := b3'
  refine ⟨⟨g.2.2, s.2.2, ⟨b1, trivial⟩, ⟨a1, trivial⟩, ?_⟩, fun a b ha _ hb _ => ?_⟩
  · rw [df, a2]; omega
  · have k1 := b3 a ha
    have k2 := a3 b hb
    rw [df]; omega
theorem ms_lo (hn : 2 ≤ n) (hs : lsI (dP C t) n s) (hg : lsI (fun i => -dP C t i) n g) : RG n (fun i => i ≠ s.2.2) (ptZ C) t (-g.1 - s.2.1) := by
  rcases hs with ⟨h0, -⟩ | ⟨a1, a2, a3, a4, a5⟩
  · omega
  rcases hg with ⟨h0, -⟩ | ⟨b1, b2', b3', -, -⟩
  · omega
  have b2 : -dP C t g.2.2 = g.1 := b2'
  have b3 : ∀ i, i < n → g.1 ≤ -dP C t i := b3'
  obtain ⟨i, i1, i2, i3⟩ : ∃ i, i < n ∧ i ≠ s.2.2 ∧ dP C t i = s.2.1 := by
    rcases a5 with ⟨q, -⟩ | q
    · omega
    · exact q
  have up : ∃ a, a < n ∧ a ≠ s.2.2 ∧ dP C t a = -g.1 := by
    by_cases q : g.2.2 = s.2.2
    · refine ⟨i, i1, i2, ?_⟩
      have k1 := b3 i i1
      have k2 := a3 i i1
      rw [q] at b2
      omega
    · exact ⟨g.2.2, b1, q, by omega⟩
  obtain ⟨a, c1, c2, c3⟩ := up
  refine ⟨⟨a, i, ⟨c1, c2⟩, ⟨i1, i2⟩, by rw [df, c3, i3]⟩, fun a b ha hSa hb hSb => ?_⟩
  have k1 := b3 a ha
  have k2 := a4 b hb hSb
  rw [df]; omega
theorem ms_hi (hn : 2 ≤ n) (hs : lsI (dP C t) n s) (hg : lsI (fun i => -dP C t i) n g) : RG n (fun i => i ≠ g.2.2) (ptZ C) t (-g.2.1 - s.1) := by
  rcases hs with ⟨h0, -⟩ | ⟨a1, a2, a3, a4, a5⟩
  · omega
  rcases hg with ⟨h0, -⟩ | ⟨b1, b2', b3', b4', b5'⟩
  · omega
  have b2 : -dP C t g.2.2 = g.1 := b2'
  have b3 : ∀ i, i < n → g.1 ≤ -dP C t i := b3'
  have b4 : ∀ i, i < n → i ≠ g.2.2 → g.2.1 ≤ -dP C t i := b4'
  have b5 : (n = 1 ∧ g.2.1 = 1000000) ∨ ∃ i, i < n ∧ i ≠ g.2.2 ∧ -dP C t i = g.2.1 := b5'
  obtain ⟨i, i1, i2, i3⟩ : ∃ i, i < n ∧ i ≠ g.2.2 ∧ -dP C t i = g.2.1 := by
    rcases b5 with ⟨q, -⟩ | q
    · omega
    · exact q
  have up : ∃ a, a < n ∧ a ≠ g.2.2 ∧ dP C t a = s.1 := by
    by_cases q : s.2.2 = g.2.2
    · refine ⟨i, i1, i2, ?_⟩
      have k1 := b3 i i1
      have k2 := a3 i i1
      rw [q] at a2
      omega
    · exact ⟨s.2.2, a1, q, a2⟩
  obtain ⟨a, c1, c2, c3⟩ := up
  refine ⟨⟨i, a, ⟨i1, i2⟩, ⟨c1, c2⟩, by rw [df, c3]; omega⟩, fun a b ha hSa hb hSb => ?_⟩
  have k1 := b4 a ha hSa
  have k2 := a3 b hb
  rw [df]; omega
theorem ms_no {k : Nat} (hn : 2 ≤ n) (hs : lsI (dP C t) n s) (hg : lsI (fun i => -dP C t i) n g) (k1 : k ≠ s.2.2) (k2 : k ≠ g.2.2) : RG n (fun i => i ≠ k) (ptZ C) t (-g.1 - s.1) := by
  rcases hs with ⟨h0, -⟩ | ⟨a1, a2, a3, -, -⟩
  · omega
  rcases hg with ⟨h0, -⟩ | ⟨b1, b2', b3', -, -⟩
  · omega
  have b2 : -dP C t g.2.2 = g.1 := b2'
  have b3 : ∀ i, i < n → g.1 ≤ -dP C t i := b3'
  refine ⟨⟨g.2.2, s.2.2, ⟨b1, Ne.symm k2⟩, ⟨a1, Ne.symm k1⟩, ?_⟩, fun a b ha _ hb _ => ?_⟩
  · rw [df, a2]; omega
  · have k1 := b3 a ha
    have k2 := a3 b hb
    rw [df]; omega
/-- the width of all -/
def wdP (n : Nat) (C : Nat → Int32) (t : V3) : Int := wdA n (2 ^ n - 1) (ptZ C) t
/-- the width without one -/
def wdK (n : Nat) (C : Nat → Int32) (k : Nat) (t : V3) : Int := wdA n (2 ^ n - 1 - 2 ^ k) (ptZ C) t
theorem wdP_eq {r : Int} (h10 : n ≤ 10) (h : RG n (fun _ => True) (ptZ C) t r) : wdP n C t = r * r := wd_eq (h.congr (fun i hi => by rw [btF n h10 i (by omega)]; simp [hi]))
theorem wdK_eq {r : Int} {k : Nat} (h10 : n ≤ 10) (hk : k < n) (h : RG n (fun i => i ≠ k) (ptZ C) t r) : wdK n C k t = r * r := wd_eq (h.congr (fun i hi => by rw [btW n h10 k hk i (by omega)]; simp [hi]))
end
