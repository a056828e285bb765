section
variable {n : Nat} {S : Nat → Prop} {P : Nat → V3}
/-- the width falls while it is turned -/
theorem rot_le {w e : V3} {p q D : Int} (hp : 0 < p) (hq : 0 ≤ q) (hw : 0 ≤ dt w e) : p * D * (p * D) * dt w w ≤ D * D * dt (lc p w q e) (lc p w q e) := by
  have id : dt (lc p w q e) (lc p w q e) = p * p * dt w w + (2 * (p * (q * dt w e)) + q * q * dt e e) := by simp only [dt, lc]; grind
  have g1 := Int.mul_nonneg (Int.le_of_lt hp) (Int.mul_nonneg hq hw)
  have g2 := Int.mul_nonneg (sqNN q) (dt_nn e)
  have g3 : 0 ≤ D * D * (2 * (p * (q * dt w e)) + q * q * dt e e) := Int.mul_nonneg (sqNN D) (by omega)
  have e2 : p * D * (p * D) * dt w w = D * D * (p * p * dt w w) := by grind
  rw [id, Int.mul_add, e2]
  omega
theorem cx_par {w y z : V3} (hy : dt w y = 0) (hz : dt w z = 0) : cx w (cx y z) = (0, 0, 0) := by
  simp only [dt] at hy hz
  refine V3x ?_ ?_ ?_ <;> simp only [cx] <;> grind
theorem mulc {a b c : Int} (h : a * c ≤ b * c) (hc : 0 < c) : a ≤ b := Int.le_of_mul_le_mul_right h hc
/-- the second line -/
theorem step2 {w y1 : V3} {t u : Nat} (h : TB n S P w t u) (hd : dt w (sb (P t) (P u)) ≠ 0) (hy : dt w y1 = 0) (hy0 : y1 ≠ (0, 0, 0)) : ∃ a b r, (a < n ∧ S a) ∧ (b < n ∧ S b) ∧ cx y1 (sb (P b) (P a)) ≠ (0, 0, 0) ∧ RG n S P (cx y1 (sb (P b) (P a))) r ∧ r * r * dt w w ≤ dt w (sb (P t) (P u)) * dt w (sb (P t) (P u)) * dt (cx y1 (sb (P b) (P a))) (cx y1 (sb (P b) (P a))) := by
  obtain ⟨d, hdd⟩ : ∃ d, d = sb (P t) (P u) := ⟨_, rfl⟩
  have ht := h.1
  have hu := h.2.1
  have main : ∀ e, (e = cx d y1 ∨ e = cx y1 d) → 0 ≤ dt w e → ∃ a b r, (a < n ∧ S a) ∧ (b < n ∧ S b) ∧ cx y1 (sb (P b) (P a)) ≠ (0, 0, 0) ∧ RG n S P (cx y1 (sb (P b) (P a))) r ∧ r * r * dt w w ≤ dt w (sb (P t) (P u)) * dt w (sb (P t) (P u)) * dt (cx y1 (sb (P b) (P a))) (cx y1 (sb (P b) (P a))) := by
    intro e he hwe
    have e1 : dt e d = 0 := by rcases he with rfl | rfl <;> simp only [dt, cx] <;> grind
    have e2 : dt e y1 = 0 := by rcases he with rfl | rfl <;> simp only [dt, cx] <;> grind
    by_cases hx : ∃ x, x < n ∧ S x ∧ dt e (sb (P x) (P t)) ≠ 0
    · obtain ⟨p, q, x, p0, q0, hT, hxS, hxe, htie⟩ := rot h (by rw [← hdd]; exact e1) hwe hx
      obtain ⟨w', hw'⟩ : ∃ w', w' = lc p w q e := ⟨_, rfl⟩
      have lin : ∀ z, dt w' z = p * dt w z + q * dt e z := fun z => by rw [hw']; simp only [dt, lc]; grind
      have hxu : dt e (sb (P x) (P u)) ≠ 0 := by
        have : dt e (sb (P x) (P u)) = dt e (sb (P x) (P t)) + dt e (sb (P t) (P u)) := by simp only [dt, sb]; grind
        rw [this, ← hdd, e1, Int.add_zero]; exact hxe
      obtain ⟨a, ha, hta, hea⟩ : ∃ a, (a < n ∧ S a) ∧ dt w' (sb (P x) (P a)) = 0 ∧ dt e (sb (P x) (P a)) ≠ 0 := by
        rcases htie with z | z
        · exact ⟨t, ht, by rw [hw']; exact z, hxe⟩
        · exact ⟨u, hu, by rw [hw']; exact z, hxu⟩
      obtain ⟨y2, hy2⟩ : ∃ y2, y2 = sb (P x) (P a) := ⟨_, rfl⟩
      rw [← hy2] at hta hea
      have hy1' : dt w' y1 = 0 := by rw [lin, hy, e2]; simp
      have hne : cx y1 y2 ≠ (0, 0, 0) := fun z => by
        have z1 : (cx y1 y2).1 = 0 := by rw [z]
        have z2 : (cx y1 y2).2.1 = 0 := by rw [z]
        have z3 : (cx y1 y2).2.2 = 0 := by rw [z]
        refine hea ?_
        simp only [cx] at z1 z2 z3
        rcases he with rfl | rfl <;> simp only [dt, cx] <;> grind
      have hw0 : 0 < dt w' w' := dt_p (fun z => by
        have : dt w' d = 0 := by rw [z]; simp [dt]
        rw [lin, e1, Int.mul_zero, Int.add_zero, hdd] at this
        rcases Int.mul_eq_zero.mp this with y | y
        · omega
        · exact hd y)
      have hmm : cx w' (cx y1 y2) = (0, 0, 0) := cx_par hy1' hta
      have hrg : RG n S P w' (p * dt w d) := by
        have := hT.rg
        rw [← hw', ← hdd, lin, e1, Int.mul_zero, Int.add_zero] at this
        exact this
      obtain ⟨r, hr⟩ : ∃ r, RG n S P (cx y1 y2) r := by
        -- a farthest pair exists
        obtain ⟨i, i1, i2, i3⟩ := argmin (T := S) (s := fun i => dt (cx y1 y2) (P i)) (c := fun _ => 1) n (fun _ _ _ => by decide) ⟨t, ht⟩
        obtain ⟨j, j1, j2, j3⟩ := argmin (T := S) (s := fun i => - dt (cx y1 y2) (P i)) (c := fun _ => 1) n (fun _ _ _ => by decide) ⟨t, ht⟩
        refine ⟨_, ⟨j, i, ⟨j1, j2⟩, ⟨i1, i2⟩, rfl⟩, fun a b ha hSa hb hSb => ?_⟩
        have k1 := i3 b hb hSb
        have k2 := j3 a ha hSa
        simp only [Int.mul_one] at k1 k2
        have f : ∀ a b, dt (cx y1 y2) (sb a b) = dt (cx y1 y2) a - dt (cx y1 y2) b := fun a b => by
          generalize cx y1 y2 = v
          simp only [dt, sb]; grind
        rw [f, f]; omega
      have k1 := par_rg hrg hr hmm
      have k2 := rot_le (w := w) (e := e) (D := dt w d) p0 q0 hwe
      rw [← hw'] at k2
      refine ⟨a, x, r, ha, hxS, by rw [← hy2]; exact hne, by rw [← hy2]; exact hr, ?_⟩
      rw [← hy2, ← hdd]
      refine mulc (c := dt w' w') ?_ hw0
      have k3 := Int.mul_le_mul_of_nonneg_right k1 (dt_nn w)
      have k4 := Int.mul_le_mul_of_nonneg_right k2 (dt_nn (cx y1 y2))
      have s1 : r * r * dt w w * dt w' w' = r * r * dt w' w' * dt w w := by grind
      have s2 : p * dt w d * (p * dt w d) * dt (cx y1 y2) (cx y1 y2) * dt w w = p * dt w d * (p * dt w d) * dt w w * dt (cx y1 y2) (cx y1 y2) := by grind
      have s3 : dt w d * dt w d * dt (cx y1 y2) (cx y1 y2) * dt w' w' = dt w d * dt w d * dt w' w' * dt (cx y1 y2) (cx y1 y2) := by grind
      rw [s1, s3]
      rw [s2] at k3
      exact Int.le_trans k3 k4
    · have hall : ∀ x, x < n → S x → dt e (sb (P x) (P t)) = 0 := fun x hx' hS => Decidable.byContradiction fun z => hx ⟨x, hx', hS, z⟩
      have hne : cx y1 d ≠ (0, 0, 0) := fun z => by
        have z1 : (cx y1 d).1 = 0 := by rw [z]
        have z2 : (cx y1 d).2.1 = 0 := by rw [z]
        have z3 : (cx y1 d).2.2 = 0 := by rw [z]
        refine hy0 (V3x ?_ ?_ ?_)
        all_goals
          refine Decidable.byContradiction fun y => ?_
          simp only [cx] at z1 z2 z3
          simp only [dt] at hy
          rw [← hdd] at hd
          refine hd ?_
          simp only [dt]
          first
          | (rcases Int.mul_eq_zero.mp (show y1.1 * (w.1 * d.1 + w.2.1 * d.2.1 + w.2.2 * d.2.2) = 0 by grind) with f | f
             · exact absurd f y
             · exact f)
          | (rcases Int.mul_eq_zero.mp (show y1.2.1 * (w.1 * d.1 + w.2.1 * d.2.1 + w.2.2 * d.2.2) = 0 by grind) with f | f
             · exact absurd f y
             · exact f)
          | (rcases Int.mul_eq_zero.mp (show y1.2.2 * (w.1 * d.1 + w.2.1 * d.2.1 + w.2.2 * d.2.2) = 0 by grind) with f | f
             · exact absurd f y
             · exact f)
      refine ⟨u, t, 0, hu, ht, by rw [← hdd]; exact hne, ?_, ?_⟩
      · rw [← hdd]
        have z : ∀ a b, a < n → S a → b < n → S b → dt (cx y1 d) (sb (P a) (P b)) = 0 := fun a b ha hSa hb hSb => by
          have k1 := hall a ha hSa
          have k2 := hall b hb hSb
          have id : dt e (sb (P a) (P b)) = dt e (sb (P a) (P t)) - dt e (sb (P b) (P t)) := by simp only [dt, sb]; grind
          rw [k1, k2] at id
          rcases he with rfl | rfl
          · have : dt (cx y1 d) (sb (P a) (P b)) = - dt (cx d y1) (sb (P a) (P b)) := by simp only [dt, cx]; grind
            rw [this, id]; rfl
          · rw [id]; rfl
        exact ⟨⟨t, u, ht, hu, (z t u ht.1 ht.2 hu.1 hu.2).symm⟩, fun a b ha hSa hb hSb => by rw [z a b ha hSa hb hSb]; exact Int.le_refl _⟩
      · simp only [Int.zero_mul]
        exact Int.mul_nonneg (sqNN _) (dt_nn _)
  rcases Int.le_total 0 (dt w (cx d y1)) with q | q
  · exact main _ (Or.inl rfl) q
  · refine main _ (Or.inr rfl) ?_
    have : dt w (cx y1 d) = - dt w (cx d y1) := by simp only [dt, cx]; grind
    omega
/-- the band -/
theorem G2 {w ax y : V3} {r : Int} {i j : Nat} (h : RG n S P w r) (hw : dt w ax = 0) (ha : ax ≠ (0, 0, 0)) (hi : i < n ∧ S i) (hj : j < n ∧ S j) (hy : y = sb (P i) (P j)) (hne : cx ax y ≠ (0, 0, 0)) : ∃ a b r', (a < n ∧ S a) ∧ (b < n ∧ S b) ∧ cx ax (sb (P b) (P a)) ≠ (0, 0, 0) ∧ RG n S P (cx ax (sb (P b) (P a))) r' ∧ r' * r' * dt w w ≤ r * r * dt (cx ax (sb (P b) (P a))) (cx ax (sb (P b) (P a))) := by
  by_cases q : r = 0
  · obtain ⟨⟨t, u, ht, hu, e⟩, hr⟩ := h
    have z : ∀ a b, a < n → S a → b < n → S b → dt w (sb (P a) (P b)) = 0 := fun a b h1 h2 h3 h4 => by
      have k1 := hr a b h1 h2 h3 h4
      have k2 := hr b a h3 h4 h1 h2
      rw [dt_sw] at k2
      omega
    obtain ⟨r', hr'⟩ : ∃ r', RG n S P (cx ax y) r' := by
      obtain ⟨i', i1, i2, i3⟩ := argmin (T := S) (s := fun i => dt (cx ax y) (P i)) (c := fun _ => 1) n (fun _ _ _ => by decide) ⟨t, ht⟩
      obtain ⟨j', j1, j2, j3⟩ := argmin (T := S) (s := fun i => - dt (cx ax y) (P i)) (c := fun _ => 1) n (fun _ _ _ => by decide) ⟨t, ht⟩
      refine ⟨_, ⟨j', i', ⟨j1, j2⟩, ⟨i1, i2⟩, rfl⟩, fun a b ha hSa hb hSb => ?_⟩
      have k1 := i3 b hb hSb
      have k2 := j3 a ha hSa
      simp only [Int.mul_one] at k1 k2
      have f : ∀ a b, dt (cx ax y) (sb a b) = dt (cx ax y) a - dt (cx ax y) b := fun a b => by
        generalize cx ax y = v
        simp only [dt, sb]; grind
      rw [f, f]; omega
    have hz : dt w y = 0 := by rw [hy]; exact z i j hi.1 hi.2 hj.1 hj.2
    refine ⟨j, i, r', hj, hi, by rw [← hy]; exact hne, by rw [← hy]; exact hr', ?_⟩
    rw [← hy]
    exact par_rg (w := w) ⟨⟨t, u, ht, hu, e⟩, hr⟩ hr' (cx_par hw hz)
  · obtain ⟨t, u, hT, e⟩ := h.tb
    have := step2 hT (by rw [← e]; exact q) hw ha
    rw [← e] at this
    exact this
end
