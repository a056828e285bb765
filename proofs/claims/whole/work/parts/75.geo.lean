/-! the narrowest slab lies by two lines through its points -/
abbrev V3 : Type := Int × Int × Int
def dt (a b : V3) : Int := a.1 * b.1 + a.2.1 * b.2.1 + a.2.2 * b.2.2
def cx (a b : V3) : V3 := (a.2.1 * b.2.2 - a.2.2 * b.2.1, a.2.2 * b.1 - a.1 * b.2.2, a.1 * b.2.1 - a.2.1 * b.1)
def sb (a b : V3) : V3 := (a.1 - b.1, a.2.1 - b.2.1, a.2.2 - b.2.2)
def lc (p : Int) (a : V3) (q : Int) (b : V3) : V3 := (p * a.1 + q * b.1, p * a.2.1 + q * b.2.1, p * a.2.2 + q * b.2.2)
theorem V3x {a b : V3} (h1 : a.1 = b.1) (h2 : a.2.1 = b.2.1) (h3 : a.2.2 = b.2.2) : a = b := by
  obtain ⟨a1, a2, a3⟩ := a
  obtain ⟨b1, b2, b3⟩ := b
  simp only at h1 h2 h3
  rw [h1, h2, h3]
theorem dt_nn (a : V3) : 0 ≤ dt a a := by
  have h1 := sqNN a.1
  have h2 := sqNN a.2.1
  have h3 := sqNN a.2.2
  unfold dt; omega
theorem dt_0 {a : V3} (h : dt a a ≤ 0) : a = (0, 0, 0) := by
  have h1 := sqNN a.1
  have h2 := sqNN a.2.1
  have h3 := sqNN a.2.2
  unfold dt at h
  have e1 : a.1 * a.1 = 0 := by omega
  have e2 : a.2.1 * a.2.1 = 0 := by omega
  have e3 : a.2.2 * a.2.2 = 0 := by omega
  exact V3x (by rcases Int.mul_eq_zero.mp e1 with q | q <;> exact q) (by rcases Int.mul_eq_zero.mp e2 with q | q <;> exact q) (by rcases Int.mul_eq_zero.mp e3 with q | q <;> exact q)
theorem dt_p {a : V3} (h : a ≠ (0, 0, 0)) : 0 < dt a a := by
  rcases Int.lt_or_le 0 (dt a a) with q | q
  · exact q
  · exact absurd (dt_0 q) h
theorem argmin {T : Nat → Prop} {s c : Nat → Int} : ∀ n, (∀ i, i < n → T i → 0 < c i) → (∃ i, i < n ∧ T i) → ∃ i, i < n ∧ T i ∧ ∀ j, j < n → T j → s i * c j ≤ s j * c i := by
  intro n
  induction n with
  | zero => rintro _ ⟨i, hi, -⟩; exact absurd hi (Nat.not_lt_zero _)
  | succ n ih =>
    rintro hc ⟨i, hi, hT⟩
    by_cases q : ∃ i, i < n ∧ T i
    · obtain ⟨m, m1, m2, m3⟩ := ih (fun i hi => hc i (by omega)) q
      by_cases qn : T n
      · have cn := hc n (by omega) qn
        have cm := hc m (by omega) m2
        by_cases z : s m * c n ≤ s n * c m
        · refine ⟨m, by omega, m2, fun j hj hTj => ?_⟩
          by_cases e : j = n
          · rw [e]; exact z
          · exact m3 j (by omega) hTj
        · refine ⟨n, by omega, qn, fun j hj hTj => ?_⟩
          by_cases e : j = n
          · rw [e]; exact Int.le_refl _
          · have cj := hc j hj hTj
            have k1 := m3 j (by omega) hTj
            have k2 : s n * c m * c j ≤ s m * c n * c j := Int.mul_le_mul_of_nonneg_right (by omega) (by omega)
            have k3 : s m * c j * c n ≤ s j * c m * c n := Int.mul_le_mul_of_nonneg_right k1 (by omega)
            refine Int.le_of_mul_le_mul_right (a := c m) ?_ cm
            have e1 : s n * c j * c m = s n * c m * c j := by grind
            have e2 : s m * c n * c j = s m * c j * c n := by grind
            have e3 : s j * c n * c m = s j * c m * c n := by grind
            omega
      · refine ⟨m, by omega, m2, fun j hj hTj => ?_⟩
        by_cases e : j = n
        · rw [e] at hTj; exact absurd hTj qn
        · exact m3 j (by omega) hTj
    · have e : i = n := Decidable.byContradiction fun z => q ⟨i, by omega, hT⟩
      subst e
      refine ⟨i, by omega, hT, fun j hj hTj => ?_⟩
      by_cases e : j = i
      · rw [e]; exact Int.le_refl _
      · exact absurd ⟨j, by omega, hTj⟩ q
/-- how far the points reach along w -/
def RG (n : Nat) (S : Nat → Prop) (P : Nat → V3) (w : V3) (r : Int) : Prop := (∃ a b, (a < n ∧ S a) ∧ (b < n ∧ S b) ∧ r = dt w (sb (P a) (P b))) ∧ ∀ a b, a < n → S a → b < n → S b → dt w (sb (P a) (P b)) ≤ r
theorem dt_sw {w a b : V3} : dt w (sb a b) = - dt w (sb b a) := by simp only [dt, sb]; grind
theorem sq_le {a r : Int} (h1 : a ≤ r) (h2 : -a ≤ r) : a * a ≤ r * r := by
  rcases Int.le_total 0 a with h | h
  · exact Int.mul_le_mul h1 h1 h (by omega)
  · have := Int.mul_le_mul h2 h2 (by omega) (by omega)
    rwa [Int.neg_mul_neg] at this
/-- along one line -/
theorem par_rg {n : Nat} {S : Nat → Prop} {P : Nat → V3} {w m : V3} {r r' : Int} (h : RG n S P w r) (h' : RG n S P m r') (hp : cx w m = (0, 0, 0)) : r' * r' * dt w w ≤ r * r * dt m m := by
  obtain ⟨⟨a, b, ha, hb, e⟩, -⟩ := h'
  have k1 := h.2 a b ha.1 ha.2 hb.1 hb.2
  have k2 := h.2 b a hb.1 hb.2 ha.1 ha.2
  rw [dt_sw] at k2
  obtain ⟨z, hz⟩ : ∃ z, z = sb (P a) (P b) := ⟨_, rfl⟩
  rw [← hz] at e k1 k2
  have h1 : (cx w m).1 = 0 := by rw [hp]
  have h2 : (cx w m).2.1 = 0 := by rw [hp]
  have h3 : (cx w m).2.2 = 0 := by rw [hp]
  simp only [cx] at h1 h2 h3
  have id : r' * r' * dt w w = dt w z * dt w z * dt m m := by
    rw [e]
    have e1 : dt m z * w.1 = dt w z * m.1 := by simp only [dt]; grind
    have e2 : dt m z * w.2.1 = dt w z * m.2.1 := by simp only [dt]; grind
    have e3 : dt m z * w.2.2 = dt w z * m.2.2 := by simp only [dt]; grind
    have s1 : dt m z * dt m z * dt w w = (dt m z * w.1) * (dt m z * w.1) + (dt m z * w.2.1) * (dt m z * w.2.1) + (dt m z * w.2.2) * (dt m z * w.2.2) := by
      generalize dt m z = D
      simp only [dt]; grind
    rw [s1, e1, e2, e3]
    generalize dt w z = D
    simp only [dt]; grind
  rw [id]
  exact Int.mul_le_mul_of_nonneg_right (sq_le k1 k2) (dt_nn m)
section
variable {n : Nat} {S : Nat → Prop} {P : Nat → V3}
/-- t is the top and u the bottom -/
def TB (n : Nat) (S : Nat → Prop) (P : Nat → V3) (w : V3) (t u : Nat) : Prop := (t < n ∧ S t) ∧ (u < n ∧ S u) ∧ ∀ x, x < n → S x → 0 ≤ dt w (sb (P t) (P x)) ∧ 0 ≤ dt w (sb (P x) (P u))
theorem TB.rg {w : V3} {t u : Nat} (h : TB n S P w t u) : RG n S P w (dt w (sb (P t) (P u))) := by
  obtain ⟨h1, h2, h3⟩ := h
  refine ⟨⟨t, u, h1, h2, rfl⟩, fun a b ha hSa hb hSb => ?_⟩
  have k1 := (h3 a ha hSa).1
  have k2 := (h3 b hb hSb).2
  have id : dt w (sb (P t) (P u)) = dt w (sb (P a) (P b)) + dt w (sb (P t) (P a)) + dt w (sb (P b) (P u)) := by simp only [dt, sb]; grind
  omega
theorem RG.tb {w : V3} {r : Int} (h : RG n S P w r) : ∃ t u, TB n S P w t u ∧ r = dt w (sb (P t) (P u)) := by
  obtain ⟨⟨t, u, h1, h2, e⟩, h3⟩ := h
  refine ⟨t, u, ⟨h1, h2, fun x hx hS => ?_⟩, e⟩
  have k1 := h3 x u hx hS h2.1 h2.2
  have k2 := h3 t x h1.1 h1.2 hx hS
  rw [e] at k1 k2
  have i1 : dt w (sb (P t) (P u)) = dt w (sb (P t) (P x)) + dt w (sb (P x) (P u)) := by simp only [dt, sb]; grind
  omega
/-- turned until a third one touches -/
theorem rot {w e : V3} {t u : Nat} (h : TB n S P w t u) (he : dt e (sb (P t) (P u)) = 0) (hw : 0 ≤ dt w e) (hx : ∃ x, x < n ∧ S x ∧ dt e (sb (P x) (P t)) ≠ 0) :
    ∃ p q x, 0 < p ∧ 0 ≤ q ∧ TB n S P (lc p w q e) t u ∧ (x < n ∧ S x) ∧ dt e (sb (P x) (P t)) ≠ 0 ∧ (dt (lc p w q e) (sb (P x) (P t)) = 0 ∨ dt (lc p w q e) (sb (P x) (P u)) = 0) := by
  obtain ⟨ht, hu, hr⟩ := h
  obtain ⟨c, hc⟩ : ∃ c : Nat → Int, c = fun x => dt e (sb (P x) (P t)) := ⟨_, rfl⟩
  have hc' : ∀ x, dt e (sb (P x) (P t)) = c x := fun x => by rw [hc]
  have hcu : ∀ x, dt e (sb (P x) (P u)) = c x := fun x => by
    rw [hc]
    have : dt e (sb (P x) (P u)) = dt e (sb (P x) (P t)) + dt e (sb (P t) (P u)) := by simp only [dt, sb]; grind
    rw [this, he]; simp
  obtain ⟨x0, hx0, hS0, hc0⟩ := hx
  obtain ⟨x, x1, ⟨x2, x3⟩, x4⟩ := argmin (T := fun x => S x ∧ c x ≠ 0) (s := fun x => if 0 < c x then dt w (sb (P t) (P x)) else dt w (sb (P x) (P u))) (c := fun x => (c x).natAbs) n (fun i hi hT => by have := hT.2; omega) ⟨x0, hx0, hS0, by rw [← hc']; exact hc0⟩
  obtain ⟨q, hq⟩ : ∃ q, q = (if 0 < c x then dt w (sb (P t) (P x)) else dt w (sb (P x) (P u))) := ⟨_, rfl⟩
  rw [← hq] at x4
  obtain ⟨p, hp⟩ : ∃ p : Int, p = (c x).natAbs := ⟨_, rfl⟩
  rw [← hp] at x4
  have hp0 : 0 < p := by omega
  have hq0 : 0 ≤ q := by
    rw [hq]
    split
    · exact (hr x x1 x2).1
    · exact (hr x x1 x2).2
  have lin : ∀ z, dt (lc p w q e) z = p * dt w z + q * dt e z := fun z => by simp only [dt, lc]; grind
  have swp : ∀ y, dt e (sb (P t) (P y)) = - c y := fun y => by rw [← hc' y, dt_sw]
  refine ⟨p, q, x, hp0, hq0, ⟨ht, hu, fun y hy hS => ?_⟩, ⟨x1, x2⟩, by rw [hc']; exact x3, ?_⟩
  · rw [lin, lin, swp, hcu]
    have g1 := Int.mul_nonneg (Int.le_of_lt hp0) (hr y hy hS).1
    have g2 := Int.mul_nonneg (Int.le_of_lt hp0) (hr y hy hS).2
    by_cases y0 : c y = 0
    · rw [y0]; simp only [Int.neg_zero, Int.mul_zero, Int.add_zero]; exact ⟨g1, g2⟩
    · have m := x4 y hy ⟨hS, y0⟩
      by_cases yp : 0 < c y
      · rw [if_pos yp] at m
        have e1 : ((c y).natAbs : Int) = c y := by omega
        rw [e1] at m
        have g3 := Int.mul_nonneg hq0 (Int.le_of_lt yp)
        have e2 : q * -c y = - (q * c y) := by grind
        have e3 : p * dt w (sb (P t) (P y)) = dt w (sb (P t) (P y)) * p := by grind
        exact ⟨by rw [e2, e3]; omega, by omega⟩
      · rw [if_neg yp] at m
        have e1 : ((c y).natAbs : Int) = - c y := by omega
        rw [e1] at m
        have g3 := Int.mul_nonneg hq0 (show 0 ≤ - c y by omega)
        have e2 : q * -c y = - (q * c y) := by grind
        have e3 : p * dt w (sb (P y) (P u)) = dt w (sb (P y) (P u)) * p := by grind
        exact ⟨by omega, by rw [e3]; omega⟩
  · by_cases xp : 0 < c x
    · rw [if_pos xp] at hq
      have e1 : p = c x := by omega
      refine Or.inl ?_
      rw [lin, hc', e1, hq, dt_sw (a := P x)]
      grind
    · rw [if_neg xp] at hq
      have e1 : p = - c x := by omega
      refine Or.inr ?_
      rw [lin, hcu, e1, hq]
      grind
end
