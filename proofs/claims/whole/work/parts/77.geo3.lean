section
variable {n : Nat} {S : Nat → Prop} {P : Nat → V3}
theorem rg_ex {v : V3} {t : Nat} (ht : t < n ∧ S t) : ∃ r, RG n S P v r := by
  obtain ⟨i, i1, i2, i3⟩ := argmin (T := S) (s := fun i => dt v (P i)) (c := fun _ => 1) n (fun _ _ _ => by decide) ⟨t, ht⟩
  obtain ⟨j, j1, j2, j3⟩ := argmin (T := S) (s := fun i => - dt v (P i)) (c := fun _ => 1) n (fun _ _ _ => by decide) ⟨t, ht⟩
  refine ⟨_, ⟨j, i, ⟨j1, j2⟩, ⟨i1, i2⟩, rfl⟩, fun a b ha hSa hb hSb => ?_⟩
  have k1 := i3 b hb hSb
  have k2 := j3 a ha hSa
  simp only [Int.mul_one] at k1 k2
  have f : ∀ a b, dt v (sb a b) = dt v a - dt v b := fun a b => by simp only [dt, sb]; grind
  rw [f, f]; omega
theorem RG.uniq {w : V3} {r r' : Int} (h : RG n S P w r) (h' : RG n S P w r') : r = r' := by
  obtain ⟨⟨a, b, ha, hb, e⟩, h2⟩ := h
  obtain ⟨⟨a', b', ha', hb', e'⟩, h2'⟩ := h'
  have k1 := h2 a' b' ha'.1 ha'.2 hb'.1 hb'.2
  have k2 := h2' a b ha.1 ha.2 hb.1 hb.2
  omega
theorem cx_0 {a b : V3} (h : cx a b = (0, 0, 0)) : a.2.1 * b.2.2 = a.2.2 * b.2.1 ∧ a.2.2 * b.1 = a.1 * b.2.2 ∧ a.1 * b.2.1 = a.2.1 * b.1 := by
  have z1 : (cx a b).1 = 0 := by rw [h]
  have z2 : (cx a b).2.1 = 0 := by rw [h]
  have z3 : (cx a b).2.2 = 0 := by rw [h]
  simp only [cx] at z1 z2 z3
  exact ⟨by omega, by omega, by omega⟩
/-- two along one line are along each other -/
theorem cx_tr {d y z : V3} (hd : 0 < dt d d) (h1 : cx d y = (0, 0, 0)) (h2 : cx d z = (0, 0, 0)) : cx y z = (0, 0, 0) := by
  obtain ⟨a1, a2, a3⟩ := cx_0 h1
  obtain ⟨b1, b2, b3⟩ := cx_0 h2
  refine V3x ?_ ?_ ?_
  · exact zeOf hd (by simp only [dt, cx]; grind)
  · exact zeOf hd (by simp only [dt, cx]; grind)
  · exact zeOf hd (by simp only [dt, cx]; grind)
/-- the slab -/
theorem G3 {w y y' : V3} {r : Int} {i j i' j' : Nat} (h : RG n S P w r) (hi : i < n ∧ S i) (hj : j < n ∧ S j) (hi' : i' < n ∧ S i') (hj' : j' < n ∧ S j') (hy : y = sb (P i) (P j)) (hy' : y' = sb (P i') (P j')) (hne : cx y y' ≠ (0, 0, 0)) :
    ∃ a b a' b' r', (a < n ∧ S a) ∧ (b < n ∧ S b) ∧ (a' < n ∧ S a') ∧ (b' < n ∧ S b') ∧ cx (sb (P b) (P a)) (sb (P b') (P a')) ≠ (0, 0, 0) ∧ RG n S P (cx (sb (P b) (P a)) (sb (P b') (P a'))) r' ∧ r' * r' * dt w w ≤ r * r * dt (cx (sb (P b) (P a)) (sb (P b') (P a'))) (cx (sb (P b) (P a)) (sb (P b') (P a'))) := by
  by_cases q : r = 0
  · obtain ⟨r', hr'⟩ := rg_ex (P := P) (v := cx y y') hi
    have hr := h.2
    have z : ∀ a b, a < n → S a → b < n → S b → dt w (sb (P a) (P b)) = 0 := fun a b h1 h2 h3 h4 => by
      have k1 := hr a b h1 h2 h3 h4
      have k2 := hr b a h3 h4 h1 h2
      rw [dt_sw] at k2
      omega
    refine ⟨j, i, j', i', r', hj, hi, hj', hi', by rw [← hy, ← hy']; exact hne, by rw [← hy, ← hy']; exact hr', ?_⟩
    rw [← hy, ← hy']
    exact par_rg h hr' (cx_par (by rw [hy]; exact z i j hi.1 hi.2 hj.1 hj.2) (by rw [hy']; exact z i' j' hi'.1 hi'.2 hj'.1 hj'.2))
  · obtain ⟨t, u, hT, e⟩ := h.tb
    obtain ⟨d, hd⟩ : ∃ d, d = sb (P t) (P u) := ⟨_, rfl⟩
    have ht := hT.1
    have hu := hT.2.1
    have hwd : dt w d ≠ 0 := by rw [hd, ← e]; exact q
    have hd0 : 0 < dt d d := dt_p (fun z => hwd (by rw [z]; simp [dt]))
    obtain ⟨x, hx, hxd⟩ : ∃ x, (x < n ∧ S x) ∧ cx d (sb (P x) (P t)) ≠ (0, 0, 0) := by
      refine Classical.byContradiction fun z => ?_
      have all : ∀ x, (x < n ∧ S x) → cx d (sb (P x) (P t)) = (0, 0, 0) := fun x hx => Decidable.byContradiction fun z' => z ⟨x, hx, z'⟩
      have all2 : ∀ a b, (a < n ∧ S a) → (b < n ∧ S b) → cx d (sb (P a) (P b)) = (0, 0, 0) := fun a b ha hb => by
        obtain ⟨a1, a2, a3⟩ := cx_0 (all a ha)
        obtain ⟨b1, b2, b3⟩ := cx_0 (all b hb)
        simp only [sb] at a1 a2 a3 b1 b2 b3
        refine V3x ?_ ?_ ?_ <;> simp only [cx, sb] <;> grind
      exact hne (cx_tr hd0 (by rw [hy]; exact all2 i j hi hj) (by rw [hy']; exact all2 i' j' hi' hj'))
    obtain ⟨z, hz⟩ : ∃ z, z = sb (P x) (P t) := ⟨_, rfl⟩
    rw [← hz] at hxd
    have hcp := dt_p hxd
    obtain ⟨e0, he0⟩ : ∃ e0, e0 = lc (dt d d) z (- dt z d) d := ⟨_, rfl⟩
    have e0d : dt e0 d = 0 := by rw [he0]; simp only [dt, lc]; grind
    have e0z : dt e0 z = dt (cx d z) (cx d z) := by rw [he0]; simp only [dt, lc, cx]; grind
    have main : ∀ e : V3, dt e d = 0 → dt e z ≠ 0 → 0 ≤ dt w e → ∃ a b a' b' r', (a < n ∧ S a) ∧ (b < n ∧ S b) ∧ (a' < n ∧ S a') ∧ (b' < n ∧ S b') ∧ cx (sb (P b) (P a)) (sb (P b') (P a')) ≠ (0, 0, 0) ∧ RG n S P (cx (sb (P b) (P a)) (sb (P b') (P a'))) r' ∧ r' * r' * dt w w ≤ r * r * dt (cx (sb (P b) (P a)) (sb (P b') (P a'))) (cx (sb (P b) (P a)) (sb (P b') (P a'))) := by
      intro f fd fz fw
      obtain ⟨p, q, x', p0, q0, hT1, hx', hxe, htie⟩ := rot hT (by rw [← hd]; exact fd) fw ⟨x, hx.1, hx.2, by rw [← hz]; exact fz⟩
      obtain ⟨w1, hw1⟩ : ∃ w1, w1 = lc p w q f := ⟨_, rfl⟩
      rw [← hw1] at hT1 htie
      have lin : ∀ z, dt w1 z = p * dt w z + q * dt f z := fun z => by rw [hw1]; simp only [dt, lc]; grind
      have hxu : dt f (sb (P x') (P u)) ≠ 0 := by
        have : dt f (sb (P x') (P u)) = dt f (sb (P x') (P t)) + dt f (sb (P t) (P u)) := by simp only [dt, sb]; grind
        rw [this, ← hd, fd, Int.add_zero]; exact hxe
      obtain ⟨a, ha, hta, hea⟩ : ∃ a, (a < n ∧ S a) ∧ dt w1 (sb (P x') (P a)) = 0 ∧ dt f (sb (P x') (P a)) ≠ 0 := by
        rcases htie with y | y
        · exact ⟨t, ht, y, hxe⟩
        · exact ⟨u, hu, y, hxu⟩
      have hw1d : dt w1 (sb (P t) (P u)) = p * dt w d := by rw [← hd, lin, fd, Int.mul_zero, Int.add_zero]
      have hw1d0 : dt w1 (sb (P t) (P u)) ≠ 0 := by
        rw [hw1d]
        intro y
        rcases Int.mul_eq_zero.mp y with y | y
        · omega
        · exact hwd y
      obtain ⟨a', b', r', ha', hb', k1, k2, k3⟩ := step2 hT1 hw1d0 hta (fun y => hea (by rw [y]; simp [dt]))
      refine ⟨a, x', a', b', r', ha, hx', ha', hb', k1, k2, ?_⟩
      have hw0 : 0 < dt w1 w1 := dt_p (fun y => hw1d0 (by rw [y]; simp [dt]))
      obtain ⟨m, hm⟩ : ∃ m, m = cx (sb (P x') (P a)) (sb (P b') (P a')) := ⟨_, rfl⟩
      rw [← hm] at k3 ⊢
      rw [hw1d] at k3
      have k4 := rot_le (w := w) (e := f) (D := dt w d) p0 q0 fw
      rw [← hw1] at k4
      have k5 := Int.mul_le_mul_of_nonneg_right k3 (dt_nn w)
      have k6 := Int.mul_le_mul_of_nonneg_right k4 (dt_nn m)
      refine mulc (c := dt w1 w1) ?_ hw0
      have er : r = dt w d := by rw [e, hd]
      rw [er]
      have s1 : r' * r' * dt w w * dt w1 w1 = r' * r' * dt w1 w1 * dt w w := by grind
      have s2 : p * dt w d * (p * dt w d) * dt m m * dt w w = p * dt w d * (p * dt w d) * dt w w * dt m m := by grind
      have s3 : dt w d * dt w d * dt m m * dt w1 w1 = dt w d * dt w d * dt w1 w1 * dt m m := by grind
      rw [s1, s3]
      rw [s2] at k5
      exact Int.le_trans k5 k6
    rcases Int.le_total 0 (dt w e0) with y | y
    · exact main e0 e0d (by rw [e0z]; omega) y
    · obtain ⟨e1, he1⟩ : ∃ e1 : V3, e1 = (-e0.1, -e0.2.1, -e0.2.2) := ⟨_, rfl⟩
      have ng : ∀ v, dt e1 v = - dt e0 v := fun v => by rw [he1]; simp only [dt]; grind
      have ng2 : dt w e1 = - dt w e0 := by rw [he1]; simp only [dt]; grind
      exact main e1 (by rw [ng, e0d]; rfl) (by rw [ng, e0z]; omega) (by rw [ng2]; omega)
end
