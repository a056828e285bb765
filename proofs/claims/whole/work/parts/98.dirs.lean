/-! directions of a set, up to their sign -/
theorem ng_ng (t : V3) : ngV (ngV t) = t := by unfold ngV; simp
theorem dt_ng (t v : V3) : dt (ngV t) v = - dt t v := by simp only [dt, ngV]; grind
theorem dt_ng2 (t : V3) : dt (ngV t) (ngV t) = dt t t := by simp only [dt, ngV]; grind
theorem RG.ng {n : Nat} {S : Nat → Prop} {P : Nat → V3} {t : V3} {r : Int} (h : RG n S P t r) : RG n S P (ngV t) r := by
  obtain ⟨⟨a, b, ha, hb, er⟩, h2⟩ := h
  refine ⟨⟨b, a, hb, ha, by rw [dt_ng, dt_sw (a := P b), er]; simp⟩, fun a b h3 h4 h5 h6 => ?_⟩
  rw [dt_ng, dt_sw, Int.neg_neg]
  exact h2 b a h5 h6 h3 h4
theorem wd_ng {n m : Nat} {Q : Nat → V3} {t : V3} : wdA n m Q (ngV t) = wdA n m Q t := by
  by_cases q : ∃ i, i < n ∧ bt m i
  · have h := rgN_RG (Q := Q) (d := t) q
    rw [wd_eq h.ng, wd_eq h]
  · unfold wdA; rw [rgN_0 q, rgN_0 q]
theorem cx_ng (a b : V3) : cx b a = ngV (cx a b) := by
  refine V3x ?_ ?_ ?_ <;> simp only [cx, ngV] <;> grind
theorem cl3_mem {t : V3} : ∀ (L : List V3), t ∈ cl3 L → ∃ x y, x ∈ L ∧ y ∈ L ∧ t = cx x y := by
  intro L
  induction L with
  | nil => intro h; cases h
  | cons l r ih =>
    intro h
    rcases List.mem_append.mp h with q | q
    · obtain ⟨y, hy, e⟩ := List.mem_map.mp q
      exact ⟨l, y, List.mem_cons_self, List.mem_cons_of_mem _ hy, e.symm⟩
    · obtain ⟨x, y, hx, hy, e⟩ := ih q
      exact ⟨x, y, List.mem_cons_of_mem _ hx, List.mem_cons_of_mem _ hy, e⟩
theorem mem_cl3 {x y : V3} : ∀ (L : List V3), x ∈ L → y ∈ L → x = y ∨ cx x y ∈ cl3 L ∨ cx y x ∈ cl3 L := by
  intro L
  induction L with
  | nil => intro h; cases h
  | cons l r ih =>
    intro hx hy
    rcases List.mem_cons.mp hx with q | q <;> rcases List.mem_cons.mp hy with p | p
    · exact Or.inl (q.trans p.symm)
    · exact Or.inr (Or.inl (List.mem_append_left _ (List.mem_map.mpr ⟨y, p, by rw [q]⟩)))
    · exact Or.inr (Or.inr (List.mem_append_left _ (List.mem_map.mpr ⟨x, q, by rw [p]⟩)))
    · rcases ih q p with z | z | z
      · exact Or.inl z
      · exact Or.inr (Or.inl (List.mem_append_right _ z))
      · exact Or.inr (Or.inr (List.mem_append_right _ z))
def cdS (j m : Nat) (C : Nat → Int32) : List V3 := cdQ j (lnL m (vcP j C) 100 0)
def ez : V3 := (0, 0, 1)
theorem c1_ez (v : V3) : c1 v = cx v ez := by unfold c1 cx ez; simp
/-- two of a set, and their line is among the set's -/
theorem pair_ln {j m a b : Nat} {C : Nat → Int32} (ha : a < 10) (hb : b < 10) (h1 : bt m a) (h2 : bt m b) (hne : a ≠ b) : ∃ l, l ∈ lnL m (vcP j C) 100 0 ∧ (l = sb (qZ j C b) (qZ j C a) ∨ l = ngV (sb (qZ j C b) (qZ j C a))) := by
  rcases Nat.lt_or_ge a b with q | q
  · refine ⟨vcP j C (10 * a + b), (lnL_mem 100 0 _).mpr ⟨10 * a + b, by omega, by omega, ⟨by omega, ?_, ?_⟩, rfl⟩, Or.inl ?_⟩
    · rw [show (10 * a + b) / 10 = a by omega]; exact h1
    · rw [show (10 * a + b) % 10 = b by omega]; exact h2
    · unfold vcP; rw [show (10 * a + b) / 10 = a by omega, show (10 * a + b) % 10 = b by omega]
  · refine ⟨vcP j C (10 * b + a), (lnL_mem 100 0 _).mpr ⟨10 * b + a, by omega, by omega, ⟨by omega, ?_, ?_⟩, rfl⟩, Or.inr ?_⟩
    · rw [show (10 * b + a) / 10 = b by omega]; exact h2
    · rw [show (10 * b + a) % 10 = a by omega]; exact h1
    · unfold vcP; rw [show (10 * b + a) / 10 = b by omega, show (10 * b + a) % 10 = a by omega]
      simp only [sb, ngV]
      refine V3x ?_ ?_ ?_ <;> simp only <;> omega
theorem ln_pair {j m : Nat} {C : Nat → Int32} {l : V3} (h : l ∈ lnL m (vcP j C) 100 0) : ∃ a b, (a < 10 ∧ bt m a) ∧ (b < 10 ∧ bt m b) ∧ l = sb (qZ j C b) (qZ j C a) := by
  obtain ⟨q, h1, h2, h3, h4⟩ := (lnL_mem 100 0 l).mp h
  exact ⟨q / 10, q % 10, ⟨by omega, h3.2.1⟩, ⟨by omega, h3.2.2⟩, h4⟩
/-- a direction of the set is among its ways, up to its sign -/
theorem dir_2 {j m a b : Nat} {C : Nat → Int32} (hj : j ≠ 3) (ha : a < 10 ∧ bt m a) (hb : b < 10 ∧ bt m b) (hne : cx ez (sb (qZ j C b) (qZ j C a)) ≠ (0, 0, 0)) : ∃ t, t ∈ cdS j m C ∧ (t = cx ez (sb (qZ j C b) (qZ j C a)) ∨ t = ngV (cx ez (sb (qZ j C b) (qZ j C a)))) := by
  have hab : a ≠ b := fun e => hne (by rw [e]; simp [cx, sb, ez])
  obtain ⟨l, hl, e⟩ := pair_ln (j := j) (C := C) ha.1 hb.1 ha.2 hb.2 hab
  refine ⟨c1 l, ?_, ?_⟩
  · unfold cdS cdQ
    rw [if_neg hj]
    exact List.mem_map.mpr ⟨l, hl, rfl⟩
  · rw [c1_ez]
    rcases e with e | e
    · right; rw [e, cx_ng]
    · left; rw [e]
      refine V3x ?_ ?_ ?_ <;> simp only [cx, ngV, ez] <;> grind
theorem dir_3 {m a b c d : Nat} {C : Nat → Int32} (ha : a < 10 ∧ bt m a) (hb : b < 10 ∧ bt m b) (hc : c < 10 ∧ bt m c) (hd : d < 10 ∧ bt m d) (hne : cx (sb (qZ 3 C b) (qZ 3 C a)) (sb (qZ 3 C d) (qZ 3 C c)) ≠ (0, 0, 0)) : ∃ t, t ∈ cdS 3 m C ∧ (t = cx (sb (qZ 3 C b) (qZ 3 C a)) (sb (qZ 3 C d) (qZ 3 C c)) ∨ t = ngV (cx (sb (qZ 3 C b) (qZ 3 C a)) (sb (qZ 3 C d) (qZ 3 C c)))) := by
  obtain ⟨x, hx⟩ : ∃ x, x = sb (qZ 3 C b) (qZ 3 C a) := ⟨_, rfl⟩
  obtain ⟨y, hy⟩ : ∃ y, y = sb (qZ 3 C d) (qZ 3 C c) := ⟨_, rfl⟩
  rw [← hx, ← hy] at hne ⊢
  have hab : a ≠ b := fun e => hne (by rw [hx, e]; simp [cx, sb])
  have hcd : c ≠ d := fun e => hne (by rw [hy, e]; simp [cx, sb])
  obtain ⟨l, hl, e⟩ := pair_ln (j := 3) (C := C) ha.1 hb.1 ha.2 hb.2 hab
  obtain ⟨k, hk, f⟩ := pair_ln (j := 3) (C := C) hc.1 hd.1 hc.2 hd.2 hcd
  rw [← hx] at e
  rw [← hy] at f
  have sg : cx l k = cx x y ∨ cx l k = ngV (cx x y) := by
    rcases e with rfl | rfl <;> rcases f with rfl | rfl
    · exact Or.inl rfl
    · right; refine V3x ?_ ?_ ?_ <;> simp only [cx, ngV] <;> grind
    · right; refine V3x ?_ ?_ ?_ <;> simp only [cx, ngV] <;> grind
    · left; refine V3x ?_ ?_ ?_ <;> simp only [cx, ngV] <;> grind
  have hm : ∀ z, z ∈ cl3 (lnL m (vcP 3 C) 100 0) → z ∈ cdS 3 m C := fun z hz => by unfold cdS cdQ; rw [if_pos rfl]; exact hz
  rcases mem_cl3 (lnL m (vcP 3 C) 100 0) hl hk with z | z | z
  · exfalso
    have : cx l k = (0, 0, 0) := by rw [z]; refine V3x ?_ ?_ ?_ <;> simp only [cx] <;> grind
    rcases sg with s | s
    · exact hne (s.symm.trans this)
    · exact hne (ng_0.mp (s.symm.trans this))
  · exact ⟨_, hm _ z, sg⟩
  · refine ⟨_, hm _ z, ?_⟩
    rw [cx_ng l k]
    rcases sg with s | s
    · right; rw [s]
    · left; rw [s, ng_ng]
/-- every way of a set is a direction of it -/
theorem way_2 {j m : Nat} {C : Nat → Int32} {t : V3} (hj : j ≠ 3) (h : t ∈ cdS j m C) : ∃ a b, (a < 10 ∧ bt m a) ∧ (b < 10 ∧ bt m b) ∧ t = cx (sb (qZ j C b) (qZ j C a)) ez := by
  unfold cdS cdQ at h
  rw [if_neg hj] at h
  obtain ⟨l, hl, e⟩ := List.mem_map.mp h
  obtain ⟨a, b, ha, hb, e2⟩ := ln_pair hl
  exact ⟨a, b, ha, hb, by rw [← e, c1_ez, e2]⟩
theorem way_3 {m : Nat} {C : Nat → Int32} {t : V3} (h : t ∈ cdS 3 m C) : ∃ a b c d, (a < 10 ∧ bt m a) ∧ (b < 10 ∧ bt m b) ∧ (c < 10 ∧ bt m c) ∧ (d < 10 ∧ bt m d) ∧ t = cx (sb (qZ 3 C b) (qZ 3 C a)) (sb (qZ 3 C d) (qZ 3 C c)) := by
  unfold cdS cdQ at h
  rw [if_pos rfl] at h
  obtain ⟨x, y, hx, hy, e⟩ := cl3_mem _ h
  obtain ⟨a, b, ha, hb, e1⟩ := ln_pair hx
  obtain ⟨c, d, hc, hd, e2⟩ := ln_pair hy
  exact ⟨a, b, c, d, ha, hb, hc, hd, by rw [e, e1, e2]⟩
/-- theorem G: among the ways of a set one is as narrow as any -/
theorem GG {j n m : Nat} {C : Nat → Int32} {w t0 : V3} (hj : j < 4) (hmn : ∀ i, i < 10 → bt m i → i < n) (h10 : n ≤ 10) (hw : j ≠ 3 → w.2.2 = 0) (h0 : t0 ∈ cdS j m C) (hne : t0 ≠ (0, 0, 0)) : ∃ t, t ∈ cdS j m C ∧ t ≠ (0, 0, 0) ∧ wdA n m (qZ j C) t * dt w w ≤ wdA n m (qZ j C) w * dt t t := by
  have nn : ∀ {a}, (a < 10 ∧ bt m a) → (a < n ∧ bt m a) := fun h => ⟨hmn _ h.1 h.2, h.2⟩
  have mm : ∀ {a}, (a < n ∧ bt m a) → (a < 10 ∧ bt m a) := fun h => ⟨by omega, h.2⟩
  by_cases q : j = 3
  · subst q
    obtain ⟨a, b, c, d, ha, hb, hc, hd, e⟩ := way_3 h0
    have hr := rgN_RG (n := n) (m := m) (Q := qZ 3 C) (d := w) ⟨a, (nn ha).1, ha.2⟩
    obtain ⟨a', b', c', d', r', ha', hb', hc', hd', k1, k2, k3⟩ := G3 hr (nn hb) (nn ha) (nn hd) (nn hc) rfl rfl (by rw [← e]; exact hne)
    obtain ⟨t, ht, es⟩ := dir_3 (C := C) (mm ha') (mm hb') (mm hc') (mm hd') k1
    rcases es with es | es
    · exact ⟨t, ht, by rw [es]; exact k1, by rw [es, wd_eq k2]; exact k3⟩
    · exact ⟨t, ht, by rw [es]; exact fun y => k1 (ng_0.mp y), by rw [es, wd_ng, wd_eq k2, dt_ng2]; exact k3⟩
  · obtain ⟨a, b, ha, hb, e⟩ := way_2 q h0
    have hr := rgN_RG (n := n) (m := m) (Q := qZ j C) (d := w) ⟨a, (nn ha).1, ha.2⟩
    have hwz : dt w ez = 0 := by have := hw q; simp only [dt, ez]; omega
    have hz : ez ≠ (0, 0, 0) := by decide
    obtain ⟨a', b', r', ha', hb', k1, k2, k3⟩ := G2 (y := sb (qZ j C b) (qZ j C a)) hr hwz hz (nn hb) (nn ha) rfl (by
      rw [cx_ng]
      intro y
      exact hne (e.trans (ng_0.mp y)))
    obtain ⟨t, ht, es⟩ := dir_2 (C := C) q (mm ha') (mm hb') k1
    rcases es with es | es
    · exact ⟨t, ht, by rw [es]; exact k1, by rw [es, wd_eq k2]; exact k3⟩
    · exact ⟨t, ht, by rw [es]; exact fun y => k1 (ng_0.mp y), by rw [es, wd_ng, wd_eq k2, dt_ng2]; exact k3⟩
