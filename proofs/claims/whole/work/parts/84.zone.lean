/-! a zone of the class: the cell at z, its rows behind it -/
abbrev isZ (w : Wd) (z : Nat) : Prop := shp w z = (7, 0) ∧ rdR w z 1 = some (z + 1) ∧ rdR w z 3 = some (z + 2) ∧ rdR w z 6 = some (z + 3) ∧ rdR w z 7 = some (z + 4) ∧ rdR w z 8 = some (z + 5) ∧ rdR w z 9 = some (z + 6) ∧ rdR w z 10 = some (z + 7) ∧ shp w (z + 1) = (10, 30) ∧ shp w (z + 2) = (10, 135) ∧ shp w (z + 3) = (10, 3) ∧ shp w (z + 4) = (10, 3) ∧ shp w (z + 5) = (0, 0) ∧ shp w (z + 6) = (14, 10) ∧ shp w (z + 7) = (10, 10) ∧ ∀ k, k < 10 → rdR w (z + 6) k = some (z + 8 + k) ∧ shp w (z + 8 + k) = (0, 0)
theorem FrX.sh {X : Nat → Nat → Prop} {w u : Wd} {a : Nat} (f : FrX X w u) : shp u a = shp w a := by unfold shp; rw [f.2.2]
theorem FrX.R {X : Nat → Nat → Prop} {w u : Wd} {a j : Nat} (f : FrX X w u) : rdR u a j = rdR w a j := by unfold rdR; rw [f.2.2]
theorem isZ.fx {X : Nat → Nat → Prop} {w u : Wd} {z : Nat} (h : isZ w z) (f : FrX X w u) : isZ u z := by
  unfold isZ
  simp only [f.sh, f.R]
  exact h
theorem FrX.fr {X : Nat → Nat → Prop} {w u : Wd} {lo hi : Nat} (f : FrX X w u) (h : ∀ c j, X c j → lo ≤ c ∧ c < hi) : Fr lo hi w u := by
  refine ⟨fun c hc => ⟨funext fun j => ?_, funext fun j => ?_, by rw [f.2.2]⟩, by rw [f.2.2]⟩
  · exact f.1 c j (fun x => by have := h c j x; omega)
  · exact f.2.1 c j (fun x => by have := h c j x; omega)
def zP (w : Wd) (z n : Nat) (C : Nat → Int32) : Prop := rdI w z 2 = nI n ∧ n ≤ 10 ∧ ∀ i, i < 3 * n → rdI w (z + 1) i = C i
theorem zP.fx {X : Nat → Nat → Prop} {w u : Wd} {z n : Nat} {C : Nat → Int32} (h : zP w z n C) (f : FrX X w u) (h1 : ¬ X z 2) (h2 : ∀ i, ¬ X (z + 1) i) : zP u z n C := by
  obtain ⟨a1, a2, a3⟩ := h
  exact ⟨by rw [f.1 _ _ h1]; exact a1, a2, fun i hi => by rw [f.1 _ _ (h2 i)]; exact a3 i hi⟩
/-! the two least of a row -/
abbrev Ls : Type := Int × Int × Nat
def lsS (f : Nat → Int) (k : Nat) (s : Ls) : Ls := if f k < s.1 then (f k, s.1, k) else if f k < s.2.1 then (s.1, f k, s.2.2) else s
def lsF (f : Nat → Int) : Nat → Nat → Ls → Ls
  | 0, _, s => s
  | e + 1, k, s => lsF f e (k + 1) (lsS f k s)
def lsI (f : Nat → Int) (k : Nat) (s : Ls) : Prop := (k = 0 ∧ s.1 = 1000000 ∧ s.2.1 = 1000000) ∨ (s.2.2 < k ∧ f s.2.2 = s.1 ∧ (∀ i, i < k → s.1 ≤ f i) ∧ (∀ i, i < k → i ≠ s.2.2 → s.2.1 ≤ f i) ∧ ((k = 1 ∧ s.2.1 = 1000000) ∨ ∃ i, i < k ∧ i ≠ s.2.2 ∧ f i = s.2.1))
theorem ls_step {f : Nat → Int} {k : Nat} {s : Ls} (h : lsI f k s) (hb : f k < 1000000) : lsI f (k + 1) (lsS f k s) := by
  rcases h with ⟨rfl, h1, h2⟩ | ⟨h1, h2, h3, h4, h5⟩
  · unfold lsS
    rw [if_pos (by omega)]
    refine Or.inr ⟨by show 0 < 0 + 1; omega, rfl, fun i hi => ?_, fun i hi hn => ?_, Or.inl ⟨rfl, h1⟩⟩
    · have : i = 0 := by omega
      subst this; exact Int.le_refl _
    · simp only at hn; omega
  · unfold lsS
    by_cases q : f k < s.1
    · rw [if_pos q]
      refine Or.inr ⟨by show k < k + 1; omega, rfl, fun i hi => ?_, fun i hi hn => ?_, Or.inr ⟨s.2.2, by omega, by simp only; omega, h2⟩⟩
      · simp only
        by_cases e : i = k
        · subst e; exact Int.le_refl _
        · have := h3 i (by omega); omega
      · simp only at hn ⊢
        exact h3 i (by omega)
    · rw [if_neg q]
      by_cases q2 : f k < s.2.1
      · rw [if_pos q2]
        refine Or.inr ⟨by show s.2.2 < k + 1; omega, h2, fun i hi => ?_, fun i hi hn => ?_, Or.inr ⟨k, by omega, by simp only; omega, rfl⟩⟩
        · simp only
          by_cases e : i = k
          · subst e; omega
          · exact h3 i (by omega)
        · simp only at hn ⊢
          by_cases e : i = k
          · subst e; exact Int.le_refl _
          · have := h4 i (by omega) hn; omega
      · rw [if_neg q2]
        refine Or.inr ⟨by omega, h2, fun i hi => ?_, fun i hi hn => ?_, ?_⟩
        · by_cases e : i = k
          · subst e; omega
          · exact h3 i (by omega)
        · by_cases e : i = k
          · subst e; omega
          · exact h4 i (by omega) hn
        · rcases h5 with ⟨z1, z2⟩ | ⟨i, a1, a2, a3⟩
          · omega
          · exact Or.inr ⟨i, by omega, a2, a3⟩
theorem ls_all {f : Nat → Int} {n : Nat} (hb : ∀ i, i < n → f i < 1000000) : ∀ (e k : Nat) (s : Ls), k + e = n → lsI f k s → lsI f n (lsF f e k s) := by
  intro e
  induction e with
  | zero => intro k s hk h; have e : k = n := by omega
            rw [← e]; exact h
  | succ e ih => intro k s hk h; exact ih (k + 1) _ (by omega) (ls_step h (hb k (by omega)))
def dP (C : Nat → Int32) (d : V3) (k : Nat) : Int := dt d (ptZ C k)
theorem dP_b {n k : Nat} {C : Nat → Int32} {d : V3} (hb : bdC n C) (hk : k < n) (hd : in3 1800 d) : (dP C d k).natAbs ≤ 81000 := dt_b hd (pt_in hb hk)
/-- what has been measured along a way -/
def zM (w : Wd) (z k : Nat) (s g : Ls) : Prop := rdI w z 11 = iI s.1 ∧ rdI w z 12 = iI s.2.1 ∧ (0 < k → rdI w z 13 = nI s.2.2) ∧ rdI w z 14 = iI (-g.1) ∧ rdI w z 15 = iI (-g.2.1) ∧ (0 < k → rdI w z 16 = nI g.2.2)
def Xm (z : Nat) : Nat → Nat → Prop := fun c j => (c = z ∧ 11 ≤ j ∧ j ≤ 16) ∨ c = z + 7
def okL (s : Ls) : Prop := s.1.natAbs ≤ 1000000 ∧ s.2.1.natAbs ≤ 1000000
theorem okL_step {f : Nat → Int} {k : Nat} {s : Ls} (h : okL s) (hb : (f k).natAbs ≤ 81000) : okL (lsS f k s) := by
  obtain ⟨h1, h2⟩ := h
  unfold lsS
  split
  · exact ⟨by simp only; omega, h1⟩
  · split
    · exact ⟨h1, by simp only; omega⟩
    · exact ⟨h1, h2⟩
