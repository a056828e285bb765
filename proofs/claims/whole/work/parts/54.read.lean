/-! what stood in the told row before does not matter -/
theorem numF_congr {T : Tst} {D E : Nat → Int32} {k p : Nat} (h : ∀ j, j < k → D j = E j) : numF T D k p = numF T E k p := by
  have e : k % 3 = 2 → tldF (updD D k (nX T p)) (k / 3) (k / 3) = tldF (updD E k (nX T p)) (k / 3) (k / 3) := fun q => tldF_congr (fun j hj => by
    unfold updD
    by_cases z : j = k
    · rw [if_pos z, if_pos z]
    · rw [if_neg z, if_neg z]; exact h j (by omega)) _ (Nat.le_refl _)
  unfold numF
  by_cases q : k % 3 = 2
  · rw [e q]
  · simp only [q, false_and]
def simR (a b : Rst) : Prop := a.1 = b.1 ∧ a.2.1 = b.2.1 ∧ ∀ j, j < a.2.1 → a.2.2 j = b.2.2 j
theorem parF_congr {T : Tst} : ∀ (f k : Nat) (D E : Nat → Int32) (p : Nat), (∀ j, j < k → D j = E j) → simR (parF T f k D p) (parF T f k E p) := by
  intro f
  induction f with
  | zero => intro k D E p h; exact ⟨rfl, rfl, h⟩
  | succ f ih =>
    intro k D E p h
    have hn := numF_congr (T := T) (p := p) h
    have hu : ∀ j, j < k + 1 → updD D k (nX T p) j = updD E k (nX T p) j := fun j hj => by
      unfold updD
      by_cases z : j = k
      · rw [if_pos z, if_pos z]
      · rw [if_neg z, if_neg z]; exact h j (by omega)
    rw [parF_s, parF_s, hn]
    by_cases q : numF T E k p = -1
    · rw [if_neg (fun z => z q), if_neg (fun z => z q)]
      unfold aftF
      by_cases m : (k + 1) % 3 = 0
      · rw [if_pos m, if_pos m]
        by_cases s : sk T (nE T (nQ T p)) < T.1
        · rw [if_pos s, if_pos s]
          by_cases c : T.2 (sk T (nE T (nQ T p))) = 59 ∧ ¬ k + 1 = 30
          · rw [if_pos c, if_pos c]; exact ih _ _ _ _ hu
          · rw [if_neg c, if_neg c]; exact ⟨rfl, rfl, hu⟩
        · rw [if_neg s, if_neg s]; exact ⟨rfl, rfl, hu⟩
      · rw [if_neg m, if_neg m]
        by_cases c : sk T (nE T (nQ T p)) < T.1 ∧ T.2 (sk T (nE T (nQ T p))) = 44
        · rw [if_pos c, if_pos c]; exact ih _ _ _ _ hu
        · rw [if_neg c, if_neg c]; exact ⟨rfl, rfl, hu⟩
    · rw [if_pos q, if_pos q]; exact ⟨rfl, rfl, h⟩
def rdR0 (T : Tst) : Rst := parF T 30 0 (fun _ => 0) 0
def opRead (c : Cst) (T : Tst) : Int32 × Cst := if (rdR0 T).1 = -1 then (nI ((rdR0 T).2.1 / 3), doC c ((rdR0 T).2.1 / 3, (rdR0 T).2.2, c.1.2.2.1, c.1.2.2.2)) else (-20 - (rdR0 T).1, c)
def offT (T : Tst) : Tst := (0, T.2)
