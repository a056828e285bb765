/-! what a tape that is read tells -/
theorem v15 : ∀ v, v < 16 → (-15 ≤ nI v ∧ nI v ≤ 15) ∧ (-15 ≤ -nI v ∧ -nI v ≤ 15) := by decide
theorem parF_ok {T : Tst} (h9 : T.1 ≤ 90) : ∀ (f k : Nat) (D : Nat → Int32) (p : Nat), p ≤ T.1 → (∀ j, j < k → -15 ≤ D j ∧ D j ≤ 15) → (parF T f k D p).1 = -1 → ((parF T f k D p).2.1 % 3 = 0 ∧ (parF T f k D p).2.1 ≤ k + f) ∧ ∀ j, j < (parF T f k D p).2.1 → -15 ≤ (parF T f k D p).2.2 j ∧ (parF T f k D p).2.2 j ≤ 15 := by
  intro f
  induction f with
  | zero => intro k D p hp hD h; exact absurd h (by show ¬ (0 : Int32) = -1; decide)
  | succ f ih =>
    intro k D p hp hD h
    rw [parF_s] at h ⊢
    by_cases q : numF T D k p = -1
    · rw [if_neg (fun z => z q)] at h ⊢
      obtain ⟨hfg, hv⟩ := numF_fig hp h9 q
      have he := nE_le hfg
      have hs := sk_le he
      have hu : ∀ j, j < k + 1 → -15 ≤ updD D k (nX T p) j ∧ updD D k (nX T p) j ≤ 15 := fun j hj => by
        unfold updD
        by_cases z : j = k
        · rw [if_pos z]
          have := v15 (nV T (nQ T p)) (by omega)
          unfold nX
          by_cases g : nG T p
          · rw [if_pos g]; exact this.2
          · rw [if_neg g]; exact this.1
        · rw [if_neg z]; exact hD j (by omega)
      unfold aftF at h ⊢
      by_cases m : (k + 1) % 3 = 0
      · rw [if_pos m] at h ⊢
        by_cases s : sk T (nE T (nQ T p)) < T.1
        · rw [if_pos s] at h ⊢
          by_cases c : T.2 (sk T (nE T (nQ T p))) = 59 ∧ ¬ k + 1 = 30
          · rw [if_pos c] at h ⊢
            have := ih (k + 1) (updD D k (nX T p)) (sk T (nE T (nQ T p)) + 1) s hu h
            exact ⟨⟨this.1.1, by have := this.1.2; omega⟩, this.2⟩
          · rw [if_neg c] at h
            exact absurd h (nI_nm1 (by omega))
        · rw [if_neg s] at h ⊢
          exact ⟨⟨m, by show k + 1 ≤ _; omega⟩, hu⟩
      · rw [if_neg m] at h ⊢
        by_cases c : sk T (nE T (nQ T p)) < T.1 ∧ T.2 (sk T (nE T (nQ T p))) = 44
        · rw [if_pos c] at h ⊢
          have := ih (k + 1) (updD D k (nX T p)) (sk T (nE T (nQ T p)) + 1) c.1 hu h
          exact ⟨⟨this.1.1, by have := this.1.2; omega⟩, this.2⟩
        · rw [if_neg c] at h
          exact absurd h (nI_nm1 (by omega))
    · rw [if_pos q] at h
      exact absurd h q
theorem rdR0_ok {T : Tst} (h9 : T.1 ≤ 90) (h : (rdR0 T).1 = -1) : (∃ n, (rdR0 T).2.1 = 3 * n ∧ n ≤ 10) ∧ ∀ j, j < (rdR0 T).2.1 → -15 ≤ (rdR0 T).2.2 j ∧ (rdR0 T).2.2 j ≤ 15 := by
  have := parF_ok h9 30 0 (fun _ => 0) 0 (Nat.zero_le _) (fun j hj => absurd hj (Nat.not_lt_zero _)) h
  refine ⟨⟨(rdR0 T).2.1 / 3, ?_, ?_⟩, this.2⟩
  · have := this.1.1
    show (rdR0 T).2.1 = _
    have e : (rdR0 T).2.1 % 3 = 0 := this
    omega
  · have e : (rdR0 T).2.1 ≤ 0 + 30 := this.1.2
    omega
theorem m_read' {w : Wd} {o : Nat} {c : Cst} {T : Tst} (hC : MC w o c) (hT : MT w o T) : ∃ u, fX9_read [.ref o] w = some (some (.int (opRead c T).1), u) ∧ MC u o (opRead c T).2 ∧ MT u o (offT T) ∧ FrX (fun a j => Xc o a j ∨ Xt o a j) w u := m_read hC hT (fun q => (rdR0_ok hT.2.2.1 q).1)
