/-! the bounds are kept -/
def okC (c : Cst) : Prop := bdS c.1 ∧ (∀ k, k < c.2.1 → bdS (c.2.2.1 k)) ∧ ∀ S m P, c.2.2.2 = some (S, m, P) → bdS S ∧ ∀ k, k < m → bdS (P k)
theorem okC.do {c : Cst} {S' : Sst} (h : okC c) (h6 : c.2.1 ≤ 6) (hS : bdS S') : okC (doC c S') := by
  obtain ⟨h1, h2, h3⟩ := h
  refine ⟨hS, fun k hk => ?_, h3⟩
  have hk' : k < pushM c.2.1 := hk
  show bdS (pushS c.2.1 c.2.2.1 c.1 k)
  unfold pushM at hk'
  unfold pushS
  by_cases q : c.2.1 < 6
  · rw [if_pos q] at hk' ⊢
    by_cases e : k = c.2.1
    · rw [if_pos e]; exact h1
    · rw [if_neg e]; exact h2 k (by omega)
  · rw [if_neg q] at hk' ⊢
    by_cases e : k = 5
    · rw [if_pos e]; exact h1
    · rw [if_neg e]; exact h2 (k + 1) (by omega)
theorem ok_add {c : Cst} {x y z : Int32} (h : okC c) (h6 : c.2.1 ≤ 6) : okC (opAdd c x y z).2 := by
  unfold opAdd
  split
  · rename_i q
    split
    · exact h
    · split
      · exact h
      · refine h.do h6 ⟨fun i hi => ?_, h.1.2⟩
        show -15 ≤ (addS c.1 x y z).2.1 i ∧ (addS c.1 x y z).2.1 i ≤ 15
        have hi' : i < 3 * (c.1.1 + 1) := hi
        simp only [addS]
        split
        · exact q.1
        · split
          · exact q.2.1
          · split
            · exact q.2.2
            · exact h.1.1 i (by omega)
  · exact h
theorem ok_out {c : Cst} {k : Int32} (h : okC c) (h6 : c.2.1 ≤ 6) : okC (opOut c k).2 := by
  unfold opOut
  split
  · refine h.do h6 ⟨fun i hi => ?_, h.1.2⟩
    have hi' : i < 3 * (c.1.1 - 1) := hi
    simp only [rmS]
    split
    · exact h.1.1 i (by omega)
    · exact h.1.1 (i + 3) (by omega)
  · exact h
theorem ok_mv {S : Sst} {k j : Nat} {v : Int32} (h : bdS S) (hv : -15 ≤ v ∧ v ≤ 15) : bdS (mvS S k j v) := by
  refine ⟨fun i hi => ?_, h.2⟩
  simp only [mvS]
  split
  · exact hv
  · exact h.1 i hi
theorem ok_move {c : Cst} {k a v : Int32} (h : okC c) (h6 : c.2.1 ≤ 6) : okC (opMove c k a v).2 := by
  unfold opMove
  split
  · rename_i q
    split
    · exact h.do h6 (ok_mv h.1 q.2.2)
    · exact h
  · exact h
theorem ok_tol {c : Cst} {t : Int32} (h : okC c) (h6 : c.2.1 ≤ 6) : okC (opTol c t).2 := by
  unfold opTol
  split
  · rename_i q
    split
    · exact h
    · exact h.do h6 ⟨h.1.1, q⟩
  · exact h
theorem ok_seed {c : Cst} {v : Int32} (h : okC c) : okC (opSeed c v).2 := by
  unfold opSeed
  split
  · exact h
  · exact ⟨h.1, h.2⟩
theorem turn_v {d : Int32} {n : Nat} (q : n ≠ 0) (h10 : n ≤ 10) {v : Int32} (hv : v = nxD d / 65536 / 16 - nxD d / 65536 / 16 / 31 * 31 - 15) : -15 ≤ v ∧ v ≤ 15 := by
  obtain ⟨k, a, t, -, -, ht, -, -, e⟩ := turn_nums (d := d) (n := n) (by omega) h10
  rw [hv, e]
  have : ∀ t, t < 31 → -15 ≤ nI t - 15 ∧ nI t - 15 ≤ 15 := by decide
  exact this t ht
theorem bd_drw {S : Sst} {d : Int32} (h : bdS S) : bdS (drwS S d) := h
theorem bd_eq {S : Sst} {d : Int32} : (drwS S d).1 = S.1 := rfl
def trn (S : Sst) (D : Int32) (P : Prop) [Decidable P] (k j : Nat) (v : Int32) : Bool × Sst := if S.1 = 0 then (false, drwS S D) else if P then (true, mvS (drwS S D) k j v) else (false, drwS S D)
theorem trn_ok {S : Sst} {D : Int32} {P : Prop} [Decidable P] {k j : Nat} {v : Int32} (h : bdS S) (hv : S.1 ≠ 0 → -15 ≤ v ∧ v ≤ 15) : bdS (trn S D P k j v).2 ∧ (trn S D P k j v).2.1 = S.1 := by
  unfold trn
  by_cases q : S.1 = 0
  · rw [if_pos q]; exact ⟨bd_drw h, rfl⟩
  · rw [if_neg q]
    by_cases p : P
    · rw [if_pos p]; exact ⟨ok_mv (bd_drw h) (hv q), rfl⟩
    · rw [if_neg p]; exact ⟨bd_drw h, rfl⟩
theorem doC_ite {c : Cst} {D : Int32} {P : Prop} [Decidable P] {k j : Nat} {v : Int32} : (if c.1.1 = 0 then (false, doC c (drwS c.1 D)) else if P then (true, doC c (mvS (drwS c.1 D) k j v)) else (false, doC c (drwS c.1 D))) = ((trn c.1 D P k j v).1, doC c (trn c.1 D P k j v).2) := by
  unfold trn
  by_cases q : c.1.1 = 0
  · rw [if_pos q, if_pos q]
  · rw [if_neg q, if_neg q]
    by_cases p : P
    · rw [if_pos p, if_pos p]
    · rw [if_neg p, if_neg p]
theorem turn_trn (c : Cst) : turnC c = ((trn c.1 (nxD c.1.2.2.2) (freeB c.1.2.1 c.1.1 (nxD c.1.2.2.2 / 65536 - nxD c.1.2.2.2 / 65536 / nI c.1.1 * nI c.1.1).toNatClampNeg (nxD c.1.2.2.2 / 65536 / 4 - nxD c.1.2.2.2 / 65536 / 4 / 3 * 3) (nxD c.1.2.2.2 / 65536 / 16 - nxD c.1.2.2.2 / 65536 / 16 / 31 * 31 - 15) = true) (nxD c.1.2.2.2 / 65536 - nxD c.1.2.2.2 / 65536 / nI c.1.1 * nI c.1.1).toNatClampNeg (nxD c.1.2.2.2 / 65536 / 4 - nxD c.1.2.2.2 / 65536 / 4 / 3 * 3).toNatClampNeg (nxD c.1.2.2.2 / 65536 / 16 - nxD c.1.2.2.2 / 65536 / 16 / 31 * 31 - 15)).1, doC c (trn c.1 (nxD c.1.2.2.2) (freeB c.1.2.1 c.1.1 (nxD c.1.2.2.2 / 65536 - nxD c.1.2.2.2 / 65536 / nI c.1.1 * nI c.1.1).toNatClampNeg (nxD c.1.2.2.2 / 65536 / 4 - nxD c.1.2.2.2 / 65536 / 4 / 3 * 3) (nxD c.1.2.2.2 / 65536 / 16 - nxD c.1.2.2.2 / 65536 / 16 / 31 * 31 - 15) = true) (nxD c.1.2.2.2 / 65536 - nxD c.1.2.2.2 / 65536 / nI c.1.1 * nI c.1.1).toNatClampNeg (nxD c.1.2.2.2 / 65536 / 4 - nxD c.1.2.2.2 / 65536 / 4 / 3 * 3).toNatClampNeg (nxD c.1.2.2.2 / 65536 / 16 - nxD c.1.2.2.2 / 65536 / 16 / 31 * 31 - 15)).2) := by
  unfold turnC
  exact doC_ite
theorem turn_ok2 {c : Cst} (h : bdS c.1) (h10 : c.1.1 ≤ 10) : ∃ S', (turnC c).2 = doC c S' ∧ bdS S' ∧ S'.1 = c.1.1 := by
  obtain ⟨v, hv⟩ : ∃ v, v = nxD c.1.2.2.2 / 65536 / 16 - nxD c.1.2.2.2 / 65536 / 16 / 31 * 31 - 15 := ⟨_, rfl⟩
  obtain ⟨S', hS, e⟩ : ∃ S', (bdS S' ∧ S'.1 = c.1.1) ∧ (turnC c).2 = doC c S' := by
    rw [turn_trn, ← hv]
    exact ⟨_, trn_ok h (fun q => turn_v q h10 hv), rfl⟩
  exact ⟨S', e, hS⟩
theorem ok_turn {c : Cst} (h : okC c) (h6 : c.2.1 ≤ 6) (h10 : c.1.1 ≤ 10) : okC (turnC c).2 ∧ (turnC c).2.2.1 ≤ 6 ∧ (turnC c).2.1.1 ≤ 10 := by
  obtain ⟨S', e, h1, h2⟩ := turn_ok2 h.1 h10
  have p6 : pushM c.2.1 ≤ 6 := by unfold pushM; split <;> omega
  rw [e]
  exact ⟨h.do h6 h1, p6, by show S'.1 ≤ 10; omega⟩
theorem ok_driftN : ∀ (n g : Nat) (c : Cst), okC c → c.2.1 ≤ 6 → c.1.1 ≤ 10 → okC (driftN n g c).2 := by
  intro n
  induction n with
  | zero => intro g c h _ _; exact h
  | succ n ih =>
    intro g c h h6 h10
    obtain ⟨k0, k1, k2⟩ := ok_turn h h6 h10
    have e : driftN (n + 1) g c = driftN n (if (turnC c).1 = true then g + 1 else g) (turnC c).2 := rfl
    rw [e]
    exact ih _ _ k0 k1 k2
theorem ok_drift {c : Cst} {n : Int32} (h : okC c) (h6 : c.2.1 ≤ 6) (h10 : c.1.1 ≤ 10) : okC (opDrift c n).2 := by
  unfold opDrift
  split
  · exact ok_driftN _ _ _ h h6 h10
  · exact h
theorem ok_undo {c : Cst} (h : okC c) : okC (opUndo c).2 := by
  obtain ⟨S, m, P, i⟩ := c
  unfold opUndo
  simp only
  split
  · exact h
  · exact ⟨h.2.1 (m - 1) (by show m - 1 < m; omega), fun k hk => h.2.1 k (by have : k < m - 1 := hk; show k < m; omega), h.2.2⟩
theorem ok_image {c : Cst} (h : okC c) : okC (opImage c).2 := by
  obtain ⟨S, m, P, i⟩ := c
  refine ⟨h.1, h.2.1, fun S' m' P' e => ?_⟩
  have e' : some (S, m, P) = some (S', m', P') := e
  cases e'
  exact ⟨h.1, h.2.1⟩
theorem ok_restore {c : Cst} (h : okC c) : okC (opRestore c).2 := by
  obtain ⟨S, m, P, i⟩ := c
  cases i with
  | none => exact h
  | some t =>
    obtain ⟨S', m', P'⟩ := t
    obtain ⟨k1, k2⟩ := h.2.2 S' m' P' rfl
    exact ⟨k1, k2, fun S2 m2 P2 e => by
      have e' : some (S', m', P') = some (S2, m2, P2) := e
      cases e'
      exact ⟨k1, k2⟩⟩
theorem ok_read {c : Cst} {T : Tst} (h : okC c) (h6 : c.2.1 ≤ 6) (h9 : T.1 ≤ 90) : okC (opRead c T).2 := by
  unfold opRead
  split
  · rename_i q
    obtain ⟨⟨n, e, -⟩, hb⟩ := rdR0_ok h9 q
    refine h.do h6 ⟨fun i hi => hb i ?_, h.1.2⟩
    have hi' : i < 3 * ((rdR0 T).2.1 / 3) := hi
    omega
  · exact h
