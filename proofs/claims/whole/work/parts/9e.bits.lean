/-! sets as bits -/
theorem bt_tb {m k : Nat} : bt m k ↔ m.testBit k = true := by
  rw [Nat.testBit_eq_decide_div_mod_eq, decide_eq_true_eq]
theorem bk_nI : ∀ k, k < 10 → bk k = nI (2 ^ k) := by decide
theorem nI_bv (a : Nat) : (nI a).toBitVec = BitVec.ofNat 32 a := rfl
theorem nI_or (a b : Nat) : nI a ||| nI b = nI (a ||| b) := by
  refine Int32.toBitVec_inj.mp ?_
  rw [Int32.toBitVec_or, nI_bv, nI_bv, nI_bv, BitVec.ofNat_or]
theorem nI_and (a b : Nat) : nI a &&& nI b = nI (a &&& b) := by
  refine Int32.toBitVec_inj.mp ?_
  rw [Int32.toBitVec_and, nI_bv, nI_bv, nI_bv, BitVec.ofNat_and]
/-- a set less one -/
def clr (s k : Nat) : Nat := s &&& (1023 ^^^ 2 ^ k)
theorem cl_mask : ∀ k, k < 10 → bk k ^^^ (-1 : Int32) = (-1024 : Int32) ||| nI (1023 ^^^ 2 ^ k) := by decide
theorem tb_1023 (i : Nat) : Nat.testBit 1023 i = decide (i < 10) := Nat.testBit_two_pow_sub_one 10 i
theorem clr_tb {s k i : Nat} (hs : s < 1024) : (clr s k).testBit i = (s.testBit i && decide (i ≠ k)) := by
  unfold clr
  rw [Nat.testBit_and, Nat.testBit_xor, tb_1023, Nat.testBit_two_pow]
  by_cases q : i < 10
  · by_cases e : k = i
    · subst e; simp [q]
    · have e' : i ≠ k := fun z => e z.symm
      simp [q, e, e']
  · have : s.testBit i = false := Nat.testBit_lt_two_pow (Nat.lt_of_lt_of_le hs (show 1024 ≤ 2 ^ i from Nat.pow_le_pow_right (n := 2) (by omega) (show 10 ≤ i by omega)))
    rw [this]; simp
theorem clr_lt {s k n : Nat} (h : s < 2 ^ n) : clr s k < 2 ^ n := Nat.lt_of_le_of_lt Nat.and_le_left h
theorem clr_le {s k : Nat} : clr s k ≤ s := Nat.and_le_left
theorem m1024 : ∀ a, a < 32 → ∀ b, b < 32 → nI (32 * a + b) &&& (-1024 : Int32) = 0 := by decide +kernel
theorem clr_nI {s k : Nat} (hs : s < 1024) (hk : k < 10) : nI s &&& (bk k ^^^ (-1)) = nI (clr s k) := by
  rw [cl_mask k hk]
  have h0 : nI s &&& (-1024 : Int32) = 0 := by
    have := m1024 (s / 32) (by omega) (s % 32) (by omega)
    rw [show 32 * (s / 32) + s % 32 = s by omega] at this
    exact this
  have dist : ∀ x y z : Int32, x &&& (y ||| z) = (x &&& y) ||| (x &&& z) := fun x y z => by
    refine Int32.toBitVec_inj.mp ?_
    rw [Int32.toBitVec_and, Int32.toBitVec_or, Int32.toBitVec_or, Int32.toBitVec_and, Int32.toBitVec_and]
    exact BitVec.and_or_distrib_left
  rw [dist, h0, or0, nI_and]
  rfl
/-- a set built bit by bit -/
def msF (p : Nat → Bool) : Nat → Nat → Nat → Nat
  | 0, _, s => s
  | e + 1, k, s => msF p e (k + 1) (if p k = true then s ||| 2 ^ k else s)
theorem msF_tb {p : Nat → Bool} {i : Nat} : ∀ (e k s : Nat), (msF p e k s).testBit i = (s.testBit i || (decide (k ≤ i) && decide (i < k + e) && p i)) := by
  intro e
  induction e with
  | zero =>
    intro k s
    show s.testBit i = _
    by_cases q : k ≤ i <;> simp [q]
    omega
  | succ e ih =>
    intro k s
    show (msF p e (k + 1) _).testBit i = _
    rw [ih]
    by_cases q : i = k
    · subst q
      by_cases pk : p i = true
      · simp [pk, Nat.testBit_or, Nat.testBit_two_pow]
      · simp [pk]
    · have e1 : (if p k = true then s ||| 2 ^ k else s).testBit i = s.testBit i := by
        split
        · rw [Nat.testBit_or, Nat.testBit_two_pow]
          have : ¬ k = i := fun z => q z.symm
          simp [this]
        · rfl
      rw [e1]
      by_cases h1 : k ≤ i
      · have h2 : k + 1 ≤ i := by omega
        have h3 : (i < k + 1 + e) ↔ (i < k + (e + 1)) := by omega
        simp [h1, h2, h3]
      · have h2 : ¬ k + 1 ≤ i := by omega
        simp [h1, h2]
theorem msF_lt {p : Nat → Bool} {n : Nat} : ∀ (e k s : Nat), k + e = n → s < 2 ^ n → msF p e k s < 2 ^ n := by
  intro e
  induction e with
  | zero => intro k s _ hs; exact hs
  | succ e ih =>
    intro k s hk hs
    refine ih (k + 1) _ (by omega) ?_
    split
    · exact Nat.or_lt_two_pow hs (Nat.pow_lt_pow_right (by omega) (by omega))
    · exact hs
/-- closed under taking one away, so under taking parts -/
theorem clr_all {F : Nat → Bool} {n : Nat} (h10 : n ≤ 10) (hF : ∀ s k, s < 2 ^ n → k < n → F s = true → F (clr s k) = true) : ∀ s u, s < 2 ^ n → u < 2 ^ n → (∀ i, i < n → s.testBit i = true → u.testBit i = true) → F u = true → F s = true := by
  have hp := pw_lt h10
  have go : ∀ (e k : Nat) (u : Nat) (s : Nat), k + e = n → s < 2 ^ n → u < 2 ^ n → (∀ i, i < n → s.testBit i = true → u.testBit i = true) → (∀ i, i < k → u.testBit i = s.testBit i) → F u = true → F s = true := by
    intro e
    induction e with
    | zero =>
      intro k u s hk hs hu hsub heq hFu
      have e : u = s := Nat.eq_of_testBit_eq (fun i => by
        by_cases q : i < n
        · exact heq i (by omega)
        · rw [Nat.testBit_lt_two_pow (Nat.lt_of_lt_of_le hu (Nat.pow_le_pow_right (by omega) (by omega))), Nat.testBit_lt_two_pow (Nat.lt_of_lt_of_le hs (Nat.pow_le_pow_right (by omega) (by omega)))])
      rw [← e]; exact hFu
    | succ e ih =>
      intro k u s hk hs hu hsub heq hFu
      by_cases q : s.testBit k = true
      · refine ih (k + 1) u s (by omega) hs hu hsub (fun i hi => ?_) hFu
        by_cases e : i = k
        · rw [e, q, hsub k (by omega) q]
        · exact heq i (by omega)
      · have q' : s.testBit k = false := by simpa using q
        refine ih (k + 1) (clr u k) s (by omega) hs (clr_lt hu) (fun i hi hsi => ?_) (fun i hi => ?_) (hF u k hu (by omega) hFu)
        · rw [clr_tb (by omega), hsub i hi hsi]
          have : i ≠ k := fun e => by rw [e] at hsi; exact q hsi
          simp [this]
        · rw [clr_tb (by omega)]
          by_cases e : i = k
          · subst e; rw [q']; simp
          · rw [heq i (by omega)]; simp [e]
  intro s u hs hu hsub hFu
  exact go n 0 u s (by omega) hs hu hsub (fun i hi => absurd hi (Nat.not_lt_zero _)) hFu
