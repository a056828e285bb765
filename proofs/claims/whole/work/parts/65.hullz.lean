/-! corners in whole numbers -/
theorem mulB {p q : Int} {A B : Nat} (hp : p.natAbs ≤ A) (hq : q.natAbs ≤ B) : (p * q).natAbs ≤ A * B := by
  rw [Int.natAbs_mul]; exact Nat.mul_le_mul hp hq
theorem posOf {a b : Int} (hb : 0 < b) (h : 0 < a * b) : 0 < a := by
  refine Int.lt_of_mul_lt_mul_right (a := b) ?_ (Int.le_of_lt hb)
  rw [Int.zero_mul]; exact h
theorem nnOf {a b : Int} (hb : 0 < b) (h : 0 ≤ a * b) : 0 ≤ a := by
  refine Int.le_of_mul_le_mul_right (a := b) ?_ hb
  rw [Int.zero_mul]; exact h
theorem zeOf {a b : Int} (hb : 0 < b) (h : a * b = 0) : a = 0 := by
  rcases Int.mul_eq_zero.mp h with q | q
  · exact q
  · omega
theorem sqNN (a : Int) : 0 ≤ a * a := by
  rcases Int.le_total 0 a with h | h
  · exact Int.mul_nonneg h h
  · have := Int.mul_nonneg (show 0 ≤ -a by omega) (show 0 ≤ -a by omega)
    rwa [Int.neg_mul_neg] at this
theorem sq0 {a b : Int} (h : a * a + b * b ≤ 0) : a = 0 ∧ b = 0 := by
  have ha := sqNN a
  have hb := sqNN b
  have h1 : a * a = 0 := by omega
  have h2 : b * b = 0 := by omega
  exact ⟨by rcases Int.mul_eq_zero.mp h1 with q | q <;> exact q, by rcases Int.mul_eq_zero.mp h2 with q | q <;> exact q⟩
def crZ (x y : Nat → Int) (a b c : Nat) : Int := (x b - x a) * (y c - y a) - (y b - y a) * (x c - x a)
def dsZ (x y : Nat → Int) (a b : Nat) : Int := (x b - x a) * (x b - x a) + (y b - y a) * (y b - y a)
abbrev ouZ (x y : Nat → Int) (a b c : Nat) : Prop := crZ x y a b c < 0 ∨ (crZ x y a b c = 0 ∧ dsZ x y a b < dsZ x y a c)
theorem dsZ_nn {x y : Nat → Int} {a b : Nat} : 0 ≤ dsZ x y a b := by
  have h1 := sqNN (x b - x a)
  have h2 := sqNN (y b - y a)
  unfold dsZ; omega
theorem dsZ_0 {x y : Nat → Int} {a b : Nat} : dsZ x y a b = 0 ↔ x b = x a ∧ y b = y a := by
  constructor
  · intro h
    have := sq0 (a := x b - x a) (b := y b - y a) (by unfold dsZ at h; omega)
    omega
  · rintro ⟨h1, h2⟩
    unfold dsZ; rw [h1, h2]; simp
def inZ (n : Nat) (x y : Nat → Int) : Prop := ∀ i, i < n → (x i).natAbs ≤ 15 ∧ (y i).natAbs ≤ 15
/-- a corner: a direction in which it alone is least -/
def cnZ (n : Nat) (x y : Nat → Int) (a : Nat) : Prop := ∃ p q : Int, ∀ c, c < n → dsZ x y a c ≠ 0 → 0 < p * (x c - x a) + q * (y c - y a)
/-- the first at its place -/
def fiZ (x y : Nat → Int) (a : Nat) : Prop := ∀ i, i < a → dsZ x y a i ≠ 0
theorem ou_tr {x y : Nat → Int} {a b c i : Nat} {p q : Int} (hb : 0 < p * (x b - x a) + q * (y b - y a)) (hc : 0 < p * (x c - x a) + q * (y c - y a)) (hi : 0 < p * (x i - x a) + q * (y i - y a)) (h1 : ouZ x y a b c) (h2 : ¬ ouZ x y a b i) : ¬ ouZ x y a c i := by
  have id : crZ x y a c i * (p * (x b - x a) + q * (y b - y a)) = crZ x y a b i * (p * (x c - x a) + q * (y c - y a)) + (- crZ x y a b c) * (p * (x i - x a) + q * (y i - y a)) := by
    unfold crZ; grind
  have g1 : 0 ≤ crZ x y a b i := by omega
  have g2 : 0 ≤ - crZ x y a b c := by omega
  have m1 := Int.mul_nonneg g1 (Int.le_of_lt hc)
  have m2 := Int.mul_nonneg g2 (Int.le_of_lt hi)
  by_cases q1 : crZ x y a b i = 0
  · by_cases q2 : crZ x y a b c = 0
    · rw [q1, q2] at id
      have := zeOf hb (id.trans (by simp))
      omega
    · have m3 := Int.mul_pos (show 0 < - crZ x y a b c by omega) hi
      have := posOf hb (by rw [id]; omega)
      omega
  · have m3 := Int.mul_pos (show 0 < crZ x y a b i by omega) hc
    have := posOf hb (by rw [id]; omega)
    omega
/-- on one ray -/
theorem ray {p q d1 d2 e1 e2 : Int} (hd : 0 < p * d1 + q * d2) (he : 0 < p * e1 + q * e2) (hc : d1 * e2 - d2 * e1 = 0) : 0 < d1 * e1 + d2 * e2 := by
  have id1 : (d1 * e1 + d2 * e2) * (p * d1 + q * d2) = (d1 * d1 + d2 * d2) * (p * e1 + q * e2) + (d1 * e2 - d2 * e1) * (p * d2 - q * d1) := by grind
  rw [hc, Int.zero_mul, Int.add_zero] at id1
  have hp : 0 < d1 * d1 + d2 * d2 := by
    rcases Int.lt_or_le 0 (d1 * d1 + d2 * d2) with h | h
    · exact h
    · obtain ⟨z1, z2⟩ := sq0 h
      rw [z1, z2] at hd; simp at hd
  exact posOf hd (by rw [id1]; exact Int.mul_pos hp he)
theorem ray2 {p q d1 d2 e1 e2 : Int} (hd : 0 < p * d1 + q * d2) (he : 0 < p * e1 + q * e2) (hc : d1 * e2 - d2 * e1 = 0) (hl : e1 * e1 + e2 * e2 ≤ d1 * d1 + d2 * d2) (hn : (d1 - e1) * (d1 - e1) + (d2 - e2) * (d2 - e2) ≠ 0) : 0 < d1 * (d1 - e1) + d2 * (d2 - e2) := by
  have h1 := ray hd he hc
  have id1 : (d1 * d1 + d2 * d2) * (e1 * e1 + e2 * e2) = (d1 * e1 + d2 * e2) * (d1 * e1 + d2 * e2) + (d1 * e2 - d2 * e1) * (d1 * e2 - d2 * e1) := by grind
  rw [hc, Int.zero_mul, Int.add_zero] at id1
  have id2 : (d1 - e1) * (d1 - e1) + (d2 - e2) * (d2 - e2) = (d1 * d1 + d2 * d2) + (e1 * e1 + e2 * e2) - 2 * (d1 * e1 + d2 * e2) := by grind
  have id3 : d1 * (d1 - e1) + d2 * (d2 - e2) = (d1 * d1 + d2 * d2) - (d1 * e1 + d2 * e2) := by grind
  have s0 := sqNN (d1 - e1)
  have s1 := sqNN (d2 - e2)
  rw [id3]
  generalize d1 * d1 + d2 * d2 = D at *
  generalize e1 * e1 + e2 * e2 = E at *
  generalize d1 * e1 + d2 * e2 = F at *
  rcases Int.lt_or_le F D with h | h
  · omega
  · exfalso
    rcases Int.lt_or_le D F with h' | h'
    · have : D * E < F * F := by
        have := Int.mul_lt_mul_of_pos_right h' h1
        have h3 : D * E ≤ D * F := Int.mul_le_mul_of_nonneg_left (by omega) (by omega)
        omega
      omega
    · omega
theorem cn_next {n : Nat} {x y : Nat → Int} {a b : Nat} (hz : inZ n x y) (ha : a < n) (hb : b < n) (hca : cnZ n x y a) (hab : dsZ x y a b ≠ 0) (ho : ∀ c, c < n → dsZ x y a c ≠ 0 → ¬ ouZ x y a b c) : cnZ n x y b := by
  obtain ⟨p, q, hpq⟩ := hca
  refine ⟨2000 * (-(y b - y a)) + (x a - x b), 2000 * (x b - x a) + (y a - y b), fun c hc hbc => ?_⟩
  have id1 : (2000 * (-(y b - y a)) + (x a - x b)) * (x c - x b) + (2000 * (x b - x a) + (y a - y b)) * (y c - y b) = 2000 * crZ x y a b c + ((x a - x b) * (x c - x b) + (y a - y b) * (y c - y b)) := by
    unfold crZ; grind
  rw [id1]
  by_cases hac : dsZ x y a c = 0
  · obtain ⟨e1, e2⟩ := dsZ_0.mp hac
    have e3 : crZ x y a b c = 0 := by unfold crZ; rw [e1, e2]; grind
    have e4 : (x a - x b) * (x c - x b) + (y a - y b) * (y c - y b) = dsZ x y a b := by unfold dsZ; rw [e1, e2]; grind
    rw [e3, e4]
    have := dsZ_nn (x := x) (y := y) (a := a) (b := b)
    omega
  · have h1 := ho c hc hac
    rcases Int.lt_or_le 0 (crZ x y a b c) with h | h
    · have b1 := mulB (p := x a - x b) (q := x c - x b) (A := 30) (B := 30) (by have := hz a ha; have := hz b hb; omega) (by have := hz c hc; have := hz b hb; omega)
      have b2 := mulB (p := y a - y b) (q := y c - y b) (A := 30) (B := 30) (by have := hz a ha; have := hz b hb; omega) (by have := hz c hc; have := hz b hb; omega)
      omega
    · have h0 : crZ x y a b c = 0 := by
        rcases Int.lt_or_le (crZ x y a b c) 0 with z | z
        · exact absurd (Or.inl z) h1
        · omega
      have hl : dsZ x y a c ≤ dsZ x y a b := by
        rcases Int.lt_or_le (dsZ x y a b) (dsZ x y a c) with z | z
        · exact absurd (Or.inr ⟨h0, z⟩) h1
        · exact z
      have := ray2 (p := p) (q := q) (d1 := x b - x a) (d2 := y b - y a) (e1 := x c - x a) (e2 := y c - y a) (hpq b hb hab) (hpq c hc hac) h0 hl (by
        have e : (x b - x a - (x c - x a)) * (x b - x a - (x c - x a)) + (y b - y a - (y c - y a)) * (y b - y a - (y c - y a)) = dsZ x y b c := by unfold dsZ; grind
        rw [e]; exact hbc)
      have e : (x a - x b) * (x c - x b) + (y a - y b) * (y c - y b) = (x b - x a) * (x b - x a - (x c - x a)) + (y b - y a) * (y b - y a - (y c - y a)) := by grind
      rw [h0, e]; omega
theorem cn_inj {n : Nat} {x y : Nat → Int} {a a' b : Nat} (ha : a < n) (ha' : a' < n) (hb : b < n) (hca : cnZ n x y a) (hca' : cnZ n x y a') (hab : dsZ x y a b ≠ 0) (hab' : dsZ x y a' b ≠ 0) (ho : ∀ c, c < n → dsZ x y a c ≠ 0 → ¬ ouZ x y a b c) (ho' : ∀ c, c < n → dsZ x y a' c ≠ 0 → ¬ ouZ x y a' b c) : dsZ x y a a' = 0 := by
  refine Decidable.byContradiction fun hne => ?_
  have hs : dsZ x y a' a = dsZ x y a a' := by unfold dsZ; grind
  have h1 := ho a' ha' hne
  have h2 := ho' a ha (by rw [hs]; exact hne)
  have e : crZ x y a' b a = - crZ x y a b a' := by unfold crZ; grind
  have h0 : crZ x y a b a' = 0 := by
    have g1 : ¬ crZ x y a b a' < 0 := fun z => h1 (Or.inl z)
    have g2 : ¬ crZ x y a' b a < 0 := fun z => h2 (Or.inl z)
    omega
  have l1 : dsZ x y a a' ≤ dsZ x y a b := by
    rcases Int.lt_or_le (dsZ x y a b) (dsZ x y a a') with z | z
    · exact absurd (Or.inr ⟨h0, z⟩) h1
    · exact z
  have l2 : dsZ x y a' a ≤ dsZ x y a' b := by
    rcases Int.lt_or_le (dsZ x y a' b) (dsZ x y a' a) with z | z
    · exact absurd (Or.inr ⟨by omega, z⟩) h2
    · exact z
  obtain ⟨p, q, hp⟩ := hca
  obtain ⟨p', q', hp'⟩ := hca'
  have r1 := ray (hp b hb hab) (hp a' ha' hne) h0
  have h0' : crZ x y a' b a = 0 := by omega
  have r2 := ray (hp' b hb hab') (hp' a ha (by rw [hs]; exact hne)) h0'
  have i1 : dsZ x y a' b = dsZ x y a b - 2 * ((x b - x a) * (x a' - x a) + (y b - y a) * (y a' - y a)) + dsZ x y a a' := by unfold dsZ; grind
  have i2 : (x b - x a') * (x a - x a') + (y b - y a') * (y a - y a') = dsZ x y a a' - ((x b - x a) * (x a' - x a) + (y b - y a) * (y a' - y a)) := by unfold dsZ; grind
  have i3 : dsZ x y a b * dsZ x y a a' = ((x b - x a) * (x a' - x a) + (y b - y a) * (y a' - y a)) * ((x b - x a) * (x a' - x a) + (y b - y a) * (y a' - y a)) + crZ x y a b a' * crZ x y a b a' := by unfold dsZ crZ; grind
  rw [h0, Int.zero_mul, Int.add_zero] at i3
  rw [i2] at r2
  generalize (x b - x a) * (x a' - x a) + (y b - y a) * (y a' - y a) = F at *
  generalize dsZ x y a b = D at *
  generalize dsZ x y a a' = E at *
  have k1 : 2 * F ≤ D := by omega
  have k2 : F < E := by omega
  have k3 : F * F < F * E := Int.mul_lt_mul_of_pos_left k2 r1
  have k4 : F * E ≤ D * E := Int.mul_le_mul_of_nonneg_right (by omega) (by omega)
  omega
/-- a row of n + 1 numbers below n has two alike -/
theorem pigeon : ∀ (n : Nat) (f : Nat → Nat), (∀ i, i ≤ n → f i < n) → ∃ i j, i < j ∧ j ≤ n ∧ f i = f j := by
  intro n
  induction n with
  | zero => intro f h; exact absurd (h 0 (Nat.le_refl 0)) (Nat.not_lt_zero _)
  | succ n ih =>
    intro f h
    by_cases q : ∃ i, i ≤ n ∧ f i = f (n + 1)
    · obtain ⟨i, hi, e⟩ := q
      exact ⟨i, n + 1, by omega, Nat.le_refl _, e⟩
    · have hne : ∀ i, i ≤ n → f i ≠ f (n + 1) := fun i hi e => q ⟨i, hi, e⟩
      have hl := h (n + 1) (Nat.le_refl _)
      obtain ⟨i, j, h1, h2, h3⟩ := ih (fun i => if f i = n then f (n + 1) else f i) (fun i hi => by
        have := h i (by omega)
        have := hne i hi
        by_cases z : f i = n
        · simp only [z, if_true]; omega
        · simp only [z, if_false]; omega)
      refine ⟨i, j, h1, by omega, ?_⟩
      have n1 := hne i (by omega)
      have n2 := hne j (by omega)
      by_cases z1 : f i = n <;> by_cases z2 : f j = n
      · omega
      · rw [if_pos z1, if_neg z2] at h3; exact absurd h3.symm n2
      · rw [if_neg z1, if_pos z2] at h3; exact absurd h3 n1
      · rw [if_neg z1, if_neg z2] at h3; exact h3
