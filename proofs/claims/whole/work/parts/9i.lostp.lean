/-! sums -/
def sumT (H t : Nat → Nat) : Nat → Nat
  | 0 => 0
  | k + 1 => sumT H t k + H k * t k
def sumS (G : Nat → Bool) (f : Nat → Nat) : Nat → Nat
  | 0 => 0
  | s + 1 => sumS G f s + (if G s = true then f s else 0)
theorem sumT_upd {H t : Nat → Nat} {c : Nat} : ∀ m, sumT (fun i => if i = c then H i + 1 else H i) t m = sumT H t m + (if c < m then t c else 0) := by
  intro m
  induction m with
  | zero => rfl
  | succ m ih =>
    show sumT _ t m + (if m = c then H m + 1 else H m) * t m = sumT H t m + H m * t m + _
    rw [ih]
    by_cases q : m = c
    · subst q
      rw [if_pos rfl, if_neg (Nat.lt_irrefl _), if_pos (by omega), Nat.add_mul]
      omega
    · rw [if_neg q]
      by_cases h : c < m
      · rw [if_pos h, if_pos (by omega)]; omega
      · rw [if_neg h, if_neg (by omega)]; omega
theorem ct_sum {G : Nat → Bool} {t : Nat → Nat} {m : Nat} : ∀ (e s : Nat) (H : Nat → Nat), (∀ i, i < s + e → pop 10 i < m) → sumT (ctF G e s H) t m + sumS G (fun i => t (pop 10 i)) s = sumT H t m + sumS G (fun i => t (pop 10 i)) (s + e) := by
  intro e
  induction e with
  | zero => intro s H _; rfl
  | succ e ih =>
    intro s H hm
    have hs := hm s (by omega)
    have := ih (s + 1) (if G s = true then (fun c => if c = pop 10 s then H c + 1 else H c) else H) (fun i hi => hm i (by omega))
    have e1 : sumS G (fun i => t (pop 10 i)) (s + 1) = sumS G (fun i => t (pop 10 i)) s + (if G s = true then t (pop 10 s) else 0) := rfl
    have e2 : sumT (if G s = true then (fun c => if c = pop 10 s then H c + 1 else H c) else H) t m = sumT H t m + (if G s = true then t (pop 10 s) else 0) := by
      by_cases g : G s = true
      · rw [if_pos g, if_pos g, sumT_upd, if_pos hs]
      · rw [if_neg g, if_neg g]; omega
    rw [e1, e2, show s + 1 + e = s + (e + 1) by omega] at this
    show sumT (ctF G e (s + 1) _) t m + _ = _
    omega
theorem sumS_congr {G G' : Nat → Bool} {f f' : Nat → Nat} : ∀ m, (∀ i, i < m → G i = G' i ∧ f i = f' i) → sumS G f m = sumS G' f' m := by
  intro m
  induction m with
  | zero => intro _; rfl
  | succ m ih =>
    intro h
    show sumS G f m + _ = sumS G' f' m + _
    rw [ih (fun i hi => h i (by omega)), (h m (by omega)).1, (h m (by omega)).2]
theorem sumS_le {G : Nat → Bool} {f : Nat → Nat} {B : Nat} : ∀ m, (∀ i, i < m → f i ≤ B) → sumS G f m ≤ m * B := by
  intro m
  induction m with
  | zero => intro _; exact Nat.zero_le _
  | succ m ih =>
    intro h
    have h1 := ih (fun i hi => h i (by omega))
    have h2 := h m (by omega)
    show sumS G f m + _ ≤ _
    rw [Nat.add_mul, Nat.one_mul]
    split <;> omega
theorem sumT_0 {t : Nat → Nat} : ∀ m, sumT (fun _ => 0) t m = 0 := by
  intro m
  induction m with
  | zero => rfl
  | succ m ih => show sumT _ t m + 0 * t m = 0; rw [ih, Nat.zero_mul]
/-- how likely a set is left -/
def itT (p c s : Nat) : Nat → Nat
  | 0 => 1
  | k + 1 => itT p c s k * (if s.testBit k = true then p else c)
theorem it_pop {p c s : Nat} : ∀ k, itT p c s k = p ^ pop k s * c ^ (k - pop k s) := by
  intro k
  induction k with
  | zero => rfl
  | succ k ih =>
    have hl := pop_le k s
    show itT p c s k * _ = _
    rw [ih]
    show _ = p ^ (pop k s + _) * c ^ (k + 1 - (pop k s + _))
    by_cases q : s.testBit k = true
    · rw [if_pos q, if_pos q, Nat.pow_succ, show k + 1 - (pop k s + 1) = k - pop k s by omega, Nat.mul_right_comm]
    · rw [if_neg q, if_neg q, Nat.add_zero, show k + 1 - pop k s = (k - pop k s) + 1 by omega, Nat.pow_succ, Nat.mul_assoc]
theorem pw10 {p c a b : Nat} (hp : p ≤ 10) (hc : c ≤ 10) : p ^ a * c ^ b ≤ 10 ^ (a + b) := by
  rw [Nat.pow_add]
  exact Nat.mul_le_mul (Nat.pow_le_pow_left hp a) (Nat.pow_le_pow_left hc b)
theorem p10 {n : Nat} (h : n ≤ 10) : 10 ^ n ≤ 10000000000 := by
  have : (10 : Nat) ^ n ≤ 10 ^ 10 := Nat.pow_le_pow_right (by omega) h
  simpa using this
/-- the two sums are one -/
theorem sum_eq {G : Nat → Bool} {p c n : Nat} (h10 : n ≤ 10) : sumT (ctF G (2 ^ n) 0 (fun _ => 0)) (fun k => p ^ k * c ^ (n - k)) (n + 1) = sumS G (fun s => itT p c s n) (2 ^ n) := by
  have hpop : ∀ i, i < 2 ^ n → pop 10 i = pop n i := fun i hi => pop_10 hi 10 h10
  have := ct_sum (G := G) (t := fun k => p ^ k * c ^ (n - k)) (m := n + 1) (2 ^ n) 0 (fun _ => 0) (fun i hi => by
    rw [Nat.zero_add] at hi
    rw [hpop i hi]
    have := pop_le n i
    omega)
  rw [sumT_0, Nat.zero_add, Nat.zero_add] at this
  have e : sumS G (fun i => p ^ pop 10 i * c ^ (n - pop 10 i)) (2 ^ n) = sumS G (fun s => itT p c s n) (2 ^ n) := sumS_congr _ (fun i hi => ⟨rfl, by rw [it_pop, hpop i hi]⟩)
  rw [← e]
  exact this
/-! a set is good by the class where it is by the reference -/
section
variable {j n T m : Nat} {C : Nat → Int32} {x y : Nat → Int}
theorem cr_dt {k l a b : Nat} (hx : ∀ i, i < n → qZ j C i = (x i, y i, 0)) (hk : k < n) (hl : l < n) (ha : a < n) (hb : b < n) : crZ x y k l a - crZ x y k l b = dt (c1 (sb (qZ j C l) (qZ j C k))) (sb (qZ j C b) (qZ j C a)) ∧ dsZ x y k l = dt (c1 (sb (qZ j C l) (qZ j C k))) (c1 (sb (qZ j C l) (qZ j C k))) := by
  rw [hx k hk, hx l hl, hx a ha, hx b hb]
  simp only [crZ, dsZ, dt, c1, sb]
  constructor <;> grind
/-- within the tolerance along a line -/
def fitS (n : Nat) (x y : Nat → Int) (T m k l : Nat) : Prop := ∀ a b, a < n → bt m a → b < n → bt m b → 100 * ((crZ x y k l a - crZ x y k l b) * (crZ x y k l a - crZ x y k l b)) ≤ (T * T : Int) * dsZ x y k l
theorem fit_wd {k l : Nat} (hx : ∀ i, i < n → qZ j C i = (x i, y i, 0)) (hk : k < n) (hl : l < n) : fitS n x y T m k l ↔ 100 * wdA n m (qZ j C) (c1 (sb (qZ j C l) (qZ j C k))) ≤ (T * T : Int) * dt (c1 (sb (qZ j C l) (qZ j C k))) (c1 (sb (qZ j C l) (qZ j C k))) := by
  obtain ⟨t, ht⟩ : ∃ t, t = c1 (sb (qZ j C l) (qZ j C k)) := ⟨_, rfl⟩
  rw [← ht]
  have ed : dsZ x y k l = dt t t := by rw [ht]; exact (cr_dt hx hk hl hk hl).2
  have ec : ∀ a b, a < n → b < n → crZ x y k l a - crZ x y k l b = dt t (sb (qZ j C b) (qZ j C a)) := fun a b ha hb => by rw [ht]; exact (cr_dt hx hk hl ha hb).1
  by_cases q : ∃ i, i < n ∧ bt m i
  · have hr := rgN_RG (Q := qZ j C) (d := t) q
    obtain ⟨r, hrd⟩ : ∃ r, r = rgN n m (qZ j C) t := ⟨_, rfl⟩
    have ew : wdA n m (qZ j C) t = r * r := by rw [hrd]; rfl
    rw [← hrd] at hr
    rw [ew, ← ed]
    obtain ⟨⟨a, b, ha, hb, e⟩, h2⟩ := hr
    constructor
    · intro h
      have := h b a hb.1 hb.2 ha.1 ha.2
      rw [ec b a hb.1 ha.1, ← e] at this
      exact this
    · intro h a b h3 h4 h5 h6
      rw [ec a b h3 h5]
      have k1 := h2 b a h5 h6 h3 h4
      have k2 := h2 a b h3 h4 h5 h6
      rw [dt_sw] at k2
      have := sq_le k1 k2
      omega
  · constructor
    · intro _
      unfold wdA
      rw [rgN_0 q, ← ed]
      have := Int.mul_nonneg (sqNN (T : Int)) (dsZ_nn (x := x) (y := y) (a := k) (b := l))
      omega
    · intro _ a b h3 h4
      exact absurd ⟨a, h3, h4⟩ q
theorem tb_sub {m n i : Nat} (hm : m < 2 ^ n) (h : m.testBit i = true) : i < n := by
  rcases Nat.lt_or_ge i n with q | q
  · exact q
  · rw [Nat.testBit_lt_two_pow (Nat.lt_of_lt_of_le hm (Nat.pow_le_pow_right (by omega) q))] at h
    cases h
theorem fitS_bt {m k l i o : Nat} : fitB x y T k l i o = true ↔ 0 ≤ crZ x y k l o - crZ x y k l i ∧ 100 * ((crZ x y k l o - crZ x y k l i) * (crZ x y k l o - crZ x y k l i)) ≤ (T * T : Int) * dsZ x y k l := by
  unfold fitB; rw [decide_eq_true_eq]
theorem mset_bt {k l i o : Nat} : (mset x y T n k l i).testBit o = true ↔ o < n ∧ fitB x y T k l i o = true := by
  unfold mset
  rw [msF_tb]
  simp
/-- by the class: some line holds it, or there is none -/
theorem gdF_iff (h10 : n ≤ 10) (hm : m < 2 ^ n) : gdF x y T n m = true ↔ m = 0 ∨ (¬ ∃ p q, p < q ∧ q < n ∧ 0 < dsZ x y p q) ∨ ∃ p q, p < q ∧ q < n ∧ 0 < dsZ x y p q ∧ fitS n x y T m p q := by
  have hp := pw_lt h10
  have h1 : 1 ≤ 2 ^ n := Nat.one_le_two_pow
  obtain ⟨o1, o2⟩ := olO_1 (x := x) (y := y) (T := T) (n := n) n 0 (false, fun _ => false) (by omega)
  have g0 : ∀ u, gd0 x y T n u = true ↔ ((¬ ∃ p q, p < q ∧ q < n ∧ 0 < dsZ x y p q) ∧ u = 2 ^ n - 1) ∨ ∃ p q, (p < q ∧ q < n ∧ 0 < dsZ x y p q) ∧ ∃ i, i < n ∧ u = mset x y T n p q i := fun u => by
    unfold gd0
    by_cases L : ∃ p q, p < q ∧ q < n ∧ 0 < dsZ x y p q
    · have l1 : (olO x y T n n 0 (false, fun _ => false)).1 = true := o1.mpr (Or.inr (by obtain ⟨p, q, a, b, c⟩ := L; exact ⟨p, q, by omega, a, b, c⟩))
      rw [if_pos l1, o2]
      constructor
      · rintro (h | ⟨p, q, ⟨-, a, b, c⟩, h⟩)
        · cases h
        · exact Or.inr ⟨p, q, ⟨a, b, c⟩, h⟩
      · rintro (⟨h, -⟩ | ⟨p, q, ⟨a, b, c⟩, h⟩)
        · exact absurd L h
        · exact Or.inr ⟨p, q, ⟨by omega, a, b, c⟩, h⟩
    · have l1 : ¬ (olO x y T n n 0 (false, fun _ => false)).1 = true := fun h => by
        rcases o1.mp h with y' | ⟨p, q, -, a, b, c⟩
        · cases y'
        · exact L ⟨p, q, a, b, c⟩
      rw [if_neg l1]
      unfold updT
      rw [Bool.or_eq_true, decide_eq_true_eq, o2]
      constructor
      · rintro (h | h | ⟨p, q, ⟨-, a, b, c⟩, -⟩)
        · exact Or.inl ⟨L, h⟩
        · cases h
        · exact absurd ⟨p, q, a, b, c⟩ L
      · rintro (⟨-, h⟩ | ⟨p, q, ⟨a, b, c⟩, -⟩)
        · exact Or.inl h
        · exact absurd ⟨p, q, a, b, c⟩ L
  have key := mpO_iff h10 (2 ^ n - 1) (gd0 x y T n) (gd0 x y T n) (by omega) (fun t h => h) (fun t ht h => ⟨t, ht, h, fun i hi => hi⟩) (fun s k h1 h2 => absurd h2 (by omega)) m hm
  unfold gdF
  rw [key]
  have mlt : ∀ p q i, mset x y T n p q i < 2 ^ n := fun p q i => msF_lt n 0 0 (by omega) (Nat.two_pow_pos n)
  constructor
  · rintro ⟨u, hu, hG, hb⟩
    rcases (g0 u).mp hG with ⟨h, -⟩ | ⟨p, q, ⟨a, b, c⟩, i, hi, e⟩
    · exact Or.inr (Or.inl h)
    · refine Or.inr (Or.inr ⟨p, q, a, b, c, fun a' b' h3 h4 h5 h6 => ?_⟩)
      have f1 := (mset_bt.mp (by rw [← e]; exact hb a' (bt_tb.mp h4))).2
      have f2 := (mset_bt.mp (by rw [← e]; exact hb b' (bt_tb.mp h6))).2
      obtain ⟨u1, u2⟩ := (fitS_bt (m := m)).mp f1
      obtain ⟨v1, v2⟩ := (fitS_bt (m := m)).mp f2
      obtain ⟨A, hA⟩ : ∃ A, A = crZ x y p q a' - crZ x y p q i := ⟨_, rfl⟩
      obtain ⟨B, hB⟩ : ∃ B, B = crZ x y p q b' - crZ x y p q i := ⟨_, rfl⟩
      rw [← hA] at u1 u2
      rw [← hB] at v1 v2
      have ed : crZ x y p q a' - crZ x y p q b' = A - B := by omega
      rw [ed]
      rcases Int.le_total B A with z | z
      · have := sq_le (a := A - B) (r := A) (by omega) (by omega); omega
      · have := sq_le (a := A - B) (r := B) (by omega) (by omega); omega
  · rintro (h | h | ⟨p, q, a, b, c, hf⟩)
    · by_cases L : ∃ p q, p < q ∧ q < n ∧ 0 < dsZ x y p q
      · obtain ⟨p, q, a, b, c⟩ := L
        refine ⟨mset x y T n p q p, mlt _ _ _, (g0 _).mpr (Or.inr ⟨p, q, ⟨a, b, c⟩, p, by omega, rfl⟩), fun i hi => ?_⟩
        rw [h] at hi; simp at hi
      · refine ⟨2 ^ n - 1, by omega, (g0 _).mpr (Or.inl ⟨L, rfl⟩), fun i hi => ?_⟩
        rw [h] at hi; simp at hi
    · refine ⟨2 ^ n - 1, by omega, (g0 _).mpr (Or.inl ⟨h, rfl⟩), fun i hi => ?_⟩
      rw [Nat.testBit_two_pow_sub_one]
      simpa using tb_sub hm hi
    · by_cases ne : ∃ i, i < n ∧ bt m i
      · obtain ⟨i, i1, i2, i3⟩ := argmin (T := bt m) (s := fun i => crZ x y p q i) (c := fun _ => 1) n (fun _ _ _ => by decide) ne
        refine ⟨mset x y T n p q i, mlt _ _ _, (g0 _).mpr (Or.inr ⟨p, q, ⟨a, b, c⟩, i, i1, rfl⟩), fun o ho => ?_⟩
        have on := tb_sub hm ho
        refine mset_bt.mpr ⟨on, (fitS_bt (m := m)).mpr ⟨?_, hf o i on (bt_tb.mpr ho) i1 i2⟩⟩
        have := i3 o on (bt_tb.mpr ho)
        simp only [Int.mul_one] at this
        omega
      · refine ⟨mset x y T n p q p, mlt _ _ _, (g0 _).mpr (Or.inr ⟨p, q, ⟨a, b, c⟩, p, by omega, rfl⟩), fun o ho => ?_⟩
        exact absurd ⟨o, tb_sub hm ho, bt_tb.mpr ho⟩ ne
end
