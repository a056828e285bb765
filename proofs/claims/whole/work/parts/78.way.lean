/-! ways in least terms -/
def gN (t : V3) : Nat := Nat.gcd (Nat.gcd t.1.natAbs t.2.1.natAbs) t.2.2.natAbs
def neg (t : V3) : Prop := t.1 < 0 ∨ (t.1 = 0 ∧ (t.2.1 < 0 ∨ (t.2.1 = 0 ∧ t.2.2 < 0)))
def gv (t : V3) : Int := if t.1 < 0 ∨ (t.1 = 0 ∧ (t.2.1 < 0 ∨ (t.2.1 = 0 ∧ t.2.2 < 0))) then -(gN t : Int) else gN t
def nrm (t : V3) : V3 := (t.1.tdiv (gv t), t.2.1.tdiv (gv t), t.2.2.tdiv (gv t))
theorem gN_0 {t : V3} : gN t = 0 ↔ t = (0, 0, 0) := by
  constructor
  · intro h
    unfold gN at h
    have h1 := Nat.eq_zero_of_gcd_eq_zero_left h
    have h2 := Nat.eq_zero_of_gcd_eq_zero_right h
    have h3 := Nat.eq_zero_of_gcd_eq_zero_left h1
    have h4 := Nat.eq_zero_of_gcd_eq_zero_right h1
    exact V3x (show t.1 = 0 by omega) (show t.2.1 = 0 by omega) (show t.2.2 = 0 by omega)
  · intro h; rw [h]; rfl
theorem gN_1 (t : V3) : (gN t : Int) ∣ t.1 := Int.ofNat_dvd_left.mpr (Nat.dvd_trans (Nat.gcd_dvd_left _ _) (Nat.gcd_dvd_left _ _))
theorem gN_2 (t : V3) : (gN t : Int) ∣ t.2.1 := Int.ofNat_dvd_left.mpr (Nat.dvd_trans (Nat.gcd_dvd_left _ _) (Nat.gcd_dvd_right _ _))
theorem gN_3 (t : V3) : (gN t : Int) ∣ t.2.2 := Int.ofNat_dvd_left.mpr (Nat.gcd_dvd_right _ _)
theorem gv_abs (t : V3) : (gv t).natAbs = gN t := by unfold gv; split <;> omega
theorem gv_0 {t : V3} (h : t ≠ (0, 0, 0)) : gv t ≠ 0 := fun z => h (gN_0.mp (by rw [← gv_abs, z]; rfl))
theorem gv_dvd {t : V3} {x : Int} (h : (gN t : Int) ∣ x) : gv t ∣ x := by
  unfold gv
  split
  · exact Int.neg_dvd.mpr h
  · exact h
theorem nrm_1 (t : V3) : t.1 = gv t * (nrm t).1 := (Int.mul_tdiv_cancel' (gv_dvd (gN_1 t))).symm
theorem nrm_2 (t : V3) : t.2.1 = gv t * (nrm t).2.1 := (Int.mul_tdiv_cancel' (gv_dvd (gN_2 t))).symm
theorem nrm_3 (t : V3) : t.2.2 = gv t * (nrm t).2.2 := (Int.mul_tdiv_cancel' (gv_dvd (gN_3 t))).symm
theorem dt_nrm (t z : V3) : dt t z = gv t * dt (nrm t) z := by
  have h1 := nrm_1 t
  have h2 := nrm_2 t
  have h3 := nrm_3 t
  generalize gv t = g at *
  generalize nrm t = d at *
  simp only [dt]
  rw [h1, h2, h3]
  grind
theorem dt_nrm2 (t : V3) : dt t t = gv t * gv t * dt (nrm t) (nrm t) := by
  rw [dt_nrm t t]
  have e : dt (nrm t) t = dt t (nrm t) := by simp only [dt]; grind
  rw [e, dt_nrm t (nrm t)]
  grind
theorem gv_sq (t : V3) : gv t * gv t = ((gN t * gN t : Nat) : Int) := by rw [← gv_abs, Int.natAbs_mul_self]
/-- a point, by its numbers -/
def ptZ (C : Nat → Int32) (k : Nat) : V3 := ((C (3 * k)).toInt, (C (3 * k + 1)).toInt, (C (3 * k + 2)).toInt)
/-- what a judge sees -/
def prj (j : Nat) (v : V3) : V3 := if j = 3 then v else if j = 0 then (v.2.1, v.2.2, 0) else if j = 1 then (v.1, v.2.2, 0) else (v.1, v.2.1, 0)
def qZ (j : Nat) (C : Nat → Int32) (k : Nat) : V3 := prj j (ptZ C k)
def in3 (B : Nat) (v : V3) : Prop := v.1.natAbs ≤ B ∧ v.2.1.natAbs ≤ B ∧ v.2.2.natAbs ≤ B
theorem in3_prj {B j : Nat} {v : V3} (h : in3 B v) : in3 B (prj j v) := by
  unfold in3 prj at *
  split
  · exact h
  · split
    · exact ⟨h.2.1, h.2.2, by simp⟩
    · split
      · exact ⟨h.1, h.2.2, by simp⟩
      · exact ⟨h.1, h.2.1, by simp⟩
def bdC (n : Nat) (C : Nat → Int32) : Prop := ∀ i, i < 3 * n → -15 ≤ C i ∧ C i ≤ 15
theorem pt_in {n : Nat} {C : Nat → Int32} {k : Nat} (h : bdC n C) (hk : k < n) : in3 15 (ptZ C k) := ⟨abs15 (h _ (by omega)), abs15 (h _ (by omega)), abs15 (h _ (by omega))⟩
theorem q_in {n j : Nat} {C : Nat → Int32} {k : Nat} (h : bdC n C) (hk : k < n) : in3 15 (qZ j C k) := in3_prj (pt_in h hk)
theorem in3_sb {a b : V3} {A B : Nat} (ha : in3 A a) (hb : in3 B b) : in3 (A + B) (sb a b) := by
  unfold in3 sb at *
  simp only
  omega
theorem in3_cx {a b : V3} {A B : Nat} (ha : in3 A a) (hb : in3 B b) : in3 (2 * (A * B)) (cx a b) := by
  have m1 := mulB ha.1 hb.2.1
  have m2 := mulB ha.1 hb.2.2
  have m3 := mulB ha.2.1 hb.1
  have m4 := mulB ha.2.1 hb.2.2
  have m5 := mulB ha.2.2 hb.1
  have m6 := mulB ha.2.2 hb.2.1
  unfold in3 cx
  simp only
  omega
theorem dt_b {a b : V3} {A B : Nat} (ha : in3 A a) (hb : in3 B b) : (dt a b).natAbs ≤ 3 * (A * B) := by
  have m1 := mulB ha.1 hb.1
  have m2 := mulB ha.2.1 hb.2.1
  have m3 := mulB ha.2.2 hb.2.2
  unfold dt
  omega
theorem in3_nrm {t : V3} {B : Nat} (h : in3 B t) : in3 B (nrm t) := by
  have a1 := nrm_1 t
  have a2 := nrm_2 t
  have a3 := nrm_3 t
  by_cases q : t = (0, 0, 0)
  · rw [q]
    exact ⟨Nat.zero_le _, Nat.zero_le _, Nat.zero_le _⟩
  · have g := gv_0 q
    have one : 1 ≤ (gv t).natAbs := by omega
    have k : ∀ x y : Int, x = gv t * y → y.natAbs ≤ x.natAbs := fun x y e => by
      rw [e, Int.natAbs_mul]
      exact Nat.le_mul_of_pos_left _ one
    exact ⟨Nat.le_trans (k _ _ a1) h.1, Nat.le_trans (k _ _ a2) h.2.1, Nat.le_trans (k _ _ a3) h.2.2⟩
/-! least and most along a way -/
abbrev bt (m k : Nat) : Prop := m / 2 ^ k % 2 = 1
def mmS (m : Nat) (Q : Nat → V3) (d : V3) (k : Nat) (s : Option (Int × Int)) : Option (Int × Int) := if bt m k then some (match s with
  | none => (dt d (Q k), dt d (Q k))
  | some q => (if dt d (Q k) < q.1 then dt d (Q k) else q.1, if q.2 < dt d (Q k) then dt d (Q k) else q.2)) else s
def mmF (m : Nat) (Q : Nat → V3) (d : V3) : Nat → Nat → Option (Int × Int) → Option (Int × Int)
  | 0, _, s => s
  | e + 1, k, s => mmF m Q d e (k + 1) (mmS m Q d k s)
def mmI (m : Nat) (Q : Nat → V3) (d : V3) (k : Nat) (s : Option (Int × Int)) : Prop := match s with
  | none => ∀ i, i < k → ¬ bt m i
  | some q => (∃ i, i < k ∧ bt m i ∧ dt d (Q i) = q.1) ∧ (∃ i, i < k ∧ bt m i ∧ dt d (Q i) = q.2) ∧ ∀ i, i < k → bt m i → q.1 ≤ dt d (Q i) ∧ dt d (Q i) ≤ q.2
theorem mm_step {m : Nat} {Q : Nat → V3} {d : V3} {k : Nat} {s : Option (Int × Int)} (h : mmI m Q d k s) : mmI m Q d (k + 1) (mmS m Q d k s) := by
  unfold mmS
  by_cases b : bt m k
  · rw [if_pos b]
    cases s with
    | none =>
      refine ⟨⟨k, by omega, b, rfl⟩, ⟨k, by omega, b, rfl⟩, fun i hi hb => ?_⟩
      by_cases e : i = k
      · rw [e]; exact ⟨Int.le_refl _, Int.le_refl _⟩
      · exact absurd hb (h i (by omega))
    | some q =>
      obtain ⟨⟨i1, a1, a2, a3⟩, ⟨i2, b1, b2, b3⟩, hh⟩ := h
      refine ⟨?_, ?_, fun i hi hb => ?_⟩
      · by_cases z : dt d (Q k) < q.1
        · exact ⟨k, by omega, b, by simp only [z, if_true]⟩
        · exact ⟨i1, by omega, a2, by simp only [z, if_false]; exact a3⟩
      · by_cases z : q.2 < dt d (Q k)
        · exact ⟨k, by omega, b, by simp only [z, if_true]⟩
        · exact ⟨i2, by omega, b2, by simp only [z, if_false]; exact b3⟩
      · by_cases e : i = k
        · subst e
          simp only
          constructor <;> split <;> omega
        · have := hh i (by omega) hb
          simp only
          constructor <;> split <;> omega
  · rw [if_neg b]
    cases s with
    | none =>
      intro i hi hb
      by_cases e : i = k
      · rw [e] at hb; exact b hb
      · exact h i (by omega) hb
    | some q =>
      obtain ⟨⟨i1, a1, a2, a3⟩, ⟨i2, b1, b2, b3⟩, hh⟩ := h
      refine ⟨⟨i1, by omega, a2, a3⟩, ⟨i2, by omega, b2, b3⟩, fun i hi hb => ?_⟩
      by_cases e : i = k
      · rw [e] at hb; exact absurd hb b
      · exact hh i (by omega) hb
theorem mm_all {m : Nat} {Q : Nat → V3} {d : V3} : ∀ (e k : Nat) (s : Option (Int × Int)), mmI m Q d k s → mmI m Q d (k + e) (mmF m Q d e k s) := by
  intro e
  induction e with
  | zero => intro k s h; exact h
  | succ e ih =>
    intro k s h
    have := ih (k + 1) _ (mm_step h)
    rw [show k + (e + 1) = k + 1 + e by omega]
    exact this
def rgO (s : Option (Int × Int)) : Int := match s with
  | none => 0
  | some q => q.2 - q.1
/-- how far the points of a set reach along a way -/
def rgN (n m : Nat) (Q : Nat → V3) (d : V3) : Int := rgO (mmF m Q d n 0 none)
theorem rgN_RG {n m : Nat} {Q : Nat → V3} {d : V3} (h : ∃ i, i < n ∧ bt m i) : RG n (bt m) Q d (rgN n m Q d) := by
  have k := mm_all (m := m) (Q := Q) (d := d) n 0 none (fun i hi => absurd hi (Nat.not_lt_zero _))
  rw [Nat.zero_add] at k
  unfold rgN
  cases e : mmF m Q d n 0 none with
  | none =>
    rw [e] at k
    obtain ⟨i, hi, hb⟩ := h
    exact absurd hb (k i hi)
  | some q =>
    rw [e] at k
    obtain ⟨⟨i1, a1, a2, a3⟩, ⟨i2, b1, b2, b3⟩, hh⟩ := k
    have f : ∀ a b, dt d (sb a b) = dt d a - dt d b := fun a b => by simp only [dt, sb]; grind
    refine ⟨⟨i2, i1, ⟨b1, b2⟩, ⟨a1, a2⟩, by rw [f, a3, b3]; rfl⟩, fun a b ha hSa hb hSb => ?_⟩
    have k1 := hh a ha hSa
    have k2 := hh b hb hSb
    rw [f]
    show _ ≤ q.2 - q.1
    omega
