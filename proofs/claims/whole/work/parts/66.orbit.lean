/-! the row of corners -/
def uZ (U : Nat → Int32) : Nat → Int := fun i => (U i).toInt
theorem iU (U : Nat → Int32) (i : Nat) : U i = iI (uZ U i) := (Int32.ofInt_toInt _).symm
theorem crs_I {U V : Nat → Int32} {a b c : Nat} : crs U V a b c = iI (crZ (uZ U) (uZ V) a b c) := by
  unfold crs
  rw [iU U a, iU U b, iU U c, iU V a, iU V b, iU V c]
  simp only [iI_sub, iI_mul]
  rfl
theorem dst_I {U V : Nat → Int32} {a b : Nat} : dst U V a b = iI (dsZ (uZ U) (uZ V) a b) := by
  unfold dst
  rw [iU U a, iU U b, iU V a, iU V b]
  simp only [iI_sub, iI_mul, iI_add]
  rfl
section
variable {n : Nat} {U V : Nat → Int32}
theorem crZ_b {x y : Nat → Int} {a b c : Nat} (h : inZ n x y) (ha : a < n) (hb : b < n) (hc : c < n) : (crZ x y a b c).natAbs ≤ 1800 := by
  have a1 := h a ha
  have b1 := h b hb
  have c1 := h c hc
  have b1 := mulB (p := x b - x a) (q := y c - y a) (A := 30) (B := 30) (by omega) (by omega)
  have b2 := mulB (p := y b - y a) (q := x c - x a) (A := 30) (B := 30) (by omega) (by omega)
  unfold crZ; omega
theorem dsZ_b {x y : Nat → Int} {a b : Nat} (h : inZ n x y) (ha : a < n) (hb : b < n) : dsZ x y a b ≤ 1800 := by
  have a1 := h a ha
  have b1 := h b hb
  have b1 := mulB (p := x b - x a) (q := x b - x a) (A := 30) (B := 30) (by omega) (by omega)
  have b2 := mulB (p := y b - y a) (q := y b - y a) (A := 30) (B := 30) (by omega) (by omega)
  unfold dsZ; omega
theorem dst_z {a b : Nat} (h : inZ n (uZ U) (uZ V)) (ha : a < n) (hb : b < n) : dst U V a b = 0 ↔ dsZ (uZ U) (uZ V) a b = 0 := by
  have h1 := dsZ_b h ha hb
  have h2 := dsZ_nn (x := uZ U) (y := uZ V) (a := a) (b := b)
  rw [dst_I, show (0 : Int32) = iI 0 from rfl, iI_eq (by omega) (by omega)]
theorem dst_p {a b : Nat} (h : inZ n (uZ U) (uZ V)) (ha : a < n) (hb : b < n) : ¬ dst U V a b = 0 ↔ 0 < dst U V a b := by
  have h1 := dsZ_b h ha hb
  have h2 := dsZ_nn (x := uZ U) (y := uZ V) (a := a) (b := b)
  rw [dst_I, show (0 : Int32) = iI 0 from rfl, iI_eq (by omega) (by omega), iI_lt (by omega) (by omega)]
  omega
theorem outB_Z {a b c : Nat} (h : inZ n (uZ U) (uZ V)) (ha : a < n) (hb : b < n) (hc : c < n) : outB U V a b c ↔ ouZ (uZ U) (uZ V) a b c := by
  have h1 := dsZ_b h ha hb
  have h2 := dsZ_nn (x := uZ U) (y := uZ V) (a := a) (b := b)
  have h3 := dsZ_b h ha hc
  have h4 := dsZ_nn (x := uZ U) (y := uZ V) (a := a) (b := c)
  have h5 := crZ_b h ha hb hc
  unfold outB ouZ
  rw [dst_I, dst_I, crs_I, show (0 : Int32) = iI 0 from rfl, iI_lt (by omega) (by omega), iI_eq (by omega) (by omega), iI_lt (by omega) (by omega)]
end
def nxI (x y : Nat → Int) (c a : Nat) (r : Option Nat) : Prop := match r with
  | none => ∀ i, i < c → dsZ x y a i = 0
  | some b => b < c ∧ dsZ x y a b ≠ 0 ∧ (∀ i, i < c → dsZ x y a i ≠ 0 → ¬ ouZ x y a b i) ∧ fiZ x y b
theorem ds_same {x y : Nat → Int} {a b c : Nat} (h : dsZ x y b c = 0) : dsZ x y a c = dsZ x y a b := by
  obtain ⟨e1, e2⟩ := dsZ_0.mp h
  unfold dsZ; rw [e1, e2]
theorem cr_same {x y : Nat → Int} {a d b c : Nat} (h : dsZ x y b c = 0) : crZ x y a d c = crZ x y a d b := by
  obtain ⟨e1, e2⟩ := dsZ_0.mp h
  unfold crZ; rw [e1, e2]
theorem cr_self {x y : Nat → Int} {a b : Nat} : crZ x y a b b = 0 := by unfold crZ; grind
theorem nx_step {n : Nat} {U V : Nat → Int32} {a c : Nat} {r : Option Nat} (h : inZ n (uZ U) (uZ V)) (ha : a < n) (hc : c < n) (hca : cnZ n (uZ U) (uZ V) a) (hr : nxI (uZ U) (uZ V) c a r) : nxI (uZ U) (uZ V) (c + 1) a (nxS U V a c r) := by
  unfold nxS
  have ez := dst_z h ha hc
  by_cases q : dsZ (uZ U) (uZ V) a c = 0
  · rw [if_pos (ez.mpr q)]
    cases r with
    | none =>
      intro i hi
      by_cases e : i = c
      · rw [e]; exact q
      · exact hr i (by omega)
    | some b =>
      obtain ⟨h1, h2, h3, h4⟩ := hr
      refine ⟨by omega, h2, fun i hi hne => ?_, h4⟩
      by_cases e : i = c
      · rw [e] at hne; exact absurd q hne
      · exact h3 i (by omega) hne
  · rw [if_neg (fun z => q (ez.mp z))]
    cases r with
    | none =>
      refine ⟨by omega, q, fun i hi hne => ?_, fun i hi e => ?_⟩
      · by_cases e : i = c
        · rw [e]; unfold ouZ; rw [cr_self]; omega
        · exact absurd (hr i (by omega)) hne
      · exact q (by rw [← ds_same e]; exact hr i hi)
    | some b =>
      obtain ⟨h1, h2, h3, h4⟩ := hr
      have eo := outB_Z h ha (show b < n by omega) hc
      show nxI _ _ _ _ (if outB U V a b c then _ else _)
      by_cases o : ouZ (uZ U) (uZ V) a b c
      · rw [if_pos (eo.mpr o)]
        obtain ⟨p, q', hp⟩ := hca
        refine ⟨by omega, q, fun i hi hne => ?_, fun i hi e => ?_⟩
        · by_cases e : i = c
          · rw [e]; unfold ouZ; rw [cr_self]; omega
          · exact ou_tr (hp b (by omega) h2) (hp c hc q) (hp i (by omega) hne) o (h3 i (by omega) hne)
        · have e1 := ds_same (a := a) e
          refine h3 i hi (by rw [e1]; exact q) ?_
          unfold ouZ
          rw [e1, cr_same e]
          exact o
      · rw [if_neg (fun z => o (eo.mp z))]
        refine ⟨by omega, h2, fun i hi hne => ?_, h4⟩
        by_cases e : i = c
        · rw [e]; exact o
        · exact h3 i (by omega) hne
theorem nx_spec {n : Nat} {U V : Nat → Int32} {a : Nat} (h : inZ n (uZ U) (uZ V)) (ha : a < n) (hca : cnZ n (uZ U) (uZ V) a) : nxI (uZ U) (uZ V) n a (nxF U V a n 0 none) := by
  have go : ∀ (d c : Nat) (r : Option Nat), c + d = n → nxI (uZ U) (uZ V) c a r → nxI (uZ U) (uZ V) n a (nxF U V a d c r) := by
    intro d
    induction d with
    | zero =>
      intro c r hc hr
      have e : c = n := by omega
      rw [← e]; exact hr
    | succ d ih =>
      intro c r hc hr
      exact ih (c + 1) _ (by omega) (nx_step h ha (by omega) hca hr)
  exact go n 0 none (by omega) (fun i hi => absurd hi (by omega))
def nxN (U V : Nat → Int32) (n a : Nat) : Nat := gtD a (nxF U V a n 0 none)
/-- a corner, told by the first at its place -/
def coZ (n : Nat) (x y : Nat → Int) (a : Nat) : Prop := a < n ∧ cnZ n x y a ∧ fiZ x y a
theorem nx_co {n : Nat} {U V : Nat → Int32} {a : Nat} (h : inZ n (uZ U) (uZ V)) (ha : coZ n (uZ U) (uZ V) a) : coZ n (uZ U) (uZ V) (nxN U V n a) := by
  have := nx_spec h ha.1 ha.2.1
  unfold nxN
  cases e : nxF U V a n 0 none with
  | none => exact ha
  | some b =>
    rw [e] at this
    obtain ⟨h1, h2, h3, h4⟩ := this
    exact ⟨h1, cn_next h ha.1 h1 ha.2.1 h2 h3, h4⟩
theorem fi_eq {x y : Nat → Int} {a b : Nat} (ha : fiZ x y a) (hb : fiZ x y b) (h : dsZ x y a b = 0) : a = b := by
  rcases Nat.lt_trichotomy a b with q | q | q
  · exact absurd (by unfold dsZ at h ⊢; grind) (hb a q)
  · exact q
  · exact absurd h (ha b q)
theorem nx_inj {n : Nat} {U V : Nat → Int32} {a a' : Nat} (h : inZ n (uZ U) (uZ V)) (ha : coZ n (uZ U) (uZ V) a) (ha' : coZ n (uZ U) (uZ V) a') (e : nxN U V n a = nxN U V n a') : a = a' := by
  have h1 := nx_spec h ha.1 ha.2.1
  have h2 := nx_spec h ha'.1 ha'.2.1
  refine fi_eq ha.2.2 ha'.2.2 ?_
  unfold nxN at e
  cases e1 : nxF U V a n 0 none with
  | none => rw [e1] at h1; exact h1 a' ha'.1
  | some b =>
    cases e2 : nxF U V a' n 0 none with
    | none =>
      rw [e2] at h2
      have := h2 a ha.1
      unfold dsZ at this ⊢; grind
    | some b' =>
      rw [e1, e2] at e
      have e' : b = b' := e
      subst e'
      rw [e1] at h1
      rw [e2] at h2
      exact cn_inj ha.1 ha'.1 h1.1 ha.2.1 ha'.2.1 h1.2.1 h2.2.1 h1.2.2.1 h2.2.2.1
def orb (U V : Nat → Int32) (n f : Nat) : Nat → Nat
  | 0 => f
  | k + 1 => nxN U V n (orb U V n f k)
theorem orb_co {n : Nat} {U V : Nat → Int32} {f : Nat} (h : inZ n (uZ U) (uZ V)) (hf : coZ n (uZ U) (uZ V) f) : ∀ k, coZ n (uZ U) (uZ V) (orb U V n f k) := by
  intro k
  induction k with
  | zero => exact hf
  | succ k ih => exact nx_co h ih
theorem orb_back {n : Nat} {U V : Nat → Int32} {f : Nat} (h : inZ n (uZ U) (uZ V)) (hf : coZ n (uZ U) (uZ V) f) : ∀ (i j : Nat), orb U V n f i = orb U V n f (i + j) → orb U V n f j = f := by
  intro i
  induction i with
  | zero => intro j e; rw [Nat.zero_add] at e; exact e.symm
  | succ i ih =>
    intro j e
    refine ih j ?_
    rw [show i + 1 + j = (i + j) + 1 by omega] at e
    exact nx_inj h (orb_co h hf _) (orb_co h hf _) e
theorem leastN (P : Nat → Prop) : ∀ m, P m → ∃ k, k ≤ m ∧ P k ∧ ∀ i, i < k → ¬ P i := by
  intro m
  induction m using Nat.strongRecOn with
  | ind m ih =>
    intro hm
    by_cases q : ∃ i, i < m ∧ P i
    · obtain ⟨i, hi, hp⟩ := q
      obtain ⟨k, h1, h2, h3⟩ := ih i hi hp
      exact ⟨k, by omega, h2, h3⟩
    · exact ⟨m, Nat.le_refl _, hm, fun i hi hp => q ⟨i, hi, hp⟩⟩
/-- how many corners: the first time that the row comes back -/
def cyL (U V : Nat → Int32) (n f L : Nat) : Prop := 1 ≤ L ∧ L ≤ n ∧ orb U V n f L = f ∧ ∀ i, 0 < i → i < L → orb U V n f i ≠ f
theorem cy_ex {n : Nat} {U V : Nat → Int32} {f : Nat} (h : inZ n (uZ U) (uZ V)) (hf : coZ n (uZ U) (uZ V) f) : ∃ L, cyL U V n f L := by
  obtain ⟨i, j, h1, h2, h3⟩ := pigeon n (orb U V n f) (fun i _ => (orb_co h hf i).1)
  have hb : orb U V n f (j - i) = f := orb_back h hf i (j - i) (by rw [show i + (j - i) = j by omega]; exact h3)
  obtain ⟨k, k1, k2, k3⟩ := leastN (fun k => 0 < k ∧ orb U V n f k = f) (j - i) ⟨by omega, hb⟩
  exact ⟨k, by omega, by omega, k2.2, fun i hi hk e => k3 i hk ⟨hi, e⟩⟩
/-! the first corner -/
def lmI (x y : Nat → Int) (c : Nat) (r : Option Nat) : Prop := match r with
  | none => c = 0
  | some b => b < c ∧ (∀ i, i < c → x b < x i ∨ (x b = x i ∧ y b ≤ y i)) ∧ fiZ x y b
theorem lm_step {U V : Nat → Int32} {c : Nat} {r : Option Nat} (hr : lmI (uZ U) (uZ V) c r) : lmI (uZ U) (uZ V) (c + 1) (lmS U V c r) := by
  cases r with
  | none =>
    have hr : c = 0 := hr
    subst hr
    refine ⟨by omega, fun i hi => ?_, fun i hi => absurd hi (by omega)⟩
    have : i = 0 := by omega
    subst this; omega
  | some b =>
    obtain ⟨h1, h2, h3⟩ := hr
    have el : lef U V c b ↔ (uZ U c < uZ U b ∨ (uZ U c = uZ U b ∧ uZ V c < uZ V b)) := by
      unfold lef uZ
      rw [Int32.lt_iff_toInt_lt, Int32.lt_iff_toInt_lt, ← Int32.toInt_inj]
    show lmI _ _ _ (if lef U V c b then _ else _)
    by_cases q : lef U V c b
    · rw [if_pos q]
      have q' := el.mp q
      refine ⟨by omega, fun i hi => ?_, fun i hi e => ?_⟩
      · by_cases z : i = c
        · subst z; omega
        · have := h2 i (by omega); omega
      · have := h2 i hi
        obtain ⟨e1, e2⟩ := dsZ_0.mp e
        omega
    · rw [if_neg q]
      have q' : ¬ (uZ U c < uZ U b ∨ (uZ U c = uZ U b ∧ uZ V c < uZ V b)) := fun z => q (el.mpr z)
      refine ⟨by omega, fun i hi => ?_, h3⟩
      by_cases z : i = c
      · subst z; omega
      · exact h2 i (by omega)
theorem lm_spec {n : Nat} {U V : Nat → Int32} : lmI (uZ U) (uZ V) n (lmF U V n 0 none) := by
  have go : ∀ (d c : Nat) (r : Option Nat), c + d = n → lmI (uZ U) (uZ V) c r → lmI (uZ U) (uZ V) n (lmF U V d c r) := by
    intro d
    induction d with
    | zero =>
      intro c r hc hr
      have e : c = n := by omega
      rw [← e]; exact hr
    | succ d ih =>
      intro c r hc hr
      exact ih (c + 1) _ (by omega) (lm_step hr)
  exact go n 0 none (by omega) rfl
theorem lm_co {n : Nat} {U V : Nat → Int32} (h : inZ n (uZ U) (uZ V)) (hn : 0 < n) : ∃ f, lmF U V n 0 none = some f ∧ coZ n (uZ U) (uZ V) f := by
  have := lm_spec (n := n) (U := U) (V := V)
  cases e : lmF U V n 0 none with
  | none => rw [e] at this; have : n = 0 := this; omega
  | some f =>
    rw [e] at this
    obtain ⟨h1, h2, h3⟩ := this
    refine ⟨f, rfl, h1, ⟨31, 1, fun c hc hne => ?_⟩, h3⟩
    have g := h2 c hc
    have b1 := h c hc
    have b2 := h f h1
    have hne' : ¬ (uZ U c = uZ U f ∧ uZ V c = uZ V f) := fun z => hne (dsZ_0.mpr z)
    omega
