/-! the best of all that were tried is the narrowest -/
theorem fz_tr {a b c d e f : Int} (hd : 0 < d) (hb : 0 ≤ b) (hf : 0 ≤ f) (h1 : a * d ≤ c * b) (h2 : c * f ≤ e * d) : a * f ≤ e * b := by
  refine Int.le_of_mul_le_mul_right (a := d) ?_ hd
  have k1 := Int.mul_le_mul_of_nonneg_right h1 hf
  have k2 := Int.mul_le_mul_of_nonneg_right h2 hb
  have e1 : a * f * d = a * d * f := by grind
  have e2 : c * b * f = c * f * b := by grind
  have e3 : e * b * d = e * d * b := by grind
  omega
theorem stW_ne {A : V3 → Int} {t : V3} {s : Option V3} (h : t ≠ (0, 0, 0)) : stW A t s ≠ none := by
  unfold stW
  rw [if_neg h]
  cases s with
  | none => exact fun q => by cases q
  | some e =>
    show (if btr A (nrm t) e then _ else _) ≠ none
    split <;> exact fun q => by cases q
theorem sfo_min {A : V3 → Int} (hsc : ∀ t, A t = gv t * gv t * A (nrm t)) : ∀ (sn : List V3), (sfo A sn = none → ∀ t, t ∈ sn → t = (0, 0, 0)) ∧ ∀ e, sfo A sn = some e → (∃ t, t ∈ sn ∧ t ≠ (0, 0, 0) ∧ e = nrm t) ∧ ∀ t, t ∈ sn → t ≠ (0, 0, 0) → A e * dt t t ≤ A t * dt e e := by
  have go : ∀ (sn : List V3), (sfo A sn.reverse = none → ∀ t, t ∈ sn → t = (0, 0, 0)) ∧ ∀ e, sfo A sn.reverse = some e → (∃ t, t ∈ sn ∧ t ≠ (0, 0, 0) ∧ e = nrm t) ∧ ∀ t, t ∈ sn → t ≠ (0, 0, 0) → A e * dt t t ≤ A t * dt e e := by
    intro sn
    induction sn with
    | nil => exact ⟨fun _ t ht => (by cases ht), fun e he => (by cases he)⟩
    | cons x r ih =>
      rw [List.reverse_cons, sfo_app]
      obtain ⟨i1, i2⟩ := ih
      by_cases q : x = (0, 0, 0)
      · have es : stW A x (sfo A r.reverse) = sfo A r.reverse := by unfold stW; rw [if_pos q]
        rw [es]
        refine ⟨fun h t ht => ?_, fun e he => ⟨?_, fun t ht hne => ?_⟩⟩
        · rcases List.mem_cons.mp ht with y | y
          · rw [y]; exact q
          · exact i1 h t y
        · obtain ⟨t, a1, a2, a3⟩ := (i2 e he).1
          exact ⟨t, List.mem_cons_of_mem _ a1, a2, a3⟩
        · rcases List.mem_cons.mp ht with y | y
          · rw [y] at hne; exact absurd q hne
          · exact (i2 e he).2 t y hne
      · refine ⟨fun h => absurd h (stW_ne q), fun e he => ?_⟩
        have own : A (nrm x) * dt x x = A x * dt (nrm x) (nrm x) := by
          rw [hsc x, dt_nrm2 x]; grind
        cases es : sfo A r.reverse with
        | none =>
          rw [es] at he
          have e1 : stW A x none = some (nrm x) := by unfold stW; rw [if_neg q]; rfl
          rw [e1] at he
          cases he
          refine ⟨⟨x, List.mem_cons_self, q, rfl⟩, fun t ht hne => ?_⟩
          rcases List.mem_cons.mp ht with y | y
          · rw [y]; exact Int.le_of_eq own
          · exact absurd (i1 es t y) hne
        | some d =>
          rw [es] at he
          obtain ⟨⟨t0, b1, b2, b3⟩, b4⟩ := i2 d es
          have d0 : 0 < dt d d := dt_p (by rw [b3]; exact nrm_ne b2)
          have x0 : 0 < dt (nrm x) (nrm x) := dt_p (nrm_ne q)
          have e1 : stW A x (some d) = if btr A (nrm x) d then some (nrm x) else some d := by unfold stW; rw [if_neg q]; rfl
          rw [e1] at he
          by_cases z : btr A (nrm x) d
          · rw [if_pos z] at he
            cases he
            have k : A (nrm x) * dt d d ≤ A d * dt (nrm x) (nrm x) := by rcases z with z | ⟨z, -⟩ <;> omega
            refine ⟨⟨x, List.mem_cons_self, q, rfl⟩, fun t ht hne => ?_⟩
            rcases List.mem_cons.mp ht with y | y
            · rw [y]; exact Int.le_of_eq own
            · exact fz_tr d0 (Int.le_of_lt x0) (dt_nn t) k (b4 t y hne)
          · rw [if_neg z] at he
            have he' : e = d := (Option.some.inj he).symm
            subst he'
            have k : A e * dt (nrm x) (nrm x) ≤ A (nrm x) * dt e e := by
              have : ¬ A (nrm x) * dt e e < A e * dt (nrm x) (nrm x) := fun y => z (Or.inl y)
              omega
            refine ⟨⟨t0, List.mem_cons_of_mem _ b1, b2, b3⟩, fun t ht hne => ?_⟩
            rcases List.mem_cons.mp ht with y | y
            · rw [y]
              exact fz_tr x0 (Int.le_of_lt d0) (dt_nn x) k (Int.le_of_eq own)
            · exact b4 t y hne
  intro sn
  have := go sn.reverse
  rw [List.reverse_reverse] at this
  refine ⟨fun h t ht => this.1 h t (List.mem_reverse.mpr ht), fun e he => ?_⟩
  obtain ⟨⟨t, a1, a2, a3⟩, b⟩ := this.2 e he
  exact ⟨⟨t, List.mem_reverse.mp a1, a2, a3⟩, fun t ht hne => b t (List.mem_reverse.mpr ht) hne⟩
/-! lists of ways -/
def cl3 : List V3 → List V3
  | [] => []
  | l :: r => r.map (cx l) ++ cl3 r
theorem twF_fold {A : V3 → Int} {l : V3} : ∀ (r : List V3) (s : Option V3), twF A l r s = (r.map (cx l)).foldl (fun s t => stW A t s) s := by
  intro r
  induction r with
  | nil => intro s; rfl
  | cons x r ih => intro s; exact ih _
theorem jd3_fold {A : V3 → Int} : ∀ (L : List V3) (s : Option V3), jd3 A L s = (cl3 L).foldl (fun s t => stW A t s) s := by
  intro L
  induction L with
  | nil => intro s; rfl
  | cons l r ih =>
    intro s
    show jd3 A r (twF A l r s) = (r.map (cx l) ++ cl3 r).foldl _ s
    rw [List.foldl_append, ← twF_fold, ih]
theorem jd2_fold {A : V3 → Int} : ∀ (L : List V3) (s : Option V3), jd2 A L s = (L.map c1).foldl (fun s t => stW A t s) s := by
  intro L
  induction L with
  | nil => intro s; rfl
  | cons l r ih => intro s; exact ih _
/-- the reference's ways -/
def cdQ (j : Nat) (L : List V3) : List V3 := if j = 3 then cl3 L else L.map c1
theorem jdS_eq {j n m : Nat} {C : Nat → Int32} : jdS j n m C = sfo (wdA n m (qZ j C)) (cdQ j (lnL m (vcP j C) 100 0)) := by
  unfold jdS jdF cdQ sfo
  by_cases q : j = 3
  · rw [if_pos q, if_pos q, jd3_fold]
  · rw [if_neg q, if_neg q, jd2_fold]
def axv (j : Nat) : V3 := if j = 0 then (1, 0, 0) else if j = 1 then (0, 1, 0) else (0, 0, 1)
/-- the class's ways -/
def cdP (j : Nat) (L : List V3) : List V3 := if j = 3 then cl3 L else L.map (fun l => cx l (axv j))
def pcI (k : Nat) : Nat → Nat → List Nat
  | 0, _ => []
  | e + 1, l => (10 * k + l) :: pcI k e (l + 1)
def pcO (n : Nat) : Nat → Nat → List Nat
  | 0, _ => []
  | e + 1, k => pcI k (n - (k + 1)) (k + 1) ++ pcO n e (k + 1)
def cdL (m : Nat) : Nat → Nat → List Nat
  | 0, _ => []
  | e + 1, p => if prP m p then p :: cdL m e (p + 1) else cdL m e (p + 1)
theorem lnL_map {m : Nat} {f : Nat → V3} : ∀ (e p : Nat), lnL m f e p = (cdL m e p).map f := by
  intro e
  induction e with
  | zero => intro p; rfl
  | succ e ih =>
    intro p
    unfold lnL cdL
    by_cases q : prP m p
    · rw [if_pos q, if_pos q, List.map_cons, ih]
    · rw [if_neg q, if_neg q, ih]
theorem cdL_app {m : Nat} : ∀ (a b p : Nat), cdL m (a + b) p = cdL m a p ++ cdL m b (p + a) := by
  intro a
  induction a with
  | zero => intro b p; rw [Nat.zero_add]; rfl
  | succ a ih =>
    intro b p
    rw [show a + 1 + b = (a + b) + 1 by omega]
    have s1 : ∀ e, cdL m (e + 1) p = if prP m p then p :: cdL m e (p + 1) else cdL m e (p + 1) := fun e => rfl
    rw [s1, s1, ih b (p + 1), show p + 1 + a = p + (a + 1) by omega]
    by_cases q : prP m p
    · rw [if_pos q, if_pos q]; rfl
    · rw [if_neg q, if_neg q]
theorem pc_row : ∀ n, n ≤ 10 → ∀ k, k < 10 → cdL (2 ^ n - 1) 10 (10 * k) = pcI k (n - (k + 1)) (k + 1) := by decide
theorem pcI_0 {k l : Nat} : pcI k 0 l = [] := rfl
theorem pcO_more {n : Nat} : ∀ (e k : Nat), n ≤ k → pcO n e k = [] := by
  intro e
  induction e with
  | zero => intro k _; rfl
  | succ e ih =>
    intro k hk
    unfold pcO
    rw [show n - (k + 1) = 0 by omega, ih (k + 1) (by omega)]
    rfl
theorem pcO_len {n : Nat} : ∀ (e d k : Nat), n ≤ k + e → pcO n (e + d) k = pcO n e k := by
  intro e
  induction e with
  | zero => intro d k hk; rw [pcO_more _ _ (by omega)]; rfl
  | succ e ih =>
    intro d k hk
    rw [show e + 1 + d = (e + d) + 1 by omega]
    unfold pcO
    rw [ih d (k + 1) (by omega)]
theorem cd_rows {n : Nat} (hn : n ≤ 10) : ∀ (e k : Nat), k + e = 10 → cdL (2 ^ n - 1) (10 * e) (10 * k) = pcO n e k := by
  intro e
  induction e with
  | zero => intro k _; rfl
  | succ e ih =>
    intro k hk
    rw [show 10 * (e + 1) = 10 + 10 * e by omega, cdL_app, pc_row n hn k (by omega), show 10 * k + 10 = 10 * (k + 1) by omega, ih (k + 1) (by omega)]
    rfl
theorem pc_cd {n : Nat} (hn : n ≤ 10) : cdL (2 ^ n - 1) 100 0 = pcO n n 0 := by
  have := cd_rows hn 10 0 (by omega)
  rw [show 10 = n + (10 - n) by omega, pcO_len n (10 - n) 0 (by omega)] at this
  rw [show n + (10 - n) = 10 by omega] at this
  exact this
theorem pcI_len {k : Nat} : ∀ (e l : Nat), (pcI k e l).length = e := by
  intro e
  induction e with
  | zero => intro l; rfl
  | succ e ih => intro l; show (pcI k e (l + 1)).length + 1 = e + 1; rw [ih]
def lnT (n : Nat) : Nat → Nat → Nat
  | 0, _ => 0
  | e + 1, k => (n - (k + 1)) + lnT n e (k + 1)
theorem pcO_ln {n : Nat} : ∀ (e k : Nat), (pcO n e k).length = lnT n e k := by
  intro e
  induction e with
  | zero => intro k; rfl
  | succ e ih => intro k; show (pcI k _ _ ++ pcO n e (k + 1)).length = _; rw [List.length_append, pcI_len, ih]; rfl
theorem lnT_45 : ∀ n, n ≤ 10 → lnT n n 0 ≤ 45 := by decide
