/-! lost -/
theorem q_xy {j n i : Nat} {S : Sst} (hj : j < 3) (hn : n = S.1) (hi : i < n) : qZ j (cN n S.2.1) i = (uZ (uOf S j) i, uZ (vOf S j) i, 0) := by
  have a0 : cN n S.2.1 (3 * i) = S.2.1 (3 * i) := cN_at (by omega)
  have a1 : cN n S.2.1 (3 * i + 1) = S.2.1 (3 * i + 1) := cN_at (by omega)
  have a2 : cN n S.2.1 (3 * i + 2) = S.2.1 (3 * i + 2) := cN_at (by omega)
  unfold qZ ptZ
  rw [a0, a1, a2]
  have : j = 0 ∨ j = 1 ∨ j = 2 := by omega
  rcases this with rfl | rfl | rfl <;> rfl
theorem good_iff {j n T m : Nat} {C : Nat → Int32} {x y : Nat → Int} (hj : j < 3) (h10 : n ≤ 10) (hm : m < 2 ^ n) (hx : ∀ i, i < n → qZ j C i = (x i, y i, 0)) : gdF x y T n m = true ↔ 100 * frA (wdA n m (qZ j C)) (jdS j n m C) ≤ T * T * frB (wdA n m (qZ j C)) (jdS j n m C) := by
  rw [gdF_iff h10 hm]
  have hp := pw_lt h10
  have j3 : j ≠ 3 := by omega
  obtain ⟨A, hA⟩ : ∃ A, A = wdA n m (qZ j C) := ⟨_, rfl⟩
  have nA : ∀ t, 0 ≤ A t := fun t => by rw [hA]; exact wdA_nn
  have hmn : ∀ i, i < 10 → bt m i → i < n := fun i _ hb => tb_sub hm (bt_tb.mp hb)
  have hs : jdS j n m C = sfo (wdA n m (qZ j C)) (cdS j m C) := jdS_eq
  have hmin := sfo_min (A := wdA n m (qZ j C)) (fun t => wd_scale) (cdS j m C)
  rw [hs, ← hA]
  rw [← hA] at hmin
  have dl : ∀ p q, p < n → q < n → dsZ x y p q = dt (c1 (sb (qZ j C q) (qZ j C p))) (c1 (sb (qZ j C q) (qZ j C p))) := fun p q hp' hq => (cr_dt hx hp' hq hp' hq).2
  have hall : ∀ p q, p < q → q < n → 0 < dsZ x y p q → c1 (sb (qZ j C q) (qZ j C p)) ∈ cdS j (2 ^ n - 1) C ∧ c1 (sb (qZ j C q) (qZ j C p)) ≠ (0, 0, 0) := fun p q h1 h2 h3 => by
    refine ⟨?_, fun z => ?_⟩
    · unfold cdS cdQ
      rw [if_neg j3]
      refine List.mem_map.mpr ⟨vcP j C (10 * p + q), (lnL_mem 100 0 _).mpr ⟨10 * p + q, by omega, by omega, ⟨by omega, ?_, ?_⟩, rfl⟩, ?_⟩
      · rw [show (10 * p + q) / 10 = p by omega]; exact (btF n h10 p (by omega)).mpr (by omega)
      · rw [show (10 * p + q) % 10 = q by omega]; exact (btF n h10 q (by omega)).mpr h2
      · unfold vcP; rw [show (10 * p + q) / 10 = p by omega, show (10 * p + q) % 10 = q by omega]
    · rw [dl p q (by omega) h2, z] at h3
      exact absurd h3 (by decide)
  cases es : sfo A (cdS j m C) with
  | none =>
    have hz := hmin.1 es
    refine ⟨fun _ => ?_, fun _ => ?_⟩
    · show 100 * (0 / Nat.gcd 0 1) ≤ _
      simp
    · by_cases L : ∃ p q, p < q ∧ q < n ∧ 0 < dsZ x y p q
      · obtain ⟨p, q, a, b, c⟩ := L
        refine Or.inr (Or.inr ⟨p, q, a, b, c, ?_⟩)
        rw [fit_wd hx (by omega) b]
        -- all of the set are seen in one place
        have one : ∀ a' b', a' < n → bt m a' → b' < n → bt m b' → dt (c1 (sb (qZ j C q) (qZ j C p))) (sb (qZ j C a') (qZ j C b')) = 0 := fun a' b' h3 h4 h5 h6 => by
          have o : cx ez (sb (qZ j C a') (qZ j C b')) = (0, 0, 0) := by
            refine Classical.byContradiction fun y' => ?_
            obtain ⟨t, ht, e⟩ := dir_2 (j := j) (m := m) (a := b') (b := a') (C := C) j3 ⟨by omega, h6⟩ ⟨by omega, h4⟩ y'
            have z := hz t ht
            rcases e with e | e
            · exact y' (e.symm.trans z)
            · exact y' (ng_0.mp (e.symm.trans z))
          obtain ⟨y1, y2, y3⟩ := cx_0 o
          simp only [ez] at y1 y2 y3
          have e1 : (sb (qZ j C a') (qZ j C b')).1 = 0 := by omega
          have e2 : (sb (qZ j C a') (qZ j C b')).2.1 = 0 := by omega
          simp only [dt, c1]
          rw [e1, e2]
          simp
        have w0 : wdA n m (qZ j C) (c1 (sb (qZ j C q) (qZ j C p))) = 0 := by
          by_cases ne : ∃ i, i < n ∧ bt m i
          · obtain ⟨⟨a', b', ha', hb', e⟩, -⟩ := rgN_RG (n := n) (Q := qZ j C) (d := c1 (sb (qZ j C q) (qZ j C p))) ne
            rw [one a' b' ha'.1 ha'.2 hb'.1 hb'.2] at e
            unfold wdA; rw [e]; rfl
          · unfold wdA; rw [rgN_0 ne]; rfl
        rw [w0]
        have := Int.mul_nonneg (sqNN (T : Int)) (dt_nn (c1 (sb (qZ j C q) (qZ j C p))))
        omega
      · exact Or.inr (Or.inl L)
  | some e =>
    obtain ⟨⟨t1, a1, a2, a3⟩, hle⟩ := hmin.2 e es
    have e0 : e ≠ (0, 0, 0) := by rw [a3]; exact nrm_ne a2
    have D0 : 0 < (dt e e).natAbs := by have := dt_p e0; omega
    have own : A t1 * dt e e = A e * dt t1 t1 := by
      have q1 : A t1 = gv t1 * gv t1 * A (nrm t1) := by rw [hA]; exact wd_scale
      rw [q1, dt_nrm2 t1, a3]; grind
    have red_ : 100 * frA A (some e) ≤ T * T * frB A (some e) ↔ 100 * (A e).natAbs ≤ T * T * (dt e e).natAbs := by
      have := red_le (N := (A e).natAbs) (D := (dt e e).natAbs) (W := T * T) (B := 100) D0
      show 100 * (red (A e).natAbs (dt e e).natAbs).1 ≤ T * T * (red (A e).natAbs (dt e e).natAbs).2 ↔ _
      rw [Nat.mul_comm 100, this, Nat.mul_comm 100]
    rw [red_]
    have int_ : 100 * (A e).natAbs ≤ T * T * (dt e e).natAbs ↔ 100 * A e ≤ (T * T : Int) * dt e e := by
      have h1 : ((A e).natAbs : Int) = A e := by have := nA e; omega
      have h2 : ((dt e e).natAbs : Int) = dt e e := by have := dt_nn e; omega
      rw [← Int.ofNat_le, Int.natCast_mul, Int.natCast_mul, Int.natCast_mul, h1, h2]
      rfl
    rw [int_]
    have e00 : 0 < dt e e := dt_p e0
    -- m is not empty, and there is a line
    obtain ⟨a, b, ha, hb, et⟩ := way_2 j3 a1
    have han := hmn a ha.1 ha.2
    have hbn := hmn b hb.1 hb.2
    have m0 : m ≠ 0 := fun z => by
      have := bt_tb.mp ha.2
      rw [z] at this; simp at this
    constructor
    · rintro (h | h | ⟨p, q, h1, h2, h3, hf⟩)
      · exact absurd h m0
      · exfalso
        have t10 : 0 < dt t1 t1 := dt_p a2
        have hab : a ≠ b := fun z => a2 (by rw [et, z]; simp [cx, sb])
        rcases Nat.lt_or_ge a b with q | q
        · refine h ⟨a, b, q, hbn, ?_⟩
          rw [dl a b han hbn, c1_ez, ← et]; exact t10
        · refine h ⟨b, a, by omega, han, ?_⟩
          rw [dl b a hbn han]
          have : c1 (sb (qZ j C a) (qZ j C b)) = ngV t1 := by rw [et, c1_ez]; refine V3x ?_ ?_ ?_ <;> simp only [cx, sb, ngV, ez] <;> grind
          rw [this, dt_ng2]; exact t10
      · rw [fit_wd hx (by omega) h2, ← hA] at hf
        obtain ⟨mem, tne⟩ := hall p q h1 h2 h3
        obtain ⟨t, ht⟩ : ∃ t, t = c1 (sb (qZ j C q) (qZ j C p)) := ⟨_, rfl⟩
        rw [← ht] at hf mem tne
        obtain ⟨t3, g1, g2, g3⟩ := GG (n := n) (w := t) (by omega) hmn h10 (fun y' => cdS_z y' mem) a1 a2
        rw [← hA] at g3
        have g4 := hle t3 g1 g2
        have t0 := dt_p tne
        have t30 := dt_p g2
        -- A e / B e <= A t / B t
        have g5 : A e * dt t t ≤ A t * dt e e := fz_tr t30 (Int.le_of_lt e00) (Int.le_of_lt t0) g4 g3
        refine Int.le_of_mul_le_mul_right (a := dt t t) ?_ t0
        have k1 := Int.mul_le_mul_of_nonneg_right hf (Int.le_of_lt e00)
        have r1 : 100 * A e * dt t t = 100 * (A e * dt t t) := by grind
        have r2 : 100 * A t * dt e e = 100 * (A t * dt e e) := by grind
        have r3 : (T * T : Int) * dt e e * dt t t = (T * T : Int) * dt t t * dt e e := by grind
        omega
    · intro h
      have t10 : 0 < dt t1 t1 := dt_p a2
      have hab : a ≠ b := fun z => a2 (by rw [et, z]; simp [cx, sb])
      have f1 : 100 * A t1 ≤ (T * T : Int) * dt t1 t1 := by
        refine Int.le_of_mul_le_mul_right (a := dt e e) ?_ e00
        have k1 := Int.mul_le_mul_of_nonneg_right h (Int.le_of_lt t10)
        have r1 : 100 * A t1 * dt e e = 100 * (A t1 * dt e e) := by grind
        have r2 : 100 * A e * dt t1 t1 = 100 * (A e * dt t1 t1) := by grind
        have r3 : (T * T : Int) * dt t1 t1 * dt e e = (T * T : Int) * dt e e * dt t1 t1 := by grind
        omega
      rcases Nat.lt_or_ge a b with q | q
      · have ec : c1 (sb (qZ j C b) (qZ j C a)) = t1 := by rw [c1_ez, ← et]
        refine Or.inr (Or.inr ⟨a, b, q, hbn, by rw [dl a b han hbn, ec]; exact t10, ?_⟩)
        rw [fit_wd hx han hbn, ec, ← hA]
        exact f1
      · have ec : c1 (sb (qZ j C a) (qZ j C b)) = ngV t1 := by rw [et, c1_ez]; refine V3x ?_ ?_ ?_ <;> simp only [cx, sb, ngV, ez] <;> grind
        refine Or.inr (Or.inr ⟨b, a, by omega, han, by rw [dl b a hbn han, ec, dt_ng2]; exact t10, ?_⟩)
        rw [fit_wd hx hbn han, ec, wd_ng, dt_ng2, ← hA]
        exact f1
theorem gdA_iff {a b T : Nat} (ha : a ≤ 26244000000) (hb : b ≤ 9720000) (hT : T ≤ 999) : gdA a b (nI T) = 0 ↔ ¬ 100 * a ≤ T * T * b := by
  have m1 := mulb hT hT
  have m2 := mulb m1 hb
  have e1 : (100 : Int64) * lN a = lN (100 * a) := lN_mul 100 a
  have e2 : (nI T).toInt64 * (nI T).toInt64 * lN b = lN (T * T * b) := by rw [nI_lJ (by omega), lN_mul, lN_mul]
  unfold gdA
  rw [e1, e2]
  have c : 0 < lg_cmp (lN (100 * a)) (lN (T * T * b)) ↔ T * T * b < 100 * a := by rw [lgc_gt, pk_lLT (by omega) (by omega)]
  by_cases q : T * T * b < 100 * a
  · rw [if_pos (c.mpr q)]; simp; omega
  · rw [if_neg (fun z => q (c.mp z))]; simp; omega
