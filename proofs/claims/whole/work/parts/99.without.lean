/-! without one -/
theorem PQt {j n : Nat} {C : Nat → Int32} (hj : j < 4) (h10 : n ≤ 10) : (∀ t, t ∈ cdS j (2 ^ n - 1) C → ∃ p, p ∈ cdP j (LN n C) ∧ zax j p ∧ (t = prj j p ∨ t = ngV (prj j p))) ∧ (∀ p, p ∈ cdP j (LN n C) → ∃ t, t ∈ cdS j (2 ^ n - 1) C ∧ zax j p ∧ (t = prj j p ∨ t = ngV (prj j p))) := by
  unfold cdS
  rw [lnL_map, pc_cd h10]
  by_cases q : j = 3
  · subst q
    have e2 : ∀ L, cdQ 3 L = cdP 3 L := fun L => by unfold cdQ cdP; rw [if_pos rfl, if_pos rfl]
    have hz : ∀ p, zax 3 p := fun p => ⟨fun h => by omega, fun h => by omega, fun h => by omega⟩
    rw [e2]
    exact ⟨fun t ht => ⟨t, ht, hz t, Or.inl rfl⟩, fun t ht => ⟨t, ht, hz t, Or.inl rfl⟩⟩
  · have hj3 : j < 3 := by omega
    unfold cdQ cdP LN
    rw [if_neg q, if_neg q]
    constructor
    · intro t ht
      obtain ⟨l, hl, e⟩ := List.mem_map.mp ht
      obtain ⟨p, hp, e2⟩ := List.mem_map.mp hl
      obtain ⟨z1, z2⟩ := c1_prj hj3 (l := vcP 3 C p)
      refine ⟨_, List.mem_map.mpr ⟨vcP 3 C p, List.mem_map.mpr ⟨p, hp, rfl⟩, rfl⟩, z1, ?_⟩
      rw [← e, ← e2, prj_vc hj]
      exact z2
    · intro t ht
      obtain ⟨l, hl, e⟩ := List.mem_map.mp ht
      obtain ⟨p, hp, e2⟩ := List.mem_map.mp hl
      obtain ⟨z1, z2⟩ := c1_prj hj3 (l := vcP 3 C p)
      have e' : t = cx (vcP 3 C p) (axv j) := by rw [← e, ← e2]
      refine ⟨c1 (vcP j C p), List.mem_map.mpr ⟨vcP j C p, List.mem_map.mpr ⟨p, hp, rfl⟩, rfl⟩, by rw [e']; exact z1, ?_⟩
      rw [e', prj_vc hj]
      exact z2
theorem PQ_v {j n m : Nat} {C : Nat → Int32} {t p : V3} (hj : j < 4) (hz : zax j p) (h : t = prj j p ∨ t = ngV (prj j p)) : wdA n m (qZ j C) t = wdA n m (ptZ C) p ∧ dt t t = dt p p ∧ (t = (0, 0, 0) ↔ p = (0, 0, 0)) := by
  rcases h with rfl | rfl
  · exact ⟨prj_wd hj hz, prj_dt hj hz p, prj_0 hj hz⟩
  · exact ⟨by rw [wd_ng]; exact prj_wd hj hz, by rw [dt_ng2]; exact prj_dt hj hz p, by rw [ng_0]; exact prj_0 hj hz⟩
theorem cdS_z {j m : Nat} {C : Nat → Int32} {t : V3} (hj : j ≠ 3) (h : t ∈ cdS j m C) : t.2.2 = 0 := by
  unfold cdS cdQ at h
  rw [if_neg hj] at h
  obtain ⟨l, -, e⟩ := List.mem_map.mp h
  rw [← e]; rfl
/-- the ways of a part are ways of the whole -/
theorem cdS_sub {j m M : Nat} {C : Nat → Int32} {t : V3} (hj : j < 4) (hs : ∀ i, i < 10 → bt m i → bt M i) (h : t ∈ cdS j m C) (hne : t ≠ (0, 0, 0)) : ∃ t', t' ∈ cdS j M C ∧ (t' = t ∨ t' = ngV t) := by
  by_cases q : j = 3
  · subst q
    obtain ⟨a, b, c, d, ha, hb, hc, hd, e⟩ := way_3 h
    have := dir_3 (m := M) (C := C) ⟨ha.1, hs _ ha.1 ha.2⟩ ⟨hb.1, hs _ hb.1 hb.2⟩ ⟨hc.1, hs _ hc.1 hc.2⟩ ⟨hd.1, hs _ hd.1 hd.2⟩ (by rw [← e]; exact hne)
    rw [← e] at this
    exact this
  · obtain ⟨a, b, ha, hb, e⟩ := way_2 q h
    obtain ⟨t', h1, h2⟩ := dir_2 (j := j) (m := M) (C := C) q ⟨ha.1, hs _ ha.1 ha.2⟩ ⟨hb.1, hs _ hb.1 hb.2⟩ (by rw [cx_ng, ← e]; exact fun y => hne (ng_0.mp y))
    rw [cx_ng, ← e, ng_ng] at h2
    exact ⟨t', h1, h2.symm⟩
theorem cxs (a b c : V3) : sb a b = sb (sb a c) (sb b c) := by
  refine V3x ?_ ?_ ?_ <;> simp only [sb] <;> grind
/-- where a part has no way, but the whole has one, some way of the whole finds the part flat -/
theorem flat {j n k : Nat} {C : Nat → Int32} {t0 : V3} (hj : j < 4) (h10 : n ≤ 10) (hk : k < n) (hz : ∀ t, t ∈ cdS j (2 ^ n - 1 - 2 ^ k) C → t = (0, 0, 0)) (h0 : t0 ∈ cdS j (2 ^ n - 1) C) (hne : t0 ≠ (0, 0, 0)) : ∃ t, t ∈ cdS j (2 ^ n - 1) C ∧ t ≠ (0, 0, 0) ∧ wdA n (2 ^ n - 1 - 2 ^ k) (qZ j C) t = 0 := by
  have bF := fun i (hi : i < 10) => btF n h10 i hi
  have bW := fun i (hi : i < 10) => btW n h10 k hk i hi
  have flat0 : ∀ t, (∀ a b, a < n → a ≠ k → b < n → b ≠ k → dt t (sb (qZ j C a) (qZ j C b)) = 0) → wdA n (2 ^ n - 1 - 2 ^ k) (qZ j C) t = 0 := fun t h => by
    by_cases q : ∃ i, i < n ∧ bt (2 ^ n - 1 - 2 ^ k) i
    · obtain ⟨⟨a, b, ha, hb, e⟩, -⟩ := rgN_RG (n := n) (Q := qZ j C) (d := t) q
      rw [h a b ha.1 ((bW a (by omega)).mp ha.2).2 hb.1 ((bW b (by omega)).mp hb.2).2] at e
      unfold wdA; rw [e]; rfl
    · unfold wdA; rw [rgN_0 q]; rfl
  by_cases q : j = 3
  · subst q
    obtain ⟨Q, hQ⟩ : ∃ Q, Q = qZ 3 C := ⟨_, rfl⟩
    -- all of the part lie along each other
    have col : ∀ a b c d, a < n → a ≠ k → b < n → b ≠ k → c < n → c ≠ k → d < n → d ≠ k → cx (sb (Q b) (Q a)) (sb (Q d) (Q c)) = (0, 0, 0) := fun a b c d a1 a2 b1 b2 c1 c2 d1 d2 => by
      refine Classical.byContradiction fun y => ?_
      rw [hQ] at y
      obtain ⟨t, ht, es⟩ := dir_3 (m := 2 ^ n - 1 - 2 ^ k) (C := C) ⟨by omega, (bW a (by omega)).mpr ⟨a1, a2⟩⟩ ⟨by omega, (bW b (by omega)).mpr ⟨b1, b2⟩⟩ ⟨by omega, (bW c (by omega)).mpr ⟨c1, c2⟩⟩ ⟨by omega, (bW d (by omega)).mpr ⟨d1, d2⟩⟩ y
      have z := hz t ht
      rcases es with es | es
      · exact y (es.symm.trans z)
      · exact y (ng_0.mp (es.symm.trans z))
    obtain ⟨a0, b0, c0, d0, ha0, hb0, hc0, hd0, e0⟩ := way_3 h0
    rw [← hQ] at e0
    have fa := (bF a0 ha0.1).mp ha0.2
    have fb := (bF b0 hb0.1).mp hb0.2
    have fc := (bF c0 hc0.1).mp hc0.2
    have fd := (bF d0 hd0.1).mp hd0.2
    -- one of the part
    obtain ⟨p, p1, p2⟩ : ∃ p, p < n ∧ p ≠ k := by
      by_cases y : a0 = k
      · by_cases y' : b0 = k
        · exfalso; apply hne; rw [e0, y, y']; simp [cx, sb]
        · exact ⟨b0, fb, y'⟩
      · exact ⟨a0, fa, y⟩
    -- vectors from p
    obtain ⟨V, hV⟩ : ∃ V : Nat → V3, V = fun i => sb (Q i) (Q p) := ⟨_, rfl⟩
    have vs : ∀ a b, sb (Q b) (Q a) = sb (V b) (V a) := fun a b => by rw [hV]; exact cxs _ _ _
    have lin : ∀ a b c d, cx (sb (V b) (V a)) (sb (V d) (V c)) = sb (sb (cx (V b) (V d)) (cx (V b) (V c))) (sb (cx (V a) (V d)) (cx (V a) (V c))) := fun a b c d => by
      refine V3x ?_ ?_ ?_ <;> simp only [cx, sb] <;> grind
    have anti : ∀ a b, cx (V a) (V b) = (0, 0, 0) → cx (V b) (V a) = (0, 0, 0) := fun a b h => by rw [cx_ng, h]; rfl
    obtain ⟨i, i1, i2⟩ : ∃ i, (i < n ∧ i ≠ k) ∧ cx (V i) (V k) ≠ (0, 0, 0) := by
      refine Classical.byContradiction fun y => hne ?_
      have y' : ∀ i, i < n → i ≠ k → cx (V i) (V k) = (0, 0, 0) := fun i h1 h2 => Classical.byContradiction fun x => y ⟨i, ⟨h1, h2⟩, x⟩
      have self : ∀ i, cx (V i) (V i) = (0, 0, 0) := fun i => by refine V3x ?_ ?_ ?_ <;> simp only [cx] <;> grind
      have all : ∀ a b, a < n → b < n → cx (V a) (V b) = (0, 0, 0) := fun a b a1 b1 => by
        by_cases qa : a = k <;> by_cases qb : b = k
        · rw [qa, qb]; exact self k
        · rw [qa]; exact anti _ _ (y' b b1 qb)
        · rw [qb]; exact y' a a1 qa
        · have := col p a p b p1 p2 a1 qa p1 p2 b1 qb
          rw [hV]; exact this
      rw [e0, vs, vs, lin, all _ _ fb fd, all _ _ fb fc, all _ _ fa fd, all _ _ fa fc]
      rfl
    obtain ⟨t, ht, es⟩ := dir_3 (m := 2 ^ n - 1) (a := p) (b := i) (c := p) (d := k) (C := C) ⟨by omega, (bF p (by omega)).mpr p1⟩ ⟨by omega, (bF i (by omega)).mpr i1.1⟩ ⟨by omega, (bF p (by omega)).mpr p1⟩ ⟨by omega, (bF k (by omega)).mpr hk⟩ (by
      rw [← hQ]
      rw [hV] at i2
      exact i2)
    rw [← hQ] at es
    have flatV : wdA n (2 ^ n - 1 - 2 ^ k) (qZ 3 C) (cx (V i) (V k)) = 0 := by
      refine flat0 _ (fun a b a1 a2 b1 b2 => ?_)
      rw [← hQ]
      obtain ⟨z1, z2, z3⟩ := cx_0 (col p i b a p1 p2 i1.1 i1.2 b1 b2 a1 a2)
      have e1 : V i = sb (Q i) (Q p) := by rw [hV]
      rw [← e1] at z1 z2 z3
      obtain ⟨x, hx⟩ : ∃ x, x = sb (Q a) (Q b) := ⟨_, rfl⟩
      rw [← hx] at z1 z2 z3 ⊢
      generalize V i = v at *
      generalize V k = u
      simp only [dt, cx]
      grind
    have e1 : cx (sb (Q i) (Q p)) (sb (Q k) (Q p)) = cx (V i) (V k) := by rw [hV]
    rw [e1] at es
    rcases es with es | es
    · exact ⟨t, ht, by rw [es]; exact i2, by rw [es]; exact flatV⟩
    · exact ⟨t, ht, by rw [es]; exact fun y => i2 (ng_0.mp y), by rw [es, wd_ng]; exact flatV⟩
  · refine ⟨t0, h0, hne, flat0 t0 (fun a b a1 a2 b1 b2 => ?_)⟩
    have z0 := cdS_z q h0
    -- all of the part are seen in one place
    have one : cx ez (sb (qZ j C a) (qZ j C b)) = (0, 0, 0) := by
      refine Classical.byContradiction fun y => ?_
      obtain ⟨t, ht, es⟩ := dir_2 (j := j) (m := 2 ^ n - 1 - 2 ^ k) (a := b) (b := a) (C := C) q ⟨by omega, (bW b (by omega)).mpr ⟨b1, b2⟩⟩ ⟨by omega, (bW a (by omega)).mpr ⟨a1, a2⟩⟩ y
      have z := hz t ht
      rcases es with es | es
      · exact y (es.symm.trans z)
      · exact y (ng_0.mp (es.symm.trans z))
    obtain ⟨y1, y2, y3⟩ := cx_0 one
    simp only [ez] at y1 y2 y3
    simp only [dt]
    rw [z0]
    have : (sb (qZ j C a) (qZ j C b)).1 = 0 := by omega
    have : (sb (qZ j C a) (qZ j C b)).2.1 = 0 := by omega
    grind
theorem nat_le {a b c d : Int} (ha : 0 ≤ a) (hb : 0 ≤ b) (hc : 0 ≤ c) (hd : 0 ≤ d) : a * b ≤ c * d ↔ a.natAbs * b.natAbs ≤ c.natAbs * d.natAbs := by
  rw [← Int.ofNat_le, Int.natCast_mul, Int.natCast_mul, show (a.natAbs : Int) = a by omega, show (b.natAbs : Int) = b by omega, show (c.natAbs : Int) = c by omega, show (d.natAbs : Int) = d by omega]
theorem wo_eq {j n k : Nat} {C : Nat → Int32} {ww : Nat → Nat × Nat} (hj : j < 4) (h10 : n ≤ 10) (hb : bdC n C) (hk : k < n) (h : wFin n C (cdP j (LN n C)) (sfo (wdP n C) (cdP j (LN n C))) ww) :
    ww k = (frA (wdA n (2 ^ n - 1 - 2 ^ k) (qZ j C)) (jdS j n (2 ^ n - 1 - 2 ^ k) C), frB (wdA n (2 ^ n - 1 - 2 ^ k) (qZ j C)) (jdS j n (2 ^ n - 1 - 2 ^ k) C)) := by
  obtain ⟨h1, h2, h3⟩ := h
  obtain ⟨f1, f2, f3, f4⟩ := h1 k (by omega)
  obtain ⟨m, hm⟩ : ∃ m, m = 2 ^ n - 1 - 2 ^ k := ⟨_, rfl⟩
  obtain ⟨A, hA⟩ : ∃ A, A = wdA n m (qZ j C) := ⟨_, rfl⟩
  have nA : ∀ t, 0 ≤ A t := fun t => by rw [hA]; exact wdA_nn
  have hmn : ∀ i, i < 10 → bt m i → i < n := fun i hi hb' => by rw [hm] at hb'; exact ((btW n h10 k hk i hi).mp hb').1
  obtain ⟨pq1, pq2⟩ := PQt (C := C) hj h10
  have hmin := sfo_min (A := wdA n m (qZ j C)) (fun t => wd_scale) (cdS j m C)
  have hsS : jdS j n m C = sfo (wdA n m (qZ j C)) (cdS j m C) := jdS_eq
  rw [← hm]
  rw [hsS, ← hA]
  rw [← hA] at hmin
  have so0 : sfo (wdP n C) (cdP j (LN n C)) = none → ∀ t, t ∈ cdS j (2 ^ n - 1) C → t = (0, 0, 0) := fun e t ht => by
    obtain ⟨p, hp, hz, he⟩ := pq1 t ht
    have := (sfo_min (A := wdP n C) (fun t => wd_scale) (cdP j (LN n C))).1 e p hp
    exact (PQ_v (n := n) (m := m) (C := C) hj hz he).2.2.mpr this
  have wK : ∀ p, wdA n m (ptZ C) p = wdK n C k p := fun p => by rw [hm]; rfl
  have low : sfo (wdP n C) (cdP j (LN n C)) ≠ none → ∀ t, t ∈ cdS j (2 ^ n - 1) C → t ≠ (0, 0, 0) → (ww k).1 * (dt t t).natAbs ≤ (A t).natAbs * (ww k).2 := fun e t ht hne => by
    obtain ⟨p, hp, hz, he⟩ := pq1 t ht
    obtain ⟨v1, v2, v3⟩ := PQ_v (n := n) (m := m) (C := C) hj hz he
    have := (h3 e k hk).2 p hp (fun y => hne (v3.mpr y))
    rw [hA, v1, v2, wK]
    exact this
  cases es : sfo A (cdS j m C) with
  | none =>
    have hz := hmin.1 es
    show ww k = (0 / Nat.gcd 0 1, 1 / Nat.gcd 0 1)
    have e01 : ((0 / Nat.gcd 0 1, 1 / Nat.gcd 0 1) : Nat × Nat) = (0, 1) := by decide
    rw [e01]
    cases eo : sfo (wdP n C) (cdP j (LN n C)) with
    | none => exact h2 eo k hk
    | some e =>
      have ne : sfo (wdP n C) (cdP j (LN n C)) ≠ none := by rw [eo]; exact fun y => by cases y
      obtain ⟨⟨p, hp, hpn, -⟩, -⟩ := h3 ne k hk
      obtain ⟨t0, ht0, hz0, he0⟩ := pq2 p hp
      obtain ⟨t, ht, htn, htf⟩ := flat hj h10 hk (by rw [← hm]; exact hz) ht0 (fun y => hpn ((PQ_v (n := n) (m := m) (C := C) hj hz0 he0).2.2.mp y))
      have l := low ne t ht htn
      rw [hA, hm, htf] at l
      have d0 : 0 < (dt t t).natAbs := by have := dt_p htn; omega
      have a0 : (ww k).1 = 0 := by
        rcases Nat.eq_zero_or_pos (ww k).1 with y | y
        · exact y
        · have := Nat.mul_pos y d0
          simp at l
          omega
      rw [a0, Nat.gcd_zero_left] at f2
      exact Prod.ext a0 f2
  | some e =>
    obtain ⟨⟨t1, a1, a2, a3⟩, hle⟩ := hmin.2 e es
    have e0 : e ≠ (0, 0, 0) := by rw [a3]; exact nrm_ne a2
    have D0 : 0 < (dt e e).natAbs := by have := dt_p e0; omega
    have hs : ∀ i, i < 10 → bt m i → bt (2 ^ n - 1) i := fun i hi hb' => (btF n h10 i hi).mpr (hmn i hi hb')
    obtain ⟨t2, b1, b2⟩ := cdS_sub hj hs a1 a2
    have v2 : A t2 = A t1 ∧ dt t2 t2 = dt t1 t1 ∧ t2 ≠ (0, 0, 0) := by
      rcases b2 with y | y
      · rw [y]; exact ⟨rfl, rfl, a2⟩
      · rw [y, hA]; exact ⟨wd_ng, dt_ng2 _, fun x => a2 (ng_0.mp x)⟩
    have ne : sfo (wdP n C) (cdP j (LN n C)) ≠ none := fun y => v2.2.2 (so0 y t2 b1)
    -- v <= alpha / beta
    have l1 := low ne t2 b1 v2.2.2
    rw [v2.1, v2.2.1] at l1
    have own : A t1 * dt e e = A e * dt t1 t1 := by
      have q1 : A t1 = gv t1 * gv t1 * A (nrm t1) := by rw [hA]; exact wd_scale
      rw [q1, dt_nrm2 t1, a3]; grind
    have k1 : (ww k).1 * (dt e e).natAbs ≤ (A e).natAbs * (ww k).2 := by
      have d1 : 0 < (dt t1 t1).natAbs := by have := dt_p a2; omega
      have := (nat_le (nA t1) (dt_nn e) (nA e) (dt_nn t1)).mp (Int.le_of_eq own)
      exact fr_tr d1 l1 this
    -- alpha / beta <= v
    obtain ⟨p, hp, hpn, hpl⟩ := (h3 ne k hk).1
    obtain ⟨t0, ht0, hz0, he0⟩ := pq2 p hp
    obtain ⟨w1, w2, w3⟩ := PQ_v (n := n) (m := m) (C := C) hj hz0 he0
    rw [← wK, ← w1, ← w2, ← hA] at hpl
    have ht0n : t0 ≠ (0, 0, 0) := fun y => hpn (w3.mp y)
    obtain ⟨t3, c1, c2, c3⟩ := GG (n := n) (w := t0) hj hmn h10 (fun y => cdS_z y ht0) a1 a2
    rw [← hA] at c3
    have c4 := (nat_le (nA t3) (dt_nn t0) (nA t0) (dt_nn t3)).mp c3
    have c5 := (nat_le (nA e) (dt_nn t3) (nA t3) (dt_nn e)).mp (hle t3 c1 c2)
    have d3 : 0 < (dt t3 t3).natAbs := by have := dt_p c2; omega
    have d00 : 0 < (dt t0 t0).natAbs := by have := dt_p ht0n; omega
    have k2 : (A e).natAbs * (ww k).2 ≤ (ww k).1 * (dt e e).natAbs := fr_tr d00 (fr_tr d3 c5 c4) hpl
    have k3 : (ww k).1 * (dt e e).natAbs = (A e).natAbs * (ww k).2 := Nat.le_antisymm k1 k2
    obtain ⟨u1, u2⟩ := fr_uniq (a := (ww k).1) (b := (ww k).2) (c := (red (A e).natAbs (dt e e).natAbs).1) (d := (red (A e).natAbs (dt e e).natAbs).2) f1 (red_pos D0) f2 (red_co D0) ((red_eq D0).mpr k3)
    exact Prod.ext u1 u2
