
theorem LN_0 {C : Nat → Int32} : LN 0 C = [] := rfl
theorem cdP_0 {j : Nat} : cdP j [] = [] := by
  unfold cdP
  split <;> rfl
theorem z0.zf {w : Wd} {z j : Nat} (h : z0 w z j 10) : ZF w z j 0 (fun _ => 0) := by
  obtain ⟨⟨a1, a2, a3, a4, a5, a6, a7, a8, a9, a10, a11, a12, a13, a14, a15, a16, a17⟩, hf, hk⟩ := h
  unfold ZF
  rw [LN_0, cdP_0]
  have e : sfo (wdP 0 (fun _ => 0)) [] = none := rfl
  rw [e]
  refine ⟨⟨a1, a2, a3, a4, a5, a6, a7, a8, a9, a10, a11, a12, hf.1, a13, a14, fun k h => ⟨(hk k h).1, (hk k h).2.1⟩⟩, a15, ⟨a16, by omega, fun i hi => absurd hi (by omega)⟩, fun i hi => absurd hi (by omega), rfl, a17, ?_, fun e he => (by cases he), fun _ => (0, 1), fun k h => (hk k h).2, fun _ _ => (⟨by decide, by decide, by decide, by decide⟩ : fOK (0, 1)), fun _ k hk => rfl, fun q => absurd rfl q⟩
  have e1 : frA (wdP 0 fun _ => 0) none = 0 := by unfold frA nmO; exact Nat.zero_div _
  have e2 : frB (wdP 0 fun _ => 0) none = 1 := by unfold frB nmO dnO; rfl
  rw [e1, e2]
  exact hf
theorem clS0.cp {w u : Wd} {b : Nat} (h : clS0 w b) (s : ∀ c, c < b + 125 → Sc w u c) : CP u b (cst0, 0, (fun _ => cst0), none) sht0 (0, fun _ => 0) := by
  obtain ⟨h1, h2, h3, h4, h5, h6, h7, h8, h9, h10, h11, h12, h13⟩ := h
  have s0 := s b (by omega)
  refine ⟨⟨?_, scIsS h3 (fun c _ _ => s c (by omega)), (pa0S h4 (fun c _ _ => s c (by omega))).is _, (s0.1 _).trans h2, (scIsS h5 (fun c _ _ => s c (by omega))).1, 0, fun _ => cst0, (pa0S h6 (fun c _ _ => s c (by omega))).is _⟩, CSS h10 (fun c _ _ => s c (by omega)), CTS h9 (fun c _ _ => s c (by omega)), isVS h7 (fun c _ _ => s c (by omega)), isOS h8 (fun c _ _ => s c (by omega)), ⟨0, 1, frIsS h11 (s _ (by omega))⟩, (s _ (by omega)).2.2.2.trans h12, fun j hj => ⟨((s _ (by omega)).2.2.1 _).trans (h13 j hj).1, 0, fun _ => 0, (z0S (h13 j hj).2 (fun c _ _ => s c (by omega))).zf⟩⟩
  unfold isCl
  simp only [s0.2.2.1, s0.2.2.2]
  exact h1
theorem mdS0.mp {w : Wd} {o : Nat} (h : mdS0 w o) : MP w o (cst0, 0, (fun _ => cst0), none) sht0 (0, fun _ => 0) := by
  obtain ⟨h1, h2, h3, h4, h5, h6, h7⟩ := h
  exact ⟨⟨h1, ⟨h3, by decide, h4, h5, fun i hi => absurd hi (by simp only [cst0]; omega)⟩, ⟨h2 2, Nat.zero_le _, fun k hk => absurd hk (Nat.not_lt_zero k)⟩, h2 4⟩, ⟨h1, fun k hk => ⟨h6 k hk, fun i hi => h7 _⟩⟩, ⟨h1, h2 6, by omega, fun i hi => absurd hi (by omega)⟩⟩
theorem okC_0 : okC (cst0, 0, (fun _ => cst0), none) := by
  refine ⟨⟨fun i hi => absurd hi (by simp only [cst0]; omega), by decide, by decide⟩, fun k hk => absurd hk (by simp only; omega), fun S m P h => (by cases h)⟩
/-- the two objects as the law makes them -/
theorem inv_start {w : Wd} {b : Nat} (n0 : nxt w = b) : ∃ u v, fX8_init [.ref b] (mk1 w 8 0 11) = some (none, u) ∧ nxt u = b + 125 ∧ slt u = slt w + 2737 ∧ fX9_init [.ref (b + 125)] (mk1 u 9 0 28) = some (none, v) ∧ nxt v = b + 138 ∧ slt v = slt w + 3507 ∧ INV v b := by
  obtain ⟨u, e, E, F⟩ := s_X8_init (b := b) (w := mk1 w 8 0 11) (if_pos n0.symm) (by rw [nxt_mk1, n0])
  have nu : nxt u = b + 125 := by rw [E.2.1, nxt_mk1, n0]
  obtain ⟨v, e', E', F'⟩ := s_X9_init (o := b + 125) (w := mk1 u 9 0 28) (if_pos nu.symm) (by rw [nxt_mk1, nu]) (fun j => ⟨if_pos nu.symm, if_pos nu.symm⟩)
  refine ⟨u, v, e, nu, by rw [E.2.2, slt_mk1], e', by rw [E'.2.1, nxt_mk1, nu], by rw [E'.2.2, slt_mk1, E.2.2, slt_mk1], (cst0, 0, (fun _ => cst0), none), sht0, (0, fun _ => 0), okC_0, F.cp (fun c hc => (Sc.m1 (by omega)).tr (E'.1 c hc)), F'.mp⟩
