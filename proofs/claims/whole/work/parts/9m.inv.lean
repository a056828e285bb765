/-! all that class and reference hold -/
def CP (w : Wd) (b : Nat) (c : Cst) (H : Sht) (T : Tst) : Prop := CC w b c ∧ CS w (b + 44) H ∧ CT w (b + 41) T ∧ isV w (b + 33) ∧ isO w (b + 38) ∧ (∃ A B, frIs w (b + 52) A B) ∧ ZZ w b
def MP (w : Wd) (o : Nat) (c : Cst) (H : Sht) (T : Tst) : Prop := MC w o c ∧ MS w o H ∧ MT w o T
theorem isO.fr {w u : Wd} {lo hi d : Nat} (h : isO w d) (f : Fr lo hi w u) (hd : d < lo ∨ hi ≤ d) : isO u d := by
  have e : ∀ j, rdR u d j = rdR w d j := fun j => f.R hd
  unfold isO
  simp only [f.shp, e]
  exact h
theorem CP.fr {w u : Wd} {lo hi b : Nat} {c : Cst} {H : Sht} {T : Tst} (h : CP w b c H T) (f : Fr lo hi w u) (hd : hi ≤ b ∨ b + 125 ≤ lo) : CP u b c H T := by
  obtain ⟨h1, h2, h3, h4, h5, ⟨A, B, h6⟩, h7⟩ := h
  exact ⟨h1.fr f (by omega), h2.fr f (by omega), h3.fr f (by omega), h4.fr f (by omega), h5.fr f (by omega), ⟨A, B, h6.fr f (by omega)⟩, h7.fr f (by omega) (by omega)⟩
theorem isMd.fr {w u : Wd} {lo hi o : Nat} (h : isMd w o) (f : Fr lo hi w u) (hd : hi ≤ o) : isMd u o := by
  have e : ∀ j, rdR u o j = rdR w o j := fun j => f.R (by omega)
  unfold isMd
  simp only [f.shp, e]
  exact h
theorem MP.fr {w u : Wd} {lo hi o : Nat} {c : Cst} {H : Sht} {T : Tst} (h : MP w o c H T) (f : Fr lo hi w u) (hd : hi ≤ o) : MP u o c H T := by
  have I : ∀ a j, o ≤ a → rdI u a j = rdI w a j := fun a j ha => f.I (by omega)
  have J : ∀ a j, o ≤ a → rdJ u a j = rdJ w a j := fun a j ha => f.J (by omega)
  obtain ⟨⟨m1, m2, m3, m4⟩, ⟨s1, s2⟩, ⟨t1, t2, t3, t4⟩⟩ := h
  have hm := m1.fr f hd
  refine ⟨⟨hm, m2.congr (fun i _ => I _ _ (by omega)), ⟨(I _ _ (by omega)).trans m3.1, m3.2.1, fun k hk => (m3.2.2 k hk).congr (fun i _ => I _ _ (by omega))⟩, ?_⟩, ⟨hm, fun k hk => ?_⟩, ⟨hm, (I _ _ (by omega)).trans t2, t3, fun i hi => by rw [I _ _ (by omega)]; exact t4 i hi⟩⟩
  · exact m4.fr (I _ _ (by omega)) (fun j => I _ _ (by omega))
  · obtain ⟨k1, k2⟩ := s2 k hk
    refine ⟨?_, fun i hi => (J _ _ (by omega)).trans (k2 i hi)⟩
    cases e : H.1 k with
    | none => rw [e] at k1; exact (I _ _ (by omega)).trans k1
    | some q =>
      rw [e] at k1
      obtain ⟨ll, nn⟩ := q
      exact ⟨k1.1, k1.2.1, (I _ _ (by omega)).trans k1.2.2.1, (I _ _ (by omega)).trans k1.2.2.2⟩
def Xo13 (o : Nat) : Nat → Nat → Prop := fun c _ => o ≤ c ∧ c < o + 13
theorem xo13 {X : Nat → Nat → Prop} {w u : Wd} {o : Nat} (f : FrX X w u) (h : ∀ c j, X c j → o ≤ c ∧ c < o + 13) : Fr o (o + 13) w u := f.fr h
def INV (w : Wd) (b : Nat) : Prop := ∃ c H T, okC c ∧ CP w b c H T ∧ MP w (b + 125) c H T
theorem CC.le {w : Wd} {b : Nat} {c : Cst} (h : CC w b c) : c.2.1 ≤ 6 ∧ c.1.1 ≤ 10 := by
  refine ⟨?_, h.2.1.2.2.1⟩
  obtain ⟨-, -, hp, -⟩ := h
  exact hp.sh.2.2
/-- the reference's core changes -/
theorem MP.core {w u : Wd} {o : Nat} {c c' : Cst} {H : Sht} {T : Tst} (h : MP w o c H T) (hC : MC u o c') (f : FrX (Xc o) w u) : MP u o c' H T := by
  obtain ⟨m, s, t1, t2, t3, t4⟩ := h
  refine ⟨hC, s.frX f (fun c j q => by unfold Xc at q; omega), ⟨hC.1, (f.1 o 6 (fun q => by unfold Xc at q; omega)).trans t2, t3, fun i hi => ?_⟩⟩
  rw [f.1 (o + 4) i (fun q => by unfold Xc at q; omega)]
  exact t4 i hi
/-- the reference's other cells change -/
theorem MP.oth {X : Nat → Nat → Prop} {w u : Wd} {o : Nat} {c : Cst} {H : Sht} {T : Tst} (h : MP w o c H T) (f : FrX X w u) (hx : ∀ a j, X a j → (a = o ∧ 7 ≤ j) ∨ (o + 9 ≤ a ∧ a < o + 12)) : MP u o c H T := by
  obtain ⟨m, s, t1, t2, t3, t4⟩ := h
  refine ⟨m.frX f (fun a j q => by have := hx a j q; omega), s.frX f (fun a j q => by have := hx a j q; omega), ⟨f.md t1, (f.1 o 6 (fun q => by have := hx _ _ q; omega)).trans t2, t3, fun i hi => ?_⟩⟩
  rw [f.1 (o + 4) i (fun q => by have := hx _ _ q; omega)]
  exact t4 i hi
theorem MP.shts {w u : Wd} {o : Nat} {c : Cst} {H H' : Sht} {T : Tst} (h : MP w o c H T) (hS : MS u o H') {X : Nat → Nat → Prop} (f : FrX X w u) (hx : ∀ a j, X a j → (a = o ∧ 7 ≤ j) ∨ (o + 5 ≤ a ∧ a < o + 12)) : MP u o c H' T := by
  obtain ⟨m, s, t1, t2, t3, t4⟩ := h
  refine ⟨m.frX f (fun a j q => by have := hx a j q; omega), hS, ⟨hS.1, (f.1 o 6 (fun q => by have := hx _ _ q; omega)).trans t2, t3, fun i hi => ?_⟩⟩
  rw [f.1 (o + 4) i (fun q => by have := hx _ _ q; omega)]
  exact t4 i hi
theorem CP.core {w u : Wd} {b : Nat} {c c' : Cst} {H : Sht} {T : Tst} (h : CP w b c H T) (hC : CC u b c') (f : Fr b (b + 33) w u) : CP u b c' H T := by
  obtain ⟨h1, h2, h3, h4, h5, ⟨A, B, h6⟩, h7⟩ := h
  exact ⟨hC, h2.fr f (by omega), h3.fr f (by omega), h4.fr f (by omega), h5.fr f (by omega), ⟨A, B, h6.fr f (by omega)⟩, h7.fr f (by omega) (by omega)⟩
theorem CP.shts {w u : Wd} {b : Nat} {c : Cst} {H H' : Sht} {T : Tst} (h : CP w b c H T) (hS : CS u (b + 44) H') (f : Fr (b + 44) (b + 52) w u) : CP u b c H' T := by
  obtain ⟨h1, h2, h3, h4, h5, ⟨A, B, h6⟩, h7⟩ := h
  exact ⟨h1.fr f (by omega), hS, h3.fr f (by omega), h4.fr f (by omega), h5.fr f (by omega), ⟨A, B, h6.fr f (by omega)⟩, h7.fr f (by omega) (by omega)⟩
theorem CP.view {w u : Wd} {b : Nat} {c : Cst} {H : Sht} {T : Tst} (h : CP w b c H T) (hV : isV u (b + 33)) (f : Fr (b + 33) (b + 37) w u) : CP u b c H T := by
  obtain ⟨h1, h2, h3, h4, h5, ⟨A, B, h6⟩, h7⟩ := h
  exact ⟨h1.fr f (by omega), h2.fr f (by omega), h3.fr f (by omega), hV, h5.fr f (by omega), ⟨A, B, h6.fr f (by omega)⟩, h7.fr f (by omega) (by omega)⟩
theorem CP.zns {w u : Wd} {b : Nat} {c : Cst} {H : Sht} {T : Tst} (h : CP w b c H T) (hZ : ZZ u b) (f : Fr (b + 53) (b + 125) w u) : CP u b c H T := by
  obtain ⟨h1, h2, h3, h4, h5, ⟨A, B, h6⟩, h7⟩ := h
  exact ⟨h1.fr f (by omega), h2.fr f (by omega), h3.fr f (by omega), h4.fr f (by omega), h5.fr f (by omega), ⟨A, B, h6.fr f (by omega)⟩, hZ⟩
theorem CP.frac {w u : Wd} {b A' B' : Nat} {c : Cst} {H : Sht} {T : Tst} (h : CP w b c H T) (hq : frIs u (b + 52) A' B') (f : Fr (b + 52) (b + 53) w u) : CP u b c H T := by
  obtain ⟨h1, h2, h3, h4, h5, -, h7⟩ := h
  exact ⟨h1.fr f (by omega), h2.fr f (by omega), h3.fr f (by omega), h4.fr f (by omega), h5.fr f (by omega), ⟨A', B', hq⟩, h7.fr f (by omega) (by omega)⟩
theorem CP.odds {w u : Wd} {b : Nat} {c : Cst} {H : Sht} {T : Tst} (h : CP w b c H T) (hO : isO u (b + 38)) (f : Fr (b + 38) (b + 41) w u) : CP u b c H T := by
  obtain ⟨h1, h2, h3, h4, h5, ⟨A, B, h6⟩, h7⟩ := h
  exact ⟨h1.fr f (by omega), h2.fr f (by omega), h3.fr f (by omega), h4.fr f (by omega), hO, ⟨A, B, h6.fr f (by omega)⟩, h7.fr f (by omega) (by omega)⟩
theorem CP.tape {w u : Wd} {b : Nat} {c : Cst} {H : Sht} {T T' : Tst} (h : CP w b c H T) (hT : CT u (b + 41) T') (f : Fr (b + 41) (b + 44) w u) : CP u b c H T' := by
  obtain ⟨h1, h2, h3, h4, h5, ⟨A, B, h6⟩, h7⟩ := h
  exact ⟨h1.fr f (by omega), h2.fr f (by omega), hT, h4.fr f (by omega), h5.fr f (by omega), ⟨A, B, h6.fr f (by omega)⟩, h7.fr f (by omega) (by omega)⟩
/-- what a call of both does -/
def BOTH (F G : Fnc) (as : List Value) (w : Wd) (b : Nat) : Prop := ∃ r u v, F (.ref b :: as) w = some (some r, u) ∧ G (.ref (b + 125) :: as) u = some (some r, v) ∧ r.category ≤ 2 ∧ INV v b ∧ u.2.2.2 = w.2.2.2 ∧ v.2.2.2 = w.2.2.2
theorem FrX.tail {X : Nat → Nat → Prop} {w u : Wd} (f : FrX X w u) : u.2.2.2 = w.2.2.2 := by rw [f.2.2]
theorem i_cat (x : Int32) : (Value.int x).category ≤ 2 := Nat.le_succ 1
theorem j_cat (x : Int64) : (Value.long x).category ≤ 2 := Nat.le_refl 2
section
variable {w : Wd} {b : Nat}
theorem b_add {x y z : Int32} (h : INV w b) : BOTH fX8_add fX9_add [.int x, .int y, .int z] w b := by
  obtain ⟨c, H, T, hk, hC, hM⟩ := h
  obtain ⟨u, k1, k2, k3⟩ := c_add (x := x) (y := y) (z := z) hC.1
  have hC' := hC.core k2 k3
  have hM' := hM.fr k3 (by omega)
  obtain ⟨v, m1, m2, m3⟩ := m_add (x := x) (y := y) (z := z) hM'.1
  exact ⟨_, u, v, k1, m1, i_cat _, ⟨_, H, T, ok_add hk hC.1.le.1, hC'.fr (xo13 (o := b + 125) m3 (fun c j q => by unfold Xc at q; omega)) (by omega), hM'.core m2 m3⟩, k3.2, m3.tail.trans k3.2⟩
theorem b_out {k : Int32} (h : INV w b) : BOTH fX8_out fX9_out [.int k] w b := by
  obtain ⟨c, H, T, hk, hC, hM⟩ := h
  obtain ⟨u, k1, k2, k3⟩ := c_out (k := k) hC.1
  have hC' := hC.core k2 k3
  have hM' := hM.fr k3 (by omega)
  obtain ⟨v, m1, m2, m3⟩ := m_out (k := k) hM'.1
  exact ⟨_, u, v, k1, m1, i_cat _, ⟨_, H, T, ok_out hk hC.1.le.1, hC'.fr (xo13 (o := b + 125) m3 (fun c j q => by unfold Xc at q; omega)) (by omega), hM'.core m2 m3⟩, k3.2, m3.tail.trans k3.2⟩
theorem b_move {x y z : Int32} (h : INV w b) : BOTH fX8_move fX9_move [.int x, .int y, .int z] w b := by
  obtain ⟨c, H, T, hk, hC, hM⟩ := h
  obtain ⟨u, k1, k2, k3⟩ := c_move (k := x) (a := y) (x := z) hC.1
  have hC' := hC.core k2 k3
  have hM' := hM.fr k3 (by omega)
  obtain ⟨v, m1, m2, m3⟩ := m_move (k := x) (a := y) (x := z) hM'.1
  exact ⟨_, u, v, k1, m1, i_cat _, ⟨_, H, T, ok_move hk hC.1.le.1, hC'.fr (xo13 (o := b + 125) m3 (fun c j q => by unfold Xc at q; omega)) (by omega), hM'.core m2 m3⟩, k3.2, m3.tail.trans k3.2⟩
theorem b_tol {x : Int32} (h : INV w b) : BOTH fX8_tolerance fX9_tolerance [.int x] w b := by
  obtain ⟨c, H, T, hk, hC, hM⟩ := h
  obtain ⟨u, k1, k2, k3⟩ := c_tol (t := x) hC.1
  have hC' := hC.core k2 k3
  have hM' := hM.fr k3 (by omega)
  obtain ⟨v, m1, m2, m3⟩ := m_tol (t := x) hM'.1
  exact ⟨_, u, v, k1, m1, i_cat _, ⟨_, H, T, ok_tol hk hC.1.le.1, hC'.fr (xo13 (o := b + 125) m3 (fun c j q => by unfold Xc at q; omega)) (by omega), hM'.core m2 m3⟩, k3.2, m3.tail.trans k3.2⟩
theorem b_point {x y : Int32} (h : INV w b) : BOTH fX8_point fX9_point [.int x, .int y] w b := by
  obtain ⟨c, H, T, hk, hC, hM⟩ := h
  exact ⟨_, w, w, c_point hC.1, m_point hM.1, i_cat _, ⟨c, H, T, hk, hC, hM⟩, rfl, rfl⟩
theorem b_count {x : Int32} (h : INV w b) : BOTH fX8_count fX9_count [.int x] w b := by
  obtain ⟨c, H, T, hk, hC, hM⟩ := h
  exact ⟨_, w, w, c_count hC.1, m_count hM.1, i_cat _, ⟨c, H, T, hk, hC, hM⟩, rfl, rfl⟩
theorem b_seed {x : Int32} (h : INV w b) : BOTH fX8_seed fX9_seed [.int x] w b := by
  obtain ⟨c, H, T, hk, hC, hM⟩ := h
  obtain ⟨u, k1, k2, k3⟩ := c_seed (v := x) hC.1
  have hC' := hC.core k2 k3
  have hM' := hM.fr k3 (by omega)
  obtain ⟨v, m1, m2, m3⟩ := m_seed (v := x) hM'.1
  exact ⟨_, u, v, k1, m1, i_cat _, ⟨_, H, T, ok_seed hk, hC'.fr (xo13 (o := b + 125) m3 (fun c j q => by unfold Xc at q; omega)) (by omega), hM'.core m2 m3⟩, k3.2, m3.tail.trans k3.2⟩
theorem b_drift {x : Int32} (h : INV w b) : BOTH fX8_drift fX9_drift [.int x] w b := by
  obtain ⟨c, H, T, hk, hC, hM⟩ := h
  obtain ⟨u, k1, k2, k3⟩ := c_drift (n := x) hC.1
  have hC' := hC.core k2 k3
  have hM' := hM.fr k3 (by omega)
  obtain ⟨v, m1, m2, m3⟩ := m_drift (n := x) hM'.1
  exact ⟨_, u, v, k1, m1, i_cat _, ⟨_, H, T, ok_drift hk hC.1.le.1 hC.1.le.2, hC'.fr (xo13 (o := b + 125) m3 (fun c j q => by unfold Xc at q; omega)) (by omega), hM'.core m2 m3⟩, k3.2, m3.tail.trans k3.2⟩
theorem b_undo (h : INV w b) : BOTH fX8_undo fX9_undo [] w b := by
  obtain ⟨c, H, T, hk, hC, hM⟩ := h
  obtain ⟨u, k1, k2, k3⟩ := c_undo hC.1
  have hC' := hC.core k2 k3
  have hM' := hM.fr k3 (by omega)
  obtain ⟨v, m1, m2, m3⟩ := m_undo hM'.1
  exact ⟨_, u, v, k1, m1, i_cat _, ⟨_, H, T, ok_undo hk, hC'.fr (xo13 (o := b + 125) m3 (fun c j q => by unfold Xc at q; omega)) (by omega), hM'.core m2 m3⟩, k3.2, m3.tail.trans k3.2⟩
theorem b_image (h : INV w b) : BOTH fX8_image fX9_image [] w b := by
  obtain ⟨c, H, T, hk, hC, hM⟩ := h
  obtain ⟨u, k1, k2, k3⟩ := c_image hC.1
  have hC' := hC.core k2 k3
  have hM' := hM.fr k3 (by omega)
  obtain ⟨v, m1, m2, m3⟩ := m_image hM'.1
  exact ⟨_, u, v, k1, m1, i_cat _, ⟨_, H, T, ok_image hk, hC'.fr (xo13 (o := b + 125) m3 (fun c j q => by unfold Xc at q; omega)) (by omega), hM'.core m2 m3⟩, k3.2, m3.tail.trans k3.2⟩
theorem b_restore (h : INV w b) : BOTH fX8_restore fX9_restore [] w b := by
  obtain ⟨c, H, T, hk, hC, hM⟩ := h
  obtain ⟨u, k1, k2, k3⟩ := c_restore hC.1
  have hC' := hC.core k2 k3
  have hM' := hM.fr k3 (by omega)
  obtain ⟨v, m1, m2, m3⟩ := m_restore hM'.1
  exact ⟨_, u, v, k1, m1, i_cat _, ⟨_, H, T, ok_restore hk, hC'.fr (xo13 (o := b + 125) m3 (fun c j q => by unfold Xc at q; omega)) (by omega), hM'.core m2 m3⟩, k3.2, m3.tail.trans k3.2⟩
theorem b_sheet {x y z : Int32} (h : INV w b) : BOTH fX8_sheet fX9_sheet [.int x, .int y, .int z] w b := by
  obtain ⟨c, H, T, hk, hC, hM⟩ := h
  obtain ⟨u, k1, k2, k3⟩ := c_sheet (s := x) (l := y) (n := z) hC.1.1 hC.2.1
  have hC' := hC.shts k2 k3
  have hM' := hM.fr k3 (by omega)
  obtain ⟨v, m1, m2, m3⟩ := m_sheet (s := x) (l := y) (n := z) hM'.2.1
  exact ⟨_, u, v, k1, m1, i_cat _, ⟨c, _, T, hk, hC'.fr (xo13 (o := b + 125) m3 (fun c j q => by unfold Xs at q; omega)) (by omega), hM'.shts m2 m3 (fun a j q => by unfold Xs at q; omega)⟩, k3.2, m3.tail.trans k3.2⟩
theorem b_drop {x : Int32} (h : INV w b) : BOTH fX8_drop fX9_drop [.int x] w b := by
  obtain ⟨c, H, T, hk, hC, hM⟩ := h
  obtain ⟨u, k1, k2, k3⟩ := c_drop (s := x) hC.1.1 hC.2.1
  have hC' := hC.shts k2 k3
  have hM' := hM.fr k3 (by omega)
  obtain ⟨v, m1, m2, m3⟩ := m_drop (s := x) hM'.2.1
  exact ⟨_, u, v, k1, m1, i_cat _, ⟨c, _, T, hk, hC'.fr (xo13 (o := b + 125) m3 (fun c j q => by unfold Xs at q; omega)) (by omega), hM'.shts m2 m3 (fun a j q => by unfold Xs at q; omega)⟩, k3.2, m3.tail.trans k3.2⟩
theorem b_item {x y z : Int32} {q : Int64} (h : INV w b) : BOTH fX8_item fX9_item [.int x, .int y, .int z, .long q] w b := by
  obtain ⟨c, H, T, hk, hC, hM⟩ := h
  obtain ⟨u, r, H', k1, k2, k3, k4⟩ := c_item (s := x) (l := y) (i := z) (v := q) hC.1.1 hC.2.1
  have hC' := hC.shts k3 k4
  have hM' := hM.fr k4 (by omega)
  obtain ⟨v, r', H'', m1, m2, m3, m4⟩ := m_item (s := x) (l := y) (i := z) (v := q) hM'.2.1
  obtain ⟨e1, e2⟩ := rItem_fun k2 m2
  subst e1; subst e2
  exact ⟨_, u, v, k1, m1, i_cat _, ⟨c, _, T, hk, hC'.fr (xo13 (o := b + 125) m4 (fun c j q => by unfold Xs at q; omega)) (by omega), hM'.shts m3 m4 (fun a j q => by unfold Xs at q; omega)⟩, k4.2, m4.tail.trans k4.2⟩
theorem b_copy {x y z t s : Int32} (h : INV w b) : BOTH fX8_copy fX9_copy [.int x, .int y, .int z, .int t, .int s] w b := by
  obtain ⟨c, H, T, hk, hC, hM⟩ := h
  obtain ⟨u, k1, k2, k3⟩ := c_copy (s := x) (i := y) (t := z) (j := t) (n := s) hC.1.1 hC.2.1
  have hC' := hC.shts k2 k3
  have hM' := hM.fr k3 (by omega)
  obtain ⟨v, m1, m2, m3⟩ := m_copy (s := x) (i := y) (t := z) (j := t) (n := s) hM'.2.1
  exact ⟨_, u, v, k1, m1, i_cat _, ⟨c, _, T, hk, hC'.fr (xo13 (o := b + 125) m3 (fun c j q => by unfold Xs at q; omega)) (by omega), hM'.shts m2 m3 (fun a j q => by unfold Xs at q; omega)⟩, k3.2, m3.tail.trans k3.2⟩
theorem b_film {x y z t : Int32} (h : INV w b) : BOTH fX8_film fX9_film [.int x, .int y, .int z, .int t] w b := by
  obtain ⟨c, H, T, hk, hC, hM⟩ := h
  obtain ⟨u, u0, r, H', k1, k2, k3, k4, k5, k6⟩ := c_film (a := x) (s := y) (l := z) (i := t) hC.1 hC.2.2.2.1 hC.2.1
  have hC0 : CC u0 b c ∧ CT u0 (b + 41) T := ⟨hC.1.fr k4 (by omega), hC.2.2.1.fr k4 (by omega)⟩
  have hC' : CP u b c H' T := by
    obtain ⟨h1, h2, h3, h4, h5, ⟨A, B, h6⟩, h7⟩ := hC
    exact ⟨hC0.1.fr k5 (by omega), k3, hC0.2.fr k5 (by omega), k6, (h5.fr k4 (by omega)).fr k5 (by omega), ⟨A, B, (h6.fr k4 (by omega)).fr k5 (by omega)⟩, (h7.fr k4 (by omega) (by omega)).fr k5 (by omega) (by omega)⟩
  have hM' := (hM.fr k4 (by omega)).fr k5 (by omega)
  obtain ⟨v, r', H'', m1, m2, m3, m4⟩ := m_film (a := x) (s := y) (l := z) (i := t) hM'.1 hM'.2.1
  obtain ⟨e1, e2⟩ := rFilm_fun k2 m2
  subst e1; subst e2
  exact ⟨_, u, v, k1, m1, i_cat _, ⟨c, _, T, hk, hC'.fr (xo13 (o := b + 125) m4 (fun c j q => by unfold Xf Xv Xs at q; omega)) (by omega), hM'.shts m3 m4 (fun a j q => by unfold Xf Xv Xs at q; omega)⟩, k5.2.trans k4.2, m4.tail.trans (k5.2.trans k4.2)⟩
theorem b_corners {x y z t : Int32} (h : INV w b) : BOTH fX8_corners fX9_corners [.int x, .int y, .int z, .int t] w b := by
  obtain ⟨c, H, T, hk, hC, hM⟩ := h
  obtain ⟨r, u, k1, k2, k3, k4⟩ := c_corners (s := x) (l := y) (i := z) (n := t) hC.1.1 hC.2.2.2.1 hC.2.1
  have hC' := hC.view k4 k3
  have hM' := hM.fr k3 (by omega)
  obtain ⟨r', v, m1, m2, m3⟩ := m_corners (s := x) (l := y) (i := z) (n := t) hM'.2.1
  have e1 := rCor_fun k2 m2
  subst e1
  exact ⟨_, u, v, k1, m1, i_cat _, ⟨c, H, T, hk, hC'.fr (xo13 (o := b + 125) m3 (fun c j q => by unfold Xv at q; omega)) (by omega), hM'.oth m3 (fun a j q => by unfold Xv at q; omega)⟩, k3.2, m3.tail.trans k3.2⟩
theorem b_type {x : Int32} (h : INV w b) : BOTH fX8_type fX9_type [.int x] w b := by
  obtain ⟨c, H, T, hk, hC, hM⟩ := h
  obtain ⟨u, k1, k2, k3⟩ := c_type (x := x) hC.1.1 hC.2.2.1
  have hC' := hC.tape k2 (k3.wide (by omega) (by omega))
  have hM' := hM.fr k3 (by omega)
  obtain ⟨v, m1, m2, m3⟩ := m_type (x := x) hM'.2.2
  exact ⟨_, u, v, k1, m1, i_cat _, ⟨c, H, _, hk, hC'.fr (xo13 (o := b + 125) m3 (fun c j q => by unfold Xt at q; omega)) (by omega), hM'.1.frX m3 (fun a j q => by unfold Xt at q; omega), hM'.2.1.frX m3 (fun a j q => by unfold Xt at q; omega), m2⟩, k3.2, m3.tail.trans k3.2⟩
theorem b_read (h : INV w b) : BOTH fX8_read fX9_read [] w b := by
  obtain ⟨c, H, T, hk, hC, hM⟩ := h
  obtain ⟨u, u0, k1, k2, k3, k4, k5⟩ := c_read hC.1 hC.2.2.1
  have hC' : CP u b (opRead c T).2 H (offT T) := by
    obtain ⟨h1, h2, h3, h4, h5, ⟨A, B, h6⟩, h7⟩ := hC
    exact ⟨k2, (h2.fr k4 (by omega)).fr k5 (by omega), k3, (h4.fr k4 (by omega)).fr k5 (by omega), (h5.fr k4 (by omega)).fr k5 (by omega), ⟨A, B, (h6.fr k4 (by omega)).fr k5 (by omega)⟩, (h7.fr k4 (by omega) (by omega)).fr k5 (by omega) (by omega)⟩
  have hM' := (hM.fr k4 (by omega)).fr k5 (by omega)
  obtain ⟨v, m1, m2, m3, m4⟩ := m_read' hM'.1 hM'.2.2
  exact ⟨_, u, v, k1, m1, i_cat _, ⟨_, H, _, ok_read hk hC.1.le.1 hC.2.2.1.2.2.1, hC'.fr (xo13 (o := b + 125) m4 (fun c j q => by unfold Xc Xt at q; omega)) (by omega), m2, hM'.2.1.frX m4 (fun a j q => by unfold Xc Xt at q; omega), m3⟩, k5.2.trans k4.2, m4.tail.trans (k5.2.trans k4.2)⟩
theorem b_hull {x y : Int32} (h : INV w b) : BOTH fX8_hull fX9_hull [.int x, .int y] w b := by
  obtain ⟨c, H, T, hk, hC, hM⟩ := h
  obtain ⟨r, u, -, k1, -, k3, k4, -⟩ := p_hull (x := x) (k := y) hk.1 hC.1 hC.2.2.2.1 hM.1
  have hM' := hM.fr k3 (by omega)
  obtain ⟨r', u', v, k1', m1, -, -, m3⟩ := p_hull (x := x) (k := y) hk.1 hC.1 hC.2.2.2.1 hM'.1
  have er : r' = r := by
    have := k1'.symm.trans k1
    injection this with e
    injection e with e1 e2
    injection e1 with e3
    injection e3
  subst er
  have hC' := hC.view k4 k3
  exact ⟨_, u, v, k1, m1, i_cat _, ⟨c, H, T, hk, hC'.fr (xo13 (o := b + 125) m3 (fun c j q => by unfold Xv at q; omega)) (by omega), hM'.oth m3 (fun a j q => by unfold Xv at q; omega)⟩, k3.2, m3.tail.trans k3.2⟩
theorem same_i {f : Fnc} {as : List Value} {w u u' : Wd} {r r' : Int32} (h : f as w = some (some (.int r), u)) (h' : f as w = some (some (.int r'), u')) : r' = r ∧ u' = u := by
  have := h'.symm.trans h
  injection this with e
  injection e with e1 e2
  injection e1 with e3
  injection e3 with e4
  exact ⟨e4, e2⟩
theorem same_j {f : Fnc} {as : List Value} {w u u' : Wd} {r r' : Int64} (h : f as w = some (some (.long r), u)) (h' : f as w = some (some (.long r'), u')) : r' = r ∧ u' = u := by
  have := h'.symm.trans h
  injection this with e
  injection e with e1 e2
  injection e1 with e3
  injection e3 with e4
  exact ⟨e4, e2⟩
theorem b_edge {x y z : Int32} (h : INV w b) : BOTH fX8_edge fX9_edge [.int x, .int y, .int z] w b := by
  obtain ⟨c, H, T, hk, hC, hM⟩ := h
  obtain ⟨A, B, hF⟩ := hC.2.2.2.2.2.1
  obtain ⟨r, u, -, A', B', k1, -, ⟨u0, f1, f2⟩, k4, k5, -⟩ := p_edge (x := x) (k := y) (z := z) hk.1 hC.1 hC.2.2.2.1 hF hM.1
  have hM' := (hM.fr f1 (by omega)).fr f2 (by omega)
  obtain ⟨r', u', v, -, -, k1', m1, -, -, -, m3⟩ := p_edge (x := x) (k := y) (z := z) hk.1 hC.1 hC.2.2.2.1 hF hM'.1
  obtain ⟨er, -⟩ := same_i k1 k1'
  subst er
  have hC' : CP u b c H T := by
    obtain ⟨h1, h2, h3, h4, h5, -, h7⟩ := hC
    exact ⟨(h1.fr f1 (by omega)).fr f2 (by omega), (h2.fr f1 (by omega)).fr f2 (by omega), (h3.fr f1 (by omega)).fr f2 (by omega), k5, (h5.fr f1 (by omega)).fr f2 (by omega), ⟨A', B', k4⟩, (h7.fr f1 (by omega) (by omega)).fr f2 (by omega) (by omega)⟩
  exact ⟨_, u, v, k1, m1, i_cat _, ⟨c, H, T, hk, hC'.fr (xo13 (o := b + 125) m3 (fun c j q => by unfold Xv at q; omega)) (by omega), hM'.oth m3 (fun a j q => by unfold Xv at q; omega)⟩, f2.2.trans f1.2, m3.tail.trans (f2.2.trans f1.2)⟩
theorem b_judge {x y : Int32} (h : INV w b) : BOTH fX8_judge fX9_judge [.int x, .int y] w b := by
  obtain ⟨c, H, T, hk, hC, hM⟩ := h
  obtain ⟨r, u, -, k1, -, k3, k4, -⟩ := p_judge (x := x) (k := y) hk.1 hC.1 hC.2.2.2.2.2.2 hM.1
  have hM' := hM.fr k4 (by omega)
  obtain ⟨r', u', v, k1', m1, -, -, m3⟩ := p_judge (x := x) (k := y) hk.1 hC.1 hC.2.2.2.2.2.2 hM'.1
  obtain ⟨er, -⟩ := same_j k1 k1'
  subst er
  have hC' := hC.zns k3 k4
  exact ⟨_, u, v, k1, m1, j_cat _, ⟨c, H, T, hk, hC'.fr (xo13 (o := b + 125) m3 (fun c j q => by unfold Xj at q; omega)) (by omega), hM'.oth m3 (fun a j q => by unfold Xj at q; omega)⟩, k4.2, m3.tail.trans k4.2⟩
theorem b_way {x y : Int32} (h : INV w b) : BOTH fX8_way fX9_way [.int x, .int y] w b := by
  obtain ⟨c, H, T, hk, hC, hM⟩ := h
  obtain ⟨r, u, -, k1, -, k3, k4, -⟩ := p_way (x := x) (k := y) hk.1 hC.1 hC.2.2.2.2.2.2 hM.1
  have hM' := hM.fr k4 (by omega)
  obtain ⟨r', u', v, k1', m1, -, -, m3⟩ := p_way (x := x) (k := y) hk.1 hC.1 hC.2.2.2.2.2.2 hM'.1
  obtain ⟨er, -⟩ := same_i k1 k1'
  subst er
  have hC' := hC.zns k3 k4
  exact ⟨_, u, v, k1, m1, i_cat _, ⟨c, H, T, hk, hC'.fr (xo13 (o := b + 125) m3 (fun c j q => by unfold Xj at q; omega)) (by omega), hM'.oth m3 (fun a j q => by unfold Xj at q; omega)⟩, k4.2, m3.tail.trans k4.2⟩
theorem b_without {x y z : Int32} (h : INV w b) : BOTH fX8_without fX9_without [.int x, .int y, .int z] w b := by
  obtain ⟨c, H, T, hk, hC, hM⟩ := h
  obtain ⟨r, u, -, k1, -, k3, k4, -⟩ := p_without (x := x) (k := y) (y := z) hk.1 hC.1 hC.2.2.2.2.2.2 hM.1
  have hM' := hM.fr k4 (by omega)
  obtain ⟨r', u', v, k1', m1, -, -, m3⟩ := p_without (x := x) (k := y) (y := z) hk.1 hC.1 hC.2.2.2.2.2.2 hM'.1
  obtain ⟨er, -⟩ := same_j k1 k1'
  subst er
  have hC' := hC.zns k3 k4
  exact ⟨_, u, v, k1, m1, j_cat _, ⟨c, H, T, hk, hC'.fr (xo13 (o := b + 125) m3 (fun c j q => by unfold Xj at q; omega)) (by omega), hM'.oth m3 (fun a j q => by unfold Xj at q; omega)⟩, k4.2, m3.tail.trans k4.2⟩
theorem b_lost {x y z : Int32} (h : INV w b) : BOTH fX8_lost fX9_lost [.int x, .int y, .int z] w b := by
  obtain ⟨c, H, T, hk, hC, hM⟩ := h
  obtain ⟨A, B, hF⟩ := hC.2.2.2.2.2.1
  obtain ⟨r, u, -, A', B', k1, -, ⟨u0, u1, f1, f2, f3⟩, k4, k5, k6, -⟩ := p_lost (x := x) (k := y) (y := z) hk.1 hC.1 hC.2.2.2.1 hC.2.2.2.2.1 hF hM.1
  have hM' := ((hM.fr f1 (by omega)).fr f2 (by omega)).fr f3 (by omega)
  obtain ⟨r', u', v, -, -, k1', m1, -, -, -, -, m3⟩ := p_lost (x := x) (k := y) (y := z) hk.1 hC.1 hC.2.2.2.1 hC.2.2.2.2.1 hF hM'.1
  obtain ⟨er, -⟩ := same_j k1 k1'
  subst er
  have hC' : CP u b c H T := by
    obtain ⟨h1, h2, h3, h4, h5, -, h7⟩ := hC
    exact ⟨((h1.fr f1 (by omega)).fr f2 (by omega)).fr f3 (by omega), ((h2.fr f1 (by omega)).fr f2 (by omega)).fr f3 (by omega), ((h3.fr f1 (by omega)).fr f2 (by omega)).fr f3 (by omega), k5, k6, ⟨A', B', k4⟩, ((h7.fr f1 (by omega) (by omega)).fr f2 (by omega) (by omega)).fr f3 (by omega) (by omega)⟩
  exact ⟨_, u, v, k1, m1, j_cat _, ⟨c, H, T, hk, hC'.fr (xo13 (o := b + 125) m3 (fun c j q => by unfold Xj at q; omega)) (by omega), hM'.oth m3 (fun a j q => by unfold Xj at q; omega)⟩, f3.2.trans (f2.2.trans f1.2), m3.tail.trans (f3.2.trans (f2.2.trans f1.2))⟩
end
