/-- System.arraycopy over ints or longs -/
def cpyFn : Fnc := fun as w => match as with
  | [.ref sa, .int sp, .ref da, .int dp, .int n] =>
    if (0 ≤ sp ∧ 0 ≤ dp ∧ 0 ≤ n) ∧ sp.toNatClampNeg + n.toNatClampNeg ≤ (shp w sa).2 ∧ dp.toNatClampNeg + n.toNatClampNeg ≤ (shp w da).2 then
      (if (shp w sa).1 = 10 ∧ (shp w da).1 = 10 then some (none, cpI w sa sp.toNatClampNeg da dp.toNatClampNeg n.toNatClampNeg)
       else if (shp w sa).1 = 11 ∧ (shp w da).1 = 11 then some (none, cpJ w sa sp.toNatClampNeg da dp.toNatClampNeg n.toNatClampNeg) else none)
    else none
  | _ => none
theorem cpyFn_inv {as : List Value} {w w' : Wd} {r : Option Value} (h : cpyFn as w = some (r, w')) : ∃ sa sp da dp n, as = [.ref sa, .int sp, .ref da, .int dp, .int n] ∧ ((0 ≤ sp ∧ 0 ≤ dp ∧ 0 ≤ n) ∧ sp.toNatClampNeg + n.toNatClampNeg ≤ (shp w sa).2 ∧ dp.toNatClampNeg + n.toNatClampNeg ≤ (shp w da).2) ∧ r = none ∧
    (((shp w sa).1 = 10 ∧ (shp w da).1 = 10 ∧ w' = cpI w sa sp.toNatClampNeg da dp.toNatClampNeg n.toNatClampNeg) ∨ ((shp w sa).1 = 11 ∧ (shp w da).1 = 11 ∧ w' = cpJ w sa sp.toNatClampNeg da dp.toNatClampNeg n.toNatClampNeg)) := by
  unfold cpyFn at h
  split at h
  · split at h
    · rename_i hc
      split at h
      · rename_i hk
        cases h
        exact ⟨_, _, _, _, _, rfl, hc, rfl, Or.inl ⟨hk.1, hk.2, rfl⟩⟩
      · split at h
        · rename_i hk
          cases h
          exact ⟨_, _, _, _, _, rfl, hc, rfl, Or.inr ⟨hk.1, hk.2, rfl⟩⟩
        · cases h
    · cases h
  · cases h
def rng (b n : Nat) : List Nat := (List.range (n - b)).map (fun i => b + i)
theorem rng_mem {b n a : Nat} : a ∈ rng b n ↔ b ≤ a ∧ a < n := by
  unfold rng
  rw [List.mem_map]
  constructor
  · rintro ⟨i, hi, rfl⟩
    have := List.mem_range.mp hi
    omega
  · rintro ⟨h1, h2⟩
    exact ⟨a - b, List.mem_range.mpr (by omega), by omega⟩
theorem rng_get {b n k a : Nat} {f : Nat → va_E} {e : va_E} (h : (va_pl (rng b n) f)[k]? = some (a, e)) : a = b + k ∧ b + k < n ∧ e = f a := by
  unfold va_pl rng at h
  rw [List.getElem?_map, List.getElem?_map] at h
  by_cases hk : k < n - b
  · rw [List.getElem?_range hk] at h
    simp at h
    obtain ⟨h1, h2⟩ := h
    subst h1
    exact ⟨rfl, by omega, h2.symm⟩
  · rw [List.getElem?_eq_none (by simpa using hk)] at h
    simp at h
theorem Pic.L {ex : Bool} {D : va_G} {cy : Nat → ClassId} {b0 : Nat} {w : Wd} {H : Heap} (h : Pic ex D cy b0 w H) : va_P D vwCl (va_pl (rng b0 (nxt w)) (cellE cy w)) H := by
  intro k q hk
  obtain ⟨a, e⟩ := q
  obtain ⟨h1, h2, h3⟩ := rng_get hk
  subst h3
  exact h.2.2.2.1 a (by omega) (by omega)
theorem rng_D {b0 n : Nat} {f : Nat → va_E} : va_D (fun q => b0 ≤ q) (va_pl (rng b0 n) f) := by
  refine ⟨fun i j p q hi hj hpq => ?_, fun k q hk => ?_⟩
  · obtain ⟨a, e⟩ := p
    obtain ⟨a', e'⟩ := q
    have h1 := rng_get hi
    have h2 := rng_get hj
    simp only at hpq
    omega
  · obtain ⟨a, e⟩ := q
    have h1 := rng_get hk
    show b0 ≤ a
    omega
theorem Pic.ofL {D : va_G} {cy : Nat → ClassId} {b0 a : Nat} {w w' : Wd} {H H1 : Heap} {e : va_E} (h : Pic false D cy b0 w H) (ha : b0 ≤ a ∧ a < nxt w) (hc : ∀ b, va_up (cellE cy w) a e b = cellE cy w' b) (hsh : ∀ b, shp w' b = shp w b) (hn : nxt w' = nxt w) (hP : va_P D vwCl (va_pl (rng b0 (nxt w)) (va_up (cellE cy w) a e)) H1) : Pic false D cy b0 w' H1 := by
  have at_ : ∀ b, b0 ≤ b → b < nxt w → va_at D vwCl (b, cellE cy w' b) H1 := by
    intro b g1 g2
    obtain ⟨k, hk⟩ := va_pl_get (X := []) (L := rng b0 (nxt w)) (f := va_up (cellE cy w) a e) (rng_mem.mpr ⟨g1, g2⟩)
    have := hP k _ hk
    rw [hc] at this
    exact this
  refine ⟨fun q => Bool.noConfusion q, ?_, by rw [hn]; exact h.2.2.1, fun b g1 g2 => at_ b g1 (by rw [← hn]; exact g2), fun b g => ?_⟩
  · have := (at_ (nxt w - 1) (by omega) (by omega)).lt
    rw [hn]
    simp only at this
    omega
  · rw [hsh]
    rw [hn] at g
    exact h.2.2.2.2 b g
section
variable {M : Mth} {p : Program} {l : Launch} {e : Env} {R : Room} {s : State} {m : MethodId} {args : Array Value} {below : List Frame} {meth : Method} {c : Code} {D : va_G} {cy : Nat → ClassId} {b0 n0 s0 nL : Nat} {cc : ByteArray} {own : String}
theorem cok_C (A : Amb false M p s m args meth c D cy b0 cc own nL) {k : Nat} (w1 : Cond.methodLink own k arraycopyName ∈ gw_tbl) (w2 : Cond.native arraycopyName ∈ gw_tbl) (w3 : Cond.static arraycopyName ∈ gw_tbl) (w4 : Cond.initialized "java/lang/System" ∈ gw_tbl) (hR : 1 ≤ R.frames ∧ 26 ≤ R.locals) :
    COK false p l e R s m args below meth c D cy b0 n0 s0 nL cc 2 k 5 cpyFn := by
  obtain ⟨hx, hb, hml, hown, hts, hnw, hK, hb0, -⟩ := A
  refine ⟨fun as w r w' h => ?_, fun Q pc as rest ls w w' r hdg hf hlen hsum hc1 hc2 kk => ?_⟩
  · obtain ⟨sa, sp, da, dp, n, -, -, -, ⟨-, -, rfl⟩ | ⟨-, -, rfl⟩⟩ := cpyFn_inv h <;> exact ⟨Nat.le_refl _, Nat.le_refl _⟩
  obtain ⟨sa, sp, da, dp, n, rfl, ⟨⟨g1, g2, g3⟩, g4, g5⟩, rfl, hk⟩ := cpyFn_inv hf
  intro hl hn0 hs0 H locs rl hP hS hL
  have hlw : (rest.map fun v => v.category).sum + (nativeFrameWords "java/lang/System" "arraycopy" 5 + 11) ≤ R.locals := by
    have : nativeFrameWords "java/lang/System" "arraycopy" 5 = 7 := by decide
    omega
  rcases hk with ⟨k1, k2, rfl⟩ | ⟨k1, k2, rfl⟩
  · have ls1 := hP.live (a := sa) (by omega)
    have ls2 := hP.live (a := da) (by omega)
    obtain ⟨q0, hq0⟩ := va_pl_get (X := []) (L := rng b0 (nxt w)) (f := cellE cy w) (rng_mem.mpr ls1)
    obtain ⟨q1, hq1⟩ := va_pl_get (X := []) (L := rng b0 (nxt w)) (f := cellE cy w) (rng_mem.mpr ls2)
    have hset := va_pl_set (X := []) (e := .inl (cy 10, (shp w da).2, .inl (va_cpy (w.1 sa) (w.1 da) sp.toNatClampNeg dp.toNatClampNeg n.toNatClampNeg))) rng_D (rng_mem.mpr ls2) hq1
    have e0 : cellE cy w sa = .inl (cy 10, (shp w sa).2, .inl (w.1 sa)) := by rw [cell_arr k1 (by omega), arrE_i (by omega)]
    have e1 : cellE cy w da = .inl (cy 10, (shp w da).2, .inl (w.1 da)) := by rw [cell_arr k2 (by omega), arrE_i (by omega)]
    rw [e0] at hq0
    rw [e1] at hq1
    refine va_copyi hx hb (by rw [hml, hL.1]) hown (hts _ w1) (hts _ w2) (hts _ w3) (hts _ w4) hK hP.L rng_D hS q0 q1 0 0 hq0 hq1 rfl rfl rfl (Int32.not_lt.mpr g1) (Int32.not_lt.mpr g2) (Int32.not_lt.mpr g3) g4 g5 (fun _ _ => rfl) hR.1 hlw hdg (fun H1 locs1 hP1 hD1 hS1 => ?_)
    rw [show va_pl (rng b0 (nxt w)) (cellE cy w) = [] ++ va_pl (rng b0 (nxt w)) (cellE cy w) from rfl, hset] at hP1
    refine kk hl hn0 hs0 H1 locs1 rl (hP.ofL ls2 (fun b => ?_) (fun _ => rfl) rfl hP1) hS1 hL
    by_cases eb : b = da
    · subst eb
      simp only [va_up, if_pos]
      rw [cell_arr (w := cpI w sa sp.toNatClampNeg b dp.toNatClampNeg n.toNatClampNeg) k2 (by omega), arrE_i (by omega)]
      have : va_cpy (w.1 sa) (w.1 b) sp.toNatClampNeg dp.toNatClampNeg n.toNatClampNeg = (cpI w sa sp.toNatClampNeg b dp.toNatClampNeg n.toNatClampNeg).1 b := by
        funext j
        simp [va_cpy, cpI]
      rw [this]
      rfl
    · simp only [va_up, if_neg eb]
      exact (cell_congr (w := w) (w' := cpI w sa sp.toNatClampNeg da dp.toNatClampNeg n.toNatClampNeg) (by funext j; simp [cpI, eb]) rfl rfl rfl).symm
  · have ls1 := hP.live (a := sa) (by omega)
    have ls2 := hP.live (a := da) (by omega)
    obtain ⟨q0, hq0⟩ := va_pl_get (X := []) (L := rng b0 (nxt w)) (f := cellE cy w) (rng_mem.mpr ls1)
    obtain ⟨q1, hq1⟩ := va_pl_get (X := []) (L := rng b0 (nxt w)) (f := cellE cy w) (rng_mem.mpr ls2)
    have hset := va_pl_set (X := []) (e := .inl (cy 11, (shp w da).2, .inr (.inl (va_cpy (w.2.1 sa) (w.2.1 da) sp.toNatClampNeg dp.toNatClampNeg n.toNatClampNeg)))) rng_D (rng_mem.mpr ls2) hq1
    have e0 : cellE cy w sa = .inl (cy 11, (shp w sa).2, .inr (.inl (w.2.1 sa))) := by rw [cell_arr k1 (by omega), arrE_l]
    have e1 : cellE cy w da = .inl (cy 11, (shp w da).2, .inr (.inl (w.2.1 da))) := by rw [cell_arr k2 (by omega), arrE_l]
    rw [e0] at hq0
    rw [e1] at hq1
    refine va_copyl hx hb (by rw [hml, hL.1]) hown (hts _ w1) (hts _ w2) (hts _ w3) (hts _ w4) hK hP.L rng_D hS q0 q1 1 1 hq0 hq1 rfl rfl rfl (Int32.not_lt.mpr g1) (Int32.not_lt.mpr g2) (Int32.not_lt.mpr g3) g4 g5 (fun _ _ => rfl) hR.1 hlw hdg (fun H1 locs1 hP1 hD1 hS1 => ?_)
    rw [show va_pl (rng b0 (nxt w)) (cellE cy w) = [] ++ va_pl (rng b0 (nxt w)) (cellE cy w) from rfl, hset] at hP1
    refine kk hl hn0 hs0 H1 locs1 rl (hP.ofL ls2 (fun b => ?_) (fun _ => rfl) rfl hP1) hS1 hL
    by_cases eb : b = da
    · subst eb
      simp only [va_up, if_pos]
      rw [cell_arr (w := cpJ w sa sp.toNatClampNeg b dp.toNatClampNeg n.toNatClampNeg) k2 (by omega), arrE_l]
      have : va_cpy (w.2.1 sa) (w.2.1 b) sp.toNatClampNeg dp.toNatClampNeg n.toNatClampNeg = (cpJ w sa sp.toNatClampNeg b dp.toNatClampNeg n.toNatClampNeg).2.1 b := by
        funext j
        simp [va_cpy, cpJ]
      rw [this]
      rfl
    · simp only [va_up, if_neg eb]
      exact (cell_congr (w := w) (w' := cpJ w sa sp.toNatClampNeg da dp.toNatClampNeg n.toNatClampNeg) rfl (by funext j; simp [cpJ, eb]) rfl rfl).symm
end
