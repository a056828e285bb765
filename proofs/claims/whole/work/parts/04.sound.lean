def gw_tbl : List Cond := lw_tbl.filter goodWord
theorem gm {c : Cond} (i : Nat) (h : lw_tbl[i]? = some c) (hg : goodWord c = true) : c ∈ gw_tbl := List.mem_filter.mpr ⟨List.mem_of_getElem? h, hg⟩
theorem gw_good {ws : List Cond} (h : ∀ w ∈ ws, w ∈ gw_tbl) : GoodIn gw_tbl ws := fun w hw => ⟨h w hw, good_of_word (List.mem_filter.mp (h w hw)).2⟩
/-! ### the locals -/
def lvr (rl : Array Slot) (nL : Nat) (ls : Lsx) : Prop := rl.size = nL ∧ lv_wf rl ∧ ∀ (i : Nat) (v : Value), ls[i]? = some (some v) → rl[i]? = some (.val v)
def prs (ls : Lsx) : List (Nat × Value) := (List.range ls.length).filterMap (fun j => (ls[j]?.getD none).map (fun v => (j, v)))
theorem prs_mem {ls : Lsx} {i : Nat} {v : Value} : (i, v) ∈ prs ls ↔ ls[i]? = some (some v) := by
  unfold prs
  rw [List.mem_filterMap]
  constructor
  · rintro ⟨j, hj, h⟩
    have hj := List.mem_range.mp hj
    rw [List.getElem?_eq_getElem hj] at h
    simp only [Option.getD_some, Option.map_eq_some_iff, Prod.mk.injEq] at h
    obtain ⟨u, hu, rfl, rfl⟩ := h
    rw [List.getElem?_eq_getElem hj, hu]
  · intro h
    have hl : i < ls.length := (List.getElem?_eq_some_iff.mp h).1
    exact ⟨i, List.mem_range.mpr hl, by simp [h]⟩
theorem lvr.has {rl : Array Slot} {nL : Nat} {ls : Lsx} (h : lvr rl nL ls) : lv_has rl nL (prs ls) := ⟨h.1, h.2.1, fun q hq => h.2.2 q.1 q.2 (prs_mem.mp hq)⟩
theorem okS_spec {ls : Lsx} {i : Nat} (h : okS ls i = true) : i < ls.length ∧ (i = 0 ∨ isc2 (ls[i - 1]?) = false) := by
  unfold okS at h
  simpa using h
theorem isc2_cat {x : Option (Option Value)} {v : Value} (h : isc2 x = false) (hx : x = some (some v)) : ¬ v.category = 2 := by
  subst hx
  cases v <;> simp [isc2] at h <;> simp [Value.category]
theorem lvr.st1 {rl rl' : Array Slot} {nL : Nat} {ls : Lsx} {i : Nat} {v : Value} (h : lvr rl nL ls) (hok : okS ls i = true) (h' : lv_has rl' nL ((i, v) :: (prs ls).filter (fun q => !(q.1 == i) && !(q.1 + 1 == i && q.2.category == 2)))) : lvr rl' nL (ls.set i (some v)) := by
  obtain ⟨h1, h2⟩ := okS_spec hok
  refine ⟨h'.1, h'.2.1, fun j u hu => ?_⟩
  rw [List.getElem?_set] at hu
  by_cases e : i = j
  · subst e
    simp [h1] at hu
    subst hu
    exact h'.2.2 (i, v) List.mem_cons_self
  · rw [if_neg e] at hu
    refine h'.2.2 (j, u) (List.mem_cons_of_mem _ (List.mem_filter.mpr ⟨prs_mem.mpr hu, ?_⟩))
    have hne : ¬ j = i := fun q => e q.symm
    simp only [Bool.and_eq_true, Bool.not_eq_true', beq_eq_false_iff_ne, ne_eq, hne, not_false_eq_true, true_and, Bool.and_eq_false_iff, beq_eq_false_iff_ne]
    rcases h2 with h2 | h2
    · exact Or.inl (by omega)
    · by_cases q : j + 1 = i
      · right
        subst q
        exact isc2_cat h2 hu
      · exact Or.inl q
theorem lvr.st2 {rl rl' : Array Slot} {nL : Nat} {ls : Lsx} {i : Nat} {v : Value} (h : lvr rl nL ls) (hok : okS ls i = true) (h' : lv_has rl' nL ((i, v) :: (prs ls).filter (fun q => !(q.1 == i) && (!(q.1 == i + 1) && !(q.1 + 1 == i && q.2.category == 2))))) : lvr rl' nL ((ls.set i (some v)).set (i + 1) none) := by
  obtain ⟨h1, h2⟩ := okS_spec hok
  refine ⟨h'.1, h'.2.1, fun j u hu => ?_⟩
  rw [List.getElem?_set] at hu
  by_cases e1 : i + 1 = j
  · subst e1
    simp at hu
  · rw [if_neg e1, List.getElem?_set] at hu
    by_cases e : i = j
    · subst e
      simp [h1] at hu
      subst hu
      exact h'.2.2 (i, v) List.mem_cons_self
    · rw [if_neg e] at hu
      refine h'.2.2 (j, u) (List.mem_cons_of_mem _ (List.mem_filter.mpr ⟨prs_mem.mpr hu, ?_⟩))
      have hne : ¬ j = i := fun q => e q.symm
      have hne1 : ¬ j = i + 1 := fun q => e1 q.symm
      simp only [Bool.and_eq_true, Bool.not_eq_true', beq_eq_false_iff_ne, ne_eq, hne, hne1, not_false_eq_true, true_and, Bool.and_eq_false_iff, beq_eq_false_iff_ne]
      rcases h2 with h2 | h2
      · exact Or.inl (by omega)
      · by_cases q : j + 1 = i
        · right
          subst q
          exact isc2_cat h2 hu
        · exact Or.inl q
/-! ### the cells -/
def flds (ci : Nat) (w : Wd) (a : Nat) : List Value := (List.range (nfl ci)).map (fun k => fval (fty ci k) w a k)
theorem flds_at {ci : Nat} {w : Wd} {a k : Nat} (h : k < nfl ci) : (flds ci w a)[k]? = some (fval (fty ci k) w a k) := by
  simp [flds, List.getElem?_range h]
theorem flds_V {ci : Nat} {w : Wd} {a k : Nat} (h : k < nfl ci) : vp_V (flds ci w a) k = fval (fty ci k) w a k := by
  simp [vp_V, List.getD, flds_at h]
theorem flds_len {ci : Nat} {w : Wd} {a : Nat} : (flds ci w a).length = nfl ci := by simp [flds]
theorem cell_obj {cy : Nat → ClassId} {w : Wd} {a ci : Nat} (h : (shp w a).1 = ci) (hc : ci < 10) : cellE cy w a = .inr (ci, flds ci w a) := by
  unfold cellE
  rw [h, if_pos hc]
  rfl
theorem cell_arr {cy : Nat → ClassId} {w : Wd} {a k : Nat} (h : (shp w a).1 = k) (hc : 10 ≤ k) : cellE cy w a = .inl (cy k, (shp w a).2, arrE k w a) := by
  unfold cellE
  rw [h, if_neg (by omega)]
theorem cell_congr {cy : Nat → ClassId} {w w' : Wd} {b : Nat} (h1 : w'.1 b = w.1 b) (h2 : w'.2.1 b = w.2.1 b) (h3 : w'.2.2.1 b = w.2.2.1 b) (h4 : shp w' b = shp w b) : cellE cy w' b = cellE cy w b := by
  have e : ∀ ty k, fval ty w' b k = fval ty w b k := by
    intro ty k
    unfold fval rdI rdJ rdR
    rw [h1, h2, h3]
  unfold cellE arrE
  simp only [h1, h2, h3, h4, e]
theorem vw_at : ∀ ci, ci < 10 → vwCl[ci]? = some (clN ci, tyT ci, nfl ci) := by
  intro ci h
  match ci, h with
  | 0, _ => rfl
  | 1, _ => rfl
  | 2, _ => rfl
  | 3, _ => rfl
  | 4, _ => rfl
  | 5, _ => rfl
  | 6, _ => rfl
  | 7, _ => rfl
  | 8, _ => rfl
  | 9, _ => rfl
  | n + 10, h => omega
theorem fty_ok : ∀ ci, ci < 10 → ∀ k, k < nfl ci → parseFieldDescriptor (tyT ci k).2.2.1 = some (fty ci k) := by
  intro ci h
  match ci, h with
  | 0, _ => exact tyX0_ok
  | 1, _ => exact tyX1_ok
  | 2, _ => exact tyX2_ok
  | 3, _ => exact tyX3_ok
  | 4, _ => exact tyX4_ok
  | 5, _ => exact tyX5_ok
  | 6, _ => exact tyX6_ok
  | 7, _ => exact tyX7_ok
  | 8, _ => exact tyX8_ok
  | 9, _ => exact tyX9_ok
  | n + 10, h => omega
theorem fnm_ok : ∀ ci, ci < 10 → ∀ a, a < nfl ci → ∀ b, b < nfl ci → a ≠ b → (tyT ci a).2.1 ≠ (tyT ci b).2.1 := by
  intro ci h
  match ci, h with
  | 0, _ => exact nmX0
  | 1, _ => exact nmX1
  | 2, _ => exact nmX2
  | 3, _ => exact nmX3
  | 4, _ => exact nmX4
  | 5, _ => exact nmX5
  | 6, _ => exact nmX6
  | 7, _ => exact nmX7
  | 8, _ => exact nmX8
  | 9, _ => exact nmX9
  | n + 10, h => omega
section
variable {ex : Bool} {D : va_G} {cy : Nat → ClassId} {b0 a : Nat} {w w' : Wd} {H H' : Heap}
theorem Pic.live (h : Pic ex D cy b0 w H) (hs : (shp w a).1 < 100) : b0 ≤ a ∧ a < nxt w := by
  rcases Classical.em (b0 ≤ a ∧ a < nxt w) with q | q
  · exact q
  · exact absurd (h.2.2.2.2 a q) (by omega)
theorem Pic.at (h : Pic ex D cy b0 w H) (hs : (shp w a).1 < 100) : va_at D vwCl (a, cellE cy w a) H := h.2.2.2.1 a (h.live hs).1 (h.live hs).2
theorem Pic.P (h : Pic ex D cy b0 w H) (hs : (shp w a).1 < 100) : va_P D vwCl [(a, cellE cy w a)] H := by
  intro k q hk
  match k, hk with
  | 0, hk => cases hk; exact h.at hs
theorem Pic.put (h : Pic ex D cy b0 w H) (hc : ∀ b, b ≠ a → cellE cy w' b = cellE cy w b) (hsh : ∀ b, shp w' b = shp w b) (hn : nxt w' = nxt w) (e1 : va_at D vwCl (a, cellE cy w' a) H') (z : H'.size = H.size) (oq : ∀ q, q ≠ a → H'[q]? = H[q]?) : Pic ex D cy b0 w' H' := by
  obtain ⟨h1, h2, h3, h4, h5⟩ := h
  refine ⟨fun q => by rw [z, hn]; exact h1 q, by rw [z, hn]; exact h2, by rw [hn]; exact h3, fun b g1 g2 => ?_, fun b g => ?_⟩
  · by_cases e : b = a
    · subst e; exact e1
    · rw [hc b e]
      rw [hn] at g2
      exact (h4 b g1 g2).kept (oq b e)
  · rw [hn] at g
    rw [hsh]
    exact h5 b g
end
