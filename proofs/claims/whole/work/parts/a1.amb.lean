
theorem inst_in : ∀ ci, ci < 10 → Cond.instantiable (clN ci) (nfl ci) ∈ gw_tbl := by
  intro ci h
  match ci, h with
  | 0, _ => exact gm 220 (by decide +kernel) rfl
  | 1, _ => exact gm 159 (by decide +kernel) rfl
  | 2, _ => exact gm 112 (by decide +kernel) rfl
  | 3, _ => exact gm 199 (by decide +kernel) rfl
  | 4, _ => exact gm 86 (by decide +kernel) rfl
  | 5, _ => exact gm 174 (by decide +kernel) rfl
  | 6, _ => exact gm 129 (by decide +kernel) rfl
  | 7, _ => exact gm 234 (by decide +kernel) rfl
  | 8, _ => exact gm 78 (by decide +kernel) rfl
  | 9, _ => exact gm 793 (by decide +kernel) rfl
theorem arr_prim {s : State} {args : Array Value} {ty : FieldType} (h : (Cond.arrayClass ty).before args s = true) (ho : ty.isReference = false) : ∃ cA, ArrOfT s cA ty ∧ va_RA s cA ty := by
  obtain ⟨cA, kA, comp, h1, h2, h3⟩ := Cond.arrayClass_spec h
  refine ⟨cA, fun n z => ⟨fun k h => (by cases h), kA, h2, comp, h3⟩, ?_⟩
  cases ty <;> first | exact h1 | (simp [FieldType.isReference] at ho)
theorem arr_obj {s : State} {C : String} (h : va_AO C s) : ∃ cA, ArrOfT s cA (.object C) ∧ va_RA s cA (.object C) := by
  obtain ⟨comp, cA, kA, h1, -, h2, h3, h4⟩ := Cond.arrayOver_spec h
  exact ⟨cA, fun n z => ⟨fun k h => (by cases h), kA, h2, comp, h3⟩, kA, comp, h2, h3, h1, h4⟩
theorem arr_arr {s : State} (h : (Cond.arrayOver (.array .long)).before #[] s = true) : ∃ cA, ArrOfT s cA (.array .long) ∧ va_RA s cA (.array .long) := by
  obtain ⟨comp, cA, kA, h1, h2, h3, h4⟩ := ovr_long h
  exact ⟨cA, fun n z => ⟨fun k h => (by cases h), kA, h3, comp, h4⟩, h2⟩
theorem vw_len {c : Nat} {q : vw_C} (h : vwCl[c]? = some q) : c < 10 := by
  have := (List.getElem?_eq_some_iff.mp h).1
  exact this
theorem known_all {s : State} {args : Array Value} (hts : ∀ w ∈ gw_tbl, w.before args s = true) (hnw : NW s) : ∃ (D : va_G) (cy : Nat → ClassId), va_K D vwCl (tysOf cy) s := by
  have hc : ∀ ci, ∃ q : ClassId × (Nat → Nat), ci < 10 → u_Kn s (clN ci) (tyT ci) (nfl ci) q.1 q.2 := fun ci => by
    by_cases h : ci < 10
    · obtain ⟨cC, iS, hk⟩ := u_known hts (uws_in ci h) (hts _ (inst_in ci h))
      exact ⟨(cC, iS), fun _ => hk⟩
    · exact ⟨(0, fun _ => 0), fun h' => absurd h' h⟩
  obtain ⟨a0, p0⟩ := arr_prim (hts _ arrcl_int) rfl
  obtain ⟨a1, p1⟩ := arr_prim (hts _ arrcl_long) rfl
  obtain ⟨a2, p2⟩ := arr_prim (hts _ arrcl_boolean) rfl
  obtain ⟨a3, p3⟩ := arr_prim (hts _ arrcl_char) rfl
  obtain ⟨a4, p4⟩ := arr_obj hnw.2.1
  obtain ⟨a5, p5⟩ := arr_obj hnw.2.2.1
  obtain ⟨a6, p6⟩ := arr_obj hnw.2.2.2.1
  obtain ⟨a7, p7⟩ := arr_arr hnw.2.2.2.2
  refine ⟨(fun c => (Classical.choose (hc c)).1, fun c => (Classical.choose (hc c)).2), fun k => [a0, a1, a2, a3, a4, a5, a6, a7].getD (k - 10) 0, fun c q hq => ?_, fun k q hq => ?_⟩
  · have h10 := vw_len hq
    rw [vw_at c h10] at hq
    cases hq
    exact Classical.choose_spec (hc c) h10
  · match k, hq with
    | 0, hq => cases hq; exact p0
    | 1, hq => cases hq; exact p1
    | 2, hq => cases hq; exact p2
    | 3, hq => cases hq; exact p3
    | 4, hq => cases hq; exact p4
    | 5, hq => cases hq; exact p5
    | 6, hq => cases hq; exact p6
    | 7, hq => cases hq; exact p7
    | (k + 8), hq => cases hq
/-- the words of the law's start -/
theorem law_words {s : State} {args : Array Value} (hts : ∀ w ∈ lw_tbl, w.before args s = true) : (∀ w ∈ gw_tbl, w.before args s = true) ∧ NW s := by
  refine ⟨fun w h => hts w (List.mem_filter.mp h).1, fun q hq => ?_, va_AO.of (hts _ overs_in.1), va_AO.of (hts _ overs_in.2.1), va_AO.of (hts _ overs_in.2.2.1), hts _ overs_in.2.2.2⟩
  exact va_Nw.of rfl (hts _ (nests_in q hq))
