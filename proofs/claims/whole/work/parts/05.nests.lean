/-! words on nest mates and on arrays of references, which calls carry on their own -/
def nests : List (String × Nat × MethodName × String) := [(RX8, 9, yX4_init, RX8), (RX2, 21, yX4_init, RX8), (RX8, 35, yX6_init, RX8), (RX8, 48, yX1_init, RX8), (RX8, 55, yX5_init, RX8), (RX8, 69, yX0_init, RX8), (RX7, 37, yX0_init, RX8), (RX6, 36, yX8_axisOfU, RX8), (RX6, 44, yX8_axisOfV, RX8), (RX0, 16, yX8_divisor, RX8), (RX7, 144, yX8_divisor, RX8), (RX7, 148, yX8_axisOfU, RX8), (RX7, 151, yX8_axisOfV, RX8), (RX3, 23, yX8_isSheet, RX8), (RX3, 27, yX8_isLane, RX8)]
def NW (U : State) : Prop := (∀ q ∈ nests, va_Nw (.methodLinkNest q.1 q.2.1 q.2.2.1 q.2.2.2) U) ∧ va_AO RX0 U ∧ va_AO RX4 U ∧ va_AO RX7 U ∧ (Cond.arrayOver (.array .long)).before #[] U = true
theorem aoL_moved {u U : State} (hvm : u.vm.Alike U.vm) (h : (Cond.arrayOver (.array .long)).before #[] u = true) : (Cond.arrayOver (.array .long)).before #[] U = true := by
  have e := Cond.arrayOver_setVmC (args := #[]) hvm (.array .long)
  rw [h] at e
  exact e
theorem NW.warm {s U : State} (hW : s.WarmedH U.vm) (h : NW s) : NW U := by
  obtain ⟨h1, h2, h3, h4, h5⟩ := h
  refine ⟨fun q hq => va_Nw.warmM hW (h1 q hq), h2.moved hW.alike, h3.moved hW.alike, h4.moved hW.alike, ?_⟩
  exact aoL_moved hW.alike h5
theorem NW.same {s U : State} (hv : s.vm = U.vm) (h : NW s) : NW U := by
  obtain ⟨h1, h2, h3, h4, h5⟩ := h
  have ha : s.vm.Alike U.vm := by rw [hv]; exact Vm.Alike.refl U.vm
  exact ⟨fun q hq => va_Nw.same rfl hv (h1 q hq), h2.moved ha, h3.moved ha, h4.moved ha, aoL_moved ha h5⟩
theorem nests_in : ∀ q ∈ nests, Cond.methodLinkNest q.1 q.2.1 q.2.2.1 q.2.2.2 ∈ lw_tbl := by
  intro q hq
  simp only [nests, List.mem_cons, List.not_mem_nil, or_false] at hq
  rcases hq with rfl | rfl | rfl | rfl | rfl | rfl | rfl | rfl | rfl | rfl | rfl | rfl | rfl | rfl | rfl
  · exact List.mem_of_getElem? (i := 87) (by decide +kernel)
  · exact List.mem_of_getElem? (i := 119) (by decide +kernel)
  · exact List.mem_of_getElem? (i := 130) (by decide +kernel)
  · exact List.mem_of_getElem? (i := 160) (by decide +kernel)
  · exact List.mem_of_getElem? (i := 175) (by decide +kernel)
  · exact List.mem_of_getElem? (i := 221) (by decide +kernel)
  · exact List.mem_of_getElem? (i := 240) (by decide +kernel)
  · exact List.mem_of_getElem? (i := 422) (by decide +kernel)
  · exact List.mem_of_getElem? (i := 426) (by decide +kernel)
  · exact List.mem_of_getElem? (i := 478) (by decide +kernel)
  · exact List.mem_of_getElem? (i := 553) (by decide +kernel)
  · exact List.mem_of_getElem? (i := 601) (by decide +kernel)
  · exact List.mem_of_getElem? (i := 602) (by decide +kernel)
  · exact List.mem_of_getElem? (i := 743) (by decide +kernel)
  · exact List.mem_of_getElem? (i := 746) (by decide +kernel)
theorem overs_in : Cond.arrayOver (.object RX0) ∈ lw_tbl ∧ Cond.arrayOver (.object RX4) ∈ lw_tbl ∧ Cond.arrayOver (.object RX7) ∈ lw_tbl ∧ Cond.arrayOver (.array .long) ∈ lw_tbl :=
  ⟨List.mem_of_getElem? (i := 241) (by decide +kernel), List.mem_of_getElem? (i := 118) (by decide +kernel), List.mem_of_getElem? (i := 157) (by decide +kernel), List.mem_of_getElem? (i := 205) (by decide +kernel)⟩
theorem lay_in : ∀ ci, ci < 10 → ∀ k, k < nfl ci → u_lay (clN ci) (tyT ci) k ∈ gw_tbl := by
  intro ci h
  match ci, h with
  | 0, _ =>
    intro k hk
    match k, hk with
    | 0, _ => exact gm 229 (by decide +kernel) rfl
    | 1, _ => exact gm 231 (by decide +kernel) rfl
    | n + 2, hk => exact absurd hk (by show ¬ n + 2 < 2; omega)
  | 1, _ =>
    intro k hk
    match k, hk with
    | 0, _ => exact gm 166 (by decide +kernel) rfl
    | 1, _ => exact gm 168 (by decide +kernel) rfl
    | n + 2, hk => exact absurd hk (by show ¬ n + 2 < 2; omega)
  | 2, _ =>
    intro k hk
    match k, hk with
    | 0, _ => exact gm 123 (by decide +kernel) rfl
    | 1, _ => exact gm 125 (by decide +kernel) rfl
    | n + 2, hk => exact absurd hk (by show ¬ n + 2 < 2; omega)
  | 3, _ =>
    intro k hk
    match k, hk with
    | 0, _ => exact gm 212 (by decide +kernel) rfl
    | 1, _ => exact gm 214 (by decide +kernel) rfl
    | 2, _ => exact gm 216 (by decide +kernel) rfl
    | n + 3, hk => exact absurd hk (by show ¬ n + 3 < 3; omega)
  | 4, _ =>
    intro k hk
    match k, hk with
    | 0, _ => exact gm 101 (by decide +kernel) rfl
    | 1, _ => exact gm 103 (by decide +kernel) rfl
    | 2, _ => exact gm 105 (by decide +kernel) rfl
    | 3, _ => exact gm 107 (by decide +kernel) rfl
    | n + 4, hk => exact absurd hk (by show ¬ n + 4 < 4; omega)
  | 5, _ =>
    intro k hk
    match k, hk with
    | 0, _ => exact gm 186 (by decide +kernel) rfl
    | 1, _ => exact gm 188 (by decide +kernel) rfl
    | 2, _ => exact gm 190 (by decide +kernel) rfl
    | 3, _ => exact gm 192 (by decide +kernel) rfl
    | 4, _ => exact gm 194 (by decide +kernel) rfl
    | n + 5, hk => exact absurd hk (by show ¬ n + 5 < 5; omega)
  | 6, _ =>
    intro k hk
    match k, hk with
    | 0, _ => exact gm 145 (by decide +kernel) rfl
    | 1, _ => exact gm 147 (by decide +kernel) rfl
    | 2, _ => exact gm 149 (by decide +kernel) rfl
    | 3, _ => exact gm 151 (by decide +kernel) rfl
    | 4, _ => exact gm 153 (by decide +kernel) rfl
    | n + 5, hk => exact absurd hk (by show ¬ n + 5 < 5; omega)
  | 7, _ =>
    intro k hk
    match k, hk with
    | 0, _ => exact gm 262 (by decide +kernel) rfl
    | 1, _ => exact gm 264 (by decide +kernel) rfl
    | 2, _ => exact gm 266 (by decide +kernel) rfl
    | 3, _ => exact gm 268 (by decide +kernel) rfl
    | 4, _ => exact gm 270 (by decide +kernel) rfl
    | 5, _ => exact gm 272 (by decide +kernel) rfl
    | 6, _ => exact gm 274 (by decide +kernel) rfl
    | 7, _ => exact gm 276 (by decide +kernel) rfl
    | 8, _ => exact gm 278 (by decide +kernel) rfl
    | 9, _ => exact gm 280 (by decide +kernel) rfl
    | 10, _ => exact gm 282 (by decide +kernel) rfl
    | 11, _ => exact gm 284 (by decide +kernel) rfl
    | 12, _ => exact gm 286 (by decide +kernel) rfl
    | 13, _ => exact gm 288 (by decide +kernel) rfl
    | 14, _ => exact gm 290 (by decide +kernel) rfl
    | 15, _ => exact gm 292 (by decide +kernel) rfl
    | 16, _ => exact gm 294 (by decide +kernel) rfl
    | n + 17, hk => exact absurd hk (by show ¬ n + 17 < 17; omega)
  | 8, _ =>
    intro k hk
    match k, hk with
    | 0, _ => exact gm 308 (by decide +kernel) rfl
    | 1, _ => exact gm 310 (by decide +kernel) rfl
    | 2, _ => exact gm 312 (by decide +kernel) rfl
    | 3, _ => exact gm 314 (by decide +kernel) rfl
    | 4, _ => exact gm 316 (by decide +kernel) rfl
    | 5, _ => exact gm 318 (by decide +kernel) rfl
    | 6, _ => exact gm 320 (by decide +kernel) rfl
    | 7, _ => exact gm 322 (by decide +kernel) rfl
    | 8, _ => exact gm 324 (by decide +kernel) rfl
    | 9, _ => exact gm 326 (by decide +kernel) rfl
    | 10, _ => exact gm 328 (by decide +kernel) rfl
    | n + 11, hk => exact absurd hk (by show ¬ n + 11 < 11; omega)
  | 9, _ =>
    intro k hk
    match k, hk with
    | 0, _ => exact gm 826 (by decide +kernel) rfl
    | 1, _ => exact gm 828 (by decide +kernel) rfl
    | 2, _ => exact gm 830 (by decide +kernel) rfl
    | 3, _ => exact gm 832 (by decide +kernel) rfl
    | 4, _ => exact gm 834 (by decide +kernel) rfl
    | 5, _ => exact gm 836 (by decide +kernel) rfl
    | 6, _ => exact gm 838 (by decide +kernel) rfl
    | 7, _ => exact gm 840 (by decide +kernel) rfl
    | 8, _ => exact gm 842 (by decide +kernel) rfl
    | 9, _ => exact gm 844 (by decide +kernel) rfl
    | 10, _ => exact gm 846 (by decide +kernel) rfl
    | 11, _ => exact gm 848 (by decide +kernel) rfl
    | 12, _ => exact gm 850 (by decide +kernel) rfl
    | 13, _ => exact gm 852 (by decide +kernel) rfl
    | 14, _ => exact gm 854 (by decide +kernel) rfl
    | 15, _ => exact gm 856 (by decide +kernel) rfl
    | 16, _ => exact gm 858 (by decide +kernel) rfl
    | 17, _ => exact gm 860 (by decide +kernel) rfl
    | 18, _ => exact gm 862 (by decide +kernel) rfl
    | 19, _ => exact gm 864 (by decide +kernel) rfl
    | 20, _ => exact gm 866 (by decide +kernel) rfl
    | 21, _ => exact gm 868 (by decide +kernel) rfl
    | 22, _ => exact gm 870 (by decide +kernel) rfl
    | 23, _ => exact gm 872 (by decide +kernel) rfl
    | 24, _ => exact gm 874 (by decide +kernel) rfl
    | 25, _ => exact gm 876 (by decide +kernel) rfl
    | 26, _ => exact gm 878 (by decide +kernel) rfl
    | 27, _ => exact gm 880 (by decide +kernel) rfl
    | n + 28, hk => exact absurd hk (by show ¬ n + 28 < 28; omega)
  | n + 10, h => exact absurd h (by omega)
theorem uws_in : ∀ ci, ci < 10 → ∀ w ∈ u_ws (clN ci) (tyT ci) (nfl ci), w ∈ gw_tbl := by
  intro ci h w hw
  obtain ⟨k, hk, rfl⟩ := List.mem_map.mp hw
  exact lay_in ci h k (List.mem_range.mp hk)
