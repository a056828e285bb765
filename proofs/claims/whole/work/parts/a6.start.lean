
section
variable {p : Program} {l : Launch} {e : Env} {s : State} {m : MethodId} {below : List Frame} {meth : Method} {c : Code} {D : va_G} {cy : Nat → ClassId} {b L : Nat} {xs : Nat → Int32} {w : Wd} {pc : Nat} {ls : Lsx} {st : List Value}
theorem LA.amb0 (h : LA p s m meth c D cy b L xs) : Amb true mL0 p s m #[Value.ref b] meth c D cy s.heap.size cL_law R_law 4 := by
  obtain ⟨⟨h1, h2, h3, h4, h5, h6, h7, h8, h9, h10⟩, hL, hN, hg, hK⟩ := h
  refine ⟨h1, h2, h4, h5, hg, hN, hK, Nat.le_refl _, ?_, ?_, ?_, ?_, ?_, fun q => (by cases q), Or.inl rfl⟩
  · exact fun pc i hi => lk_all (P := fun pc i => decode cL_law pc = .ok (i, ilen pc i)) dcL hi
  · intro k ci f q; cases q
  · intro k v q; cases q
  · intro k v q; cases q
  · exact fun k ci q => lk_all (P := KOK R_law) (List.forall_mem_cons.mpr ⟨⟨fun _ => ⟨gm 77 (by decide +kernel) rfl, gm 78 (by decide +kernel) rfl, gm 63 (by decide +kernel) rfl⟩, fun h => absurd h (by decide), fun h => absurd h (by decide)⟩, (List.forall_mem_cons.mpr ⟨⟨fun _ => ⟨gm 792 (by decide +kernel) rfl, gm 793 (by decide +kernel) rfl, gm 72 (by decide +kernel) rfl⟩, fun h => absurd h (by decide), fun h => absurd h (by decide)⟩, (fun _ h => absurd h List.not_mem_nil)⟩)⟩) q
theorem LA.step0 (h : LA p s m meth c D cy b L xs) {i : Instr} {q : Nx} (hi : mCode mL0 pc = some i) (hs : stepM mL0 i pc ls st w = some q) (hc : nxt q.2.2.2 ≤ s.heap.size + 138 ∧ slt q.2.2.2 ≤ 4000)
    (kk : LW true p l e s m below meth c D cy b q.1 q.2.1 q.2.2.1 q.2.2.2) : LW true p l e s m below meth c D cy b pc ls st w :=
  step_sound h.amb0 (fun k kd n fn g => (callsL0 k _ g).2 _ _ _ _ _ _ _ _ _ _ _ _ _ _ _ _ _ _ h.amb0 rfl rfl) hi hs (by show nxt q.2.2.2 - s.heap.size ≤ 600000; omega) (by show slt q.2.2.2 - 0 ≤ 7302250; omega) kk
theorem LA.call0 (h : LA p s m meth c D cy b L xs) {k ci a : Nat} {f : Fnc} {u : Wd} (hi : mCode mL0 pc = some (.invokespecial k)) (hm : mCal mL0 k = some (1, 1, vfn ci f)) (hs : (shp w a).1 = ci) (hf : f [.ref a] w = some (none, u)) (hst : (st.map (fun v => v.category)).sum ≤ 8) (hc : nxt u ≤ s.heap.size + 138 ∧ slt u ≤ 4000)
    (kk : LW true p l e s m below meth c D cy b (pc + 3) ls st u) : LW true p l e s m below meth c D cy b pc ls (.ref a :: st) w := by
  have hd := h.amb0.2.2.2.2.2.2.2.2.1 pc _ hi
  exact ((callsL0 k _ hm).2 _ p l e room_1 s m #[Value.ref b] below meth c D cy s.heap.size s.heap.size 0 4 cL_law h.amb0 rfl rfl).2 (lw_Z below #[Value.ref b] s) pc [.ref a] st ls w u none hd ((vfn_eq hs).trans hf) rfl hst (by show nxt u - s.heap.size ≤ 600000; omega) (by show slt u - 0 ≤ 7302250; omega) kk
theorem LW.tf (h : LW false p l e s m below meth c D cy b pc ls st w) : LW true p l e s m below meth c D cy b pc ls st w := fun q1 q2 q3 H locs rl hP hS hL =>
  h q1 q2 q3 H locs rl ⟨fun q => (by cases q), hP.2⟩ hS hL
def w00 (n : Nat) : Wd := (fun _ _ => 0, fun _ _ => 0, fun _ _ => none, fun _ => (100, 0), n, 0)
theorem LA.start (h : LA p s m meth c D cy b L xs) : LW true p l e s m below meth c D cy b 0 [some (.ref b), none, none, none] [] (w00 s.heap.size) := by
  have hL := h.2.1
  obtain ⟨u, v, f1, n1, s1, f2, n2, s2, hI⟩ := inv_start (w := w00 s.heap.size) (b := s.heap.size) rfl
  have z0 : slt (w00 s.heap.size) = 0 := rfl
  have zn : nxt (w00 s.heap.size) = s.heap.size := rfl
  have hv : nxt v ≤ s.heap.size + 138 ∧ slt v ≤ 4000 := ⟨by omega, by rw [s2, z0]; decide⟩
  have hu : nxt u ≤ s.heap.size + 138 ∧ slt u ≤ 4000 := ⟨by omega, by rw [s1, z0]; decide⟩
  have m1 : nxt (mk1 (w00 s.heap.size) 8 0 11) ≤ s.heap.size + 138 ∧ slt (mk1 (w00 s.heap.size) 8 0 11) ≤ 4000 := ⟨by rw [nxt_mk1, zn]; omega, by rw [slt_mk1, z0]; decide⟩
  have m2 : nxt (mk1 u 9 0 28) ≤ s.heap.size + 138 ∧ slt (mk1 u 9 0 28) ≤ 4000 := ⟨by rw [nxt_mk1, n1]; omega, by rw [slt_mk1, s1, z0]; decide⟩
  refine h.step0 (q := (3, _, [.ref s.heap.size], mk1 (w00 s.heap.size) 8 0 11)) rfl rfl m1 (h.step0 (q := (4, _, [.ref s.heap.size, .ref s.heap.size], _)) rfl rfl m1 (h.call0 rfl rfl (by rw [shp_mk1, if_pos zn.symm]) f1 (by simp [Value.category]) hu ?_))
  refine h.step0 (q := (8, [some (.ref b), some (.ref s.heap.size), none, none], [], u)) rfl rfl hu ?_
  refine h.step0 (q := (11, _, [.ref (nxt u)], mk1 u 9 0 28)) rfl rfl m2 ?_
  rw [n1]
  refine h.step0 (q := (12, _, [.ref (s.heap.size + 125), .ref (s.heap.size + 125)], _)) rfl rfl m2 (h.call0 rfl rfl (by rw [shp_mk1, if_pos n1.symm]) f2 (by simp [Value.category]) hv ?_)
  refine h.step0 (q := (16, [some (.ref b), some (.ref s.heap.size), some (.ref (s.heap.size + 125)), none], [], v)) rfl rfl hv (LW.tf ?_)
  refine h.step (q := (17, _, [.int 0], v)) rfl rfl rfl hv (h.step (q := (18, [some (.ref b), some (.ref s.heap.size), some (.ref (s.heap.size + 125)), some (.int (nI 0))], [], v)) rfl rfl rfl hv (h.loop L 0 v (by omega) (by omega) hI hv))
end

theorem whole_start {p : Program} {e : Env} {s : State} {m : MethodId} {below : List Frame} {meth : Method} {c : Code} (l : Launch) (hflags : l.flags = flags0) {b L : Nat} {xs : Nat → Int32} (hL : L ≤ 3072) (C0 : lw_At p s m meth c b L xs) : W p l e room_1 s m #[Value.ref b] below meth c s.heap [] 0 0 (lw_Z below #[Value.ref b] s) (entryFrame m ([Value.ref b] : List Value).toArray 4) := by
  obtain ⟨hg, hN⟩ := law_words C0.2.2.2.2.2.1
  obtain ⟨D, cy, hK⟩ := known_all hg hN
  have h : LA p s m meth c D cy b L xs := ⟨C0, hL, hN, hg, hK⟩
  have hl := lv_entry ([Value.ref b] : List Value) (n := 4) (Nat.le_of_ble_eq_true rfl)
  rw [lg_entry_eq]
  generalize (lg_sl ([Value.ref b] : List Value) ++ List.replicate (4 - (lg_sl ([Value.ref b] : List Value)).length) Slot.unset).toArray = rl at hl ⊢
  have hlv : lvr rl 4 [some (.ref b), none, none, none] := ⟨hl.1, hl.2.1, fun i v hi => by
    match i, hi with
    | 0, hi => cases hi; exact hl.2.2 (0, .ref b) List.mem_cons_self
    | 1, hi => cases hi
    | 2, hi => cases hi
    | 3, hi => cases hi
    | (i + 4), hi => cases hi⟩
  have st := h.start (l := l) (e := e) (below := below) rfl (Nat.le_refl _) (Nat.le_refl _) s.heap [] rl ⟨fun _ => rfl, Nat.le_refl _, Nat.le_refl _, fun a h1 h2 => absurd h2 (by show ¬ a < s.heap.size; omega), fun a _ => Nat.le_refl _⟩ va_S.rf hlv
  rw [show nxt (w00 s.heap.size) - s.heap.size = 0 from Nat.sub_self _] at st
  exact st
