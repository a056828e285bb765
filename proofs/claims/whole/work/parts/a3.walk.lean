
/-- from here the law comes to its end with 1 -/
def LW (ex : Bool) (p : Program) (l : Launch) (e : Env) (s : State) (m : MethodId) (below : List Frame) (meth : Method) (c : Code) (D : va_G) (cy : Nat → ClassId) (b pc : Nat) (ls : Lsx) (st : List Value) (w : Wd) : Prop :=
  SW ex p l e room_1 s m #[Value.ref b] below meth c D cy s.heap.size s.heap.size 0 4 (lw_Z below #[Value.ref b] s) pc ls st w
/-- what the walk rests on -/
def LA (p : Program) (s : State) (m : MethodId) (meth : Method) (c : Code) (D : va_G) (cy : Nat → ClassId) (b L : Nat) (xs : Nat → Int32) : Prop :=
  lw_At p s m meth c b L xs ∧ L ≤ 3072 ∧ NW s ∧ (∀ w ∈ gw_tbl, w.before #[Value.ref b] s = true) ∧ va_K D vwCl (tysOf cy) s
section
variable {p : Program} {l : Launch} {e : Env} {s : State} {m : MethodId} {below : List Frame} {meth : Method} {c : Code} {D : va_G} {cy : Nat → ClassId} {b L : Nat} {xs : Nat → Int32} {pc : Nat} {ls : Lsx} {st : List Value} {w : Wd}
theorem LA.amb (h : LA p s m meth c D cy b L xs) : Amb false mL p s m #[Value.ref b] meth c D cy s.heap.size cL_law R_law 4 := by
  obtain ⟨⟨h1, h2, h3, h4, h5, h6, h7, h8, h9, h10⟩, hL, hN, hg, hK⟩ := h
  refine ⟨h1, h2, h4, h5, hg, hN, hK, Nat.le_refl _, ?_, ?_, ?_, ?_, ?_, fun q => (by cases q), Or.inr fun _ => rfl⟩
  · exact fun pc i hi => lk_all (P := fun pc i => decode cL_law pc = .ok (i, ilen pc i)) dcL hi
  · intro k ci f q; cases q
  · intro k v q; cases q
  · exact fun k v q => lk_all (P := fun k v => Cond.constantLong R_law k v ∈ gw_tbl) (List.forall_mem_cons.mpr ⟨gm 1152 (by decide +kernel) rfl, fun _ h => absurd h List.not_mem_nil⟩) q
  · intro k ci q; cases q
theorem LA.step (h : LA p s m meth c D cy b L xs) {i : Instr} {q : Nx} (hi : mCode mL pc = some i) (hs : stepM mL i pc ls st w = some q) (hw : q.2.2.2 = w) (hc : nxt w ≤ s.heap.size + 138 ∧ slt w ≤ 4000)
    (kk : LW false p l e s m below meth c D cy b q.1 q.2.1 q.2.2.1 q.2.2.2) : LW false p l e s m below meth c D cy b pc ls st w :=
  step_sound h.amb (fun k kd n fn g => (callsL k _ g).2 _ _ _ _ _ _ _ _ _ _ _ _ _ _ _ _ _ _ h.amb rfl rfl) hi hs (by rw [hw]; show nxt w - s.heap.size ≤ 600000; omega) (by rw [hw]; show slt w - 0 ≤ 7302250; omega) kk
theorem LA.read (h : LA p s m meth c D cy b L xs) {i : Int32} (hin : vp_in i L) (hi : mCode mL pc = some .iaload) (kk : LW false p l e s m below meth c D cy b (pc + 1) ls (.int (xs i.toNatClampNeg) :: st) w) : LW false p l e s m below meth c D cy b pc ls (.int i :: .ref b :: st) w := by
  have hd := h.amb.2.2.2.2.2.2.2.2.1 pc _ hi
  obtain ⟨⟨h1, h2, h3, h4, h5, h6, h7, h8, h9, h10⟩, -⟩ := h
  intro q1 q2 q3 H locs rl hP hS hL
  exact va_sld h1 h2 h7 h8 (by omega) hS hin hd (kk q1 q2 q3 H locs rl hP hS hL)
theorem LA.len (h : LA p s m meth c D cy b L xs) (hi : mCode mL pc = some .arraylength) (kk : LW false p l e s m below meth c D cy b (pc + 1) ls (.int (nI L) :: st) w) : LW false p l e s m below meth c D cy b pc ls (.ref b :: st) w := by
  have hd := h.amb.2.2.2.2.2.2.2.2.1 pc _ hi
  obtain ⟨⟨h1, h2, h3, h4, h5, h6, h7, h8, h9, h10⟩, -⟩ := h
  intro q1 q2 q3 H locs rl hP hS hL
  exact va_slen h1 h2 h7 h8 (by omega) hS hd (kk q1 q2 q3 H locs rl hP hS hL)
/-- an argument out of the script -/
theorem LA.arg (h : LA p s m meth c D cy b L xs) (hc : nxt w ≤ s.heap.size + 138 ∧ slt w ≤ 4000) {a o : Nat} {i j : Nat} (hij : i + j < L) (h0 : mCode mL pc = some (.aload_n 0)) (h1 : mCode mL (pc + 1) = some (.iload_n 3)) (h2 : mCode mL (pc + 2) = some (.iconst j)) (hj : j ≤ 5) (h3 : mCode mL (pc + 3) = some .iadd) (h4 : mCode mL (pc + 4) = some .iaload)
    (kk : LW false p l e s m below meth c D cy b (pc + 5) [some (.ref b), some (.ref a), some (.ref o), some (.int (nI i))] (.int (xs (i + j)) :: st) w) : LW false p l e s m below meth c D cy b pc [some (.ref b), some (.ref a), some (.ref o), some (.int (nI i))] st w := by
  have hL := h.2.1
  have e0 : nI i + Int32.ofInt (j : Int) = nI (i + j) := by
    rw [show Int32.ofInt (j : Int) = nI j from Int32.ofInt_eq_ofNat]; exact nI_a i j
  have e1 : (nI (i + j)).toNatClampNeg = i + j := nI_clamp (by omega)
  have hin : vp_in (nI (i + j)) L := by
    have g := inA_iff.mp (inA_nI (k := i + j) (n := L) hij (by omega))
    rintro (q | q)
    · rw [Int32.lt_iff_toInt_lt] at q
      exact absurd g.1 (by simpa using q)
    · rw [e1] at q; omega
  have key : LW false p l e s m below meth c D cy b (pc + 4) [some (.ref b), some (.ref a), some (.ref o), some (.int (nI i))] (.int (nI i + Int32.ofInt (j : Int)) :: .ref b :: st) w := by
    rw [e0]
    exact h.read hin h4 (by rw [e1]; exact kk)
  exact h.step h0 rfl rfl hc (h.step h1 rfl rfl hc (h.step h2 rfl rfl hc (h.step h3 rfl rfl hc key)))
/-- a call of the class or of the reference -/
theorem LA.call (h : LA p s m meth c D cy b L xs) {k n ci a : Nat} {f : Fnc} {as : List Value} {r : Value} {u : Wd} (hi : mCode mL pc = some (.invokevirtual k)) (hm : mCal mL k = some (0, n + 1, vfn ci f)) (hs : (shp w a).1 = ci) (hf : f (.ref a :: as) w = some (some r, u)) (hn : as.length = n) (hst : (st.map (fun v => v.category)).sum ≤ 8) (hc : nxt u ≤ s.heap.size + 138 ∧ slt u ≤ 4000)
    (kk : LW false p l e s m below meth c D cy b (pc + 3) ls (r :: st) u) : LW false p l e s m below meth c D cy b pc ls (as.reverse ++ .ref a :: st) w := by
  have hd := h.amb.2.2.2.2.2.2.2.2.1 pc _ hi
  have C := ((callsL k _ hm).2 _ p l e room_1 s m #[Value.ref b] below meth c D cy s.heap.size s.heap.size 0 4 cL_law h.amb rfl rfl).2 (lw_Z below #[Value.ref b] s) pc (.ref a :: as) st ls w u (some r) hd ((vfn_eq hs).trans hf) (by show as.length + 1 = n + 1; rw [hn]) hst (by show nxt u - s.heap.size ≤ 600000; omega) (by show slt u - 0 ≤ 7302250; omega) kk
  rw [List.reverse_cons, List.append_assoc] at C
  exact C
/-- one command whose answers are ints -/
theorem LA.cmdI (h : LA p s m meth c D cy b L xs) (hc : nxt w ≤ s.heap.size + 138 ∧ slt w ≤ 4000) {a i n k1 k2 p1 p2 : Nat} {off : Int} {F G : Fnc} {as : List Value} (hls : ls = [some (.ref b), some (.ref a), some (.ref (a + 125)), some (.int (nI i))]) (hB : BOTH F G as w a) (hF : ∀ as w r u, F as w = some (some r, u) → ∃ x, r = .int x) (sh1 : (shp w a).1 = 8) (sh2 : (shp w (a + 125)).1 = 9) (hn : as.length = n)
    (c1 : mCode mL pc = some (.aload_n 1)) (P1 : ∀ st w, nxt w ≤ s.heap.size + 138 ∧ slt w ≤ 4000 → LW false p l e s m below meth c D cy b p1 ls (as.reverse ++ st) w → LW false p l e s m below meth c D cy b (pc + 1) ls st w) (c2 : mCode mL p1 = some (.invokevirtual k1)) (m1 : mCal mL k1 = some (0, n + 1, vfn 8 F)) (c3 : mCode mL (p1 + 3) = some (.aload_n 2))
    (P2 : ∀ st w, nxt w ≤ s.heap.size + 138 ∧ slt w ≤ 4000 → LW false p l e s m below meth c D cy b p2 ls (as.reverse ++ st) w → LW false p l e s m below meth c D cy b (p1 + 4) ls st w) (c4 : mCode mL p2 = some (.invokevirtual k2)) (m2 : mCal mL k2 = some (0, n + 1, vfn 9 G)) (c5 : mCode mL (p2 + 3) = some (.if_icmp .eq off)) (ho : ((p2 + 3 : Nat) : Int) + off = 1006)
    (kk : ∀ v, INV v a → v.2.2.2 = w.2.2.2 → LW false p l e s m below meth c D cy b 1006 ls [] v) : LW false p l e s m below meth c D cy b pc ls [] w := by
  obtain ⟨r, u, v, f1, f2, hcat, hI, e1, e2⟩ := hB
  obtain ⟨x, rfl⟩ := hF _ _ _ _ f1
  have hs : ∀ z, shp u z = shp w z := fun z => by unfold shp; rw [e1]
  have hcu : nxt u ≤ s.heap.size + 138 ∧ slt u ≤ 4000 := by unfold nxt slt; rw [e1]; exact hc
  have hcv : nxt v ≤ s.heap.size + 138 ∧ slt v ≤ 4000 := by unfold nxt slt; rw [e2]; exact hc
  have fin : LW false p l e s m below meth c D cy b (p2 + 3) ls [.int x, .int x] v := by
    refine h.step (q := (1006, ls, [], v)) c5 ?_ rfl hcv (kk v hI e2)
    show if2 .eq off (p2 + 3) ls [.int x, .int x] v = _
    simp only [if2, ho]
    simp [cmpC]
  refine h.step (q := (pc + 1, ls, [.ref a], w)) c1 (by rw [hls]; rfl) rfl hc (P1 [.ref a] w hc (h.call c2 m1 sh1 f1 hn (Nat.zero_le _) hcu ?_))
  refine h.step (q := (p1 + 4, ls, [.ref (a + 125), .int x], u)) c3 (by rw [hls]; rfl) rfl hcu (P2 [.ref (a + 125), .int x] u hcu (h.call c4 m2 ((hs _).symm ▸ sh2) f2 hn (by simp [Value.category]) hcv fin))
/-- one command whose answers are longs -/
theorem LA.cmdJ (h : LA p s m meth c D cy b L xs) (hc : nxt w ≤ s.heap.size + 138 ∧ slt w ≤ 4000) {a i n k1 k2 p1 p2 : Nat} {off : Int} {F G : Fnc} {as : List Value} (hls : ls = [some (.ref b), some (.ref a), some (.ref (a + 125)), some (.int (nI i))]) (hB : BOTH F G as w a) (hF : ∀ as w r u, F as w = some (some r, u) → ∃ x, r = .long x) (sh1 : (shp w a).1 = 8) (sh2 : (shp w (a + 125)).1 = 9) (hn : as.length = n)
    (c1 : mCode mL pc = some (.aload_n 1)) (P1 : ∀ st w, nxt w ≤ s.heap.size + 138 ∧ slt w ≤ 4000 → LW false p l e s m below meth c D cy b p1 ls (as.reverse ++ st) w → LW false p l e s m below meth c D cy b (pc + 1) ls st w) (c2 : mCode mL p1 = some (.invokevirtual k1)) (m1 : mCal mL k1 = some (0, n + 1, vfn 8 F)) (c3 : mCode mL (p1 + 3) = some (.aload_n 2))
    (P2 : ∀ st w, nxt w ≤ s.heap.size + 138 ∧ slt w ≤ 4000 → LW false p l e s m below meth c D cy b p2 ls (as.reverse ++ st) w → LW false p l e s m below meth c D cy b (p1 + 4) ls st w) (c4 : mCode mL p2 = some (.invokevirtual k2)) (m2 : mCal mL k2 = some (0, n + 1, vfn 9 G)) (c5 : mCode mL (p2 + 3) = some .lcmp) (c6 : mCode mL (p2 + 4) = some (.ifCond .eq off)) (ho : ((p2 + 4 : Nat) : Int) + off = 1006)
    (kk : ∀ v, INV v a → v.2.2.2 = w.2.2.2 → LW false p l e s m below meth c D cy b 1006 ls [] v) : LW false p l e s m below meth c D cy b pc ls [] w := by
  obtain ⟨r, u, v, f1, f2, hcat, hI, e1, e2⟩ := hB
  obtain ⟨x, rfl⟩ := hF _ _ _ _ f1
  have hs : ∀ z, shp u z = shp w z := fun z => by unfold shp; rw [e1]
  have hcu : nxt u ≤ s.heap.size + 138 ∧ slt u ≤ 4000 := by unfold nxt slt; rw [e1]; exact hc
  have hcv : nxt v ≤ s.heap.size + 138 ∧ slt v ≤ 4000 := by unfold nxt slt; rw [e2]; exact hc
  have fin : LW false p l e s m below meth c D cy b (p2 + 3) ls [.long x, .long x] v := by
    refine h.step (q := (p2 + 4, ls, [.int (lg_cmp x x)], v)) c5 rfl rfl hcv ?_
    rw [lgc_0.mpr rfl]
    refine h.step (q := (1006, ls, [], v)) c6 ?_ rfl hcv (kk v hI e2)
    show if1 .eq off (p2 + 4) ls [.int 0] v = _
    simp only [if1, ho]
    simp [cmpC]
  refine h.step (q := (pc + 1, ls, [.ref a], w)) c1 (by rw [hls]; rfl) rfl hc (P1 [.ref a] w hc (h.call c2 m1 sh1 f1 hn (Nat.zero_le _) hcu ?_))
  refine h.step (q := (p1 + 4, ls, [.ref (a + 125), .long x], u)) c3 (by rw [hls]; rfl) rfl hcu (P2 [.ref (a + 125), .long x] u hcu (h.call c4 m2 ((hs _).symm ▸ sh2) f2 hn (by simp [Value.category]) hcv fin))
end
/-! what a method's answer is -/
theorem ret_ty {M : Mth} {i : Instr} {st : List Value} {r : Value} (h : retM M i st = some (some r)) : (mRet M = some .int → ∃ x, r = .int x) ∧ (mRet M = some .long → ∃ x, r = .long x) := by
  unfold retM at h
  split at h
  · split at h <;> cases h
  · split at h
    · split at h
      · cases h; exact ⟨fun _ => ⟨_, rfl⟩, fun q => by simp_all⟩
      · exact ⟨fun q => by simp_all, fun q => by simp_all⟩
      · exact ⟨fun q => by simp_all, fun q => by simp_all⟩
      · cases h
    · cases h
  · split at h
    · split at h
      · cases h; exact ⟨fun q => by simp_all, fun _ => ⟨_, rfl⟩⟩
      · cases h
    · cases h
  · cases h
theorem run_ty {M : Mth} {r : Value} {u : Wd} : ∀ n pc ls st w, runM M n pc ls st w = some (some r, u) → (mRet M = some .int → ∃ x, r = .int x) ∧ (mRet M = some .long → ∃ x, r = .long x) := by
  intro n
  induction n with
  | zero => intro pc ls st w h; cases h
  | succ n ih =>
    intro pc ls st w h
    unfold runM at h
    split at h
    · cases h
    · split at h
      · rename_i hr
        cases h
        exact ret_ty hr
      · split at h
        · cases h
        · exact ih _ _ _ _ h
theorem sem_int {M : Mth} {nL : Nat} (hM : mRet M = some .int) : ∀ as w r u, semF M nL as w = some (some r, u) → ∃ x, r = .int x := fun as w r u h => by
  obtain ⟨-, n, hr⟩ := semF_spec h
  exact (run_ty _ _ _ _ _ hr).1 hM
theorem sem_long {M : Mth} {nL : Nat} (hM : mRet M = some .long) : ∀ as w r u, semF M nL as w = some (some r, u) → ∃ x, r = .long x := fun as w r u h => by
  obtain ⟨-, n, hr⟩ := semF_spec h
  exact (run_ty _ _ _ _ _ hr).2 hM
