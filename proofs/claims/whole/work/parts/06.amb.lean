/-- what holds through a method's body -/
def Amb (ex : Bool) (M : Mth) (p : Program) (s : State) (m : MethodId) (args : Array Value) (meth : Method) (c : Code) (D : va_G) (cy : Nat → ClassId) (b0 : Nat) (cc : ByteArray) (own : String) (nL : Nat) : Prop :=
  p.tables.exec = Jvm.exec ∧ c.code = cc ∧ c.maxLocals = nL ∧ s.vm.findClass own = some m.cls ∧ (∀ w ∈ gw_tbl, w.before args s = true) ∧ NW s ∧ va_K D vwCl (tysOf cy) s ∧ b0 ≤ s.heap.size ∧
  (∀ pc i, mCode M pc = some i → decode cc pc = .ok (i, ilen pc i)) ∧
  (∀ k ci f, mFld M k = some (ci, f) → ci < 10 ∧ f < nfl ci ∧ Cond.fieldLink own k (tyT ci f).1 (tyT ci f).2.1 (tyT ci f).2.2.1 ∈ gw_tbl) ∧
  (∀ k v, mInt M k = some v → Cond.constant own k v ∈ gw_tbl) ∧
  (∀ k v, mLng M k = some v → Cond.constantLong own k v ∈ gw_tbl) ∧
  (∀ k ci, mCls M k = some ci → (ci < 10 → Cond.classLink own k (clN ci) ∈ gw_tbl ∧ Cond.instantiable (clN ci) (nfl ci) ∈ gw_tbl ∧ Cond.initialized (clN ci) ∈ gw_tbl) ∧ (14 ≤ ci → ci ≤ 16 → Cond.classLink own (k - 100000) (clN (elC ci)) ∈ gw_tbl) ∧ (ci = 17 → Cond.classLink own k ("[" ++ (FieldType.array .long).toString) ∈ gw_tbl)) ∧
  (mIni M = true → meth.name = "<init>" ∧ own = clN (mOwn M)) ∧ (ex = true ∨ ∀ k, mCls M k = none)
/-- from this abstract state, whatever real one it stands for, the machine comes to Q -/
def SW (ex : Bool) (p : Program) (l : Launch) (e : Env) (R : Room) (s : State) (m : MethodId) (args : Array Value) (below : List Frame) (meth : Method) (c : Code) (D : va_G) (cy : Nat → ClassId) (b0 n0 s0 nL : Nat) (Q : State → Prop) (pc : Nat) (ls : Lsx) (st : List Value) (w : Wd) : Prop :=
  ls.length = nL → n0 ≤ nxt w → s0 ≤ slt w → ∀ (H : Heap) (locs : List Loc) (rl : Array Slot), Pic ex D cy b0 w H → va_S (fun q => b0 ≤ q) s.heap H locs → lvr rl nL ls → W p l e R s m args below meth c H locs (nxt w - n0) (slt w - s0) Q (F0 m pc rl st)
def insOf (kd k : Nat) : Instr := match kd with | 0 => .invokevirtual k | 1 => .invokespecial k | _ => .invokestatic k
/-- a call that goes as its function says -/
def COK (ex : Bool) (p : Program) (l : Launch) (e : Env) (R : Room) (s : State) (m : MethodId) (args : Array Value) (below : List Frame) (meth : Method) (c : Code) (D : va_G) (cy : Nat → ClassId) (b0 n0 s0 nL : Nat) (cc : ByteArray) (kd k n : Nat) (fn : Fnc) : Prop :=
  (∀ as w r w', fn as w = some (r, w') → nxt w ≤ nxt w' ∧ slt w ≤ slt w') ∧
  ∀ (Q : State → Prop) (pc : Nat) (as rest : List Value) (ls : Lsx) (w w' : Wd) (r : Option Value), decode cc pc = .ok (insOf kd k, 3) → fn as w = some (r, w') → as.length = n → (rest.map (fun v => v.category)).sum ≤ 8 → nxt w' - n0 ≤ R.cells → slt w' - s0 ≤ R.slots →
    SW ex p l e R s m args below meth c D cy b0 n0 s0 nL Q (pc + 3) ls (r.toList ++ rest) w' → SW ex p l e R s m args below meth c D cy b0 n0 s0 nL Q pc ls (as.reverse ++ rest) w
/-! ### what a step was -/
theorem bnI_inv {f : Int32 → Int32 → Int32} {pc : Nat} {ls : Lsx} {st : List Value} {w : Wd} {q : Nx} (h : bnI f pc ls st w = some q) : ∃ x y r, st = .int y :: .int x :: r ∧ q = (pc + 1, ls, .int (f x y) :: r, w) := by
  unfold bnI at h; split at h
  · exact ⟨_, _, _, rfl, (Option.some.inj h).symm⟩
  · cases h
theorem bnIz_inv {f : Int32 → Int32 → Int32} {pc : Nat} {ls : Lsx} {st : List Value} {w : Wd} {q : Nx} (h : bnIz f pc ls st w = some q) : ∃ x y r, st = .int y :: .int x :: r ∧ ¬ y = 0 ∧ q = (pc + 1, ls, .int (f x y) :: r, w) := by
  unfold bnIz at h; split at h
  · split at h
    · cases h
    · exact ⟨_, _, _, rfl, by assumption, (Option.some.inj h).symm⟩
  · cases h
theorem bnJ_inv {f : Int64 → Int64 → Int64} {pc : Nat} {ls : Lsx} {st : List Value} {w : Wd} {q : Nx} (h : bnJ f pc ls st w = some q) : ∃ x y r, st = .long y :: .long x :: r ∧ q = (pc + 1, ls, .long (f x y) :: r, w) := by
  unfold bnJ at h; split at h
  · exact ⟨_, _, _, rfl, (Option.some.inj h).symm⟩
  · cases h
theorem bnJz_inv {f : Int64 → Int64 → Int64} {pc : Nat} {ls : Lsx} {st : List Value} {w : Wd} {q : Nx} (h : bnJz f pc ls st w = some q) : ∃ x y r, st = .long y :: .long x :: r ∧ ¬ y = 0 ∧ q = (pc + 1, ls, .long (f x y) :: r, w) := by
  unfold bnJz at h; split at h
  · split at h
    · cases h
    · exact ⟨_, _, _, rfl, by assumption, (Option.some.inj h).symm⟩
  · cases h
theorem unI_inv {f : Int32 → Value} {pc : Nat} {ls : Lsx} {st : List Value} {w : Wd} {q : Nx} (h : unI f pc ls st w = some q) : ∃ x r, st = .int x :: r ∧ q = (pc + 1, ls, f x :: r, w) := by
  unfold unI at h; split at h
  · exact ⟨_, _, rfl, (Option.some.inj h).symm⟩
  · cases h
theorem unJ_inv {f : Int64 → Value} {pc : Nat} {ls : Lsx} {st : List Value} {w : Wd} {q : Nx} (h : unJ f pc ls st w = some q) : ∃ x r, st = .long x :: r ∧ q = (pc + 1, ls, f x :: r, w) := by
  unfold unJ at h; split at h
  · exact ⟨_, _, rfl, (Option.some.inj h).symm⟩
  · cases h
theorem ldI_inv {i d pc : Nat} {ls : Lsx} {st : List Value} {w : Wd} {q : Nx} (h : ldI i d pc ls st w = some q) : ∃ x, ls[i]? = some (some (.int x)) ∧ q = (pc + d, ls, .int x :: st, w) := by
  unfold ldI at h; split at h
  · exact ⟨_, by assumption, (Option.some.inj h).symm⟩
  · cases h
theorem ldJ_inv {i d pc : Nat} {ls : Lsx} {st : List Value} {w : Wd} {q : Nx} (h : ldJ i d pc ls st w = some q) : ∃ x, ls[i]? = some (some (.long x)) ∧ q = (pc + d, ls, .long x :: st, w) := by
  unfold ldJ at h; split at h
  · exact ⟨_, by assumption, (Option.some.inj h).symm⟩
  · cases h
theorem ldA_inv {i d pc : Nat} {ls : Lsx} {st : List Value} {w : Wd} {q : Nx} (h : ldA i d pc ls st w = some q) : ∃ x, ls[i]? = some (some (.ref x)) ∧ q = (pc + d, ls, .ref x :: st, w) := by
  unfold ldA at h; split at h
  · exact ⟨_, by assumption, (Option.some.inj h).symm⟩
  · cases h
theorem stI_inv {i d pc : Nat} {ls : Lsx} {st : List Value} {w : Wd} {q : Nx} (h : stI i d pc ls st w = some q) : ∃ x r, st = .int x :: r ∧ okS ls i = true ∧ q = (pc + d, ls.set i (some (.int x)), r, w) := by
  unfold stI at h; split at h
  · split at h
    · exact ⟨_, _, rfl, by assumption, (Option.some.inj h).symm⟩
    · cases h
  · cases h
theorem stA_inv {i d pc : Nat} {ls : Lsx} {st : List Value} {w : Wd} {q : Nx} (h : stA i d pc ls st w = some q) : ∃ x r, st = .ref x :: r ∧ okS ls i = true ∧ q = (pc + d, ls.set i (some (.ref x)), r, w) := by
  unfold stA at h; split at h
  · split at h
    · exact ⟨_, _, rfl, by assumption, (Option.some.inj h).symm⟩
    · cases h
  · cases h
theorem stJ_inv {i d pc : Nat} {ls : Lsx} {st : List Value} {w : Wd} {q : Nx} (h : stJ i d pc ls st w = some q) : ∃ x r, st = .long x :: r ∧ (okS ls i = true ∧ i + 1 < ls.length) ∧ q = (pc + d, (ls.set i (some (.long x))).set (i + 1) none, r, w) := by
  unfold stJ at h; split at h
  · split at h
    · rename_i hc
      exact ⟨_, _, rfl, by simpa using hc, (Option.some.inj h).symm⟩
    · cases h
  · cases h
theorem incI_inv {i pc : Nat} {n : Int} {ls : Lsx} {st : List Value} {w : Wd} {q : Nx} (h : incI i n pc ls st w = some q) : ∃ x, ls[i]? = some (some (.int x)) ∧ okS ls i = true ∧ q = (pc + 3, ls.set i (some (.int (x + Int32.ofInt n))), st, w) := by
  unfold incI at h; split at h
  · split at h
    · exact ⟨_, by assumption, by assumption, (Option.some.inj h).symm⟩
    · cases h
  · cases h
theorem jmp_inv {off : Int} {pc : Nat} {ls : Lsx} {st : List Value} {w : Wd} {q : Nx} (h : jmp off pc ls st w = some q) : 0 ≤ (pc : Int) + off ∧ q = (((pc : Int) + off).toNat, ls, st, w) := by
  unfold jmp at h; split at h
  · exact ⟨by assumption, (Option.some.inj h).symm⟩
  · cases h
theorem if1_inv {c : Jvm.ClassFile.Cond} {off : Int} {pc : Nat} {ls : Lsx} {st : List Value} {w : Wd} {q : Nx} (h : if1 c off pc ls st w = some q) : ∃ x r, st = .int x :: r ∧ 0 ≤ (pc : Int) + off ∧ q = (if cmpC c x 0 then ((pc : Int) + off).toNat else pc + 3, ls, r, w) := by
  unfold if1 at h; split at h
  · split at h
    · refine ⟨_, _, rfl, by assumption, ?_⟩
      split at h <;> simp_all
    · cases h
  · cases h
theorem if2_inv {c : Jvm.ClassFile.Cond} {off : Int} {pc : Nat} {ls : Lsx} {st : List Value} {w : Wd} {q : Nx} (h : if2 c off pc ls st w = some q) : ∃ x y r, st = .int y :: .int x :: r ∧ 0 ≤ (pc : Int) + off ∧ q = (if cmpC c x y then ((pc : Int) + off).toNat else pc + 3, ls, r, w) := by
  unfold if2 at h; split at h
  · split at h
    · refine ⟨_, _, _, rfl, by assumption, ?_⟩
      split at h <;> simp_all
    · cases h
  · cases h
theorem getF_inv {M : Mth} {i pc : Nat} {ls : Lsx} {st : List Value} {w : Wd} {q : Nx} (h : getF M i pc ls st w = some q) : ∃ a r ci k, st = .ref a :: r ∧ mFld M i = some (ci, k) ∧ (shp w a).1 = ci ∧ q = (pc + 3, ls, fval (fty ci k) w a k :: r, w) := by
  unfold getF at h; split at h
  · split at h
    · split at h
      · exact ⟨_, _, _, _, rfl, by assumption, by assumption, (Option.some.inj h).symm⟩
      · cases h
    · cases h
  · cases h
theorem putF_inv {M : Mth} {i pc : Nat} {ls : Lsx} {st : List Value} {w : Wd} {q : Nx} (h : putF M i pc ls st w = some q) : ∃ v a r ci k w', st = v :: .ref a :: r ∧ mFld M i = some (ci, k) ∧ (shp w a).1 = ci ∧ ((tyT ci k).2.2.2 = false ∨ (mIni M = true ∧ mOwn M = ci)) ∧ putV (fty ci k) w a k v = some w' ∧ q = (pc + 3, ls, r, w') := by
  unfold putF at h; split at h
  · split at h
    · split at h
      · rename_i hc
        obtain ⟨w', h1, h2⟩ := Option.map_eq_some_iff.mp h
        exact ⟨_, _, _, _, _, w', rfl, by assumption, hc.1, hc.2, h1, h2.symm⟩
      · cases h
    · cases h
  · cases h
theorem inA_spec {i : Int32} {n : Nat} (h : inA i n = true) : vp_in i n := by
  unfold inA at h
  simp only [Bool.and_eq_true, decide_eq_true_eq] at h
  rintro (q | q)
  · exact absurd h.1 (Int32.not_le.mpr q)
  · omega
theorem ald_inv {ks : List Nat} {f : Wd → Nat → Nat → Value} {pc : Nat} {ls : Lsx} {st : List Value} {w : Wd} {q : Nx} (h : ald ks f pc ls st w = some q) : ∃ i a r, st = .int i :: .ref a :: r ∧ (shp w a).1 ∈ ks ∧ vp_in i (shp w a).2 ∧ q = (pc + 1, ls, f w a i.toNatClampNeg :: r, w) := by
  unfold ald at h; split at h
  · split at h
    · rename_i hc
      exact ⟨_, _, _, rfl, hc.1, inA_spec hc.2, (Option.some.inj h).symm⟩
    · cases h
  · cases h
theorem astI_inv {k : Nat} {nar : Int32 → Int32} {pc : Nat} {ls : Lsx} {st : List Value} {w : Wd} {q : Nx} (h : astI k nar pc ls st w = some q) : ∃ x i a r, st = .int x :: .int i :: .ref a :: r ∧ (shp w a).1 = k ∧ vp_in i (shp w a).2 ∧ q = (pc + 1, ls, r, wrI w a i.toNatClampNeg (nar x)) := by
  unfold astI at h; split at h
  · split at h
    · rename_i hc
      exact ⟨_, _, _, _, rfl, hc.1, inA_spec hc.2, (Option.some.inj h).symm⟩
    · cases h
  · cases h
theorem astJ_inv {pc : Nat} {ls : Lsx} {st : List Value} {w : Wd} {q : Nx} (h : astJ pc ls st w = some q) : ∃ x i a r, st = .long x :: .int i :: .ref a :: r ∧ (shp w a).1 = 11 ∧ vp_in i (shp w a).2 ∧ q = (pc + 1, ls, r, wrJ w a i.toNatClampNeg x) := by
  unfold astJ at h; split at h
  · split at h
    · rename_i hc
      exact ⟨_, _, _, _, rfl, hc.1, inA_spec hc.2, (Option.some.inj h).symm⟩
    · cases h
  · cases h
theorem astA_inv {pc : Nat} {ls : Lsx} {st : List Value} {w : Wd} {q : Nx} (h : astA pc ls st w = some q) : ∃ x i a r, st = .ref x :: .int i :: .ref a :: r ∧ (14 ≤ (shp w a).1 ∧ (shp w a).1 ≤ 16) ∧ (shp w x).1 = elC (shp w a).1 ∧ vp_in i (shp w a).2 ∧ q = (pc + 1, ls, r, wrR w a i.toNatClampNeg (some x)) := by
  unfold astA at h; split at h
  · split at h
    · rename_i hc
      exact ⟨_, _, _, _, rfl, hc.1, hc.2.1, inA_spec hc.2.2, (Option.some.inj h).symm⟩
    · cases h
  · cases h
theorem aln_inv {pc : Nat} {ls : Lsx} {st : List Value} {w : Wd} {q : Nx} (h : aln pc ls st w = some q) : ∃ a r, st = .ref a :: r ∧ (10 ≤ (shp w a).1 ∧ (shp w a).1 ≤ 17) ∧ q = (pc + 1, ls, .int (Int32.ofNat (shp w a).2) :: r, w) := by
  unfold aln at h; split at h
  · split at h
    · exact ⟨_, _, rfl, by assumption, (Option.some.inj h).symm⟩
    · cases h
  · cases h
theorem clM_inv {M : Mth} {kd i pc : Nat} {ls : Lsx} {st : List Value} {w : Wd} {q : Nx} (h : clM M kd i pc ls st w = some q) : ∃ n fn r w', mCal M i = some (kd, n, fn) ∧ n ≤ st.length ∧ ((st.drop n).map (fun v => v.category)).sum ≤ 8 ∧ fn (st.take n).reverse w = some (r, w') ∧ q = (pc + 3, ls, r.toList ++ st.drop n, w') := by
  unfold clM at h; split at h
  · split at h
    · rename_i hc
      obtain ⟨rfl, hc⟩ := hc
      split at h
      · exact ⟨_, _, _, _, by assumption, hc.1, hc.2, by assumption, (Option.some.inj h).symm⟩
      · cases h
    · cases h
  · cases h
theorem dp1_inv {pc : Nat} {ls : Lsx} {st : List Value} {w : Wd} {q : Nx} (h : dp1 pc ls st w = some q) : ∃ v r, st = v :: r ∧ v.category = 1 ∧ q = (pc + 1, ls, v :: v :: r, w) := by
  unfold dp1 at h; split at h
  · exact ⟨_, _, rfl, rfl, (Option.some.inj h).symm⟩
  · exact ⟨_, _, rfl, rfl, (Option.some.inj h).symm⟩
  · cases h
theorem dp2_inv {pc : Nat} {ls : Lsx} {st : List Value} {w : Wd} {q : Nx} (h : dp2 pc ls st w = some q) : (∃ x y r, st = .int x :: .ref y :: r ∧ q = (pc + 1, ls, .int x :: .ref y :: .int x :: .ref y :: r, w)) ∨ ∃ x r, st = .long x :: r ∧ q = (pc + 1, ls, .long x :: .long x :: r, w) := by
  unfold dp2 at h; split at h
  · exact Or.inl ⟨_, _, _, rfl, (Option.some.inj h).symm⟩
  · exact Or.inr ⟨_, _, rfl, (Option.some.inj h).symm⟩
  · cases h
theorem swT_inv {d lo hi : Int} {os : Array Int} {pc : Nat} {ls : Lsx} {st : List Value} {w : Wd} {q : Nx} (h : swT d lo hi os pc ls st w = some q) : ∃ x r, st = .int x :: r ∧ (((x.toInt < lo ∨ hi < x.toInt) ∧ 0 ≤ (pc : Int) + d ∧ q = (((pc : Int) + d).toNat, ls, r, w)) ∨ (¬ (x.toInt < lo ∨ hi < x.toInt) ∧ ∃ o, os[(x.toInt - lo).toNat]? = some o ∧ 0 ≤ (pc : Int) + o ∧ q = (((pc : Int) + o).toNat, ls, r, w))) := by
  unfold swT at h; split at h
  · split at h
    · exact ⟨_, _, rfl, Or.inl ⟨by assumption, jmp_inv h⟩⟩
    · split at h
      · exact ⟨_, _, rfl, Or.inr ⟨by assumption, _, by assumption, jmp_inv h⟩⟩
      · cases h
  · cases h
