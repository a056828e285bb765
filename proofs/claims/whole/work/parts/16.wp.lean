theorem wp_none {M : Mth} {pc : Nat} {ls : Lsx} {st : List Value} {w : Wd} {Q : Option Value → Wd → Prop} {i : Instr} (hi : mCode M pc = some i) (hr : retM M i st = none) (hs : stepM M i pc ls st w = none) : wp M pc ls st w Q ↔ False := by
  refine ⟨?_, fun h => h.elim⟩
  rintro ⟨n, q, h1, h2⟩
  cases n with
  | zero => cases h1
  | succ n =>
    unfold runM at h1
    rw [hi] at h1
    dsimp only at h1
    rw [hr] at h1
    dsimp only at h1
    rw [hs] at h1
    cases h1
theorem okS_0 {a : Option Value} {r : Lsx} : okS (a :: r) 0 = true ↔ True := by simp [okS]
theorem okS_s {ls : Lsx} {i : Nat} (h : i + 1 < ls.length) : okS ls (i + 1) = true ↔ isc2 (ls[i]?) = false := by simp [okS, h]
theorem okS_0j {a b : Option Value} {r : Lsx} : (okS (a :: b :: r) 0 && decide (0 + 1 < (a :: b :: r).length)) = true ↔ True := by simp [okS]
theorem okS_sj {ls : Lsx} {i : Nat} (h : i + 2 < ls.length) : (okS ls (i + 1) && decide (i + 1 + 1 < ls.length)) = true ↔ isc2 (ls[i]?) = false := by
  have h1 : i + 1 < ls.length := by omega
  simp [okS, h, h1]
def cont (o : Option (Option Value × Wd)) (K : Option Value → Wd → Prop) : Prop := match o with
  | some q => K q.1 q.2
  | none => False
theorem cont_some {r : Option Value} {w : Wd} {K : Option Value → Wd → Prop} : cont (some (r, w)) K ↔ K r w := Iff.rfl
theorem cont_none {K : Option Value → Wd → Prop} : cont none K ↔ False := Iff.rfl
theorem tl_some {v : Value} {st : List Value} : (some v).toList ++ st = v :: st := rfl
theorem tl_none {st : List Value} : (none : Option Value).toList ++ st = st := rfl
def csum (st : List Value) : Nat := (st.map (fun v => v.category)).sum
theorem csum_nil : csum [] = 0 := rfl
theorem csum_i {x : Int32} {st : List Value} : csum (.int x :: st) = 1 + csum st := by simp [csum, Value.category]
theorem csum_r {x : Nat} {st : List Value} : csum (.ref x :: st) = 1 + csum st := by simp [csum, Value.category]
theorem csum_j {x : Int64} {st : List Value} : csum (.long x :: st) = 2 + csum st := by simp [csum, Value.category]
theorem isc2_i {x : Int32} : isc2 (some (some (.int x))) = false := rfl
theorem isc2_r {x : Nat} : isc2 (some (some (.ref x))) = false := rfl
theorem isc2_n : isc2 (some none) = false := rfl
theorem va_rf_s {x : Nat} : va_rf (some x) = .ref x := rfl
theorem vfn_ite {ci : Nat} {f : Fnc} {b : Nat} {as : List Value} {w : Wd} : vfn ci f (.ref b :: as) w = if (shp w b).1 = ci then f (.ref b :: as) w else none := rfl
theorem wp_iconst {M : Mth} {pc : Nat} {ls : Lsx} {st : List Value} {w : Wd} {Q : Option Value → Wd → Prop} {n : Int} {v : Int32} (h : mCode M pc = some (.iconst n)) (hv : Int32.ofInt n = v) : wp M pc ls st w Q ↔ wp M (pc + 1) ls (.int v :: st) w Q := wp_step h rfl (by subst hv; rfl)
theorem wp_bipush {M : Mth} {pc : Nat} {ls : Lsx} {st : List Value} {w : Wd} {Q : Option Value → Wd → Prop} {n : Int} {v : Int32} (h : mCode M pc = some (.bipush n)) (hv : (Int8.ofInt n).toInt32 = v) : wp M pc ls st w Q ↔ wp M (pc + 2) ls (.int v :: st) w Q := wp_step h rfl (by subst hv; rfl)
theorem wp_sipush {M : Mth} {pc : Nat} {ls : Lsx} {st : List Value} {w : Wd} {Q : Option Value → Wd → Prop} {n : Int} {v : Int32} (h : mCode M pc = some (.sipush n)) (hv : (Int16.ofInt n).toInt32 = v) : wp M pc ls st w Q ↔ wp M (pc + 3) ls (.int v :: st) w Q := wp_step h rfl (by subst hv; rfl)
theorem wp_lconst {M : Mth} {pc : Nat} {ls : Lsx} {st : List Value} {w : Wd} {Q : Option Value → Wd → Prop} {n : Fin 2} {v : Int64} (h : mCode M pc = some (.lconst n)) (hv : Int64.ofNat n.val = v) : wp M pc ls st w Q ↔ wp M (pc + 1) ls (.long v :: st) w Q := wp_step h rfl (by subst hv; rfl)
theorem wp_ldc {M : Mth} {pc : Nat} {ls : Lsx} {st : List Value} {w : Wd} {Q : Option Value → Wd → Prop} {k : Nat} {v : Int32} (h : mCode M pc = some (.ldc k)) (hv : mInt M k = some v) : wp M pc ls st w Q ↔ wp M (pc + 2) ls (.int v :: st) w Q := wp_step h rfl (by simp only [stepM, hv])
theorem wp_ldc_w {M : Mth} {pc : Nat} {ls : Lsx} {st : List Value} {w : Wd} {Q : Option Value → Wd → Prop} {k : Nat} {v : Int32} (h : mCode M pc = some (.ldc_w k)) (hv : mInt M k = some v) : wp M pc ls st w Q ↔ wp M (pc + 3) ls (.int v :: st) w Q := wp_step h rfl (by simp only [stepM, hv])
theorem wp_ldc2_w {M : Mth} {pc : Nat} {ls : Lsx} {st : List Value} {w : Wd} {Q : Option Value → Wd → Prop} {k : Nat} {v : Int64} (h : mCode M pc = some (.ldc2_w k)) (hv : mLng M k = some v) : wp M pc ls st w Q ↔ wp M (pc + 3) ls (.long v :: st) w Q := wp_step h rfl (by simp only [stepM, hv])
theorem wp_iload_n {M : Mth} {pc : Nat} {ls : Lsx} {st : List Value} {w : Wd} {Q : Option Value → Wd → Prop} {k : Fin 4} {x : Int32} (h : mCode M pc = some (.iload_n k)) (hl : ls[k.val]? = some (some (.int x))) : wp M pc ls st w Q ↔ wp M (pc + 1) ls (.int x :: st) w Q := wp_step h rfl (by simp only [stepM, ldI, hl])
theorem wp_iload {M : Mth} {pc : Nat} {ls : Lsx} {st : List Value} {w : Wd} {Q : Option Value → Wd → Prop} {k : Nat} {x : Int32} (h : mCode M pc = some (.iload k)) (hl : ls[k]? = some (some (.int x))) : wp M pc ls st w Q ↔ wp M (pc + 2) ls (.int x :: st) w Q := wp_step h rfl (by simp only [stepM, ldI, hl])
theorem wp_lload_n {M : Mth} {pc : Nat} {ls : Lsx} {st : List Value} {w : Wd} {Q : Option Value → Wd → Prop} {k : Fin 4} {x : Int64} (h : mCode M pc = some (.lload_n k)) (hl : ls[k.val]? = some (some (.long x))) : wp M pc ls st w Q ↔ wp M (pc + 1) ls (.long x :: st) w Q := wp_step h rfl (by simp only [stepM, ldJ, hl])
theorem wp_lload {M : Mth} {pc : Nat} {ls : Lsx} {st : List Value} {w : Wd} {Q : Option Value → Wd → Prop} {k : Nat} {x : Int64} (h : mCode M pc = some (.lload k)) (hl : ls[k]? = some (some (.long x))) : wp M pc ls st w Q ↔ wp M (pc + 2) ls (.long x :: st) w Q := wp_step h rfl (by simp only [stepM, ldJ, hl])
theorem wp_aload_n {M : Mth} {pc : Nat} {ls : Lsx} {st : List Value} {w : Wd} {Q : Option Value → Wd → Prop} {k : Fin 4} {x : Nat} (h : mCode M pc = some (.aload_n k)) (hl : ls[k.val]? = some (some (.ref x))) : wp M pc ls st w Q ↔ wp M (pc + 1) ls (.ref x :: st) w Q := wp_step h rfl (by simp only [stepM, ldA, hl])
theorem wp_aload {M : Mth} {pc : Nat} {ls : Lsx} {st : List Value} {w : Wd} {Q : Option Value → Wd → Prop} {k : Nat} {x : Nat} (h : mCode M pc = some (.aload k)) (hl : ls[k]? = some (some (.ref x))) : wp M pc ls st w Q ↔ wp M (pc + 2) ls (.ref x :: st) w Q := wp_step h rfl (by simp only [stepM, ldA, hl])
theorem wp_istore_n {M : Mth} {pc : Nat} {ls : Lsx} {st : List Value} {w : Wd} {Q : Option Value → Wd → Prop} {k : Fin 4} {x : Int32} {ls' : Lsx} {C : Prop} (h : mCode M pc = some (.istore_n k)) (hc : okS ls k.val = true ↔ C) (hl : ls.set k.val (some (.int x)) = ls') : wp M pc ls (.int x :: st) w Q ↔ C ∧ wp M (pc + 1) ls' st w Q := by
  subst hl
  by_cases q : okS ls k.val = true
  · rw [wp_step h rfl (by simp only [stepM, stI, q, if_true]; rfl)]
    simp [hc.mp q]
  · rw [wp_none h rfl (by simp only [stepM, stI, q]; rfl)]
    exact ⟨fun z => z.elim, fun z => q (hc.mpr z.1)⟩
theorem wp_istore {M : Mth} {pc : Nat} {ls : Lsx} {st : List Value} {w : Wd} {Q : Option Value → Wd → Prop} {k : Nat} {x : Int32} {ls' : Lsx} {C : Prop} (h : mCode M pc = some (.istore k)) (hc : okS ls k = true ↔ C) (hl : ls.set k (some (.int x)) = ls') : wp M pc ls (.int x :: st) w Q ↔ C ∧ wp M (pc + 2) ls' st w Q := by
  subst hl
  by_cases q : okS ls k = true
  · rw [wp_step h rfl (by simp only [stepM, stI, q, if_true]; rfl)]
    simp [hc.mp q]
  · rw [wp_none h rfl (by simp only [stepM, stI, q]; rfl)]
    exact ⟨fun z => z.elim, fun z => q (hc.mpr z.1)⟩
theorem wp_astore_n {M : Mth} {pc : Nat} {ls : Lsx} {st : List Value} {w : Wd} {Q : Option Value → Wd → Prop} {k : Fin 4} {x : Nat} {ls' : Lsx} {C : Prop} (h : mCode M pc = some (.astore_n k)) (hc : okS ls k.val = true ↔ C) (hl : ls.set k.val (some (.ref x)) = ls') : wp M pc ls (.ref x :: st) w Q ↔ C ∧ wp M (pc + 1) ls' st w Q := by
  subst hl
  by_cases q : okS ls k.val = true
  · rw [wp_step h rfl (by simp only [stepM, stA, q, if_true]; rfl)]
    simp [hc.mp q]
  · rw [wp_none h rfl (by simp only [stepM, stA, q]; rfl)]
    exact ⟨fun z => z.elim, fun z => q (hc.mpr z.1)⟩
theorem wp_astore {M : Mth} {pc : Nat} {ls : Lsx} {st : List Value} {w : Wd} {Q : Option Value → Wd → Prop} {k : Nat} {x : Nat} {ls' : Lsx} {C : Prop} (h : mCode M pc = some (.astore k)) (hc : okS ls k = true ↔ C) (hl : ls.set k (some (.ref x)) = ls') : wp M pc ls (.ref x :: st) w Q ↔ C ∧ wp M (pc + 2) ls' st w Q := by
  subst hl
  by_cases q : okS ls k = true
  · rw [wp_step h rfl (by simp only [stepM, stA, q, if_true]; rfl)]
    simp [hc.mp q]
  · rw [wp_none h rfl (by simp only [stepM, stA, q]; rfl)]
    exact ⟨fun z => z.elim, fun z => q (hc.mpr z.1)⟩
theorem wp_lstore_n {M : Mth} {pc : Nat} {ls : Lsx} {st : List Value} {w : Wd} {Q : Option Value → Wd → Prop} {k : Fin 4} {x : Int64} {ls' : Lsx} {C : Prop} (h : mCode M pc = some (.lstore_n k)) (hc : (okS ls k.val && decide (k.val + 1 < ls.length)) = true ↔ C) (hl : (ls.set k.val (some (.long x))).set (k.val + 1) none = ls') : wp M pc ls (.long x :: st) w Q ↔ C ∧ wp M (pc + 1) ls' st w Q := by
  subst hl
  by_cases q : (okS ls k.val && decide (k.val + 1 < ls.length)) = true
  · rw [wp_step h rfl (by simp only [stepM, stJ, q, if_true]; rfl)]
    simp only [hc.mp q, true_and]
  · rw [wp_none h rfl (by simp only [stepM, stJ, q]; rfl)]
    exact ⟨fun z => z.elim, fun z => q (hc.mpr z.1)⟩
theorem wp_lstore {M : Mth} {pc : Nat} {ls : Lsx} {st : List Value} {w : Wd} {Q : Option Value → Wd → Prop} {k : Nat} {x : Int64} {ls' : Lsx} {C : Prop} (h : mCode M pc = some (.lstore k)) (hc : (okS ls k && decide (k + 1 < ls.length)) = true ↔ C) (hl : (ls.set k (some (.long x))).set (k + 1) none = ls') : wp M pc ls (.long x :: st) w Q ↔ C ∧ wp M (pc + 2) ls' st w Q := by
  subst hl
  by_cases q : (okS ls k && decide (k + 1 < ls.length)) = true
  · rw [wp_step h rfl (by simp only [stepM, stJ, q, if_true]; rfl)]
    simp only [hc.mp q, true_and]
  · rw [wp_none h rfl (by simp only [stepM, stJ, q]; rfl)]
    exact ⟨fun z => z.elim, fun z => q (hc.mpr z.1)⟩
theorem wp_iinc {M : Mth} {pc : Nat} {ls : Lsx} {st : List Value} {w : Wd} {Q : Option Value → Wd → Prop} {k : Nat} {n : Int} {x y : Int32} {ls' : Lsx} {C : Prop} (h : mCode M pc = some (.iinc k n)) (hx : ls[k]? = some (some (.int x))) (hc : okS ls k = true ↔ C) (hv : Int32.ofInt n = y) (hl : ls.set k (some (.int (x + y))) = ls') : wp M pc ls st w Q ↔ C ∧ wp M (pc + 3) ls' st w Q := by
  subst hl
  subst hv
  by_cases q : okS ls k = true
  · rw [wp_step h rfl (by simp only [stepM, incI, hx, q, if_true]; rfl)]
    simp [hc.mp q]
  · rw [wp_none h rfl (by simp only [stepM, incI, hx, q]; rfl)]
    exact ⟨fun z => z.elim, fun z => q (hc.mpr z.1)⟩
theorem wp_iadd {M : Mth} {pc : Nat} {ls : Lsx} {st : List Value} {w : Wd} {Q : Option Value → Wd → Prop} {x y : Int32} (h : mCode M pc = some .iadd) : wp M pc ls (.int y :: .int x :: st) w Q ↔ wp M (pc + 1) ls (.int (x + y) :: st) w Q := wp_step h rfl rfl
theorem wp_isub {M : Mth} {pc : Nat} {ls : Lsx} {st : List Value} {w : Wd} {Q : Option Value → Wd → Prop} {x y : Int32} (h : mCode M pc = some .isub) : wp M pc ls (.int y :: .int x :: st) w Q ↔ wp M (pc + 1) ls (.int (x - y) :: st) w Q := wp_step h rfl rfl
theorem wp_imul {M : Mth} {pc : Nat} {ls : Lsx} {st : List Value} {w : Wd} {Q : Option Value → Wd → Prop} {x y : Int32} (h : mCode M pc = some .imul) : wp M pc ls (.int y :: .int x :: st) w Q ↔ wp M (pc + 1) ls (.int (x * y) :: st) w Q := wp_step h rfl rfl
theorem wp_iand {M : Mth} {pc : Nat} {ls : Lsx} {st : List Value} {w : Wd} {Q : Option Value → Wd → Prop} {x y : Int32} (h : mCode M pc = some .iand) : wp M pc ls (.int y :: .int x :: st) w Q ↔ wp M (pc + 1) ls (.int (x &&& y) :: st) w Q := wp_step h rfl rfl
theorem wp_ior {M : Mth} {pc : Nat} {ls : Lsx} {st : List Value} {w : Wd} {Q : Option Value → Wd → Prop} {x y : Int32} (h : mCode M pc = some .ior) : wp M pc ls (.int y :: .int x :: st) w Q ↔ wp M (pc + 1) ls (.int (x ||| y) :: st) w Q := wp_step h rfl rfl
theorem wp_ixor {M : Mth} {pc : Nat} {ls : Lsx} {st : List Value} {w : Wd} {Q : Option Value → Wd → Prop} {x y : Int32} (h : mCode M pc = some .ixor) : wp M pc ls (.int y :: .int x :: st) w Q ↔ wp M (pc + 1) ls (.int (x ^^^ y) :: st) w Q := wp_step h rfl rfl
theorem wp_ishl {M : Mth} {pc : Nat} {ls : Lsx} {st : List Value} {w : Wd} {Q : Option Value → Wd → Prop} {x y : Int32} (h : mCode M pc = some .ishl) : wp M pc ls (.int y :: .int x :: st) w Q ↔ wp M (pc + 1) ls (.int (x <<< (y &&& 31)) :: st) w Q := wp_step h rfl rfl
theorem wp_ishr {M : Mth} {pc : Nat} {ls : Lsx} {st : List Value} {w : Wd} {Q : Option Value → Wd → Prop} {x y : Int32} (h : mCode M pc = some .ishr) : wp M pc ls (.int y :: .int x :: st) w Q ↔ wp M (pc + 1) ls (.int (x >>> (y &&& 31)) :: st) w Q := wp_step h rfl rfl
theorem wp_iushr {M : Mth} {pc : Nat} {ls : Lsx} {st : List Value} {w : Wd} {Q : Option Value → Wd → Prop} {x y : Int32} (h : mCode M pc = some .iushr) : wp M pc ls (.int y :: .int x :: st) w Q ↔ wp M (pc + 1) ls (.int ((x.toUInt32 >>> (y.toUInt32 &&& Int32.toUInt32 31)).toInt32) :: st) w Q := wp_step h rfl rfl
theorem wp_ladd {M : Mth} {pc : Nat} {ls : Lsx} {st : List Value} {w : Wd} {Q : Option Value → Wd → Prop} {x y : Int64} (h : mCode M pc = some .ladd) : wp M pc ls (.long y :: .long x :: st) w Q ↔ wp M (pc + 1) ls (.long (x + y) :: st) w Q := wp_step h rfl rfl
theorem wp_lsub {M : Mth} {pc : Nat} {ls : Lsx} {st : List Value} {w : Wd} {Q : Option Value → Wd → Prop} {x y : Int64} (h : mCode M pc = some .lsub) : wp M pc ls (.long y :: .long x :: st) w Q ↔ wp M (pc + 1) ls (.long (x - y) :: st) w Q := wp_step h rfl rfl
theorem wp_lmul {M : Mth} {pc : Nat} {ls : Lsx} {st : List Value} {w : Wd} {Q : Option Value → Wd → Prop} {x y : Int64} (h : mCode M pc = some .lmul) : wp M pc ls (.long y :: .long x :: st) w Q ↔ wp M (pc + 1) ls (.long (x * y) :: st) w Q := wp_step h rfl rfl
theorem wp_land {M : Mth} {pc : Nat} {ls : Lsx} {st : List Value} {w : Wd} {Q : Option Value → Wd → Prop} {x y : Int64} (h : mCode M pc = some .land) : wp M pc ls (.long y :: .long x :: st) w Q ↔ wp M (pc + 1) ls (.long (x &&& y) :: st) w Q := wp_step h rfl rfl
theorem wp_lor {M : Mth} {pc : Nat} {ls : Lsx} {st : List Value} {w : Wd} {Q : Option Value → Wd → Prop} {x y : Int64} (h : mCode M pc = some .lor) : wp M pc ls (.long y :: .long x :: st) w Q ↔ wp M (pc + 1) ls (.long (x ||| y) :: st) w Q := wp_step h rfl rfl
theorem wp_idiv {M : Mth} {pc : Nat} {ls : Lsx} {st : List Value} {w : Wd} {Q : Option Value → Wd → Prop} {x y : Int32} (h : mCode M pc = some .idiv) : wp M pc ls (.int y :: .int x :: st) w Q ↔ ¬ y = 0 ∧ wp M (pc + 1) ls (.int (x / y) :: st) w Q := by
  by_cases q : y = 0
  · rw [wp_none h rfl (by simp only [stepM, bnIz, q, if_true])]
    simp [q]
  · rw [wp_step h rfl (by simp only [stepM, bnIz, q, if_false]; rfl)]
    simp [q]
theorem wp_irem {M : Mth} {pc : Nat} {ls : Lsx} {st : List Value} {w : Wd} {Q : Option Value → Wd → Prop} {x y : Int32} (h : mCode M pc = some .irem) : wp M pc ls (.int y :: .int x :: st) w Q ↔ ¬ y = 0 ∧ wp M (pc + 1) ls (.int (x - x / y * y) :: st) w Q := by
  by_cases q : y = 0
  · rw [wp_none h rfl (by simp only [stepM, bnIz, q, if_true])]
    simp [q]
  · rw [wp_step h rfl (by simp only [stepM, bnIz, q, if_false]; rfl)]
    simp [q]
theorem wp_ldiv {M : Mth} {pc : Nat} {ls : Lsx} {st : List Value} {w : Wd} {Q : Option Value → Wd → Prop} {x y : Int64} (h : mCode M pc = some .ldiv) : wp M pc ls (.long y :: .long x :: st) w Q ↔ ¬ y = 0 ∧ wp M (pc + 1) ls (.long (x / y) :: st) w Q := by
  by_cases q : y = 0
  · rw [wp_none h rfl (by simp only [stepM, bnJz, q, if_true])]
    simp [q]
  · rw [wp_step h rfl (by simp only [stepM, bnJz, q, if_false]; rfl)]
    simp [q]
theorem wp_lrem {M : Mth} {pc : Nat} {ls : Lsx} {st : List Value} {w : Wd} {Q : Option Value → Wd → Prop} {x y : Int64} (h : mCode M pc = some .lrem) : wp M pc ls (.long y :: .long x :: st) w Q ↔ ¬ y = 0 ∧ wp M (pc + 1) ls (.long (x - x / y * y) :: st) w Q := by
  by_cases q : y = 0
  · rw [wp_none h rfl (by simp only [stepM, bnJz, q, if_true])]
    simp [q]
  · rw [wp_step h rfl (by simp only [stepM, bnJz, q, if_false]; rfl)]
    simp [q]
theorem wp_ineg {M : Mth} {pc : Nat} {ls : Lsx} {st : List Value} {w : Wd} {Q : Option Value → Wd → Prop} {x : Int32} (h : mCode M pc = some .ineg) : wp M pc ls (.int x :: st) w Q ↔ wp M (pc + 1) ls (.int (-x) :: st) w Q := wp_step h rfl rfl
theorem wp_i2l {M : Mth} {pc : Nat} {ls : Lsx} {st : List Value} {w : Wd} {Q : Option Value → Wd → Prop} {x : Int32} (h : mCode M pc = some .i2l) : wp M pc ls (.int x :: st) w Q ↔ wp M (pc + 1) ls (.long (x.toInt64) :: st) w Q := wp_step h rfl rfl
theorem wp_i2b {M : Mth} {pc : Nat} {ls : Lsx} {st : List Value} {w : Wd} {Q : Option Value → Wd → Prop} {x : Int32} (h : mCode M pc = some .i2b) : wp M pc ls (.int x :: st) w Q ↔ wp M (pc + 1) ls (.int (x.toInt8.toInt32) :: st) w Q := wp_step h rfl rfl
theorem wp_i2s {M : Mth} {pc : Nat} {ls : Lsx} {st : List Value} {w : Wd} {Q : Option Value → Wd → Prop} {x : Int32} (h : mCode M pc = some .i2s) : wp M pc ls (.int x :: st) w Q ↔ wp M (pc + 1) ls (.int (x.toInt16.toInt32) :: st) w Q := wp_step h rfl rfl
theorem wp_i2c {M : Mth} {pc : Nat} {ls : Lsx} {st : List Value} {w : Wd} {Q : Option Value → Wd → Prop} {x : Int32} (h : mCode M pc = some .i2c) : wp M pc ls (.int x :: st) w Q ↔ wp M (pc + 1) ls (.int ((x.toUInt32 % 65536).toInt32) :: st) w Q := wp_step h rfl rfl
theorem wp_lneg {M : Mth} {pc : Nat} {ls : Lsx} {st : List Value} {w : Wd} {Q : Option Value → Wd → Prop} {x : Int64} (h : mCode M pc = some .lneg) : wp M pc ls (.long x :: st) w Q ↔ wp M (pc + 1) ls (.long (-x) :: st) w Q := wp_step h rfl rfl
theorem wp_l2i {M : Mth} {pc : Nat} {ls : Lsx} {st : List Value} {w : Wd} {Q : Option Value → Wd → Prop} {x : Int64} (h : mCode M pc = some .l2i) : wp M pc ls (.long x :: st) w Q ↔ wp M (pc + 1) ls (.int (x.toInt32) :: st) w Q := wp_step h rfl rfl
theorem wp_lshl {M : Mth} {pc : Nat} {ls : Lsx} {st : List Value} {w : Wd} {Q : Option Value → Wd → Prop} {x : Int64} {y : Int32} (h : mCode M pc = some .lshl) : wp M pc ls (.int y :: .long x :: st) w Q ↔ wp M (pc + 1) ls (.long (x <<< (y.toInt64 &&& 63)) :: st) w Q := wp_step h rfl rfl
theorem wp_lcmp {M : Mth} {pc : Nat} {ls : Lsx} {st : List Value} {w : Wd} {Q : Option Value → Wd → Prop} {x y : Int64} (h : mCode M pc = some .lcmp) : wp M pc ls (.long y :: .long x :: st) w Q ↔ wp M (pc + 1) ls (.int (lg_cmp x y) :: st) w Q := wp_step h rfl rfl
theorem wp_dup_i {M : Mth} {pc : Nat} {ls : Lsx} {st : List Value} {w : Wd} {Q : Option Value → Wd → Prop} {x : Int32} (h : mCode M pc = some .dup) : wp M pc ls (.int x :: st) w Q ↔ wp M (pc + 1) ls (.int x :: .int x :: st) w Q := wp_step h rfl rfl
theorem wp_dup_r {M : Mth} {pc : Nat} {ls : Lsx} {st : List Value} {w : Wd} {Q : Option Value → Wd → Prop} {x : Nat} (h : mCode M pc = some .dup) : wp M pc ls (.ref x :: st) w Q ↔ wp M (pc + 1) ls (.ref x :: .ref x :: st) w Q := wp_step h rfl rfl
theorem wp_dup2_ir {M : Mth} {pc : Nat} {ls : Lsx} {st : List Value} {w : Wd} {Q : Option Value → Wd → Prop} {x : Int32} {y : Nat} (h : mCode M pc = some .dup2) : wp M pc ls (.int x :: .ref y :: st) w Q ↔ wp M (pc + 1) ls (.int x :: .ref y :: .int x :: .ref y :: st) w Q := wp_step h rfl rfl
theorem wp_dup2_j {M : Mth} {pc : Nat} {ls : Lsx} {st : List Value} {w : Wd} {Q : Option Value → Wd → Prop} {x : Int64} (h : mCode M pc = some .dup2) : wp M pc ls (.long x :: st) w Q ↔ wp M (pc + 1) ls (.long x :: .long x :: st) w Q := wp_step h rfl rfl
theorem wp_goto {M : Mth} {pc : Nat} {ls : Lsx} {st : List Value} {w : Wd} {Q : Option Value → Wd → Prop} {off : Int} {t : Nat} (h : mCode M pc = some (.goto off)) (ht : (pc : Int) + off = (t : Int)) : wp M pc ls st w Q ↔ wp M t ls st w Q := wp_step h rfl (by simp only [stepM, jmp]; rw [if_pos (by omega), ht]; rfl)
theorem wp_if_eq {M : Mth} {pc : Nat} {ls : Lsx} {st : List Value} {w : Wd} {Q : Option Value → Wd → Prop} {off : Int} {t : Nat} {x : Int32} (h : mCode M pc = some (.ifCond .eq off)) (ht : (pc : Int) + off = (t : Int)) : wp M pc ls (.int x :: st) w Q ↔ if x = 0 then wp M t ls st w Q else wp M (pc + 3) ls st w Q := by
  have h0 : 0 ≤ (pc : Int) + off := by omega
  have h1 : ((pc : Int) + off).toNat = t := by rw [ht]; rfl
  by_cases q : x = 0
  · rw [if_pos q]
    exact wp_step h rfl (by simp only [stepM, if1, h0, if_true, h1, cmpC]; simp [q, Int32.not_lt.symm, Int32.not_le.symm])
  · rw [if_neg q]
    exact wp_step h rfl (by simp only [stepM, if1, h0, if_true, h1, cmpC]; simp [q, Int32.not_lt.symm, Int32.not_le.symm])
theorem wp_icmp_eq {M : Mth} {pc : Nat} {ls : Lsx} {st : List Value} {w : Wd} {Q : Option Value → Wd → Prop} {off : Int} {t : Nat} {x y : Int32} (h : mCode M pc = some (.if_icmp .eq off)) (ht : (pc : Int) + off = (t : Int)) : wp M pc ls (.int y :: .int x :: st) w Q ↔ if x = y then wp M t ls st w Q else wp M (pc + 3) ls st w Q := by
  have h0 : 0 ≤ (pc : Int) + off := by omega
  have h1 : ((pc : Int) + off).toNat = t := by rw [ht]; rfl
  by_cases q : x = y
  · rw [if_pos q]
    exact wp_step h rfl (by simp only [stepM, if2, h0, if_true, h1, cmpC]; simp [q, Int32.not_lt.symm, Int32.not_le.symm])
  · rw [if_neg q]
    exact wp_step h rfl (by simp only [stepM, if2, h0, if_true, h1, cmpC]; simp [q, Int32.not_lt.symm, Int32.not_le.symm])
theorem wp_if_ne {M : Mth} {pc : Nat} {ls : Lsx} {st : List Value} {w : Wd} {Q : Option Value → Wd → Prop} {off : Int} {t : Nat} {x : Int32} (h : mCode M pc = some (.ifCond .ne off)) (ht : (pc : Int) + off = (t : Int)) : wp M pc ls (.int x :: st) w Q ↔ if x = 0 then wp M (pc + 3) ls st w Q else wp M t ls st w Q := by
  have h0 : 0 ≤ (pc : Int) + off := by omega
  have h1 : ((pc : Int) + off).toNat = t := by rw [ht]; rfl
  by_cases q : x = 0
  · rw [if_pos q]
    exact wp_step h rfl (by simp only [stepM, if1, h0, if_true, h1, cmpC]; simp [q, Int32.not_lt.symm, Int32.not_le.symm])
  · rw [if_neg q]
    exact wp_step h rfl (by simp only [stepM, if1, h0, if_true, h1, cmpC]; simp [q, Int32.not_lt.symm, Int32.not_le.symm])
theorem wp_icmp_ne {M : Mth} {pc : Nat} {ls : Lsx} {st : List Value} {w : Wd} {Q : Option Value → Wd → Prop} {off : Int} {t : Nat} {x y : Int32} (h : mCode M pc = some (.if_icmp .ne off)) (ht : (pc : Int) + off = (t : Int)) : wp M pc ls (.int y :: .int x :: st) w Q ↔ if x = y then wp M (pc + 3) ls st w Q else wp M t ls st w Q := by
  have h0 : 0 ≤ (pc : Int) + off := by omega
  have h1 : ((pc : Int) + off).toNat = t := by rw [ht]; rfl
  by_cases q : x = y
  · rw [if_pos q]
    exact wp_step h rfl (by simp only [stepM, if2, h0, if_true, h1, cmpC]; simp [q, Int32.not_lt.symm, Int32.not_le.symm])
  · rw [if_neg q]
    exact wp_step h rfl (by simp only [stepM, if2, h0, if_true, h1, cmpC]; simp [q, Int32.not_lt.symm, Int32.not_le.symm])
theorem wp_if_lt {M : Mth} {pc : Nat} {ls : Lsx} {st : List Value} {w : Wd} {Q : Option Value → Wd → Prop} {off : Int} {t : Nat} {x : Int32} (h : mCode M pc = some (.ifCond .lt off)) (ht : (pc : Int) + off = (t : Int)) : wp M pc ls (.int x :: st) w Q ↔ if x < 0 then wp M t ls st w Q else wp M (pc + 3) ls st w Q := by
  have h0 : 0 ≤ (pc : Int) + off := by omega
  have h1 : ((pc : Int) + off).toNat = t := by rw [ht]; rfl
  by_cases q : x < 0
  · rw [if_pos q]
    exact wp_step h rfl (by simp only [stepM, if1, h0, if_true, h1, cmpC]; simp [q, Int32.not_lt.symm, Int32.not_le.symm])
  · rw [if_neg q]
    exact wp_step h rfl (by simp only [stepM, if1, h0, if_true, h1, cmpC]; simp [q, Int32.not_lt.symm, Int32.not_le.symm])
theorem wp_icmp_lt {M : Mth} {pc : Nat} {ls : Lsx} {st : List Value} {w : Wd} {Q : Option Value → Wd → Prop} {off : Int} {t : Nat} {x y : Int32} (h : mCode M pc = some (.if_icmp .lt off)) (ht : (pc : Int) + off = (t : Int)) : wp M pc ls (.int y :: .int x :: st) w Q ↔ if x < y then wp M t ls st w Q else wp M (pc + 3) ls st w Q := by
  have h0 : 0 ≤ (pc : Int) + off := by omega
  have h1 : ((pc : Int) + off).toNat = t := by rw [ht]; rfl
  by_cases q : x < y
  · rw [if_pos q]
    exact wp_step h rfl (by simp only [stepM, if2, h0, if_true, h1, cmpC]; simp [q, Int32.not_lt.symm, Int32.not_le.symm])
  · rw [if_neg q]
    exact wp_step h rfl (by simp only [stepM, if2, h0, if_true, h1, cmpC]; simp [q, Int32.not_lt.symm, Int32.not_le.symm])
theorem wp_if_ge {M : Mth} {pc : Nat} {ls : Lsx} {st : List Value} {w : Wd} {Q : Option Value → Wd → Prop} {off : Int} {t : Nat} {x : Int32} (h : mCode M pc = some (.ifCond .ge off)) (ht : (pc : Int) + off = (t : Int)) : wp M pc ls (.int x :: st) w Q ↔ if x < 0 then wp M (pc + 3) ls st w Q else wp M t ls st w Q := by
  have h0 : 0 ≤ (pc : Int) + off := by omega
  have h1 : ((pc : Int) + off).toNat = t := by rw [ht]; rfl
  by_cases q : x < 0
  · rw [if_pos q]
    exact wp_step h rfl (by simp only [stepM, if1, h0, if_true, h1, cmpC]; simp [q, Int32.not_lt.symm, Int32.not_le.symm])
  · rw [if_neg q]
    exact wp_step h rfl (by simp only [stepM, if1, h0, if_true, h1, cmpC]; simp [q, Int32.not_lt.symm, Int32.not_le.symm])
theorem wp_icmp_ge {M : Mth} {pc : Nat} {ls : Lsx} {st : List Value} {w : Wd} {Q : Option Value → Wd → Prop} {off : Int} {t : Nat} {x y : Int32} (h : mCode M pc = some (.if_icmp .ge off)) (ht : (pc : Int) + off = (t : Int)) : wp M pc ls (.int y :: .int x :: st) w Q ↔ if x < y then wp M (pc + 3) ls st w Q else wp M t ls st w Q := by
  have h0 : 0 ≤ (pc : Int) + off := by omega
  have h1 : ((pc : Int) + off).toNat = t := by rw [ht]; rfl
  by_cases q : x < y
  · rw [if_pos q]
    exact wp_step h rfl (by simp only [stepM, if2, h0, if_true, h1, cmpC]; simp [q, Int32.not_lt.symm, Int32.not_le.symm])
  · rw [if_neg q]
    exact wp_step h rfl (by simp only [stepM, if2, h0, if_true, h1, cmpC]; simp [q, Int32.not_lt.symm, Int32.not_le.symm])
theorem wp_if_gt {M : Mth} {pc : Nat} {ls : Lsx} {st : List Value} {w : Wd} {Q : Option Value → Wd → Prop} {off : Int} {t : Nat} {x : Int32} (h : mCode M pc = some (.ifCond .gt off)) (ht : (pc : Int) + off = (t : Int)) : wp M pc ls (.int x :: st) w Q ↔ if 0 < x then wp M t ls st w Q else wp M (pc + 3) ls st w Q := by
  have h0 : 0 ≤ (pc : Int) + off := by omega
  have h1 : ((pc : Int) + off).toNat = t := by rw [ht]; rfl
  by_cases q : 0 < x
  · rw [if_pos q]
    exact wp_step h rfl (by simp only [stepM, if1, h0, if_true, h1, cmpC]; simp [q, Int32.not_lt.symm, Int32.not_le.symm])
  · rw [if_neg q]
    exact wp_step h rfl (by simp only [stepM, if1, h0, if_true, h1, cmpC]; simp [q, Int32.not_lt.symm, Int32.not_le.symm])
theorem wp_icmp_gt {M : Mth} {pc : Nat} {ls : Lsx} {st : List Value} {w : Wd} {Q : Option Value → Wd → Prop} {off : Int} {t : Nat} {x y : Int32} (h : mCode M pc = some (.if_icmp .gt off)) (ht : (pc : Int) + off = (t : Int)) : wp M pc ls (.int y :: .int x :: st) w Q ↔ if y < x then wp M t ls st w Q else wp M (pc + 3) ls st w Q := by
  have h0 : 0 ≤ (pc : Int) + off := by omega
  have h1 : ((pc : Int) + off).toNat = t := by rw [ht]; rfl
  by_cases q : y < x
  · rw [if_pos q]
    exact wp_step h rfl (by simp only [stepM, if2, h0, if_true, h1, cmpC]; simp [q, Int32.not_lt.symm, Int32.not_le.symm])
  · rw [if_neg q]
    exact wp_step h rfl (by simp only [stepM, if2, h0, if_true, h1, cmpC]; simp [q, Int32.not_lt.symm, Int32.not_le.symm])
theorem wp_if_le {M : Mth} {pc : Nat} {ls : Lsx} {st : List Value} {w : Wd} {Q : Option Value → Wd → Prop} {off : Int} {t : Nat} {x : Int32} (h : mCode M pc = some (.ifCond .le off)) (ht : (pc : Int) + off = (t : Int)) : wp M pc ls (.int x :: st) w Q ↔ if 0 < x then wp M (pc + 3) ls st w Q else wp M t ls st w Q := by
  have h0 : 0 ≤ (pc : Int) + off := by omega
  have h1 : ((pc : Int) + off).toNat = t := by rw [ht]; rfl
  by_cases q : 0 < x
  · rw [if_pos q]
    exact wp_step h rfl (by simp only [stepM, if1, h0, if_true, h1, cmpC]; simp [q, Int32.not_lt.symm, Int32.not_le.symm])
  · rw [if_neg q]
    exact wp_step h rfl (by simp only [stepM, if1, h0, if_true, h1, cmpC]; simp [q, Int32.not_lt.symm, Int32.not_le.symm])
theorem wp_icmp_le {M : Mth} {pc : Nat} {ls : Lsx} {st : List Value} {w : Wd} {Q : Option Value → Wd → Prop} {off : Int} {t : Nat} {x y : Int32} (h : mCode M pc = some (.if_icmp .le off)) (ht : (pc : Int) + off = (t : Int)) : wp M pc ls (.int y :: .int x :: st) w Q ↔ if y < x then wp M (pc + 3) ls st w Q else wp M t ls st w Q := by
  have h0 : 0 ≤ (pc : Int) + off := by omega
  have h1 : ((pc : Int) + off).toNat = t := by rw [ht]; rfl
  by_cases q : y < x
  · rw [if_pos q]
    exact wp_step h rfl (by simp only [stepM, if2, h0, if_true, h1, cmpC]; simp [q, Int32.not_lt.symm, Int32.not_le.symm])
  · rw [if_neg q]
    exact wp_step h rfl (by simp only [stepM, if2, h0, if_true, h1, cmpC]; simp [q, Int32.not_lt.symm, Int32.not_le.symm])
theorem wp_get {M : Mth} {pc : Nat} {ls : Lsx} {st : List Value} {w : Wd} {Q : Option Value → Wd → Prop} {i a ci k : Nat} {v : Value} (h : mCode M pc = some (.getfield i)) (hf : mFld M i = some (ci, k)) (hv : fval (fty ci k) w a k = v) : wp M pc ls (.ref a :: st) w Q ↔ (shp w a).1 = ci ∧ wp M (pc + 3) ls (v :: st) w Q := by
  subst hv
  by_cases q : (shp w a).1 = ci
  · rw [wp_step h rfl (by simp only [stepM, getF, hf, q, if_true]; rfl)]
    simp [q]
  · rw [wp_none h rfl (by simp only [stepM, getF, hf, q, if_false])]
    simp [q]
theorem wp_put {M : Mth} {pc : Nat} {ls : Lsx} {st : List Value} {w : Wd} {Q : Option Value → Wd → Prop} {i a ci k : Nat} {v : Value} {w' : Wd} (h : mCode M pc = some (.putfield i)) (hf : mFld M i = some (ci, k)) (hn : (tyT ci k).2.2.2 = false ∨ (mIni M = true ∧ mOwn M = ci)) (hv : putV (fty ci k) w a k v = some w') : wp M pc ls (v :: .ref a :: st) w Q ↔ (shp w a).1 = ci ∧ wp M (pc + 3) ls st w' Q := by
  by_cases q : (shp w a).1 = ci
  · rw [wp_step h rfl (by simp only [stepM, putF, hf]; rw [if_pos ⟨q, hn⟩, hv]; rfl)]
    simp [q]
  · rw [wp_none h rfl (by simp only [stepM, putF, hf]; rw [if_neg (fun z => q z.1)])]
    simp [q]
theorem wp_putz {M : Mth} {pc : Nat} {ls : Lsx} {st : List Value} {w : Wd} {Q : Option Value → Wd → Prop} {i a ci k : Nat} {x : Int32} (h : mCode M pc = some (.putfield i)) (hf : mFld M i = some (ci, k)) (hn : (tyT ci k).2.2.2 = false ∨ (mIni M = true ∧ mOwn M = ci)) (hv : fty ci k = .boolean) : wp M pc ls (.int x :: .ref a :: st) w Q ↔ ((shp w a).1 = ci ∧ (x = 0 ∨ x = 1)) ∧ wp M (pc + 3) ls st (wrI w a k x) Q := by
  by_cases q : (shp w a).1 = ci
  · by_cases z : x = 0 ∨ x = 1
    · rw [wp_step h rfl (by simp only [stepM, putF, hf]; rw [if_pos ⟨q, hn⟩, hv]; simp only [putV, z, if_true]; rfl)]
      simp [q, z]
    · rw [wp_none h rfl (by simp only [stepM, putF, hf]; rw [if_pos ⟨q, hn⟩, hv]; simp only [putV, z, if_false]; rfl)]
      simp [z]
  · rw [wp_none h rfl (by simp only [stepM, putF, hf]; rw [if_neg (fun z => q z.1)])]
    simp [q]
theorem wp_iaload {M : Mth} {pc : Nat} {ls : Lsx} {st : List Value} {w : Wd} {Q : Option Value → Wd → Prop} {i : Int32} {a : Nat} (h : mCode M pc = some .iaload) : wp M pc ls (.int i :: .ref a :: st) w Q ↔ ((shp w a).1 = 10 ∧ inA i (shp w a).2 = true) ∧ wp M (pc + 1) ls (.int (rdI w a i.toNatClampNeg) :: st) w Q := by
  by_cases q : (shp w a).1 = 10 ∧ inA i (shp w a).2 = true
  · rw [wp_step h rfl (by simp only [stepM, ald, List.mem_singleton]; rw [if_pos q])]
    exact ⟨fun z => ⟨q, z⟩, fun z => z.2⟩
  · rw [wp_none h rfl (by simp only [stepM, ald, List.mem_singleton]; rw [if_neg q])]
    exact ⟨fun z => z.elim, fun z => q z.1⟩
theorem wp_baload {M : Mth} {pc : Nat} {ls : Lsx} {st : List Value} {w : Wd} {Q : Option Value → Wd → Prop} {i : Int32} {a : Nat} (h : mCode M pc = some .baload) : wp M pc ls (.int i :: .ref a :: st) w Q ↔ ((shp w a).1 = 12 ∧ inA i (shp w a).2 = true) ∧ wp M (pc + 1) ls (.int (rdI w a i.toNatClampNeg) :: st) w Q := by
  by_cases q : (shp w a).1 = 12 ∧ inA i (shp w a).2 = true
  · rw [wp_step h rfl (by simp only [stepM, ald, List.mem_singleton]; rw [if_pos q])]
    exact ⟨fun z => ⟨q, z⟩, fun z => z.2⟩
  · rw [wp_none h rfl (by simp only [stepM, ald, List.mem_singleton]; rw [if_neg q])]
    exact ⟨fun z => z.elim, fun z => q z.1⟩
theorem wp_caload {M : Mth} {pc : Nat} {ls : Lsx} {st : List Value} {w : Wd} {Q : Option Value → Wd → Prop} {i : Int32} {a : Nat} (h : mCode M pc = some .caload) : wp M pc ls (.int i :: .ref a :: st) w Q ↔ ((shp w a).1 = 13 ∧ inA i (shp w a).2 = true) ∧ wp M (pc + 1) ls (.int (rdI w a i.toNatClampNeg) :: st) w Q := by
  by_cases q : (shp w a).1 = 13 ∧ inA i (shp w a).2 = true
  · rw [wp_step h rfl (by simp only [stepM, ald, List.mem_singleton]; rw [if_pos q])]
    exact ⟨fun z => ⟨q, z⟩, fun z => z.2⟩
  · rw [wp_none h rfl (by simp only [stepM, ald, List.mem_singleton]; rw [if_neg q])]
    exact ⟨fun z => z.elim, fun z => q z.1⟩
theorem wp_laload {M : Mth} {pc : Nat} {ls : Lsx} {st : List Value} {w : Wd} {Q : Option Value → Wd → Prop} {i : Int32} {a : Nat} (h : mCode M pc = some .laload) : wp M pc ls (.int i :: .ref a :: st) w Q ↔ ((shp w a).1 = 11 ∧ inA i (shp w a).2 = true) ∧ wp M (pc + 1) ls (.long (rdJ w a i.toNatClampNeg) :: st) w Q := by
  by_cases q : (shp w a).1 = 11 ∧ inA i (shp w a).2 = true
  · rw [wp_step h rfl (by simp only [stepM, ald, List.mem_singleton]; rw [if_pos q])]
    exact ⟨fun z => ⟨q, z⟩, fun z => z.2⟩
  · rw [wp_none h rfl (by simp only [stepM, ald, List.mem_singleton]; rw [if_neg q])]
    exact ⟨fun z => z.elim, fun z => q z.1⟩
theorem wp_aaload {M : Mth} {pc : Nat} {ls : Lsx} {st : List Value} {w : Wd} {Q : Option Value → Wd → Prop} {i : Int32} {a : Nat} (h : mCode M pc = some .aaload) : wp M pc ls (.int i :: .ref a :: st) w Q ↔ ((shp w a).1 ∈ [14, 15, 16, 17] ∧ inA i (shp w a).2 = true) ∧ wp M (pc + 1) ls (va_rf (rdR w a i.toNatClampNeg) :: st) w Q := by
  by_cases q : (shp w a).1 ∈ [14, 15, 16, 17] ∧ inA i (shp w a).2 = true
  · rw [wp_step h rfl (by simp only [stepM, ald]; rw [if_pos q])]
    exact ⟨fun z => ⟨q, z⟩, fun z => z.2⟩
  · rw [wp_none h rfl (by simp only [stepM, ald]; rw [if_neg q])]
    exact ⟨fun z => z.elim, fun z => q z.1⟩
theorem wp_iastore {M : Mth} {pc : Nat} {ls : Lsx} {st : List Value} {w : Wd} {Q : Option Value → Wd → Prop} {i : Int32} {x : Int32} {a : Nat} (h : mCode M pc = some .iastore) : wp M pc ls (.int x :: .int i :: .ref a :: st) w Q ↔ ((shp w a).1 = 10 ∧ inA i (shp w a).2 = true) ∧ wp M (pc + 1) ls st (wrI w a i.toNatClampNeg x) Q := by
  by_cases q : (shp w a).1 = 10 ∧ inA i (shp w a).2 = true
  · rw [wp_step h rfl (by simp only [stepM, astI]; rw [if_pos q])]
    exact ⟨fun z => ⟨q, z⟩, fun z => z.2⟩
  · rw [wp_none h rfl (by simp only [stepM, astI]; rw [if_neg q])]
    exact ⟨fun z => z.elim, fun z => q z.1⟩
theorem wp_bastore {M : Mth} {pc : Nat} {ls : Lsx} {st : List Value} {w : Wd} {Q : Option Value → Wd → Prop} {i : Int32} {x : Int32} {a : Nat} (h : mCode M pc = some .bastore) : wp M pc ls (.int x :: .int i :: .ref a :: st) w Q ↔ ((shp w a).1 = 12 ∧ inA i (shp w a).2 = true) ∧ wp M (pc + 1) ls st (wrI w a i.toNatClampNeg (vp_nar .boolean x)) Q := by
  by_cases q : (shp w a).1 = 12 ∧ inA i (shp w a).2 = true
  · rw [wp_step h rfl (by simp only [stepM, astI]; rw [if_pos q])]
    exact ⟨fun z => ⟨q, z⟩, fun z => z.2⟩
  · rw [wp_none h rfl (by simp only [stepM, astI]; rw [if_neg q])]
    exact ⟨fun z => z.elim, fun z => q z.1⟩
theorem wp_castore {M : Mth} {pc : Nat} {ls : Lsx} {st : List Value} {w : Wd} {Q : Option Value → Wd → Prop} {i : Int32} {x : Int32} {a : Nat} (h : mCode M pc = some .castore) : wp M pc ls (.int x :: .int i :: .ref a :: st) w Q ↔ ((shp w a).1 = 13 ∧ inA i (shp w a).2 = true) ∧ wp M (pc + 1) ls st (wrI w a i.toNatClampNeg (vp_nar .char x)) Q := by
  by_cases q : (shp w a).1 = 13 ∧ inA i (shp w a).2 = true
  · rw [wp_step h rfl (by simp only [stepM, astI]; rw [if_pos q])]
    exact ⟨fun z => ⟨q, z⟩, fun z => z.2⟩
  · rw [wp_none h rfl (by simp only [stepM, astI]; rw [if_neg q])]
    exact ⟨fun z => z.elim, fun z => q z.1⟩
theorem wp_lastore {M : Mth} {pc : Nat} {ls : Lsx} {st : List Value} {w : Wd} {Q : Option Value → Wd → Prop} {i : Int32} {x : Int64} {a : Nat} (h : mCode M pc = some .lastore) : wp M pc ls (.long x :: .int i :: .ref a :: st) w Q ↔ ((shp w a).1 = 11 ∧ inA i (shp w a).2 = true) ∧ wp M (pc + 1) ls st (wrJ w a i.toNatClampNeg x) Q := by
  by_cases q : (shp w a).1 = 11 ∧ inA i (shp w a).2 = true
  · rw [wp_step h rfl (by simp only [stepM, astJ]; rw [if_pos q])]
    exact ⟨fun z => ⟨q, z⟩, fun z => z.2⟩
  · rw [wp_none h rfl (by simp only [stepM, astJ]; rw [if_neg q])]
    exact ⟨fun z => z.elim, fun z => q z.1⟩
theorem wp_aastore {M : Mth} {pc : Nat} {ls : Lsx} {st : List Value} {w : Wd} {Q : Option Value → Wd → Prop} {i : Int32} {a x : Nat} (h : mCode M pc = some .aastore) : wp M pc ls (.ref x :: .int i :: .ref a :: st) w Q ↔ ((14 ≤ (shp w a).1 ∧ (shp w a).1 ≤ 16) ∧ (shp w x).1 = elC (shp w a).1 ∧ inA i (shp w a).2 = true) ∧ wp M (pc + 1) ls st (wrR w a i.toNatClampNeg (some x)) Q := by
  by_cases q : (14 ≤ (shp w a).1 ∧ (shp w a).1 ≤ 16) ∧ (shp w x).1 = elC (shp w a).1 ∧ inA i (shp w a).2 = true
  · rw [wp_step h rfl (by simp only [stepM, astA]; rw [if_pos q])]
    exact ⟨fun z => ⟨q, z⟩, fun z => z.2⟩
  · rw [wp_none h rfl (by simp only [stepM, astA]; rw [if_neg q])]
    exact ⟨fun z => z.elim, fun z => q z.1⟩
theorem wp_alen {M : Mth} {pc : Nat} {ls : Lsx} {st : List Value} {w : Wd} {Q : Option Value → Wd → Prop} {a : Nat} (h : mCode M pc = some .arraylength) : wp M pc ls (.ref a :: st) w Q ↔ (10 ≤ (shp w a).1 ∧ (shp w a).1 ≤ 17) ∧ wp M (pc + 1) ls (.int (Int32.ofNat (shp w a).2) :: st) w Q := by
  by_cases q : 10 ≤ (shp w a).1 ∧ (shp w a).1 ≤ 17
  · rw [wp_step h rfl (by simp only [stepM, aln]; rw [if_pos q])]
    exact ⟨fun z => ⟨q, z⟩, fun z => z.2⟩
  · rw [wp_none h rfl (by simp only [stepM, aln]; rw [if_neg q])]
    exact ⟨fun z => z.elim, fun z => q z.1⟩
theorem wp_invvirtual {M : Mth} {pc : Nat} {ls : Lsx} {st : List Value} {w : Wd} {Q : Option Value → Wd → Prop} {k n : Nat} {fn : Fnc} {as st0 : List Value} (h : mCode M pc = some (.invokevirtual k)) (hc : mCal M k = some (0, n, fn)) (h1 : n ≤ st0.length) (h2 : (st0.take n).reverse = as) (h3 : st0.drop n = st) : wp M pc ls st0 w Q ↔ csum st ≤ 8 ∧ cont (fn as w) (fun r w' => wp M (pc + 3) ls (r.toList ++ st) w' Q) := by
  subst h2
  by_cases q : csum st ≤ 8
  · subst h3
    cases hf : fn (st0.take n).reverse w with
    | none =>
      rw [wp_none h rfl (by simp only [stepM, clM, hc]; rw [if_pos ⟨trivial, h1, q⟩, hf])]
      simp [cont]
    | some z =>
      rw [wp_step h rfl (by simp only [stepM, clM, hc]; rw [if_pos ⟨trivial, h1, q⟩, hf])]
      simp only [cont]
      exact ⟨fun y => ⟨q, y⟩, fun y => y.2⟩
  · subst h3
    rw [wp_none h rfl (by simp only [stepM, clM, hc]; rw [if_neg (fun z => q z.2.2)])]
    exact ⟨fun z => z.elim, fun z => q z.1⟩
theorem wp_invspecial {M : Mth} {pc : Nat} {ls : Lsx} {st : List Value} {w : Wd} {Q : Option Value → Wd → Prop} {k n : Nat} {fn : Fnc} {as st0 : List Value} (h : mCode M pc = some (.invokespecial k)) (hc : mCal M k = some (1, n, fn)) (h1 : n ≤ st0.length) (h2 : (st0.take n).reverse = as) (h3 : st0.drop n = st) : wp M pc ls st0 w Q ↔ csum st ≤ 8 ∧ cont (fn as w) (fun r w' => wp M (pc + 3) ls (r.toList ++ st) w' Q) := by
  subst h2
  by_cases q : csum st ≤ 8
  · subst h3
    cases hf : fn (st0.take n).reverse w with
    | none =>
      rw [wp_none h rfl (by simp only [stepM, clM, hc]; rw [if_pos ⟨trivial, h1, q⟩, hf])]
      simp [cont]
    | some z =>
      rw [wp_step h rfl (by simp only [stepM, clM, hc]; rw [if_pos ⟨trivial, h1, q⟩, hf])]
      simp only [cont]
      exact ⟨fun y => ⟨q, y⟩, fun y => y.2⟩
  · subst h3
    rw [wp_none h rfl (by simp only [stepM, clM, hc]; rw [if_neg (fun z => q z.2.2)])]
    exact ⟨fun z => z.elim, fun z => q z.1⟩
theorem wp_invstatic {M : Mth} {pc : Nat} {ls : Lsx} {st : List Value} {w : Wd} {Q : Option Value → Wd → Prop} {k n : Nat} {fn : Fnc} {as st0 : List Value} (h : mCode M pc = some (.invokestatic k)) (hc : mCal M k = some (2, n, fn)) (h1 : n ≤ st0.length) (h2 : (st0.take n).reverse = as) (h3 : st0.drop n = st) : wp M pc ls st0 w Q ↔ csum st ≤ 8 ∧ cont (fn as w) (fun r w' => wp M (pc + 3) ls (r.toList ++ st) w' Q) := by
  subst h2
  by_cases q : csum st ≤ 8
  · subst h3
    cases hf : fn (st0.take n).reverse w with
    | none =>
      rw [wp_none h rfl (by simp only [stepM, clM, hc]; rw [if_pos ⟨trivial, h1, q⟩, hf])]
      simp [cont]
    | some z =>
      rw [wp_step h rfl (by simp only [stepM, clM, hc]; rw [if_pos ⟨trivial, h1, q⟩, hf])]
      simp only [cont]
      exact ⟨fun y => ⟨q, y⟩, fun y => y.2⟩
  · subst h3
    rw [wp_none h rfl (by simp only [stepM, clM, hc]; rw [if_neg (fun z => q z.2.2)])]
    exact ⟨fun z => z.elim, fun z => q z.1⟩
theorem wp_new {M : Mth} {pc : Nat} {ls : Lsx} {st : List Value} {w : Wd} {Q : Option Value → Wd → Prop} {i ci : Nat} (h : mCode M pc = some (.new i)) (hc : mCls M i = some ci) (h10 : ci < 10) : wp M pc ls st w Q ↔ wp M (pc + 3) ls (.ref (nxt w) :: st) (mk1 w ci 0 (nfl ci)) Q := wp_step h rfl (by simp only [stepM, newO, hc]; rw [if_pos h10])
theorem wp_vret {M : Mth} {pc : Nat} {ls : Lsx} {w : Wd} {Q : Option Value → Wd → Prop} (h : mCode M pc = some .return_) (hr : mRet M = none) : wp M pc ls [] w Q ↔ Q none w := wp_ret h (by simp [retM, hr])
theorem wp_iret {M : Mth} {pc : Nat} {ls : Lsx} {w : Wd} {Q : Option Value → Wd → Prop} {x : Int32} (h : mCode M pc = some .ireturn) (hr : mRet M = some .int) : wp M pc ls [.int x] w Q ↔ Q (some (.int x)) w := wp_ret h (by simp [retM, hr])
theorem wp_lret {M : Mth} {pc : Nat} {ls : Lsx} {w : Wd} {Q : Option Value → Wd → Prop} {x : Int64} (h : mCode M pc = some .lreturn) (hr : mRet M = some .long) : wp M pc ls [.long x] w Q ↔ Q (some (.long x)) w := wp_ret h (by simp [retM, hr])
theorem wp_zret {M : Mth} {pc : Nat} {ls : Lsx} {w : Wd} {Q : Option Value → Wd → Prop} {x : Int32} (h : mCode M pc = some .ireturn) (hr : mRet M = some .boolean) : wp M pc ls [.int x] w Q ↔ (x = 0 ∨ x = 1) ∧ Q (some (.int x)) w := by
  by_cases q : x = 0 ∨ x = 1
  · rw [wp_ret h (by simp only [retM, hr]; rw [if_pos q])]
    exact ⟨fun z => ⟨q, z⟩, fun z => z.2⟩
  · rw [wp_none h (by simp only [retM, hr]; rw [if_neg q]) rfl]
    exact ⟨fun z => z.elim, fun z => q z.1⟩
theorem wp_cret {M : Mth} {pc : Nat} {ls : Lsx} {w : Wd} {Q : Option Value → Wd → Prop} {x : Int32} (h : mCode M pc = some .ireturn) (hr : mRet M = some .char) : wp M pc ls [.int x] w Q ↔ narrow .char (.int x) = .int x ∧ Q (some (.int x)) w := by
  by_cases q : narrow .char (.int x) = .int x
  · rw [wp_ret h (by simp only [retM, hr]; rw [if_pos q])]
    exact ⟨fun z => ⟨q, z⟩, fun z => z.2⟩
  · rw [wp_none h (by simp only [retM, hr]; rw [if_neg q]) rfl]
    exact ⟨fun z => z.elim, fun z => q z.1⟩
theorem wp_newa_int {M : Mth} {pc : Nat} {ls : Lsx} {st : List Value} {w : Wd} {Q : Option Value → Wd → Prop} {n : Int32} (h : mCode M pc = some (.newarray .int)) (hc : mCls M 0 = some 18) : wp M pc ls (.int n :: st) w Q ↔ (0 ≤ n ∧ n.toNatClampNeg ≤ 65536) ∧ wp M (pc + 2) ls (.ref (nxt w) :: st) (mk1 w 10 n.toNatClampNeg n.toNatClampNeg) Q := by
  by_cases q : 0 ≤ n ∧ n.toNatClampNeg ≤ 65536
  · rw [wp_step h rfl (by simp only [stepM, newA]; rw [if_pos ⟨hc, q⟩])]
    exact ⟨fun z => ⟨q, z⟩, fun z => z.2⟩
  · rw [wp_none h rfl (by simp only [stepM, newA]; rw [if_neg (fun z => q z.2)])]
    exact ⟨fun z => z.elim, fun z => q z.1⟩
theorem wp_newa_long {M : Mth} {pc : Nat} {ls : Lsx} {st : List Value} {w : Wd} {Q : Option Value → Wd → Prop} {n : Int32} (h : mCode M pc = some (.newarray .long)) (hc : mCls M 0 = some 18) : wp M pc ls (.int n :: st) w Q ↔ (0 ≤ n ∧ n.toNatClampNeg ≤ 65536) ∧ wp M (pc + 2) ls (.ref (nxt w) :: st) (mk1 w 11 n.toNatClampNeg n.toNatClampNeg) Q := by
  by_cases q : 0 ≤ n ∧ n.toNatClampNeg ≤ 65536
  · rw [wp_step h rfl (by simp only [stepM, newA]; rw [if_pos ⟨hc, q⟩])]
    exact ⟨fun z => ⟨q, z⟩, fun z => z.2⟩
  · rw [wp_none h rfl (by simp only [stepM, newA]; rw [if_neg (fun z => q z.2)])]
    exact ⟨fun z => z.elim, fun z => q z.1⟩
theorem wp_newa_boolean {M : Mth} {pc : Nat} {ls : Lsx} {st : List Value} {w : Wd} {Q : Option Value → Wd → Prop} {n : Int32} (h : mCode M pc = some (.newarray .boolean)) (hc : mCls M 0 = some 18) : wp M pc ls (.int n :: st) w Q ↔ (0 ≤ n ∧ n.toNatClampNeg ≤ 65536) ∧ wp M (pc + 2) ls (.ref (nxt w) :: st) (mk1 w 12 n.toNatClampNeg n.toNatClampNeg) Q := by
  by_cases q : 0 ≤ n ∧ n.toNatClampNeg ≤ 65536
  · rw [wp_step h rfl (by simp only [stepM, newA]; rw [if_pos ⟨hc, q⟩])]
    exact ⟨fun z => ⟨q, z⟩, fun z => z.2⟩
  · rw [wp_none h rfl (by simp only [stepM, newA]; rw [if_neg (fun z => q z.2)])]
    exact ⟨fun z => z.elim, fun z => q z.1⟩
theorem wp_newa_char {M : Mth} {pc : Nat} {ls : Lsx} {st : List Value} {w : Wd} {Q : Option Value → Wd → Prop} {n : Int32} (h : mCode M pc = some (.newarray .char)) (hc : mCls M 0 = some 18) : wp M pc ls (.int n :: st) w Q ↔ (0 ≤ n ∧ n.toNatClampNeg ≤ 65536) ∧ wp M (pc + 2) ls (.ref (nxt w) :: st) (mk1 w 13 n.toNatClampNeg n.toNatClampNeg) Q := by
  by_cases q : 0 ≤ n ∧ n.toNatClampNeg ≤ 65536
  · rw [wp_step h rfl (by simp only [stepM, newA]; rw [if_pos ⟨hc, q⟩])]
    exact ⟨fun z => ⟨q, z⟩, fun z => z.2⟩
  · rw [wp_none h rfl (by simp only [stepM, newA]; rw [if_neg (fun z => q z.2)])]
    exact ⟨fun z => z.elim, fun z => q z.1⟩
theorem wp_newr {M : Mth} {pc : Nat} {ls : Lsx} {st : List Value} {w : Wd} {Q : Option Value → Wd → Prop} {i k : Nat} {n : Int32} (h : mCode M pc = some (.anewarray i)) (hc : mCls M (i + 100000) = some k) (hk : 14 ≤ k ∧ k ≤ 16) : wp M pc ls (.int n :: st) w Q ↔ (0 ≤ n ∧ n.toNatClampNeg ≤ 65536) ∧ wp M (pc + 3) ls (.ref (nxt w) :: st) (mk1 w k n.toNatClampNeg n.toNatClampNeg) Q := by
  by_cases q : 0 ≤ n ∧ n.toNatClampNeg ≤ 65536
  · rw [wp_step h rfl (by simp only [stepM, newR, hc]; rw [if_pos ⟨hk, q⟩])]
    exact ⟨fun z => ⟨q, z⟩, fun z => z.2⟩
  · rw [wp_none h rfl (by simp only [stepM, newR, hc]; rw [if_neg (fun z => q z.2)])]
    exact ⟨fun z => z.elim, fun z => q z.1⟩
theorem wp_newm {M : Mth} {pc : Nat} {ls : Lsx} {st : List Value} {w : Wd} {Q : Option Value → Wd → Prop} {i : Nat} {n k : Int32} (h : mCode M pc = some (.multianewarray i 2)) (hc : mCls M i = some 17) : wp M pc ls (.int k :: .int n :: st) w Q ↔ ((0 ≤ n ∧ n.toNatClampNeg ≤ 65536) ∧ (0 ≤ k ∧ k.toNatClampNeg ≤ 65536)) ∧ wp M (pc + 4) ls (.ref (nxt w) :: st) (mk2 w n.toNatClampNeg k.toNatClampNeg) Q := by
  by_cases q : (0 ≤ n ∧ n.toNatClampNeg ≤ 65536) ∧ (0 ≤ k ∧ k.toNatClampNeg ≤ 65536)
  · rw [wp_step h rfl (by simp only [stepM, newM, if_true]; rw [if_pos ⟨hc, q⟩])]
    exact ⟨fun z => ⟨q, z⟩, fun z => z.2⟩
  · rw [wp_none h rfl (by simp only [stepM, newM, if_true]; rw [if_neg (fun z => q z.2)])]
    exact ⟨fun z => z.elim, fun z => q z.1⟩
/-- calls, whatever surrounds them -/
def CX (ex : Bool) (own : String) (fr lo : Nat) (k : Nat) (t : Nat × Nat × Fnc) : Prop :=
  (∀ as w r w', t.2.2 as w = some (r, w') → nxt w ≤ nxt w' ∧ slt w ≤ slt w') ∧
  ∀ (M : Mth) (p : Program) (l : Launch) (e : Env) (R : Room) (s : State) (m : MethodId) (args : Array Value) (below : List Frame) (meth : Method) (c : Code) (D : va_G) (cy : Nat → ClassId) (b0 n0 s0 nL : Nat) (cc : ByteArray), Amb ex M p s m args meth c D cy b0 cc own nL → R.frames = fr → R.locals = lo → COK ex p l e R s m args below meth c D cy b0 n0 s0 nL cc t.1 k t.2.1 t.2.2
theorem Ctr.mono {ex : Bool} {y : MethodName} {cc : ByteArray} {nL fr lo : Nat} {ret : Option FieldType} {f : Fnc} (h : Ctr ex y cc nL ret fr lo f) : ∀ as w r w', f as w = some (r, w') → nxt w ≤ nxt w' ∧ slt w ≤ slt w' := fun as w r w' hf => (h launch0 (fun _ => 0, fun _ _ => 0) (fun _ => 0) 0 as w w' r hf).1
theorem lk_all {α : Type} {l : List (Nat × α)} {P : Nat → α → Prop} (h : ∀ q ∈ l, P q.1 q.2) {k : Nat} {v : α} (hk : lk l k = some v) : P k v := h (k, v) (lk_mem hk)
theorem cx_V {ex : Bool} {own : String} {fr lo k : Nat} {y : MethodName} {bytes : ByteArray} {ret : Option FieldType} {maxL fr' lo' ci np : Nat} {f : Fnc} (hC : Ctr ex y bytes maxL ret fr' lo' f) (hci : ci < 10) (hyc : y.cls = clN ci)
    (hlnk : LnkOK own k y) (w2 : Cond.instanceMethod y ∈ gw_tbl) (w3 : Cond.selects (clN ci) y y ∈ gw_tbl) (w4 : Cond.initialized y.cls ∈ gw_tbl) (w5 : Cond.code y bytes maxL ret ∈ gw_tbl) (hd : BasOK y np) (hR : fr' + 1 ≤ fr ∧ 8 + (maxL + 11) + lo' ≤ lo) : CX ex own fr lo k (0, np + 1, vfn ci f) :=
  ⟨fun as w r w' h => by obtain ⟨b, as', -, -, h2⟩ := vfn_inv h; exact hC.mono as w r w' h2, fun M p l e R s m args below meth c D cy b0 n0 s0 nL cc A h1 h2 => cok_V A hC hci hyc hlnk w2 w3 w4 w5 hd (by rw [h1, h2]; exact hR)⟩
theorem cx_S {ex : Bool} {own : String} {fr lo k : Nat} {y : MethodName} {bytes : ByteArray} {ret : Option FieldType} {maxL fr' lo' np : Nat} {f : Fnc} (hC : Ctr ex y bytes maxL ret fr' lo' f)
    (hlnk : LnkOK own k y) (w2 : Cond.static y ∈ gw_tbl) (w4 : Cond.initialized y.cls ∈ gw_tbl) (w5 : Cond.code y bytes maxL ret ∈ gw_tbl) (hd : BasOK y np) (hR : fr' + 1 ≤ fr ∧ 8 + (maxL + 11) + lo' ≤ lo) : CX ex own fr lo k (2, np, f) :=
  ⟨hC.mono, fun M p l e R s m args below meth c D cy b0 n0 s0 nL cc A h1 h2 => cok_S A hC hlnk w2 w4 w5 hd (by rw [h1, h2]; exact hR)⟩
theorem cx_I {ex : Bool} {own : String} {fr lo k : Nat} {y : MethodName} {bytes : ByteArray} {maxL fr' lo' ci np : Nat} {f : Fnc} (hC : Ctr ex y bytes maxL none fr' lo' f) (hy1 : y.name = "<init>")
    (hlnk : LnkOK own k y) (w2 : Cond.instanceMethod y ∈ gw_tbl) (w4 : Cond.initialized y.cls ∈ gw_tbl) (w5 : Cond.code y bytes maxL none ∈ gw_tbl) (hd : BasOK y np) (hR : fr' + 1 ≤ fr ∧ 8 + (maxL + 11) + lo' ≤ lo) : CX ex own fr lo k (1, np + 1, vfn ci f) :=
  ⟨fun as w r w' h => by obtain ⟨b, as', -, -, h2⟩ := vfn_inv h; exact hC.mono as w r w' h2, fun M p l e R s m args below meth c D cy b0 n0 s0 nL cc A h1 h2 => cok_I A hC hy1 hlnk w2 w4 w5 hd (by rw [h1, h2]; exact hR)⟩
theorem objFn_mono : ∀ as w r w', objFn as w = some (r, w') → nxt w ≤ nxt w' ∧ slt w ≤ slt w' := by
  intro as w r w' h
  unfold objFn at h
  split at h
  · cases h; exact ⟨Nat.le_refl _, Nat.le_refl _⟩
  · cases h
theorem cx_O {ex : Bool} {own : String} {fr lo k : Nat} (w1 : Cond.methodLink own k Lib.objectInit ∈ gw_tbl) (w2 : Cond.instanceMethod Lib.objectInit ∈ gw_tbl) (w3 : Cond.code Lib.objectInit ⟨#[0xb1]⟩ 1 none ∈ gw_tbl) (hR : 1 ≤ fr ∧ 20 ≤ lo) : CX ex own fr lo k (1, 1, objFn) :=
  ⟨objFn_mono, fun M p l e R s m args below meth c D cy b0 n0 s0 nL cc A h1 h2 => cok_O A w1 w2 w3 (by rw [h1, h2]; exact hR)⟩
theorem cx_C {own : String} {fr lo k : Nat} (w1 : Cond.methodLink own k arraycopyName ∈ gw_tbl) (w2 : Cond.native arraycopyName ∈ gw_tbl) (w3 : Cond.static arraycopyName ∈ gw_tbl) (w4 : Cond.initialized "java/lang/System" ∈ gw_tbl) (hR : 1 ≤ fr ∧ 26 ≤ lo) : CX false own fr lo k (2, 5, cpyFn) :=
  ⟨fun as w r w' h => by obtain ⟨sa, sp, da, dp, n, -, -, -, ⟨-, -, rfl⟩ | ⟨-, -, rfl⟩⟩ := cpyFn_inv h <;> exact ⟨Nat.le_refl _, Nat.le_refl _⟩, fun M p l e R s m args below meth c D cy b0 n0 s0 nL cc A h1 h2 => cok_C A w1 w2 w3 w4 (by rw [h1, h2]; exact hR)⟩
/-- Math.abs of an int -/
def mabsFn : Fnc := fun as w => match as with
  | [.int x] => some (some (.int (if 0 ≤ x then x else 0 - x)), w)
  | _ => none
theorem mabsFn_inv {as : List Value} {w w' : Wd} {r : Option Value} (h : mabsFn as w = some (r, w')) : w' = w ∧ ∃ x, as = [.int x] ∧ r = some (.int (if 0 ≤ x then x else 0 - x)) := by
  unfold mabsFn at h
  split at h
  · cases h; exact ⟨rfl, _, rfl, rfl⟩
  · cases h
theorem cx_A {ex : Bool} {own : String} {fr lo k : Nat} (w1 : Cond.methodLink own k Lib.Math.abs.name ∈ gw_tbl) (w2 : Cond.static Lib.Math.abs.name ∈ gw_tbl) (w3 : Cond.initialized "java/lang/Math" ∈ gw_tbl) (w4 : Cond.code Lib.Math.abs.name Lib.Math.abs.code 1 (some .int) ∈ gw_tbl) (hR : 1 ≤ fr ∧ 21 ≤ lo) : CX ex own fr lo k (2, 1, mabsFn) := by
  refine ⟨fun as w r w' h => ?_, fun M p l e R s m args below meth c D cy b0 n0 s0 nL cc A h1 h2 => ⟨fun as w r w' h => ?_, fun Q pc as rest ls w w' r hdg hf hlen hsum hc1 hc2 kk => ?_⟩⟩
  · obtain ⟨rfl, -⟩ := mabsFn_inv h; exact ⟨Nat.le_refl _, Nat.le_refl _⟩
  · obtain ⟨rfl, -⟩ := mabsFn_inv h; exact ⟨Nat.le_refl _, Nat.le_refl _⟩
  obtain ⟨rfl, x, rfl, rfl⟩ := mabsFn_inv hf
  obtain ⟨hx, hb, hml, hown, hts, hnw, hK, hb0, -⟩ := A
  intro hl hn0 hs0 H locs rl hP hS hL
  exact va_mabs (rest := rest) hx hb (by rw [hml, hL.1]) hown (hts _ w1) (hts _ w2) (hts _ w3) (hts _ w4) (by rw [h1]; exact hR.1) (by rw [h2]; omega) hc1 hc2 hdg (kk hl hn0 hs0 H locs rl hP hS hL)
theorem Ctr_of2 {ex : Bool} {M : Mth} {y : MethodName} {cc : ByteArray} {nL fr lo : Nat} (hy : plainName y.cls = true) (hT : Tbl M cc y.cls) (hini : mIni M = true → y.name = "<init>" ∧ y.cls = clN (mOwn M)) (hex : ex = true ∨ ∀ k, mCls M k = none)
    (hcal : ∀ k t, mCal M k = some t → CX ex y.cls fr lo k t) : Ctr ex y cc nL (mRet M) fr lo (semF M nL) :=
  Ctr_of hy hT hini hex (fun p l e R s m args below meth c D cy b0 n0 s0 A h1 h2 k kd n fn h => (hcal k _ h).2 M p l e R s m args below meth c D cy b0 n0 s0 nL cc A h1 h2) (fun k kd n fn h => (hcal k _ h).1)
def FOK (own : String) (k : Nat) (q : Nat × Nat) : Prop := q.1 < 10 ∧ q.2 < nfl q.1 ∧ Cond.fieldLink own k (tyT q.1 q.2).1 (tyT q.1 q.2).2.1 (tyT q.1 q.2).2.2.1 ∈ gw_tbl
def KOK (own : String) (k : Nat) (ci : Nat) : Prop := (ci < 10 → Cond.classLink own k (clN ci) ∈ gw_tbl ∧ Cond.instantiable (clN ci) (nfl ci) ∈ gw_tbl ∧ Cond.initialized (clN ci) ∈ gw_tbl) ∧ (14 ≤ ci → ci ≤ 16 → Cond.classLink own (k - 100000) (clN (elC ci)) ∈ gw_tbl) ∧ (ci = 17 → Cond.classLink own k ("[" ++ (FieldType.array .long).toString) ∈ gw_tbl)
theorem Tbl_of {own : String} {cc : ByteArray} {kc : List (Nat × Instr)} {kf : List (Nat × (Nat × Nat))} {ki : List (Nat × Int32)} {kj : List (Nat × Int64)} {kk : List (Nat × (Nat × Nat × Fnc))} {kn : List (Nat × Nat)} {ret : Option FieldType} {oc : Nat} {ini : Bool} (h1 : ∀ q ∈ kc, decode cc q.1 = .ok (q.2, ilen q.1 q.2)) (h2 : ∀ q ∈ kf, FOK own q.1 q.2) (h3 : ∀ q ∈ ki, Cond.constant own q.1 q.2 ∈ gw_tbl) (h4 : ∀ q ∈ kj, Cond.constantLong own q.1 q.2 ∈ gw_tbl) (h5 : ∀ q ∈ kn, KOK own q.1 q.2) : Tbl (lk kc, lk kf, lk ki, lk kj, lk kk, lk kn, ret, oc, ini) cc own :=
  ⟨fun pc i h => lk_all (P := fun pc i => decode cc pc = .ok (i, ilen pc i)) h1 h, fun k ci f h => lk_all (P := FOK own) h2 h, fun k v h => lk_all (P := fun k v => Cond.constant own k v ∈ gw_tbl) h3 h, fun k v h => lk_all (P := fun k v => Cond.constantLong own k v ∈ gw_tbl) h4 h, fun k ci h => lk_all (P := KOK own) h5 h⟩
