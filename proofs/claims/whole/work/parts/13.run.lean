theorem step_mono {M : Mth} {pc : Nat} {ls : Lsx} {st : List Value} {w : Wd} (hcal : ∀ k kd n fn, mCal M k = some (kd, n, fn) → ∀ as w r w', fn as w = some (r, w') → nxt w ≤ nxt w' ∧ slt w ≤ slt w') {i : Instr} {q : Nx} (h : stepM M i pc ls st w = some q) : nxt w ≤ nxt q.2.2.2 ∧ slt w ≤ slt q.2.2.2 := by
  have hrf : nxt w ≤ nxt w ∧ slt w ≤ slt w := ⟨Nat.le_refl _, Nat.le_refl _⟩
  cases i with
  | iconst n =>
    cases h; exact hrf
  | bipush n =>
    cases h; exact hrf
  | sipush n =>
    cases h; exact hrf
  | lconst n =>
    cases h; exact hrf
  | ldc k =>
    unfold stepM at h; dsimp only at h; split at h
    · cases h; exact hrf
    · cases h
  | ldc_w k =>
    unfold stepM at h; dsimp only at h; split at h
    · cases h; exact hrf
    · cases h
  | ldc2_w k =>
    unfold stepM at h; dsimp only at h; split at h
    · cases h; exact hrf
    · cases h
  | iload_n k =>
    obtain ⟨x, hx1, rfl⟩ := ldI_inv h; exact hrf
  | iload k =>
    obtain ⟨x, hx1, rfl⟩ := ldI_inv h; exact hrf
  | lload_n k =>
    obtain ⟨x, hx1, rfl⟩ := ldJ_inv h; exact hrf
  | lload k =>
    obtain ⟨x, hx1, rfl⟩ := ldJ_inv h; exact hrf
  | aload_n k =>
    obtain ⟨x, hx1, rfl⟩ := ldA_inv h; exact hrf
  | aload k =>
    obtain ⟨x, hx1, rfl⟩ := ldA_inv h; exact hrf
  | istore_n k =>
    obtain ⟨x, r, rfl, hok, rfl⟩ := stI_inv h; exact hrf
  | istore k =>
    obtain ⟨x, r, rfl, hok, rfl⟩ := stI_inv h; exact hrf
  | astore_n k =>
    obtain ⟨x, r, rfl, hok, rfl⟩ := stA_inv h; exact hrf
  | astore k =>
    obtain ⟨x, r, rfl, hok, rfl⟩ := stA_inv h; exact hrf
  | lstore_n k =>
    obtain ⟨x, r, rfl, hok, rfl⟩ := stJ_inv h; exact hrf
  | lstore k =>
    obtain ⟨x, r, rfl, hok, rfl⟩ := stJ_inv h; exact hrf
  | iinc k n =>
    obtain ⟨x, hx1, hok, rfl⟩ := incI_inv h; exact hrf
  | iadd =>
    obtain ⟨x, y, r, rfl, rfl⟩ := bnI_inv h; exact hrf
  | isub =>
    obtain ⟨x, y, r, rfl, rfl⟩ := bnI_inv h; exact hrf
  | imul =>
    obtain ⟨x, y, r, rfl, rfl⟩ := bnI_inv h; exact hrf
  | iand =>
    obtain ⟨x, y, r, rfl, rfl⟩ := bnI_inv h; exact hrf
  | ior =>
    obtain ⟨x, y, r, rfl, rfl⟩ := bnI_inv h; exact hrf
  | ixor =>
    obtain ⟨x, y, r, rfl, rfl⟩ := bnI_inv h; exact hrf
  | ishl =>
    obtain ⟨x, y, r, rfl, rfl⟩ := bnI_inv h; exact hrf
  | ishr =>
    obtain ⟨x, y, r, rfl, rfl⟩ := bnI_inv h; exact hrf
  | iushr =>
    obtain ⟨x, y, r, rfl, rfl⟩ := bnI_inv h; exact hrf
  | idiv =>
    obtain ⟨x, y, r, rfl, hne, rfl⟩ := bnIz_inv h; exact hrf
  | irem =>
    obtain ⟨x, y, r, rfl, hne, rfl⟩ := bnIz_inv h; exact hrf
  | ladd =>
    obtain ⟨x, y, r, rfl, rfl⟩ := bnJ_inv h; exact hrf
  | lsub =>
    obtain ⟨x, y, r, rfl, rfl⟩ := bnJ_inv h; exact hrf
  | lmul =>
    obtain ⟨x, y, r, rfl, rfl⟩ := bnJ_inv h; exact hrf
  | land =>
    obtain ⟨x, y, r, rfl, rfl⟩ := bnJ_inv h; exact hrf
  | lor =>
    obtain ⟨x, y, r, rfl, rfl⟩ := bnJ_inv h; exact hrf
  | ldiv =>
    obtain ⟨x, y, r, rfl, hne, rfl⟩ := bnJz_inv h; exact hrf
  | lrem =>
    obtain ⟨x, y, r, rfl, hne, rfl⟩ := bnJz_inv h; exact hrf
  | ineg =>
    obtain ⟨x, r, rfl, rfl⟩ := unI_inv h; exact hrf
  | i2l =>
    obtain ⟨x, r, rfl, rfl⟩ := unI_inv h; exact hrf
  | i2b =>
    obtain ⟨x, r, rfl, rfl⟩ := unI_inv h; exact hrf
  | i2s =>
    obtain ⟨x, r, rfl, rfl⟩ := unI_inv h; exact hrf
  | i2c =>
    obtain ⟨x, r, rfl, rfl⟩ := unI_inv h; exact hrf
  | lneg =>
    obtain ⟨x, r, rfl, rfl⟩ := unJ_inv h; exact hrf
  | l2i =>
    obtain ⟨x, r, rfl, rfl⟩ := unJ_inv h; exact hrf
  | lshl =>
    unfold stepM at h; dsimp only at h; split at h
    · cases h; exact hrf
    · cases h
  | lcmp =>
    unfold stepM at h; dsimp only at h; split at h
    · cases h; exact hrf
    · cases h
  | dup =>
    obtain ⟨v, r, rfl, hv, rfl⟩ := dp1_inv h; exact hrf
  | dup2 =>
    rcases dp2_inv h with ⟨x, y, r, rfl, rfl⟩ | ⟨x, r, rfl, rfl⟩ <;> exact hrf
  | ifCond cd off =>
    obtain ⟨x, r, rfl, h0, rfl⟩ := if1_inv h; exact hrf
  | if_icmp cd off =>
    obtain ⟨x, y, r, rfl, h0, rfl⟩ := if2_inv h; exact hrf
  | goto off =>
    obtain ⟨h0, rfl⟩ := jmp_inv h; exact hrf
  | tableswitch d lo hi os =>
    obtain ⟨x, r, rfl, ⟨g1, g2, rfl⟩ | ⟨g1, o, g2, g3, rfl⟩⟩ := swT_inv h <;> exact hrf
  | getfield k =>
    obtain ⟨a, r, ci, f, rfl, h1, h2, rfl⟩ := getF_inv h; exact hrf
  | putfield k =>
    obtain ⟨v, a, r, ci, f, w', rfl, h1, h2, h3, h4, rfl⟩ := putF_inv h
    obtain ⟨-, -, -, -, v5, v6, -⟩ := putV_spec h4
    exact ⟨by rw [v5]; exact Nat.le_refl _, by rw [v6]; exact Nat.le_refl _⟩
  | iaload =>
    obtain ⟨i, a, r, rfl, h1, h2, rfl⟩ := ald_inv (ks := [10]) (f := fun w a j => .int (rdI w a j)) h; exact hrf
  | baload =>
    obtain ⟨i, a, r, rfl, h1, h2, rfl⟩ := ald_inv (ks := [12]) (f := fun w a j => .int (rdI w a j)) h; exact hrf
  | caload =>
    obtain ⟨i, a, r, rfl, h1, h2, rfl⟩ := ald_inv (ks := [13]) (f := fun w a j => .int (rdI w a j)) h; exact hrf
  | laload =>
    obtain ⟨i, a, r, rfl, h1, h2, rfl⟩ := ald_inv (ks := [11]) (f := fun w a j => .long (rdJ w a j)) h; exact hrf
  | aaload =>
    obtain ⟨i, a, r, rfl, h1, h2, rfl⟩ := ald_inv (ks := [14, 15, 16, 17]) (f := fun w a j => va_rf (rdR w a j)) h; exact hrf
  | iastore =>
    obtain ⟨x, i, a, r, rfl, h1, h2, rfl⟩ := astI_inv h; exact hrf
  | bastore =>
    obtain ⟨x, i, a, r, rfl, h1, h2, rfl⟩ := astI_inv h; exact hrf
  | castore =>
    obtain ⟨x, i, a, r, rfl, h1, h2, rfl⟩ := astI_inv h; exact hrf
  | lastore =>
    obtain ⟨x, i, a, r, rfl, h1, h2, rfl⟩ := astJ_inv h; exact hrf
  | aastore =>
    obtain ⟨x, i, a, r, rfl, h1, h2, h3, rfl⟩ := astA_inv h; exact hrf
  | arraylength =>
    obtain ⟨a, r, rfl, h1, rfl⟩ := aln_inv h; exact hrf
  | invokevirtual k =>
    obtain ⟨n, fn, r, w', h1, h2, h3, h4, rfl⟩ := clM_inv h
    exact hcal k _ n fn h1 _ _ _ _ h4
  | invokespecial k =>
    obtain ⟨n, fn, r, w', h1, h2, h3, h4, rfl⟩ := clM_inv h
    exact hcal k _ n fn h1 _ _ _ _ h4
  | invokestatic k =>
    obtain ⟨n, fn, r, w', h1, h2, h3, h4, rfl⟩ := clM_inv h
    exact hcal k _ n fn h1 _ _ _ _ h4
  | new k =>
    obtain ⟨ci, h1, h2, rfl⟩ := newO_inv h
    exact ⟨Nat.le_succ _, Nat.le_add_right _ _⟩
  | newarray t =>
    obtain ⟨n, r, k, rfl, ht, h1, rfl⟩ := newA_inv h
    exact ⟨Nat.le_succ _, Nat.le_add_right _ _⟩
  | anewarray k =>
    obtain ⟨n, r, ci, rfl, h1, h2, rfl⟩ := newR_inv h
    exact ⟨Nat.le_succ _, Nat.le_add_right _ _⟩
  | multianewarray k d =>
    unfold stepM at h; dsimp only at h; split at h
    · obtain ⟨k0, n, r, rfl, h1, rfl⟩ := newM_inv h
      exact ⟨by show nxt w ≤ nxt w + 1 + _; omega, Nat.le_add_right _ _⟩
    · cases h
  | _ => cases h
theorem run_mono {M : Mth} (hcal : ∀ k kd n fn, mCal M k = some (kd, n, fn) → ∀ as w r w', fn as w = some (r, w') → nxt w ≤ nxt w' ∧ slt w ≤ slt w') : ∀ (n pc : Nat) (ls : Lsx) (st : List Value) (w : Wd) (r : Option Value) (wf : Wd), runM M n pc ls st w = some (r, wf) → nxt w ≤ nxt wf ∧ slt w ≤ slt wf := by
  intro n
  induction n with
  | zero => intro pc ls st w r wf h; cases h
  | succ n ih =>
    intro pc ls st w r wf h
    unfold runM at h
    split at h
    · cases h
    · split at h
      · cases h; exact ⟨Nat.le_refl _, Nat.le_refl _⟩
      · split at h
        · cases h
        · rename_i q hq
          have h1 := step_mono hcal hq
          have h2 := ih _ _ _ _ _ _ h
          exact ⟨Nat.le_trans h1.1 h2.1, Nat.le_trans h1.2 h2.2⟩
theorem run_more {M : Mth} : ∀ (n pc : Nat) (ls : Lsx) (st : List Value) (w : Wd) (q : Option Value × Wd) (k : Nat), runM M n pc ls st w = some q → runM M (n + k) pc ls st w = some q := by
  intro n
  induction n with
  | zero => intro pc ls st w q k h; cases h
  | succ n ih =>
    intro pc ls st w q k h
    rw [show n + 1 + k = (n + k) + 1 by omega]
    unfold runM at h ⊢
    cases hi : mCode M pc with
    | none => rw [hi] at h; cases h
    | some i =>
      rw [hi] at h
      dsimp only at h ⊢
      cases hv : retM M i st with
      | some v => rw [hv] at h; exact h
      | none =>
        rw [hv] at h
        dsimp only at h ⊢
        cases hq : stepM M i pc ls st w with
        | none => rw [hq] at h; cases h
        | some q2 =>
          rw [hq] at h
          exact ih _ _ _ _ _ k h
theorem run_same {M : Mth} {n k pc : Nat} {ls : Lsx} {st : List Value} {w : Wd} {q q' : Option Value × Wd} (h : runM M n pc ls st w = some q) (h' : runM M k pc ls st w = some q') : q = q' := by
  have h1 := run_more n pc ls st w q k h
  have h2 := run_more k pc ls st w q' n h'
  rw [show k + n = n + k by omega] at h2
  exact Option.some.inj (h1.symm.trans h2)
/-! ### contracts -/
def PreW (ex : Bool) (D : va_G) (cy : Nat → ClassId) (b0 : Nat) (w : Wd) (U : State) : Prop := Pic ex D cy b0 w U.heap ∧ va_K D vwCl (tysOf cy) U ∧ NW U
def QcW (ex : Bool) (D : va_G) (cy : Nat → ClassId) (b0 : Nat) (r : Option Value) (w' : Wd) : Array Value → State → Outcome → State → Prop := fun _ st oc t => oc = .returned r ∧ Pic ex D cy b0 w' t.heap ∧ va_F (fun q => b0 ≤ q) st t
def Ctr (ex : Bool) (y : MethodName) (cc : ByteArray) (nL : Nat) (ret : Option FieldType) (fr lo : Nat) (fn : Fnc) : Prop :=
  ∀ (l : Launch) (D : va_G) (cy : Nat → ClassId) (b0 : Nat) (as : List Value) (w w' : Wd) (r : Option Value), fn as w = some (r, w') →
    (nxt w ≤ nxt w' ∧ slt w ≤ slt w') ∧ Met l y (Cond.code y cc nL ret :: gw_tbl) { frames := fr, cells := nxt w' - nxt w, slots := slt w' - slt w, locals := lo } (va_Pc as (PreW ex D cy b0 w)) (QcW ex D cy b0 r w') (nxt w' - nxt w) (slt w' - slt w) (fun q => b0 ≤ q)
noncomputable def semF (M : Mth) (nL : Nat) : Fnc := fun as w => @dite _ (∃ q : Option Value × Wd, (entS as).length ≤ nL ∧ ∃ n, runM M n 0 (entL nL as) [] w = some q) (Classical.propDecidable _) (fun h => some (Classical.choose h)) (fun _ => none)
theorem semF_spec {M : Mth} {nL : Nat} {as : List Value} {w : Wd} {q : Option Value × Wd} (h : semF M nL as w = some q) : (entS as).length ≤ nL ∧ ∃ n, runM M n 0 (entL nL as) [] w = some q := by
  unfold semF at h
  split at h
  · rename_i hq
    have := Classical.choose_spec hq
    rw [Option.some.inj h] at this
    exact this
  · cases h
theorem semF_of {M : Mth} {nL n : Nat} {as : List Value} {w : Wd} {q : Option Value × Wd} (hl : (entS as).length ≤ nL) (h : runM M n 0 (entL nL as) [] w = some q) : semF M nL as w = some q := by
  have hq : ∃ q : Option Value × Wd, (entS as).length ≤ nL ∧ ∃ n, runM M n 0 (entL nL as) [] w = some q := ⟨q, hl, n, h⟩
  unfold semF
  rw [dif_pos hq]
  obtain ⟨-, k, hk⟩ := Classical.choose_spec hq
  rw [run_same hk h]
/-- the weakest precondition of an end -/
def wp (M : Mth) (pc : Nat) (ls : Lsx) (st : List Value) (w : Wd) (Q : Option Value → Wd → Prop) : Prop := ∃ n q, runM M n pc ls st w = some q ∧ Q q.1 q.2
theorem sem_wp {M : Mth} {nL : Nat} {as : List Value} {w : Wd} {Q : Option Value → Wd → Prop} (hl : (entS as).length ≤ nL) (h : wp M 0 (entL nL as) [] w Q) : ∃ r w', semF M nL as w = some (r, w') ∧ Q r w' := by
  obtain ⟨n, q, h1, h2⟩ := h
  exact ⟨q.1, q.2, semF_of hl h1, h2⟩
theorem sem_eq {M : Mth} {nL : Nat} {as : List Value} {w w' : Wd} {r : Option Value} (hl : (entS as).length ≤ nL) (h : wp M 0 (entL nL as) [] w (fun r1 w1 => r1 = r ∧ w1 = w')) : semF M nL as w = some (r, w') := by
  obtain ⟨n, q, h1, h2, h3⟩ := h
  rw [← h2, ← h3]
  exact semF_of hl h1
theorem wp_mono {M : Mth} {pc : Nat} {ls : Lsx} {st : List Value} {w : Wd} {Q Q' : Option Value → Wd → Prop} (h : wp M pc ls st w Q) (hq : ∀ r w', Q r w' → Q' r w') : wp M pc ls st w Q' := by
  obtain ⟨n, q, h1, h2⟩ := h
  exact ⟨n, q, h1, hq _ _ h2⟩
theorem wp_step {M : Mth} {pc : Nat} {ls : Lsx} {st : List Value} {w : Wd} {Q : Option Value → Wd → Prop} {i : Instr} {pc' : Nat} {ls' : Lsx} {st' : List Value} {w' : Wd} (hi : mCode M pc = some i) (hr : retM M i st = none) (hs : stepM M i pc ls st w = some (pc', ls', st', w')) : wp M pc ls st w Q ↔ wp M pc' ls' st' w' Q := by
  constructor
  · rintro ⟨n, q, h1, h2⟩
    cases n with
    | zero => cases h1
    | succ n =>
      unfold runM at h1
      rw [hi] at h1
      dsimp only at h1
      rw [hr] at h1
      dsimp only at h1
      rw [hs] at h1
      exact ⟨n, q, h1, h2⟩
  · rintro ⟨n, q, h1, h2⟩
    refine ⟨n + 1, q, ?_, h2⟩
    unfold runM
    rw [hi]
    dsimp only
    rw [hr]
    dsimp only
    rw [hs]
    exact h1
theorem wp_ret {M : Mth} {pc : Nat} {ls : Lsx} {st : List Value} {w : Wd} {Q : Option Value → Wd → Prop} {i : Instr} {v : Option Value} (hi : mCode M pc = some i) (hr : retM M i st = some v) : wp M pc ls st w Q ↔ Q v w := by
  constructor
  · rintro ⟨n, q, h1, h2⟩
    cases n with
    | zero => cases h1
    | succ n =>
      unfold runM at h1
      rw [hi] at h1
      dsimp only at h1
      rw [hr] at h1
      cases h1
      exact h2
  · intro h
    refine ⟨1, (v, w), ?_, h⟩
    unfold runM
    rw [hi]
    dsimp only
    rw [hr]
section
variable {ex : Bool} {M : Mth} {p : Program} {l : Launch} {e : Env} {R : Room} {s : State} {m : MethodId} {args : Array Value} {below : List Frame} {meth : Method} {c : Code} {D : va_G} {cy : Nat → ClassId} {b0 n0 s0 nL : Nat} {Q : State → Prop} {cc : ByteArray} {own : String} {pc : Nat} {ls : Lsx} {st : List Value} {w : Wd} {r : List Value}
theorem ret_sound (A : Amb ex M p s m args meth c D cy b0 cc own nL) (hret : meth.sig.returnType = mRet M) (hlk : meth.locks = false) {i : Instr} {v : Option Value} (hi : mCode M pc = some i) (h : retM M i st = some v) : SW ex p l e R s m args below meth c D cy b0 n0 s0 nL (MQ below (QcW ex D cy b0 v w) args s (nxt w - n0) (slt w - s0) (fun q => b0 ≤ q)) pc ls st w := by
  have hd : decode cc pc = .ok (i, ilen pc i) := A.2.2.2.2.2.2.2.2.1 pc i hi
  obtain ⟨hx, hb, -⟩ := A
  intro hl hn0 hs0 H locs rl hP hS hL
  have post : ∀ t : State, t.heap = H → s.WarmedH t.vm → QcW ex D cy b0 v w args s (.returned v) t := fun t ht _ => ⟨rfl, by rw [ht]; exact hP, hS.F ht⟩
  cases i with
  | return_ =>
    unfold retM at h
    dsimp only at h
    split at h
    · rename_i hc
      obtain ⟨h1, rfl⟩ := hc
      cases h
      exact W.vret hx hb (by rw [hret, h1]) post hS.2.2 hd hlk
    · cases h
  | ireturn =>
    unfold retM at h
    dsimp only at h
    split at h
    · split at h
      · rename_i h1
        cases h
        exact W.iret hx hb (by rw [hret, h1]) post hS.2.2 hd hlk
      · rename_i h1
        split at h
        · rename_i h2
          cases h
          exact W.zret hx hb (by rw [hret, h1]) (by rcases h2 with rfl | rfl <;> rfl) post hS.2.2 hd hlk
        · cases h
      · rename_i h1
        split at h
        · rename_i h2
          cases h
          exact W.zret hx hb (by rw [hret, h1]) h2 post hS.2.2 hd hlk
        · cases h
      · cases h
    · cases h
  | lreturn =>
    unfold retM at h
    dsimp only at h
    split at h
    · split at h
      · rename_i h1
        cases h
        exact W.lret hx hb (by rw [hret, h1]) post hS.2.2 hd hlk
      · cases h
    · cases h
  | _ => cases h
theorem run_sound (A : Amb ex M p s m args meth c D cy b0 cc own nL) (hret : meth.sig.returnType = mRet M) (hlk : meth.locks = false) (hcal : ∀ k kd n fn, mCal M k = some (kd, n, fn) → COK ex p l e R s m args below meth c D cy b0 n0 s0 nL cc kd k n fn) :
    ∀ (n pc : Nat) (ls : Lsx) (st : List Value) (w : Wd) (r : Option Value) (wf : Wd), runM M n pc ls st w = some (r, wf) → nxt wf - n0 ≤ R.cells → slt wf - s0 ≤ R.slots →
      SW ex p l e R s m args below meth c D cy b0 n0 s0 nL (MQ below (QcW ex D cy b0 r wf) args s (nxt wf - n0) (slt wf - s0) (fun q => b0 ≤ q)) pc ls st w := by
  have hmo : ∀ k kd n fn, mCal M k = some (kd, n, fn) → ∀ as w r w', fn as w = some (r, w') → nxt w ≤ nxt w' ∧ slt w ≤ slt w' := fun k kd n fn h => (hcal k kd n fn h).1
  intro n
  induction n with
  | zero => intro pc ls st w r wf h; cases h
  | succ n ih =>
    intro pc ls st w r wf h hc1 hc2
    unfold runM at h
    split at h
    · cases h
    · rename_i i hi
      split at h
      · rename_i v hv
        cases h
        exact ret_sound A hret hlk hi hv
      · split at h
        · cases h
        · rename_i q hq
          have hm := run_mono hmo n _ _ _ _ _ _ h
          exact step_sound A hcal hi hq (by omega) (by omega) (ih _ _ _ _ _ _ h hc1 hc2)
end
