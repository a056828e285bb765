section
variable {ex : Bool} {M : Mth} {p : Program} {l : Launch} {e : Env} {R : Room} {s : State} {m : MethodId} {args : Array Value} {below : List Frame} {meth : Method} {c : Code} {D : va_G} {cy : Nat → ClassId} {b0 n0 s0 nL : Nat} {Q : State → Prop} {cc : ByteArray} {own : String} {pc : Nat} {ls : Lsx} {st : List Value} {w : Wd} {r : List Value}
set_option maxHeartbeats 4000000 in
theorem step_sound (A : Amb ex M p s m args meth c D cy b0 cc own nL) (hcal : ∀ k kd n fn, mCal M k = some (kd, n, fn) → COK ex p l e R s m args below meth c D cy b0 n0 s0 nL cc kd k n fn) {i : Instr} {q : Nx} (hi : mCode M pc = some i) (h : stepM M i pc ls st w = some q) (hc1 : nxt q.2.2.2 - n0 ≤ R.cells) (hc2 : slt q.2.2.2 - s0 ≤ R.slots)
    (kk : SW ex p l e R s m args below meth c D cy b0 n0 s0 nL Q q.1 q.2.1 q.2.2.1 q.2.2.2) : SW ex p l e R s m args below meth c D cy b0 n0 s0 nL Q pc ls st w := by
  have hd : decode cc pc = .ok (i, ilen pc i) := A.2.2.2.2.2.2.2.2.1 pc i hi
  have hA := A
  obtain ⟨hx, hb, hml, hown, hts, hnw, hK, hb0, hcode, hF, hI, hJ, hC, hini, hex⟩ := hA
  cases i with
  | iconst n =>
    cases h
    intro hl hn0 hs0 H locs rl hP hS hL
    exact lv_iconst hx hb hd rfl (kk hl hn0 hs0 H locs rl hP hS hL)
  | bipush n =>
    cases h
    intro hl hn0 hs0 H locs rl hP hS hL
    exact lv_bipush hx hb hd rfl (kk hl hn0 hs0 H locs rl hP hS hL)
  | sipush n =>
    cases h
    intro hl hn0 hs0 H locs rl hP hS hL
    exact lv_sipush hx hb hd rfl (kk hl hn0 hs0 H locs rl hP hS hL)
  | lconst n =>
    cases h
    intro hl hn0 hs0 H locs rl hP hS hL
    exact lv_lconst hx hb hd rfl (kk hl hn0 hs0 H locs rl hP hS hL)
  | ldc k =>
    unfold stepM at h
    dsimp only at h
    split at h
    · rename_i v hv
      cases h
      intro hl hn0 hs0 H locs rl hP hS hL
      exact lv_ldc hx hb hown (hts _ (hI k v hv)) hd (kk hl hn0 hs0 H locs rl hP hS hL)
    · cases h
  | ldc_w k =>
    unfold stepM at h
    dsimp only at h
    split at h
    · rename_i v hv
      cases h
      intro hl hn0 hs0 H locs rl hP hS hL
      exact lv_ldcw hx hb hown (hts _ (hI k v hv)) hd (kk hl hn0 hs0 H locs rl hP hS hL)
    · cases h
  | ldc2_w k =>
    unfold stepM at h
    dsimp only at h
    split at h
    · rename_i v hv
      cases h
      intro hl hn0 hs0 H locs rl hP hS hL
      exact lv_ldc2 hx hb hown (hts _ (hJ k v hv)) hd (kk hl hn0 hs0 H locs rl hP hS hL)
    · cases h
  | iload_n k =>
    obtain ⟨x, hx1, rfl⟩ := ldI_inv h
    intro hl hn0 hs0 H locs rl hP hS hL
    exact lv_iload_n hx hb hd rfl (hL.2.2 k.val _ hx1) (kk hl hn0 hs0 H locs rl hP hS hL)
  | iload k =>
    obtain ⟨x, hx1, rfl⟩ := ldI_inv h
    intro hl hn0 hs0 H locs rl hP hS hL
    exact lv_iload hx hb hd (hL.2.2 k _ hx1) (kk hl hn0 hs0 H locs rl hP hS hL)
  | lload_n k =>
    obtain ⟨x, hx1, rfl⟩ := ldJ_inv h
    intro hl hn0 hs0 H locs rl hP hS hL
    exact lv_lload_n hx hb hd rfl (hL.2.2 k.val _ hx1) (kk hl hn0 hs0 H locs rl hP hS hL)
  | lload k =>
    obtain ⟨x, hx1, rfl⟩ := ldJ_inv h
    intro hl hn0 hs0 H locs rl hP hS hL
    exact lv_lload hx hb hd (hL.2.2 k _ hx1) (kk hl hn0 hs0 H locs rl hP hS hL)
  | aload_n k =>
    obtain ⟨x, hx1, rfl⟩ := ldA_inv h
    intro hl hn0 hs0 H locs rl hP hS hL
    exact lv_aload_n hx hb hd rfl (hL.2.2 k.val _ hx1) (kk hl hn0 hs0 H locs rl hP hS hL)
  | aload k =>
    obtain ⟨x, hx1, rfl⟩ := ldA_inv h
    intro hl hn0 hs0 H locs rl hP hS hL
    exact lv_aload hx hb hd (hL.2.2 k _ hx1) (kk hl hn0 hs0 H locs rl hP hS hL)
  | istore_n k =>
    obtain ⟨x, r, rfl, hok, rfl⟩ := stI_inv h
    intro hl hn0 hs0 H locs rl hP hS hL
    exact lv_istore_n hx hb hd rfl hL.has (by rw [← hl]; exact (okS_spec hok).1) rfl (fun rl' hl' => kk (by simpa using hl) hn0 hs0 H locs rl' hP hS (hL.st1 hok hl'))
  | istore k =>
    obtain ⟨x, r, rfl, hok, rfl⟩ := stI_inv h
    intro hl hn0 hs0 H locs rl hP hS hL
    exact lv_istore hx hb hd hL.has (by rw [← hl]; exact (okS_spec hok).1) rfl (fun rl' hl' => kk (by simpa using hl) hn0 hs0 H locs rl' hP hS (hL.st1 hok hl'))
  | astore_n k =>
    obtain ⟨x, r, rfl, hok, rfl⟩ := stA_inv h
    intro hl hn0 hs0 H locs rl hP hS hL
    exact lv_astore_n hx hb hd rfl hL.has (by rw [← hl]; exact (okS_spec hok).1) rfl (fun rl' hl' => kk (by simpa using hl) hn0 hs0 H locs rl' hP hS (hL.st1 hok hl'))
  | astore k =>
    obtain ⟨x, r, rfl, hok, rfl⟩ := stA_inv h
    intro hl hn0 hs0 H locs rl hP hS hL
    exact lv_astore hx hb hd hL.has (by rw [← hl]; exact (okS_spec hok).1) rfl (fun rl' hl' => kk (by simpa using hl) hn0 hs0 H locs rl' hP hS (hL.st1 hok hl'))
  | lstore_n k =>
    obtain ⟨x, r, rfl, hok, rfl⟩ := stJ_inv h
    intro hl hn0 hs0 H locs rl hP hS hL
    exact lv_lstore_n hx hb hd rfl hL.has (by rw [← hl]; exact hok.2) rfl (fun rl' hl' => kk (by simpa using hl) hn0 hs0 H locs rl' hP hS (hL.st2 hok.1 hl'))
  | lstore k =>
    obtain ⟨x, r, rfl, hok, rfl⟩ := stJ_inv h
    intro hl hn0 hs0 H locs rl hP hS hL
    exact lv_lstore hx hb hd hL.has (by rw [← hl]; exact hok.2) rfl (fun rl' hl' => kk (by simpa using hl) hn0 hs0 H locs rl' hP hS (hL.st2 hok.1 hl'))
  | iinc k n =>
    obtain ⟨x, hx1, hok, rfl⟩ := incI_inv h
    intro hl hn0 hs0 H locs rl hP hS hL
    obtain ⟨j, hj⟩ := List.getElem?_of_mem (prs_mem.mpr hx1)
    exact lv_iinc hx hb hd hL.has hj rfl (by rw [← hl]; exact (okS_spec hok).1) rfl (fun rl' hl' => kk (by simpa using hl) hn0 hs0 H locs rl' hP hS (hL.st1 hok hl'))
  | iadd =>
    obtain ⟨x, y, r, rfl, rfl⟩ := bnI_inv h
    intro hl hn0 hs0 H locs rl hP hS hL
    exact lv_iadd hx hb hd (kk hl hn0 hs0 H locs rl hP hS hL)
  | isub =>
    obtain ⟨x, y, r, rfl, rfl⟩ := bnI_inv h
    intro hl hn0 hs0 H locs rl hP hS hL
    exact lv_isub hx hb hd (kk hl hn0 hs0 H locs rl hP hS hL)
  | imul =>
    obtain ⟨x, y, r, rfl, rfl⟩ := bnI_inv h
    intro hl hn0 hs0 H locs rl hP hS hL
    exact lv_imul hx hb hd (kk hl hn0 hs0 H locs rl hP hS hL)
  | iand =>
    obtain ⟨x, y, r, rfl, rfl⟩ := bnI_inv h
    intro hl hn0 hs0 H locs rl hP hS hL
    exact lv_iand hx hb hd (kk hl hn0 hs0 H locs rl hP hS hL)
  | ior =>
    obtain ⟨x, y, r, rfl, rfl⟩ := bnI_inv h
    intro hl hn0 hs0 H locs rl hP hS hL
    exact lv_ior hx hb hd (kk hl hn0 hs0 H locs rl hP hS hL)
  | ixor =>
    obtain ⟨x, y, r, rfl, rfl⟩ := bnI_inv h
    intro hl hn0 hs0 H locs rl hP hS hL
    exact lv_ixor hx hb hd (kk hl hn0 hs0 H locs rl hP hS hL)
  | ishl =>
    obtain ⟨x, y, r, rfl, rfl⟩ := bnI_inv h
    intro hl hn0 hs0 H locs rl hP hS hL
    exact lv_ishl hx hb hd (kk hl hn0 hs0 H locs rl hP hS hL)
  | ishr =>
    obtain ⟨x, y, r, rfl, rfl⟩ := bnI_inv h
    intro hl hn0 hs0 H locs rl hP hS hL
    exact lv_ishr hx hb hd (kk hl hn0 hs0 H locs rl hP hS hL)
  | iushr =>
    obtain ⟨x, y, r, rfl, rfl⟩ := bnI_inv h
    intro hl hn0 hs0 H locs rl hP hS hL
    exact lv_iushr hx hb hd rfl (kk hl hn0 hs0 H locs rl hP hS hL)
  | idiv =>
    obtain ⟨x, y, r, rfl, hne, rfl⟩ := bnIz_inv h
    intro hl hn0 hs0 H locs rl hP hS hL
    exact lv_idiv hx hb hd hne (kk hl hn0 hs0 H locs rl hP hS hL)
  | irem =>
    obtain ⟨x, y, r, rfl, hne, rfl⟩ := bnIz_inv h
    intro hl hn0 hs0 H locs rl hP hS hL
    exact lv_irem hx hb hd hne (kk hl hn0 hs0 H locs rl hP hS hL)
  | ineg =>
    obtain ⟨x, r, rfl, rfl⟩ := unI_inv h
    intro hl hn0 hs0 H locs rl hP hS hL
    exact lv_ineg hx hb hd (kk hl hn0 hs0 H locs rl hP hS hL)
  | ladd =>
    obtain ⟨x, y, r, rfl, rfl⟩ := bnJ_inv h
    intro hl hn0 hs0 H locs rl hP hS hL
    exact lv_ladd hx hb hd (kk hl hn0 hs0 H locs rl hP hS hL)
  | lsub =>
    obtain ⟨x, y, r, rfl, rfl⟩ := bnJ_inv h
    intro hl hn0 hs0 H locs rl hP hS hL
    exact lv_lsub hx hb hd (kk hl hn0 hs0 H locs rl hP hS hL)
  | lmul =>
    obtain ⟨x, y, r, rfl, rfl⟩ := bnJ_inv h
    intro hl hn0 hs0 H locs rl hP hS hL
    exact lv_lmul hx hb hd (kk hl hn0 hs0 H locs rl hP hS hL)
  | land =>
    obtain ⟨x, y, r, rfl, rfl⟩ := bnJ_inv h
    intro hl hn0 hs0 H locs rl hP hS hL
    exact lv_land hx hb hd (kk hl hn0 hs0 H locs rl hP hS hL)
  | lor =>
    obtain ⟨x, y, r, rfl, rfl⟩ := bnJ_inv h
    intro hl hn0 hs0 H locs rl hP hS hL
    exact lv_lor hx hb hd (kk hl hn0 hs0 H locs rl hP hS hL)
  | ldiv =>
    obtain ⟨x, y, r, rfl, hne, rfl⟩ := bnJz_inv h
    intro hl hn0 hs0 H locs rl hP hS hL
    exact lv_ldiv hx hb hd hne (kk hl hn0 hs0 H locs rl hP hS hL)
  | lrem =>
    obtain ⟨x, y, r, rfl, hne, rfl⟩ := bnJz_inv h
    intro hl hn0 hs0 H locs rl hP hS hL
    exact lv_lrem hx hb hd hne (kk hl hn0 hs0 H locs rl hP hS hL)
  | lneg =>
    obtain ⟨x, r, rfl, rfl⟩ := unJ_inv h
    intro hl hn0 hs0 H locs rl hP hS hL
    exact lv_lneg hx hb hd (kk hl hn0 hs0 H locs rl hP hS hL)
  | lshl =>
    unfold stepM at h
    dsimp only at h
    split at h
    · cases h
      intro hl hn0 hs0 H locs rl hP hS hL
      exact lv_lshl hx hb hd rfl (kk hl hn0 hs0 H locs rl hP hS hL)
    · cases h
  | lcmp =>
    unfold stepM at h
    dsimp only at h
    split at h
    · cases h
      intro hl hn0 hs0 H locs rl hP hS hL
      exact W.lcmp hx hb hd (kk hl hn0 hs0 H locs rl hP hS hL)
    · cases h
  | i2l =>
    obtain ⟨x, r, rfl, rfl⟩ := unI_inv h
    intro hl hn0 hs0 H locs rl hP hS hL
    exact lv_i2l hx hb hd rfl (kk hl hn0 hs0 H locs rl hP hS hL)
  | i2b =>
    obtain ⟨x, r, rfl, rfl⟩ := unI_inv h
    intro hl hn0 hs0 H locs rl hP hS hL
    exact lv_i2b hx hb hd rfl (kk hl hn0 hs0 H locs rl hP hS hL)
  | i2s =>
    obtain ⟨x, r, rfl, rfl⟩ := unI_inv h
    intro hl hn0 hs0 H locs rl hP hS hL
    exact lv_i2s hx hb hd rfl (kk hl hn0 hs0 H locs rl hP hS hL)
  | i2c =>
    obtain ⟨x, r, rfl, rfl⟩ := unI_inv h
    intro hl hn0 hs0 H locs rl hP hS hL
    exact lv_i2c hx hb hd rfl (kk hl hn0 hs0 H locs rl hP hS hL)
  | l2i =>
    obtain ⟨x, r, rfl, rfl⟩ := unJ_inv h
    intro hl hn0 hs0 H locs rl hP hS hL
    exact lv_l2i hx hb hd rfl (kk hl hn0 hs0 H locs rl hP hS hL)
  | dup =>
    obtain ⟨v, r, rfl, hv, rfl⟩ := dp1_inv h
    intro hl hn0 hs0 H locs rl hP hS hL
    exact lv_dup hx hb hd hv (kk hl hn0 hs0 H locs rl hP hS hL)
  | dup2 =>
    rcases dp2_inv h with ⟨x, y, r, rfl, rfl⟩ | ⟨x, r, rfl, rfl⟩
    · intro hl hn0 hs0 H locs rl hP hS hL
      exact lv_dup2_11 hx hb hd rfl rfl (kk hl hn0 hs0 H locs rl hP hS hL)
    · intro hl hn0 hs0 H locs rl hP hS hL
      exact lv_dup2_2 hx hb hd rfl (kk hl hn0 hs0 H locs rl hP hS hL)
  | ifCond cd off =>
    obtain ⟨x, r, rfl, h0, rfl⟩ := if1_inv h
    exact br_if1 A hd h0 kk
  | if_icmp cd off =>
    obtain ⟨x, y, r, rfl, h0, rfl⟩ := if2_inv h
    exact br_if2 A hd h0 kk
  | goto off =>
    obtain ⟨h0, rfl⟩ := jmp_inv h
    intro hl hn0 hs0 H locs rl hP hS hL
    exact lv_goto (tgt := ((pc : Int) + off).toNat) hx hb hd (by omega) (kk hl hn0 hs0 H locs rl hP hS hL)
  | tableswitch d lo hi os =>
    obtain ⟨x, r, rfl, ⟨g1, g2, rfl⟩ | ⟨g1, o, g2, g3, rfl⟩⟩ := swT_inv h
    · intro hl hn0 hs0 H locs rl hP hS hL
      exact lv_tableOut (tgt := ((pc : Int) + d).toNat) hx hb hd g1 (by omega) (kk hl hn0 hs0 H locs rl hP hS hL)
    · intro hl hn0 hs0 H locs rl hP hS hL
      exact lv_tableIn (tgt := ((pc : Int) + o).toNat) hx hb hd (fun z => g1 (Or.inl z)) (fun z => g1 (Or.inr z)) g2 (by omega) (kk hl hn0 hs0 H locs rl hP hS hL)
  | getfield k =>
    obtain ⟨a, r, ci, f, rfl, h1, h2, rfl⟩ := getF_inv h
    exact st_get A hd h1 h2 kk
  | putfield k =>
    obtain ⟨v, a, r, ci, f, w', rfl, h1, h2, h3, h4, rfl⟩ := putF_inv h
    exact st_put A hd h1 h2 h3 h4 kk
  | iaload =>
    obtain ⟨i, a, r, rfl, h1, h2, rfl⟩ := ald_inv (ks := [10]) (f := fun w a j => .int (rdI w a j)) h
    exact st_iald A hd (by simpa using h1) h2 kk
  | baload =>
    obtain ⟨i, a, r, rfl, h1, h2, rfl⟩ := ald_inv (ks := [12]) (f := fun w a j => .int (rdI w a j)) h
    exact st_zald A hd (by simpa using h1) h2 kk
  | caload =>
    obtain ⟨i, a, r, rfl, h1, h2, rfl⟩ := ald_inv (ks := [13]) (f := fun w a j => .int (rdI w a j)) h
    exact st_cald A hd (by simpa using h1) h2 kk
  | laload =>
    obtain ⟨i, a, r, rfl, h1, h2, rfl⟩ := ald_inv (ks := [11]) (f := fun w a j => .long (rdJ w a j)) h
    exact st_lald A hd (by simpa using h1) h2 kk
  | aaload =>
    obtain ⟨i, a, r, rfl, h1, h2, rfl⟩ := ald_inv (ks := [14, 15, 16, 17]) (f := fun w a j => va_rf (rdR w a j)) h
    exact st_aald A hd h1 h2 kk
  | iastore =>
    obtain ⟨x, i, a, r, rfl, h1, h2, rfl⟩ := astI_inv h
    exact st_iast A hd h1 h2 kk
  | bastore =>
    obtain ⟨x, i, a, r, rfl, h1, h2, rfl⟩ := astI_inv h
    exact st_zast A hd h1 h2 kk
  | castore =>
    obtain ⟨x, i, a, r, rfl, h1, h2, rfl⟩ := astI_inv h
    exact st_cast A hd h1 h2 kk
  | lastore =>
    obtain ⟨x, i, a, r, rfl, h1, h2, rfl⟩ := astJ_inv h
    exact st_last A hd h1 h2 kk
  | aastore =>
    obtain ⟨x, i, a, r, rfl, h1, h2, h3, rfl⟩ := astA_inv h
    exact st_aast A hd h1 h2 h3 kk
  | arraylength =>
    obtain ⟨a, r, rfl, h1, rfl⟩ := aln_inv h
    exact st_alen A hd h1 kk
  | invokevirtual k =>
    obtain ⟨n, fn, r, w', h1, h2, h3, h4, rfl⟩ := clM_inv h
    have := (hcal k _ n fn h1).2 Q pc (st.take n).reverse (st.drop n) ls w w' r hd h4 (by simp [h2]) h3 hc1 hc2 kk
    rw [List.reverse_reverse, List.take_append_drop] at this
    exact this
  | invokespecial k =>
    obtain ⟨n, fn, r, w', h1, h2, h3, h4, rfl⟩ := clM_inv h
    have := (hcal k _ n fn h1).2 Q pc (st.take n).reverse (st.drop n) ls w w' r hd h4 (by simp [h2]) h3 hc1 hc2 kk
    rw [List.reverse_reverse, List.take_append_drop] at this
    exact this
  | invokestatic k =>
    obtain ⟨n, fn, r, w', h1, h2, h3, h4, rfl⟩ := clM_inv h
    have := (hcal k _ n fn h1).2 Q pc (st.take n).reverse (st.drop n) ls w w' r hd h4 (by simp [h2]) h3 hc1 hc2 kk
    rw [List.reverse_reverse, List.take_append_drop] at this
    exact this
  | new k =>
    obtain ⟨ci, h1, h2, rfl⟩ := newO_inv h
    exact st_new A hd h1 h2 hc1 hc2 kk
  | newarray t =>
    obtain ⟨n, r, k, rfl, ht, h1, rfl⟩ := newA_inv h
    rcases ht with ⟨rfl, rfl⟩ | ⟨rfl, rfl⟩ | ⟨rfl, rfl⟩ | ⟨rfl, rfl⟩
    · exact st_newa (tk := 0) A hd h1.1 h1.2.1 h1.2.2 (by omega) rfl arrcl_int (by decide) (fun z => z) (fun cA N => by simp [arrE, mk1, vp_cell, newarray.typeOf, defaultValue]) hc1 hc2 kk
    · exact st_newa (tk := 1) A hd h1.1 h1.2.1 h1.2.2 (by omega) rfl arrcl_long (by decide) (fun z => z) (fun cA N => by simp [arrE, mk1, vp_cell, newarray.typeOf, defaultValue]) hc1 hc2 kk
    · exact st_newa (tk := 2) A hd h1.1 h1.2.1 h1.2.2 (by omega) rfl arrcl_boolean (by decide) (fun z => z) (fun cA N => by simp [arrE, mk1, vp_cell, newarray.typeOf, defaultValue]) hc1 hc2 kk
    · exact st_newa (tk := 3) A hd h1.1 h1.2.1 h1.2.2 (by omega) rfl arrcl_char (by decide) (fun z => z) (fun cA N => by simp [arrE, mk1, vp_cell, newarray.typeOf, defaultValue]) hc1 hc2 kk
  | anewarray k =>
    obtain ⟨n, r, ci, rfl, h1, h2, rfl⟩ := newR_inv h
    exact st_newr A hd h1 h2.2.1 h2.2.2 h2.1 hc1 hc2 kk
  | multianewarray k d =>
    unfold stepM at h
    dsimp only at h
    split at h
    · rename_i h2d
      subst h2d
      obtain ⟨k0, n, r, rfl, h1, rfl⟩ := newM_inv h
      exact st_newm A hd h1.1 h1.2.1 h1.2.2 hc1 hc2 kk
    · cases h
  | _ => cases h
end
