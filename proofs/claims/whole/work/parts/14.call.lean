def lk {α : Type} (l : List (Nat × α)) (k : Nat) : Option α := (l.find? (fun q => q.1 == k)).map (fun q => q.2)
theorem lk_mem {α : Type} {l : List (Nat × α)} {k : Nat} {v : α} (h : lk l k = some v) : (k, v) ∈ l := by
  unfold lk at h
  obtain ⟨q, h1, h2⟩ := Option.map_eq_some_iff.mp h
  have h3 := List.find?_some h1
  have h4 := List.mem_of_find?_eq_some h1
  simp only [beq_iff_eq] at h3
  rw [← h2, ← h3]
  exact h4
/-- what is known of a method's tables -/
def Tbl (M : Mth) (cc : ByteArray) (own : String) : Prop :=
  (∀ pc i, mCode M pc = some i → decode cc pc = .ok (i, ilen pc i)) ∧
  (∀ k ci f, mFld M k = some (ci, f) → ci < 10 ∧ f < nfl ci ∧ Cond.fieldLink own k (tyT ci f).1 (tyT ci f).2.1 (tyT ci f).2.2.1 ∈ gw_tbl) ∧
  (∀ k v, mInt M k = some v → Cond.constant own k v ∈ gw_tbl) ∧
  (∀ k v, mLng M k = some v → Cond.constantLong own k v ∈ gw_tbl) ∧
  (∀ k ci, mCls M k = some ci → (ci < 10 → Cond.classLink own k (clN ci) ∈ gw_tbl ∧ Cond.instantiable (clN ci) (nfl ci) ∈ gw_tbl ∧ Cond.initialized (clN ci) ∈ gw_tbl) ∧ (14 ≤ ci → ci ≤ 16 → Cond.classLink own (k - 100000) (clN (elC ci)) ∈ gw_tbl) ∧ (ci = 17 → Cond.classLink own k ("[" ++ (FieldType.array .long).toString) ∈ gw_tbl))
/-- a call's own words -/
def LnkOK (own : String) (k : Nat) (y : MethodName) : Prop := Cond.methodLink own k y ∈ gw_tbl ∨ ∃ host, (own, k, y, host) ∈ nests
def BasOK (y : MethodName) (np : Nat) : Prop := y.cls ≠ "java/lang/invoke/MethodHandle" ∧ y.cls ≠ "java/lang/invoke/VarHandle" ∧ (parseMethodDescriptor y.desc).map (fun d => d.parameters.length) = some np
/-- a virtual call's receiver -/
def vfn (ci : Nat) (f : Fnc) : Fnc := fun as w => match as with
  | .ref b :: as' => if (shp w b).1 = ci then f (.ref b :: as') w else none
  | _ => none
theorem vfn_inv {ci : Nat} {f : Fnc} {as : List Value} {w : Wd} {q : Option Value × Wd} (h : vfn ci f as w = some q) : ∃ b as', as = .ref b :: as' ∧ (shp w b).1 = ci ∧ f as w = some q := by
  unfold vfn at h
  split at h
  · split at h
    · exact ⟨_, _, rfl, by assumption, h⟩
    · cases h
  · cases h
theorem vfn_eq {ci : Nat} {f : Fnc} {b : Nat} {as : List Value} {w : Wd} (h : (shp w b).1 = ci) : vfn ci f (.ref b :: as) w = f (.ref b :: as) w := by
  simp [vfn, h]
theorem NW.calling {U : State} {g : JFrame} {mk : MethodId} {a : Array Value} (h : NW U) : NW (U.calling g mk a) := NW.same rfl h
theorem PreW.blind {ex : Bool} {D : va_G} {cy : Nat → ClassId} {b0 : Nat} {w : Wd} {as : List Value} : FrameBlind (va_Pc as (PreW ex D cy b0 w)) := by
  intro a U g mk q
  obtain ⟨q0, q1, q2, q3⟩ := q
  exact ⟨q0, q1, va_K.moved (u := U) (U := U.calling g mk a) (Vm.Alike.refl U.vm) q2, q3.calling⟩
section
variable {ex : Bool} {M : Mth} {p : Program} {l : Launch} {e : Env} {R : Room} {s : State} {m : MethodId} {args : Array Value} {below : List Frame} {meth : Method} {c : Code} {D : va_G} {cy : Nat → ClassId} {b0 n0 s0 nL : Nat} {Q : State → Prop} {cc : ByteArray} {own : String} {pc : Nat} {ls : Lsx} {st : List Value} {w w' : Wd} {r : Option Value}
/-- behind a call -/
theorem call_go {H : Heap} {locs : List Loc} {rl : Array Slot} {rest st0 : List Value} (hl : ls.length = nL) (hn0 : n0 ≤ nxt w) (hs0 : s0 ≤ slt w) (hm : nxt w ≤ nxt w' ∧ slt w ≤ slt w') (hS : va_S (fun q => b0 ≤ q) s.heap H locs) (hL : lvr rl nL ls)
    (hr : va_Run p l e R s m args below meth c H locs (nxt w - n0) (slt w - s0) (nxt w' - nxt w) (slt w' - slt w) (F0 m pc rl st0) rest (QcW ex D cy b0 r w' #[]) (fun q => b0 ≤ q))
    (kk : SW ex p l e R s m args below meth c D cy b0 n0 s0 nL Q (pc + 3) ls (r.toList ++ rest) w') : W p l e R s m args below meth c H locs (nxt w - n0) (slt w - s0) Q (F0 m pc rl st0) := by
  intro T hT X
  obtain ⟨v, st₀, t, T', L, h0, X', hLL, e1, e2, ⟨hv, hPic, hz, hk⟩, st⟩ := hr T hT X
  cases hv
  rw [h0] at hz hk
  rw [show nxt w - n0 + (nxt w' - nxt w) = nxt w' - n0 by omega, show slt w - s0 + (slt w' - slt w) = slt w' - s0 by omega] at X'
  obtain ⟨t2, a1, b1⟩ := kk hl (Nat.le_trans hn0 hm.1) (Nat.le_trans hs0 hm.2) T'.heap (locs ++ L) rl (by rw [e1]; exact hPic)
    ⟨Nat.le_trans hS.1 (by rw [e1]; exact hz), fun q h1 h2 => by rw [e1, hk q (Nat.lt_of_lt_of_le h1 hS.1) h2]; exact hS.2.1 q h1 h2, fun q hq => by
      rcases List.mem_append.mp hq with h | h
      · exact hS.2.2 q h
      · exact hLL q h⟩ hL T' rfl X'
  exact ⟨t2, st t2 a1, b1⟩
theorem cok_V (A : Amb ex M p s m args meth c D cy b0 cc own nL) {k : Nat} {y : MethodName} {bytes : ByteArray} {ret : Option FieldType} {maxL fr lo ci np : Nat} {f : Fnc} (hC : Ctr ex y bytes maxL ret fr lo f) (hci : ci < 10) (hyc : y.cls = clN ci)
    (hlnk : LnkOK own k y) (w2 : Cond.instanceMethod y ∈ gw_tbl) (w3 : Cond.selects (clN ci) y y ∈ gw_tbl) (w4 : Cond.initialized y.cls ∈ gw_tbl) (w5 : Cond.code y bytes maxL ret ∈ gw_tbl) (hd : BasOK y np) (hR : fr + 1 ≤ R.frames ∧ 8 + (maxL + 11) + lo ≤ R.locals) :
    COK ex p l e R s m args below meth c D cy b0 n0 s0 nL cc 0 k (np + 1) (vfn ci f) := by
  obtain ⟨hx, hb, hml, hown, hts, hnw, hK, hb0, -⟩ := A
  refine ⟨fun as w r w' h => ?_, fun Q pc as rest ls w w' r hdg hf hlen hsum hc1 hc2 kk => ?_⟩
  · obtain ⟨b, as', -, -, h2⟩ := vfn_inv h
    exact (hC l D cy b0 as w w' r h2).1
  obtain ⟨b, as', rfl, hsh, hf2⟩ := vfn_inv hf
  obtain ⟨hm, hM⟩ := hC l D cy b0 _ w w' r hf2
  intro hl hn0 hs0 H locs rl hP hS hL
  have hw : ∀ v ∈ Cond.code y bytes maxL ret :: gw_tbl, v ∈ gw_tbl := fun v hv => by
    rcases List.mem_cons.mp hv with rfl | h
    · exact w5
    · exact h
  have hpre : PreV s H (clN ci) b (va_Pc (.ref b :: as') (PreW ex D cy b0 w)) as' := by
    refine ⟨PreW.blind, va_recv hK (hP.P (a := b) (by omega)) (ci := ci) (q0 := 0) (fs := flds ci w b) (vw_at ci hci) (by rw [cell_obj hsh hci]; rfl), fun U hU hW => ⟨rfl, by rw [hU]; exact hP, va_K.moved hW.alike hK, hnw.warm hW⟩⟩
  have hlen' : as'.length = np := by simpa using hlen
  have hst : (F0 m pc rl ((Value.ref b :: as').reverse ++ rest)).stack = as'.reverse ++ .ref b :: rest := by simp
  have hroom := lv_room (m := m) (pc := pc) (ls := rl) (rest := (Value.ref b :: as').reverse ++ rest) hsum
  refine call_go hl hn0 hs0 hm hS hL ?_ kk
  rcases hlnk with w1 | ⟨host, w1⟩
  · exact va_runV (Ts := gw_tbl) (As := as') (rest := rest) ⟨hx, hb, hml, hown, hts⟩ hM ⟨callB_of np hts (gw_good hw) rfl rfl rfl (hts _ w4) (hts _ w1) hd hR, hts _ w2, hts _ w3⟩ hpre rfl hlen' hL.1 hst hroom hdg (by omega)
  · exact va_runVN (Ts := gw_tbl) (As := as') (rest := rest) ⟨hx, hb, hml, hown, hts⟩ hM ⟨va_cnB np hts (gw_good hw) rfl rfl rfl (hnw.1 _ w1) (hts _ w4) hd hR, hts _ w2, hts _ w3⟩ hpre rfl hlen' hL.1 hst hroom hdg (by omega)
theorem cok_S (A : Amb ex M p s m args meth c D cy b0 cc own nL) {k : Nat} {y : MethodName} {bytes : ByteArray} {ret : Option FieldType} {maxL fr lo np : Nat} {f : Fnc} (hC : Ctr ex y bytes maxL ret fr lo f)
    (hlnk : LnkOK own k y) (w2 : Cond.static y ∈ gw_tbl) (w4 : Cond.initialized y.cls ∈ gw_tbl) (w5 : Cond.code y bytes maxL ret ∈ gw_tbl) (hd : BasOK y np) (hR : fr + 1 ≤ R.frames ∧ 8 + (maxL + 11) + lo ≤ R.locals) :
    COK ex p l e R s m args below meth c D cy b0 n0 s0 nL cc 2 k np f := by
  obtain ⟨hx, hb, hml, hown, hts, hnw, hK, hb0, -⟩ := A
  refine ⟨fun as w r w' h => (hC l D cy b0 as w w' r h).1, fun Q pc as rest ls w w' r hdg hf hlen hsum hc1 hc2 kk => ?_⟩
  obtain ⟨hm, hM⟩ := hC l D cy b0 _ w w' r hf
  intro hl hn0 hs0 H locs rl hP hS hL
  have hw : ∀ v ∈ Cond.code y bytes maxL ret :: gw_tbl, v ∈ gw_tbl := fun v hv => by
    rcases List.mem_cons.mp hv with rfl | h
    · exact w5
    · exact h
  have hpre : PreS s H (va_Pc as (PreW ex D cy b0 w)) as := ⟨PreW.blind, fun U hU hW => ⟨rfl, by rw [hU]; exact hP, va_K.moved hW.alike hK, hnw.warm hW⟩⟩
  have hroom := lv_room (m := m) (pc := pc) (ls := rl) (rest := as.reverse ++ rest) hsum
  refine call_go hl hn0 hs0 hm hS hL ?_ kk
  rcases hlnk with w1 | ⟨host, w1⟩
  · exact va_runS (Ts := gw_tbl) (As := as) (rest := rest) ⟨hx, hb, hml, hown, hts⟩ hM ⟨callB_of np hts (gw_good hw) rfl rfl rfl (hts _ w4) (hts _ w1) hd hR, hts _ w2⟩ hpre rfl hlen hL.1 rfl hroom hdg (by omega)
  · exact va_runSN (Ts := gw_tbl) (As := as) (rest := rest) ⟨hx, hb, hml, hown, hts⟩ hM ⟨va_cnB np hts (gw_good hw) rfl rfl rfl (hnw.1 _ w1) (hts _ w4) hd hR, hts _ w2, trivial⟩ hpre rfl hlen hL.1 rfl hroom hdg (by omega)
theorem cok_I (A : Amb ex M p s m args meth c D cy b0 cc own nL) {k : Nat} {y : MethodName} {bytes : ByteArray} {maxL fr lo ci np : Nat} {f : Fnc} (hC : Ctr ex y bytes maxL none fr lo f) (hy1 : y.name = "<init>")
    (hlnk : LnkOK own k y) (w2 : Cond.instanceMethod y ∈ gw_tbl) (w4 : Cond.initialized y.cls ∈ gw_tbl) (w5 : Cond.code y bytes maxL none ∈ gw_tbl) (hd : BasOK y np) (hR : fr + 1 ≤ R.frames ∧ 8 + (maxL + 11) + lo ≤ R.locals) :
    COK ex p l e R s m args below meth c D cy b0 n0 s0 nL cc 1 k (np + 1) (vfn ci f) := by
  obtain ⟨hx, hb, hml, hown, hts, hnw, hK, hb0, -⟩ := A
  refine ⟨fun as w r w' h => ?_, fun Q pc as rest ls w w' r hdg hf hlen hsum hc1 hc2 kk => ?_⟩
  · obtain ⟨b, as', -, -, h2⟩ := vfn_inv h
    exact (hC l D cy b0 as w w' r h2).1
  obtain ⟨b, as', rfl, hsh, hf2⟩ := vfn_inv hf
  obtain ⟨hm, hM⟩ := hC l D cy b0 _ w w' r hf2
  intro hl hn0 hs0 H locs rl hP hS hL
  have hw : ∀ v ∈ Cond.code y bytes maxL none :: gw_tbl, v ∈ gw_tbl := fun v hv => by
    rcases List.mem_cons.mp hv with rfl | h
    · exact w5
    · exact h
  have hpre : PreS s H (va_Pc (.ref b :: as') (PreW ex D cy b0 w)) (.ref b :: as') := ⟨PreW.blind, fun U hU hW => ⟨rfl, by rw [hU]; exact hP, va_K.moved hW.alike hK, hnw.warm hW⟩⟩
  have hlen' : as'.length = np := by simpa using hlen
  have hst : (F0 m pc rl ((Value.ref b :: as').reverse ++ rest)).stack = as'.reverse ++ .ref b :: rest := by simp
  have hroom := lv_room (m := m) (pc := pc) (ls := rl) (rest := (Value.ref b :: as').reverse ++ rest) hsum
  refine call_go hl hn0 hs0 hm hS hL ?_ kk
  rcases hlnk with w1 | ⟨host, w1⟩
  · exact va_runI (Ts := gw_tbl) (As := as') (rest := rest) ⟨hx, hb, hml, hown, hts⟩ hM ⟨callB_of np hts (gw_good hw) rfl rfl rfl (hts _ w4) (hts _ w1) hd hR, hy1, hts _ w2⟩ hpre rfl hlen' hL.1 hst hroom hdg (by omega)
  · exact va_runIN (Ts := gw_tbl) (As := as') (rest := rest) ⟨hx, hb, hml, hown, hts⟩ hM ⟨va_cnB np hts (gw_good hw) rfl rfl rfl (hnw.1 _ w1) (hts _ w4) hd hR, hy1, hts _ w2⟩ hpre rfl hlen' hL.1 hst hroom hdg (by omega)
/-- Object.<init> -/
def objFn : Fnc := fun as w => match as with
  | [.ref _] => some (none, w)
  | _ => none
theorem cok_O (A : Amb ex M p s m args meth c D cy b0 cc own nL) {k : Nat} (w1 : Cond.methodLink own k Lib.objectInit ∈ gw_tbl) (w2 : Cond.instanceMethod Lib.objectInit ∈ gw_tbl) (w3 : Cond.code Lib.objectInit ⟨#[0xb1]⟩ 1 none ∈ gw_tbl) (hR : 1 ≤ R.frames ∧ 20 ≤ R.locals) :
    COK ex p l e R s m args below meth c D cy b0 n0 s0 nL cc 1 k 1 objFn := by
  obtain ⟨hx, hb, hml, hown, hts, hnw, hK, hb0, -⟩ := A
  have inv : ∀ as w r w', objFn as w = some (r, w') → r = none ∧ w' = w ∧ ∃ b, as = [.ref b] := by
    intro as w r w' h
    unfold objFn at h
    split at h
    · cases h; exact ⟨rfl, rfl, _, rfl⟩
    · cases h
  refine ⟨fun as w r w' h => ?_, fun Q pc as rest ls w w' r hdg hf hlen hsum hc1 hc2 kk => ?_⟩
  · obtain ⟨-, rfl, -⟩ := inv _ _ _ _ h
    exact ⟨Nat.le_refl _, Nat.le_refl _⟩
  obtain ⟨rfl, rfl, b, rfl⟩ := inv _ _ _ _ hf
  intro hl hn0 hs0 H locs rl hP hS hL
  have hroom := lv_room (m := m) (pc := pc) (ls := rl) (rest := [Value.ref b].reverse ++ rest) hsum
  exact W.objInit (rest := rest) hx hb hown (hts _ w1) (hts _ w2) (hts _ w3) rfl (by rw [hml]; exact hL.1) rfl hdg hR.1 (by omega) (kk hl hn0 hs0 H locs rl hP hS hL)
end
/-- a method's contract out of the machine's runs -/
theorem Ctr_of {ex : Bool} {M : Mth} {y : MethodName} {cc : ByteArray} {nL fr lo : Nat} (hy : plainName y.cls = true) (hT : Tbl M cc y.cls) (hini : mIni M = true → y.name = "<init>" ∧ y.cls = clN (mOwn M)) (hex : ex = true ∨ ∀ k, mCls M k = none)
    (hcal : ∀ (p : Program) (l : Launch) (e : Env) (R : Room) (s : State) (m : MethodId) (args : Array Value) (below : List Frame) (meth : Method) (c : Code) (D : va_G) (cy : Nat → ClassId) (b0 n0 s0 : Nat), Amb ex M p s m args meth c D cy b0 cc y.cls nL → R.frames = fr → R.locals = lo → ∀ k kd n fn, mCal M k = some (kd, n, fn) → COK ex p l e R s m args below meth c D cy b0 n0 s0 nL cc kd k n fn)
    (hmo : ∀ k kd n fn, mCal M k = some (kd, n, fn) → ∀ as w r w', fn as w = some (r, w') → nxt w ≤ nxt w' ∧ slt w ≤ slt w') : Ctr ex y cc nL (mRet M) fr lo (semF M nL) := by
  intro l D cy b0 as w w' r hf
  obtain ⟨hle, n, hrun⟩ := semF_spec hf
  have hm := run_mono hmo _ _ _ _ _ _ _ hrun
  refine ⟨hm, ?_⟩
  refine Met.ofW (cc := cc) (maxL := nL) (ret := mRet M) hy rfl ?_
  intro p e s m args below meth c s₁ B hml hv
  obtain ⟨rfl, hPic, hK, hNW⟩ := hv
  have hx := B.exec
  have hb := B.bytes
  have hr := B.returns
  have hts := atoms_spec (ws := Cond.code y cc nL (mRet M) :: gw_tbl) B.pre
  have hown : s.vm.findClass y.cls = some m.cls := findClass_of_methodNamed B.named
  have hlocks := B.notSynchronized
  have hname : meth.name = y.name := (name_of_methodNamed B.named B.method).1
  have A : Amb ex M p s m as.toArray meth c D cy b0 cc y.cls nL := ⟨hx, hb, hml, hown, fun v hv => hts v (List.mem_cons_of_mem _ hv), hNW, hK, Nat.le_trans hPic.2.2.1 hPic.2.1, hT.1, hT.2.1, hT.2.2.1, hT.2.2.2.1, hT.2.2.2.2, fun q => ⟨by rw [hname]; exact (hini q).1, (hini q).2⟩, hex⟩
  have hsl : (lg_sl as).length = (entS as).length := by
    clear hrun hle hf A hts hT B
    induction as with
    | nil => rfl
    | cons v vs ih =>
      unfold entS
      simp only [lg_sl, List.flatMap_cons, List.length_append]
      have ih2 : (List.flatMap (fun v => if v.category = 2 then [Slot.val v, Slot.second] else [Slot.val v]) vs).length = (entS vs).length := ih
      rw [ih2]
      split <;> simp <;> omega
  have hl := lv_entry as (n := nL) (by rw [hsl]; exact hle)
  rw [lg_entry_eq]
  generalize (lg_sl as ++ List.replicate (nL - (lg_sl as).length) Slot.unset).toArray = rl at hl ⊢
  have hent : ∀ (vs : List Value) (k i : Nat) (v : Value), (entS vs)[i]? = some (some v) → (k + i, v) ∈ lv_args k vs := by
    intro vs
    induction vs with
    | nil => intro k i v h; simp [entS] at h
    | cons u us ih =>
      intro k i v h
      unfold entS at h
      unfold lv_args
      split at h
      · rename_i hc
        rw [if_pos hc]
        match i, h with
        | 0, h => simp at h; subst h; exact List.mem_cons_self
        | 1, h => simp at h
        | j + 2, h =>
          have := ih (k + 2) j v (by simpa using h)
          rw [show k + 2 + j = k + (j + 2) by omega] at this
          exact List.mem_cons_of_mem _ this
      · rename_i hc
        rw [if_neg hc]
        match i, h with
        | 0, h => simp at h; subst h; exact List.mem_cons_self
        | j + 1, h =>
          have := ih (k + 1) j v (by simpa using h)
          rw [show k + 1 + j = k + (j + 1) by omega] at this
          exact List.mem_cons_of_mem _ this
  have hL : lvr rl nL (entL nL as) := by
    refine ⟨hl.1, hl.2.1, fun i v hi => ?_⟩
    have : (entS as)[i]? = some (some v) := by
      unfold entL at hi
      rw [List.getElem?_append] at hi
      split at hi
      · exact hi
      · rw [List.getElem?_replicate] at hi
        split at hi <;> simp at hi
    have := hl.2.2 _ (hent as 0 i v this)
    simpa using this
  have hlen : (entL nL as).length = nL := by
    unfold entL
    simp
    omega
  have := run_sound (n0 := nxt w) (s0 := slt w) (R := { frames := fr, cells := nxt w' - nxt w, slots := slt w' - slt w, locals := lo }) (l := l) (e := e) (below := below) A hr hlocks (hcal p l e _ s m as.toArray below meth c D cy b0 _ _ A rfl rfl) n 0 (entL nL as) [] w r w' hrun (Nat.le_refl _) (Nat.le_refl _) hlen (Nat.le_refl _) (Nat.le_refl _) s.heap [] rl hPic va_S.rf hL
  rw [Nat.sub_self, Nat.sub_self] at this
  exact this
