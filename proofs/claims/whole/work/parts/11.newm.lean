
/-- the class of rows of longs, by its word -/
theorem ovr_long {U : State} (h : (Cond.arrayOver (.array .long)).before #[] U = true) : ∃ comp cA kA, U.vm.findClass (FieldType.array .long).toString = some comp ∧ U.vm.findClass ("[" ++ (FieldType.array .long).toString) = some cA ∧ U.vm.classes[cA]? = some kA ∧ kA.kind = .array comp (.array .long) := by
  simp only [Cond.before, Cond.holds, Cond.value, beq_iff_eq] at h
  rcases hc : U.vm.findClass (FieldType.array .long).toString with _ | comp
  · rw [hc] at h; simp at h
  · rw [hc] at h
    simp only [Option.bind_some, Option.bind_eq_some_iff, Option.map_eq_some_iff] at h
    obtain ⟨cA, hi, kA, hk, hb⟩ := h
    refine ⟨comp, cA, kA, rfl, ?_⟩
    have hp := (Array.findIdx?_eq_some_iff_getElem.mp hi).2.1
    rw [(Array.getElem?_eq_some_iff.mp hk).2] at hp
    cases hkd : kA.kind with
    | array co ty =>
      rw [hkd] at hb hp
      simp at hb hp
      exact ⟨hb.2, hk, by rw [hp, hb.1]⟩
    | _ => rw [hkd] at hb; simp at hb
section
variable {p : Program} {l : Launch} {e : Env} {R : Room} {s : State} {m : MethodId} {args : Array Value} {below : List Frame} {meth : Method} {c : Code} {locs : List Loc} {cells slots : Nat}
/-- the heap when i rows of the grid stand -/
def Grd (T0 U : State) (cA comp : ClassId) (N K h i : Nat) : Prop :=
  U.vm = T0.vm ∧ U.heap.size = h + 1 + i ∧ U.slotsUsed = T0.slotsUsed + N + i * K ∧ (∀ q, q < h → U.heap[q]? = T0.heap[q]?) ∧ U.heap[h]? = some (arrV cA N (fun j => va_rf (if j < i then some (h + 1 + j) else none))) ∧ ∀ j, j < i → U.heap[h + 1 + j]? = some (arrV comp K (fun _ => .long 0))
theorem Grd.zero {T : State} {cA comp : ClassId} {N K h : Nat} (hh : T.heap.size = h) : Grd T (T.pushCell (arrV cA N (fun _ => .null))) cA comp N K h 0 := by
  subst hh
  refine ⟨rfl, by simp, by simp [arrV_size], fun q hq => State.heap_pushCell_of_lt _ _ hq, ?_, fun j hj => absurd hj (by omega)⟩
  rw [State.heap_pushCell_size]
  simp [va_rf]
theorem Grd.succ {T U : State} {cA comp : ClassId} {N K h i : Nat} (g : Grd T U cA comp N K h i) :
    Grd T ((U.pushCell (arrV comp K (fun _ => .long 0))).setCell h ((arrV cA N (fun j => va_rf (if j < i then some (h + 1 + j) else none))).setSlot i (.ref (h + 1 + i)))) cA comp N K h (i + 1) ∧
    (U.pushCell (arrV comp K (fun _ => .long 0))).heap[h]? = some (arrV cA N (fun j => va_rf (if j < i then some (h + 1 + j) else none))) := by
  obtain ⟨g1, g2, g3, g4, g5, g6⟩ := g
  have old : ∀ q, q < U.heap.size → (U.pushCell (arrV comp K (fun _ => .long 0))).heap[q]? = U.heap[q]? := fun q hq => State.heap_pushCell_of_lt _ _ hq
  have hcell := (old h (by omega)).trans g5
  refine ⟨⟨g1, ?_, ?_, fun q hq => ?_, ?_, fun j hj => ?_⟩, hcell⟩
  · simp [State.setCell, g2]; omega
  · simp [State.setCell, g3, arrV_size, Nat.succ_mul]; omega
  · rw [State.heap_setCell_other (show h ≠ q by omega), old q (by omega)]; exact g4 q hq
  · rw [State.heap_setCell_self hcell, arrV_store]
    congr 2
    funext j
    unfold updV
    by_cases hj : j = i
    · subst hj; simp [va_rf]
    · by_cases h2 : j < i
      · simp [hj, h2, Nat.lt_succ_of_lt h2]
      · simp [hj, h2, show ¬ j < i + 1 by omega]
  · rw [State.heap_setCell_other (show h ≠ h + 1 + j by omega)]
    by_cases h2 : j < i
    · rw [old _ (by omega)]; exact g6 j h2
    · have : j = i := by omega
      subst this
      rw [← g2]
      exact State.heap_pushCell_size _ _
/-- one row more, with the law's own frame on top -/
theorem Grd.stand {T U : State} {cA comp : ClassId} {N K h i : Nat} (g : Grd T U cA comp N K h i) (hs : s.heap.size ≤ h) (X : Stand p l e R s m args below meth c U locs (cells + 1 + i) (slots + N + i * K)) :
    Stand p l e R s m args below meth c ((U.pushCell (arrV comp K (fun _ => .long 0))).setCell h ((arrV cA N (fun j => va_rf (if j < i then some (h + 1 + j) else none))).setSlot i (.ref (h + 1 + i)))) locs (cells + 1 + (i + 1)) (slots + N + (i + 1) * K) := by
  have Y := ((X.pushed (arrV comp K (fun _ => .long 0))).stored g.succ.2 i (.ref (h + 1 + i))).dropFresh (fun x hx => by
    rw [List.mem_singleton.mp hx]; exact hs)
  rw [arrV_size] at Y
  rw [show slots + N + (i + 1) * K = slots + N + i * K + K by rw [Nat.succ_mul]; omega]
  exact Y
/-- the state when i rows stand -/
def gU (T : State) (cA comp : ClassId) (N K h : Nat) : Nat → State
  | 0 => T.pushCell (arrV cA N (fun _ => .null))
  | i + 1 => ((gU T cA comp N K h i).pushCell (arrV comp K (fun _ => .long 0))).setCell h ((arrV cA N (fun j => va_rf (if j < i then some (h + 1 + j) else none))).setSlot i (.ref (h + 1 + i)))
theorem gU_is {T : State} {cA comp : ClassId} {N K h : Nat} (hh : T.heap.size = h) (hs : s.heap.size ≤ h) (X : Stand p l e R s m args below meth c T locs cells slots) : ∀ i, Grd T (gU T cA comp N K h i) cA comp N K h i ∧ Stand p l e R s m args below meth c (gU T cA comp N K h i) locs (cells + 1 + i) (slots + N + i * K)
  | 0 => by
    refine ⟨Grd.zero hh, ?_⟩
    have := X.pushed (arrV cA N (fun _ => .null))
    rw [arrV_size] at this
    rw [Nat.zero_mul]
    exact this
  | i + 1 => ⟨(gU_is hh hs X i).1.succ.1, (gU_is hh hs X i).1.stand hs (gU_is hh hs X i).2⟩
theorem wp_grid {E : CtlPost} {d : Bool} {acts : List Action} {T : State} {g : JFrame} {cA comp cc : ClassId} {kA kC : Class} {n k : Int32} {h : Nat} (hh : T.heap.size = h) (hs : s.heap.size ≤ h) (X : Stand p l e R s m args below meth c T locs cells slots)
    (hkA : T.vm.classes[cA]? = some kA) (hdA : kA.kind = .array comp (.array .long)) (hkC : T.vm.classes[comp]? = some kC) (hdC : kC.kind = .array cc .long) (hn : ¬ n < 0) (hk : ¬ k < 0)
    (hl1 : ¬ n.toNatClampNeg > e.platform.arrayLengthLimit) (hh1 : ¬ n.toNatClampNeg * componentBytes (.array .long) > e.platform.maxHeapBytes) (hl2 : ¬ k.toNatClampNeg > e.platform.arrayLengthLimit) (hh2 : ¬ k.toNatClampNeg * componentBytes .long > e.platform.maxHeapBytes)
    (hc : h + (1 + n.toNatClampNeg) ≤ e.platform.maxCells) (hsl : T.slotsUsed + (n.toNatClampNeg + n.toNatClampNeg * k.toNatClampNeg) ≤ e.platform.maxSlots)
    {Q : Addr → Pre} (hq : ∀ d' acts', Q h d' acts' ((gU T cA comp n.toNatClampNeg k.toNatClampNeg h n.toNatClampNeg).setTop g)) :
    _root_.Jvm.Sem.wp (multianewarray.make cA [n, k]) Q E e d acts (T.setTop g) := by
  have hfind : ([k].find? (· < 0)) = none := by simp [hk]
  have hvm : (T.setTop g).vm = T.vm := rfl
  have hhp : (T.setTop g).heap = T.heap := rfl
  rw [multianewarray.make]
  simp only [wp_bind', Jvm.W.ite, hn, if_false, wp_pure', Jvm.W.theClass, hvm, hkA, hdA, Option.some.injEq, exists_eq_left']
  refine Jvm.W.newArray_of (k := kA) (comp := comp) (type := .array .long) hkA hdA hl1 hh1 (by rw [hhp]; omega) (by show T.slotsUsed + _ ≤ _; omega) rfl (fun acts1 => ?_)
  simp only [hfind]
  rw [ite_self, wp_bind', Std.Legacy.Range.forIn_eq_forIn_range']
  have hsz : ([:n.toNatClampNeg] : Std.Legacy.Range).size = n.toNatClampNeg := by simp [Std.Legacy.Range.size]
  rw [hsz, hhp, hh]
  refine wp_forIn_inv (fun rest s' => ∃ i, i ≤ n.toNatClampNeg ∧ rest = List.range' i (n.toNatClampNeg - i) ∧ s' = (gU T cA comp n.toNatClampNeg k.toNatClampNeg h i).setTop g) _ _ ⟨0, Nat.zero_le _, rfl, ?_⟩ ?_ ?_
  · unfold gU; rw [← arrV_new]; rfl
  · rintro x rest s' d' acts' Q' ⟨i, hi, hl, rfl⟩ hnext
    have G := (gU_is (cA := cA) (comp := comp) (N := n.toNatClampNeg) (K := k.toNatClampNeg) hh hs X i).1
    have hlt : i < n.toNatClampNeg := by
      rcases Nat.lt_or_ge i n.toNatClampNeg with q | q
      · exact q
      · rw [show n.toNatClampNeg - i = 0 by omega] at hl; cases hl
    rw [show n.toNatClampNeg - i = n.toNatClampNeg - (i + 1) + 1 by omega, List.range'_succ] at hl
    obtain ⟨rfl, hrest⟩ := List.cons.inj hl
    have hmul : x * k.toNatClampNeg + k.toNatClampNeg ≤ n.toNatClampNeg * k.toNatClampNeg := by
      rw [← Nat.succ_mul]; exact Nat.mul_le_mul_right _ hlt
    obtain ⟨g1, g2, g3, g4, g5, g6⟩ := id G
    generalize hU : gU T cA comp n.toNatClampNeg k.toNatClampNeg h x = U at *
    have hvU : (U.setTop g).vm = T.vm := g1
    have hzU : (U.setTop g).heap.size = h + 1 + x := g2
    simp only [wp_bind']
    rw [multianewarray.make]
    simp only [wp_bind', Jvm.W.ite, hk, if_false, wp_pure', Jvm.W.theClass, hvU, hkC, hdC, Option.some.injEq, exists_eq_left']
    refine Jvm.W.newArray_of (k := kC) (comp := cc) (type := .long) (by rw [hvU]; exact hkC) hdC hl2 hh2 (by rw [hzU]; omega) (by show U.slotsUsed + _ ≤ _; rw [g3]; omega) rfl (fun acts2 => ?_)
    have ec : ({ cls := comp, slots := Array.replicate k.toNatClampNeg (defaultValue .long) } : Cell) = arrV comp k.toNatClampNeg (fun _ => .long 0) := arrV_new _ _ _
    rw [hzU, ec]
    simp only [wp_bind', Jvm.W.writeLoc, wp_pure']
    refine ⟨arrV cA n.toNatClampNeg (fun j => va_rf (if j < x then some (h + 1 + j) else none)), G.succ.2, by simp [arrV], by rw [arrV_size]; exact hlt, ?_, hnext _ _ _ ⟨x + 1, hlt, hrest, ?_⟩⟩
    · simp [State.fitsSlot, State.slotType?, arrV, g1, hkA, hdA, fits]
    · show _ = State.setTop (((gU T cA comp n.toNatClampNeg k.toNatClampNeg h x).pushCell _).setCell _ _) g
      rw [hU]; rfl
  · rintro s' d' acts' ⟨i, hi, hl, rfl⟩
    have : i = n.toNatClampNeg := by
      rcases Nat.lt_or_ge i n.toNatClampNeg with q | q
      · rw [show n.toNatClampNeg - i = n.toNatClampNeg - (i + 1) + 1 by omega, List.range'_succ] at hl; cases hl
      · omega
    subst this
    simp only [wp_pure']
    exact hq _ _
theorem W_grid {H : Heap} {Q : State → Prop} {cc : ByteArray} (hx : p.tables.exec = Jvm.exec) (hb : c.code = cc) {own : String} {index : Nat} (hown : s.vm.findClass own = some m.cls) (hcl : (Cond.classLink own index ("[" ++ (FieldType.array .long).toString)).before args s = true)
    (hov : (Cond.arrayOver (.array .long)).before #[] s = true) (harr : (Cond.arrayClass .long).before args s = true) {g : JFrame} (hg : g.method = m) (hdg : decode cc g.pc = .ok (.multianewarray index 2, 4)) {n k : Int32} {rest : List Value} (hst : g.stack = .int k :: .int n :: rest)
    (hn : ¬ n < 0) (hk : ¬ k < 0) (hb1 : n.toNatClampNeg ≤ 65536) (hb2 : k.toNatClampNeg ≤ 65536) (hcells : cells + (1 + n.toNatClampNeg) ≤ R.cells) (hslots : slots + (n.toNatClampNeg + n.toNatClampNeg * k.toNatClampNeg) ≤ R.slots) {h : Nat} (hh : H.size = h)
    (kk : ∀ (H' : Heap) (cA comp : ClassId), s.vm.findClass ("[" ++ (FieldType.array .long).toString) = some cA → s.vm.findClass (FieldType.array .long).toString = some comp → H'.size = h + 1 + n.toNatClampNeg → (∀ q, q < h → H'[q]? = H[q]?) →
      H'[h]? = some (arrV cA n.toNatClampNeg (fun j => va_rf (if j < n.toNatClampNeg then some (h + 1 + j) else none))) → (∀ j, j < n.toNatClampNeg → H'[h + 1 + j]? = some (arrV comp k.toNatClampNeg (fun _ => .long 0))) →
      W p l e R s m args below meth c H' locs (cells + 1 + n.toNatClampNeg) (slots + n.toNatClampNeg + n.toNatClampNeg * k.toNatClampNeg) Q { g with pc := g.pc + 4, stack := .ref h :: rest }) : W p l e R s m args below meth c H locs cells slots Q g := by
  intro T hT X
  subst hT
  subst hb
  subst hg
  have hpl : e.platform.magicAccessors = ({} : Platform).magicAccessors := by rw [X.admits.platform]
  obtain ⟨comp, cA, kA, f1, f2, hkA, hdA⟩ := ovr_long hov
  obtain ⟨comp', kC, cc', f3, hkC, hdC⟩ := Cond.arrayClass_spec harr
  cases f3.symm.trans f1
  obtain ⟨c0, f4, hl⟩ := Cond.classLink_spec hown hcl e.platform hpl
  cases f2.symm.trans f4
  obtain ⟨hgv, hwarm, -⟩ := State.classEntry (e := e) X.warmed hl
  generalize T.vm.noted g.method.cls index (.cls cA) = vm1 at hgv hwarm
  obtain ⟨kA', hkA', eA⟩ := hwarm.alike.2.2 _ _ hkA
  obtain ⟨kC', hkC', eC⟩ := hwarm.alike.2.2 _ _ hkC
  have X1 := X.noted hwarm
  obtain ⟨r1, r2⟩ := X.roomAbove hcells hslots
  have hs : s.heap.size ≤ h := by rw [← hh]; exact X.heapGrown
  have hh' : (T.setVm vm1).heap.size = h := hh
  obtain ⟨G, XU⟩ := gU_is (cA := cA) (comp := comp) (N := n.toNatClampNeg) (K := k.toNatClampNeg) hh' hs X1 n.toNatClampNeg
  obtain ⟨t, st, hQ⟩ := kk _ cA comp f2 f1 G.2.1 G.2.2.2.1 G.2.2.2.2.1 G.2.2.2.2.2 _ rfl XU
  refine ⟨t, ?_, hQ⟩
  have a1 : ¬ n.toNatClampNeg > e.platform.arrayLengthLimit := by rw [Launch.admits_arrayLengthLimit X.admits]; omega
  have a2 : ¬ n.toNatClampNeg * componentBytes (.array .long) > e.platform.maxHeapBytes := by
    rw [Launch.admits_maxHeapBytes X.admits]; show ¬ n.toNatClampNeg * 4 > 536870912; omega
  have a3 : ¬ k.toNatClampNeg > e.platform.arrayLengthLimit := by rw [Launch.admits_arrayLengthLimit X.admits]; omega
  have a4 : ¬ k.toNatClampNeg * componentBytes .long > e.platform.maxHeapBytes := by
    rw [Launch.admits_maxHeapBytes X.admits]; show ¬ k.toNatClampNeg * 8 > 536870912; omega
  jvm_step X.here [hx, hdg]
  simp only [multianewarray.sem, wp_bind', Jvm.W.resolveClassAt_links (State.method?_setTop g X.here.top) hgv]
  rw [Jvm.W.popN, if_neg (by decide)]
  refine ⟨g, State.topJava?_setTop' (s := T.setVm vm1) g X.here.top, [.int n, .int k], rest, rfl, hst, ?_⟩
  simp only [List.mapM_cons, List.mapM_nil, wp_bind', wp_pure']
  have eS : ((T.setTop g).setVm vm1).setTop { g with stack := rest } = (T.setVm vm1).setTop { g with stack := rest } := by
    show ((T.setVm vm1).setTop g).setTop _ = _
    rw [State.setTop_setTop]
  rw [eS]
  refine wp_grid (kA := kA') (kC := kC') (comp := comp) (cc := cc') hh' hs X1 hkA' (by rw [eA]; exact hdA) hkC' (by rw [eC]; exact hdC) hn hk a1 a2 a3 a4 (by rw [← hh]; exact r1) r2 (fun d' acts' => ?_)
  simp only [wp_bind', Jvm.W.mark, Jvm.W.pushRef, State.topJava?_setTop' _ XU.here.top, Option.some.injEq, exists_eq_left', State.setTop_setTop]
  intro acts
  simp [jvm, XU.here.top]
  exact st
end
section
variable {ex : Bool} {M : Mth} {p : Program} {l : Launch} {e : Env} {R : Room} {s : State} {m : MethodId} {args : Array Value} {below : List Frame} {meth : Method} {c : Code} {D : va_G} {cy : Nat → ClassId} {b0 n0 s0 nL : Nat} {Q : State → Prop} {cc : ByteArray} {own : String} {pc : Nat} {ls : Lsx} {st : List Value} {w : Wd} {r : List Value}
theorem Pic.mkR {D : va_G} {cy : Nat → ClassId} {b0 N K : Nat} {w : Wd} {H H1 : Heap} (hP : Pic true D cy b0 w H) (e1 : H1[nxt w]? = some (arrV (cy 17) N (fun j => va_rf (if j < N then some (nxt w + 1 + j) else none)))) (e2 : ∀ j, j < N → H1[nxt w + 1 + j]? = some (arrV (cy 11) K (fun _ => .long 0))) (z : H1.size = nxt w + 1 + N) (o1 : ∀ q, q < nxt w → H1[q]? = H[q]?) : Pic true D cy b0 (mk2 w N K) H1 := by
  obtain ⟨h1, h2, h3, h4, h5⟩ := hP
  have h1 := h1 rfl
  have nn : nxt (mk2 w N K) = nxt w + 1 + N := rfl
  have sh : ∀ b, shp (mk2 w N K) b = if b = nxt w then (17, N) else if nxt w < b ∧ b < nxt w + 1 + N then (11, K) else shp w b := fun b => rfl
  refine ⟨fun _ => z, by rw [nn, z]; exact Nat.le_refl _, by rw [nn]; omega, fun b g1 g2 => ?_, fun b g => ?_⟩
  · rw [nn] at g2
    by_cases e : b = nxt w
    · subst e
      rw [cell_arr (k := 17) (by rw [sh, if_pos rfl]) (by decide), sh, if_pos rfl]
      show H1[nxt w]? = some (vp_cell (cy 17) (N, arrE 17 (mk2 w N K) (nxt w)))
      rw [show arrE 17 (mk2 w N K) (nxt w) = .inr (.inr (.inr (.inr (fun j => if j < N then some (nxt w + 1 + j) else none)))) by simp [arrE, mk2], vp_cell_q]
      exact e1
    · by_cases hlt : b < nxt w
      · rw [cell_congr (w := w) (w' := mk2 w N K) (b := b)]
        · exact (h4 b g1 hlt).kept (o1 b hlt)
        · funext j; simp [mk2, show ¬ nxt w ≤ b by omega]
        · funext j; simp [mk2, show ¬ nxt w ≤ b by omega]
        · funext j; simp [mk2, e, show ¬ nxt w ≤ b by omega]
        · rw [sh, if_neg e, if_neg (by omega)]
      · rw [cell_arr (k := 11) (by rw [sh, if_neg e, if_pos (by omega)]) (by decide), sh, if_neg e, if_pos (by omega)]
        show H1[b]? = some (vp_cell (cy 11) (K, arrE 11 (mk2 w N K) b))
        obtain ⟨j, hj, rfl⟩ : ∃ j, j < N ∧ b = nxt w + 1 + j := ⟨b - (nxt w + 1), by omega, by omega⟩
        rw [show arrE 11 (mk2 w N K) (nxt w + 1 + j) = .inr (.inl (fun _ => 0)) by simp [arrE, mk2, show nxt w ≤ nxt w + 1 + j by omega]]
        exact e2 j hj
  · rw [nn] at g
    rw [sh, if_neg (by omega), if_neg (by omega)]
    exact h5 b (fun q => g ⟨q.1, by omega⟩)
theorem st_newm (A : Amb ex M p s m args meth c D cy b0 cc own nL) {i : Nat} {k n : Int32} (hd : decode cc pc = .ok (.multianewarray i 2, 4)) (hm : mCls M i = some 17) (hn : 0 ≤ n ∧ n.toNatClampNeg ≤ 65536) (hk : 0 ≤ k ∧ k.toNatClampNeg ≤ 65536)
    (hc1 : nxt (mk2 w n.toNatClampNeg k.toNatClampNeg) - n0 ≤ R.cells) (hc2 : slt (mk2 w n.toNatClampNeg k.toNatClampNeg) - s0 ≤ R.slots)
    (kk : SW ex p l e R s m args below meth c D cy b0 n0 s0 nL Q (pc + 4) ls (.ref (nxt w) :: r) (mk2 w n.toNatClampNeg k.toNatClampNeg)) : SW ex p l e R s m args below meth c D cy b0 n0 s0 nL Q pc ls (.int k :: .int n :: r) w := by
  obtain ⟨hx, hb, hml, hown, hts, hnw, hK, hb0, hcode, hF, hI, hJ, hC, hini, hex⟩ := A
  have hex : ex = true := by
    rcases hex with q | q
    · exact q
    · rw [q i] at hm; cases hm
  subst hex
  have w1 := (hC i 17 hm).2.2 rfl
  have nn : nxt (mk2 w n.toNatClampNeg k.toNatClampNeg) = nxt w + 1 + n.toNatClampNeg := rfl
  have ns : slt (mk2 w n.toNatClampNeg k.toNatClampNeg) = slt w + (n.toNatClampNeg + n.toNatClampNeg * k.toNatClampNeg) := rfl
  rw [nn] at hc1
  rw [ns] at hc2
  intro hl hn0 hs0 H locs rl hP hS hL
  refine W_grid hx hb hown (hts _ w1) hnw.2.2.2.2 (hts _ arrcl_long) (g := F0 m pc rl (.int k :: .int n :: r)) rfl hd rfl (Int32.not_lt.mpr hn.1) (Int32.not_lt.mpr hk.1) hn.2 hk.2 (by omega) (by omega) (hP.1 rfl) fun H1 cA comp f1 f2 z o1 e1 e2 => ?_
  have hcA : cA = cy 17 := Option.some.inj (f1.symm.trans (hK.2 7 _ rfl).2)
  have hco : comp = cy 11 := Option.some.inj (f2.symm.trans (hK.2 1 _ rfl).2)
  subst hcA
  subst hco
  have := kk hl (by rw [nn]; omega) (by rw [ns]; omega) H1 locs rl (hP.mkR e1 e2 z o1) (va_S_mk hS (by rw [z, hP.1 rfl]; omega) (fun q hq => o1 q (by rw [← hP.1 rfl]; exact hq))) hL
  rw [nn, ns, show nxt w + 1 + n.toNatClampNeg - n0 = nxt w - n0 + 1 + n.toNatClampNeg by omega, show slt w + (n.toNatClampNeg + n.toNatClampNeg * k.toNatClampNeg) - s0 = slt w - s0 + n.toNatClampNeg + n.toNatClampNeg * k.toNatClampNeg by omega] at this
  exact this
end
