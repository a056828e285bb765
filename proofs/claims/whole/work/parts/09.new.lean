def okTy : FieldType → Bool
  | .int => true | .boolean => true | .long => true | .object _ => true | .array _ => true | _ => false
theorem fty_plain : ∀ ci, ci < 10 → ∀ k, k < nfl ci → okTy (fty ci k) = true := by
  have h : ∀ ci : Fin 10, ∀ k : Fin 28, k.val < nfl ci.val → okTy (fty ci.val k.val) = true := by decide +kernel
  intro ci h10 k hk
  have hk28 : k < 28 := by
    have : ∀ ci : Fin 10, nfl ci.val ≤ 28 := by decide
    have := this ⟨ci, h10⟩
    simp only at this
    omega
  exact h ⟨ci, h10⟩ ⟨k, hk28⟩ hk
theorem mk1_shp {w : Wd} {k len sz b : Nat} : shp (mk1 w k len sz) b = if b = nxt w then (k, len) else shp w b := rfl
theorem mk1_nxt {w : Wd} {k len sz : Nat} : nxt (mk1 w k len sz) = nxt w + 1 := rfl
theorem mk1_slt {w : Wd} {k len sz : Nat} : slt (mk1 w k len sz) = slt w + sz := rfl
theorem mk1_dflt {w : Wd} {k len sz j : Nat} {ty : FieldType} (h : okTy ty = true) : defaultValue ty = fval ty (mk1 w k len sz) (nxt w) j := by
  cases ty <;> first | (cases h; done) | simp [defaultValue, fval, mk1, rdI, rdJ, rdR, va_rf]
theorem Pic.mk {D : va_G} {cy : Nat → ClassId} {b0 k len sz : Nat} {w : Wd} {H H1 : Heap} (hP : Pic true D cy b0 w H) (e1 : va_at D vwCl (nxt w, cellE cy (mk1 w k len sz) (nxt w)) H1) (z : H1.size = H.size + 1) (o1 : ∀ q, q < H.size → H1[q]? = H[q]?) : Pic true D cy b0 (mk1 w k len sz) H1 := by
  obtain ⟨h1, h2, h3, h4, h5⟩ := hP
  have h1 := h1 rfl
  refine ⟨fun _ => by rw [z, h1]; rfl, by rw [z, h1]; exact Nat.le_refl _, by rw [mk1_nxt]; omega, fun b g1 g2 => ?_, fun b g => ?_⟩
  · by_cases e : b = nxt w
    · subst e; exact e1
    · rw [mk1_nxt] at g2
      have hlt : b < nxt w := by omega
      rw [cell_congr (w := w) (w' := mk1 w k len sz) (b := b)]
      · exact (h4 b g1 hlt).kept (o1 b (by omega))
      · funext j; simp [mk1, e]
      · funext j; simp [mk1, e]
      · funext j; simp [mk1, e]
      · rw [mk1_shp, if_neg e]
  · rw [mk1_nxt] at g
    have e : b ≠ nxt w := fun q => g ⟨by omega, by omega⟩
    rw [mk1_shp, if_neg e]
    exact h5 b (fun q => g ⟨q.1, by omega⟩)
theorem va_S_mk {A : Nat → Prop} {H0 H H1 : Heap} {locs : List Loc} (hS : va_S A H0 H locs) (z : H.size ≤ H1.size) (o1 : ∀ q, q < H.size → H1[q]? = H[q]?) : va_S A H0 H1 locs :=
  ⟨Nat.le_trans hS.1 z, fun x h1 h2 => (o1 x (Nat.lt_of_lt_of_le h1 hS.1)).trans (hS.2.1 x h1 h2), hS.2.2⟩
section
variable {ex : Bool} {M : Mth} {p : Program} {l : Launch} {e : Env} {R : Room} {s : State} {m : MethodId} {args : Array Value} {below : List Frame} {meth : Method} {c : Code} {D : va_G} {cy : Nat → ClassId} {b0 n0 s0 nL : Nat} {Q : State → Prop} {cc : ByteArray} {own : String} {pc : Nat} {ls : Lsx} {w : Wd} {r : List Value}
theorem st_new (A : Amb ex M p s m args meth c D cy b0 cc own nL) {i ci : Nat} (hd : decode cc pc = .ok (.new i, 3)) (hm : mCls M i = some ci) (h10 : ci < 10) (hc1 : nxt (mk1 w ci 0 (nfl ci)) - n0 ≤ R.cells) (hc2 : slt (mk1 w ci 0 (nfl ci)) - s0 ≤ R.slots)
    (kk : SW ex p l e R s m args below meth c D cy b0 n0 s0 nL Q (pc + 3) ls (.ref (nxt w) :: r) (mk1 w ci 0 (nfl ci))) : SW ex p l e R s m args below meth c D cy b0 n0 s0 nL Q pc ls r w := by
  obtain ⟨hx, hb, hml, hown, hts, hnw, hK, hb0, hcode, hF, hI, hJ, hC, hini, hex⟩ := A
  have hex : ex = true := by
    rcases hex with q | q
    · exact q
    · rw [q i] at hm; cases hm
  subst hex
  obtain ⟨w1, w2, w3⟩ := (hC i ci hm).1 h10
  rw [mk1_nxt] at hc1
  rw [mk1_slt] at hc2
  intro hl hn0 hs0 H locs rl hP hS hL
  have hKn := hK.1 ci _ (vw_at ci h10)
  refine W.newcK hx hb hown (hts _ w1) (hts _ w2) (hts _ w3) rfl hd (by omega) (by omega) hKn.2.1 (hP.1 rfl) fun H1 kC hkC e1 z1 o1 => ?_
  have hP1 : Pic true D cy b0 (mk1 w ci 0 (nfl ci)) H1 := by
    refine hP.mk ?_ (by rw [z1, hP.1 rfl]) (fun q hq => o1 q (by rw [← hP.1 rfl]; exact hq))
    rw [cell_obj (ci := ci) (by rw [mk1_shp, if_pos rfl]) h10]
    exact ⟨_, vw_at ci h10, (u_born (fty ci) hts (uws_in ci h10) hKn hkC e1 (fty_ok ci h10)).to (fun j hj => by rw [flds_V hj]; exact mk1_dflt (fty_plain ci h10 j hj))⟩
  have := kk hl (by rw [mk1_nxt]; omega) (by rw [mk1_slt]; omega) H1 locs rl hP1 (va_S_mk hS (by rw [z1, hP.1 rfl]; omega) (fun q hq => o1 q (by rw [← hP.1 rfl]; exact hq))) hL
  rw [mk1_nxt, mk1_slt, show nxt w + 1 - n0 = nxt w - n0 + 1 by omega, show slt w + nfl ci - s0 = slt w - s0 + nfl ci by omega] at this
  exact this
theorem st_newa (A : Amb ex M p s m args meth c D cy b0 cc own nL) {t : ArrayType} {k tk : Nat} {n : Int32} (hd : decode cc pc = .ok (.newarray t, 2)) (hm : mCls M 0 = some 18) (hn : 0 ≤ n) (hn2 : n.toNatClampNeg ≤ 65536)
    (hk : 10 ≤ k ∧ k ≤ 13) (hty : (tysOf cy)[tk]? = some (cy k, newarray.typeOf t)) (harr : Cond.arrayClass (newarray.typeOf t) ∈ gw_tbl) (hby : componentBytes (newarray.typeOf t) ≤ 8) (hra : va_RA s (cy k) (newarray.typeOf t) → s.vm.findClass ("[" ++ (newarray.typeOf t).toString) = some (cy k))
    (hcell : ∀ cA N, vp_cell cA (N, arrE k (mk1 w k N N) (nxt w)) = arrV cA N (fun _ => defaultValue (newarray.typeOf t)))
    (hc1 : nxt (mk1 w k n.toNatClampNeg n.toNatClampNeg) - n0 ≤ R.cells) (hc2 : slt (mk1 w k n.toNatClampNeg n.toNatClampNeg) - s0 ≤ R.slots)
    (kk : SW ex p l e R s m args below meth c D cy b0 n0 s0 nL Q (pc + 2) ls (.ref (nxt w) :: r) (mk1 w k n.toNatClampNeg n.toNatClampNeg)) : SW ex p l e R s m args below meth c D cy b0 n0 s0 nL Q pc ls (.int n :: r) w := by
  obtain ⟨hx, hb, hml, hown, hts, hnw, hK, hb0, hcode, hF, hI, hJ, hC, hini, hex⟩ := A
  have hex : ex = true := by
    rcases hex with q | q
    · exact q
    · rw [q 0] at hm; cases hm
  subst hex
  rw [mk1_nxt] at hc1
  rw [mk1_slt] at hc2
  generalize hN : n.toNatClampNeg = N at *
  have hb8 : N * componentBytes (newarray.typeOf t) ≤ 536870912 := Nat.le_trans (Nat.mul_le_mul hn2 hby) (Nat.le_of_ble_eq_true rfl)
  intro hl hn0 hs0 H locs rl hP hS hL
  refine va_newaK hx hb (hts _ harr) (N := N) rfl hd rfl (Int32.not_lt.mpr hn) hN hb8 (by omega) (by omega) (hP.1 rfl) fun H1 cA e1 z1 o1 hAr hNm => ?_
  have hcA : cA = cy k := Option.some.inj (hNm.symm.trans (hra (hK.2 tk _ hty).2))
  subst hcA
  have hP1 : Pic true D cy b0 (mk1 w k N N) H1 := by
    refine hP.mk ?_ (by rw [z1, hP.1 rfl]) (fun q hq => o1 q (by rw [← hP.1 rfl]; exact hq))
    rw [cell_arr (k := k) (by rw [mk1_shp, if_pos rfl]) hk.1, mk1_shp, if_pos rfl]
    show H1[nxt w]? = some (vp_cell (cy k) (N, arrE k (mk1 w k N N) (nxt w)))
    rw [hcell]
    exact e1
  have := kk hl (by rw [mk1_nxt]; omega) (by rw [mk1_slt]; omega) H1 locs rl hP1 (va_S_mk hS (by rw [z1, hP.1 rfl]; omega) (fun q hq => o1 q (by rw [← hP.1 rfl]; exact hq))) hL
  rw [mk1_nxt, mk1_slt, show nxt w + 1 - n0 = nxt w - n0 + 1 by omega, show slt w + N - s0 = slt w - s0 + N by omega] at this
  exact this
theorem st_newr (A : Amb ex M p s m args meth c D cy b0 cc own nL) {i k : Nat} {n : Int32} (hd : decode cc pc = .ok (.anewarray i, 3)) (hm : mCls M (i + 100000) = some k) (hn : 0 ≤ n) (hn2 : n.toNatClampNeg ≤ 65536) (hk : 14 ≤ k ∧ k ≤ 16)
    (hc1 : nxt (mk1 w k n.toNatClampNeg n.toNatClampNeg) - n0 ≤ R.cells) (hc2 : slt (mk1 w k n.toNatClampNeg n.toNatClampNeg) - s0 ≤ R.slots)
    (kk : SW ex p l e R s m args below meth c D cy b0 n0 s0 nL Q (pc + 3) ls (.ref (nxt w) :: r) (mk1 w k n.toNatClampNeg n.toNatClampNeg)) : SW ex p l e R s m args below meth c D cy b0 n0 s0 nL Q pc ls (.int n :: r) w := by
  obtain ⟨hx, hb, hml, hown, hts, hnw, hK, hb0, hcode, hF, hI, hJ, hC, hini, hex⟩ := A
  have hex : ex = true := by
    rcases hex with q | q
    · exact q
    · rw [q (i + 100000)] at hm; cases hm
  subst hex
  have w1 := (hC (i + 100000) k hm).2.1 hk.1 hk.2
  rw [show i + 100000 - 100000 = i by omega] at w1
  rw [mk1_nxt] at hc1
  rw [mk1_slt] at hc2
  have ht : ∃ (t : Nat), elC k < 10 ∧ (tysOf cy)[t]? = some (cy k, FieldType.object (clN (elC k))) ∧ va_AO (clN (elC k)) s := by
    have : k = 14 ∨ k = 15 ∨ k = 16 := by omega
    rcases this with q | q | q <;> rw [q]
    · exact ⟨4, by decide, rfl, hnw.2.1⟩
    · exact ⟨5, by decide, rfl, hnw.2.2.1⟩
    · exact ⟨6, by decide, rfl, hnw.2.2.2.1⟩
  obtain ⟨t, h10, ht1, hao⟩ := ht
  obtain ⟨kA0, comp0, -, -, -, hcA0⟩ := (hK.2 t _ ht1).2
  intro hl hn0 hs0 H locs rl hP hS hL
  refine W.anew hx hb hown (hts _ w1) (va_AO.use hao) rfl hd rfl (Int32.not_lt.mpr hn) (by omega) (by omega) (by omega) fun cA kA comp f1 f2 f3 f4 => ?_
  have hcA : cA = cy k := Option.some.inj (f1.symm.trans hcA0)
  subst hcA
  generalize hH1 : H.push ({ cls := cy k, slots := Array.replicate n.toNatClampNeg .null, vm := .none } : Cell) = H1
  have z1 : H1.size = H.size + 1 := by rw [← hH1, Array.size_push]
  have e1 : H1[H.size]? = some (arrV (cy k) n.toNatClampNeg (fun _ => .null)) := by rw [← hH1, Array.getElem?_push_size, ← arrV_new]
  have o1 : ∀ q : Nat, q < H.size → H1[q]? = H[q]? := fun q hq => by rw [← hH1, Array.getElem?_push, if_neg (Nat.ne_of_lt hq)]
  have hP1 : Pic true D cy b0 (mk1 w k n.toNatClampNeg n.toNatClampNeg) H1 := by
    refine hP.mk ?_ z1 o1
    rw [cell_arr (k := k) (by rw [mk1_shp, if_pos rfl]) (by omega), mk1_shp, if_pos rfl, arrE_q hk.1]
    show H1[nxt w]? = some (arrV (cy k) n.toNatClampNeg (fun j => va_rf ((mk1 w k n.toNatClampNeg n.toNatClampNeg).2.2.1 (nxt w) j)))
    rw [← hP.1 rfl, e1]
    congr 2
    funext j
    simp [mk1, va_rf, hP.1 rfl]
  have := kk hl (by rw [mk1_nxt]; omega) (by rw [mk1_slt]; omega) H1 locs rl hP1 (va_S_mk hS (by rw [z1]; omega) o1) hL
  rw [mk1_nxt, mk1_slt, show nxt w + 1 - n0 = nxt w - n0 + 1 by omega, show slt w + n.toNatClampNeg - s0 = slt w - s0 + n.toNatClampNeg by omega, ← hP.1 rfl] at this
  rw [← hP.1 rfl]
  exact this
end
