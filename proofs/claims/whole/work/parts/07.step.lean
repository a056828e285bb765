theorem up2_ne {α : Type} {f : Nat → Nat → α} {a k b : Nat} {v : α} (h : b ≠ a) : up2 f a k v b = f b := by
  funext j
  simp [up2, h]
theorem up2_at {α : Type} {f : Nat → Nat → α} {a k : Nat} {v : α} : up2 f a k v a = fun j => if j = k then v else f a j := by
  funext j
  simp [up2]
theorem putV_spec {ty : FieldType} {w w' : Wd} {a k : Nat} {v : Value} (h : putV ty w a k v = some w') : fval ty w' a k = v ∧ (∀ ty' j, j ≠ k → fval ty' w' a j = fval ty' w a j) ∧ (∀ b, b ≠ a → w'.1 b = w.1 b ∧ w'.2.1 b = w.2.1 b ∧ w'.2.2.1 b = w.2.2.1 b) ∧ (∀ b, shp w' b = shp w b) ∧ nxt w' = nxt w ∧ slt w' = slt w ∧ narrow ty v = v ∧ fits ty v = true := by
  have eI : ∀ x : Int32, (∀ ty' j, j ≠ k → fval ty' (wrI w a k x) a j = fval ty' w a j) := by
    intro x ty' j hj
    unfold fval
    cases ty' <;> simp [wrI, rdI, rdJ, rdR, up2, hj]
  have eJ : ∀ x : Int64, (∀ ty' j, j ≠ k → fval ty' (wrJ w a k x) a j = fval ty' w a j) := by
    intro x ty' j hj
    unfold fval
    cases ty' <;> simp [wrJ, rdI, rdJ, rdR, up2, hj]
  have eR : ∀ x : Option Nat, (∀ ty' j, j ≠ k → fval ty' (wrR w a k x) a j = fval ty' w a j) := by
    intro x ty' j hj
    unfold fval
    cases ty' <;> simp [wrR, rdI, rdJ, rdR, up2, hj]
  cases ty with
  | int =>
    cases v with
    | int x => cases h; exact ⟨by simp [fval, wrI, rdI, up2], eI x, fun b hb => ⟨up2_ne hb, rfl, rfl⟩, fun b => rfl, rfl, rfl, rfl, rfl⟩
    | _ => cases h
  | boolean =>
    cases v with
    | int x =>
      unfold putV at h
      dsimp only at h
      split at h
      · rename_i hx
        cases h
        refine ⟨by simp [fval, wrI, rdI, up2], eI x, fun b hb => ⟨up2_ne hb, rfl, rfl⟩, fun b => rfl, rfl, rfl, ?_, ?_⟩
        · rcases hx with rfl | rfl <;> rfl
        · rcases hx with rfl | rfl <;> rfl
      · cases h
    | _ => cases h
  | long =>
    cases v with
    | long x => cases h; exact ⟨by simp [fval, wrJ, rdJ, up2], eJ x, fun b hb => ⟨rfl, up2_ne hb, rfl⟩, fun b => rfl, rfl, rfl, rfl, rfl⟩
    | _ => cases h
  | object C =>
    cases v with
    | ref q => cases h; exact ⟨by simp [fval, wrR, rdR, up2, va_rf], eR (some q), fun b hb => ⟨rfl, rfl, up2_ne hb⟩, fun b => rfl, rfl, rfl, rfl, rfl⟩
    | _ => cases h
  | array C =>
    cases v with
    | ref q => cases h; exact ⟨by simp [fval, wrR, rdR, up2, va_rf], eR (some q), fun b hb => ⟨rfl, rfl, up2_ne hb⟩, fun b => rfl, rfl, rfl, rfl, rfl⟩
    | _ => cases h
  | _ => cases h
theorem lay_own : ∀ ci, ci < 10 → ∀ k, k < nfl ci → (tyT ci k).1 = clN ci := by
  have h : ∀ ci : Fin 10, ∀ k : Fin 28, k.val < nfl ci.val → (tyT ci.val k.val).1 = clN ci.val := by decide +kernel
  intro ci h10 k hk
  have hk28 : k < 28 := by
    have : ∀ ci : Fin 10, nfl ci.val ≤ 28 := by decide
    have := this ⟨ci, h10⟩
    simp only at this
    omega
  exact h ⟨ci, h10⟩ ⟨k, hk28⟩ hk
section
variable {ex : Bool} {M : Mth} {p : Program} {l : Launch} {e : Env} {R : Room} {s : State} {m : MethodId} {args : Array Value} {below : List Frame} {meth : Method} {c : Code} {D : va_G} {cy : Nat → ClassId} {b0 n0 s0 nL : Nat} {Q : State → Prop} {cc : ByteArray} {own : String} {pc : Nat} {ls : Lsx} {w : Wd} {r : List Value}
theorem st_get (A : Amb ex M p s m args meth c D cy b0 cc own nL) {i a ci k : Nat} (hd : decode cc pc = .ok (.getfield i, 3)) (hf : mFld M i = some (ci, k)) (hs : (shp w a).1 = ci)
    (kk : SW ex p l e R s m args below meth c D cy b0 n0 s0 nL Q (pc + 3) ls (fval (fty ci k) w a k :: r) w) : SW ex p l e R s m args below meth c D cy b0 n0 s0 nL Q pc ls (.ref a :: r) w := by
  obtain ⟨hx, hb, hml, hown, hts, hnw, hK, hb0, hcode, hF, hI, hJ, hC, hini, hex⟩ := A
  obtain ⟨h10, hk, hlink⟩ := hF i ci k hf
  intro hl hn0 hs0 H locs rl hP hS hL
  refine va_get (C := clN ci) (T := tyT ci) (N := nfl ci) (ci := ci) (ref := (tyT ci k).1) hx hb hts (uws_in ci h10) hown hK (hP.P (a := a) (by omega)) 0 (fs := flds ci w a) ?_ (vw_at ci h10) k hk (hts _ hlink) (fun _ h => h) (flds_at hk) hd (kk hl hn0 hs0 H locs rl hP hS hL)
  rw [cell_obj hs h10]; rfl
theorem st_put (A : Amb ex M p s m args meth c D cy b0 cc own nL) {i a ci k : Nat} {v : Value} {w' : Wd} (hd : decode cc pc = .ok (.putfield i, 3)) (hf : mFld M i = some (ci, k)) (hs : (shp w a).1 = ci) (hfin : (tyT ci k).2.2.2 = false ∨ (mIni M = true ∧ mOwn M = ci)) (hv : putV (fty ci k) w a k v = some w')
    (kk : SW ex p l e R s m args below meth c D cy b0 n0 s0 nL Q (pc + 3) ls r w') : SW ex p l e R s m args below meth c D cy b0 n0 s0 nL Q pc ls (v :: .ref a :: r) w := by
  obtain ⟨hx, hb, hml, hown, hts, hnw, hK, hb0, hcode, hF, hI, hJ, hC, hini, hex⟩ := A
  obtain ⟨h10, hk, hlink⟩ := hF i ci k hf
  obtain ⟨v1, v2, v3, v4, v5, v6, hnr, hfit⟩ := putV_spec hv
  have hc := vw_at ci h10
  intro hl hn0 hs0 H locs rl hP hS hL
  have hlive := hP.live (a := a) (by omega)
  have hat := hP.at (a := a) (by omega)
  rw [cell_obj hs h10] at hat
  have hap := va_apart (own := own) hts (uws_in ci h10) (fty ci) (fty_ok ci h10) (fnm_ok ci h10) hK hc
  obtain ⟨r0, h1, cell, q1, q2, q3, q4⟩ := hat
  have hr : r0 = (clN ci, tyT ci, nfl ci) := Option.some.inj (h1.symm.trans hc)
  subst hr
  obtain ⟨hS1, hfc, kC, hkC, hkind⟩ := hK.1 ci _ hc
  obtain ⟨cf, kf, fi, f, hi, hsl⟩ := hS1 k hk
  have hlay := hts _ (uws_in ci h10 _ (u_in_lay hk))
  have hst := (u_facts hfc hkC (u_lays hts (uws_in ci h10) hk) hi).1
  have fin_ : ∀ H' : Heap, H'[a]? = some (cell.setSlot f.slot v) → H'.size = H.size → (∀ q, q ≠ a → H'[q]? = H[q]?) → W p l e R s m args below meth c H' (locs ++ [⟨a, f.slot⟩]) (nxt w - n0) (slt w - s0) Q (F0 m (pc + 3) rl r) := by
    intro H' e1 e2 e3
    rw [hsl] at e1
    have hP' : Pic ex D cy b0 w' H' := by
      refine hP.put (a := a) (fun b hbne => cell_congr (v3 b hbne).1 (v3 b hbne).2.1 (v3 b hbne).2.2 (v4 b)) v4 v5 ?_ e2 e3
      rw [cell_obj (by rw [v4]; exact hs) h10]
      refine ⟨_, hc, t_OB.to (V := updV (vp_V (flds ci w a)) k v) ⟨_, e1, q2, q3, t_set q4 hap hk v⟩ (fun j hj => ?_)⟩
      rw [flds_V hj]
      by_cases ej : j = k
      · subst ej; simp [updV, v1]
      · simp only [updV, if_neg ej]
        rw [flds_V hj, v2 _ j ej]
    have := kk hl (by rw [v5]; exact hn0) (by rw [v6]; exact hs0) H' (locs ++ [⟨a, f.slot⟩]) rl hP' (hS.put e2 e3 hlive.1) hL
    rw [v5, v6] at this
    exact this
  by_cases hff : (tyT ci k).2.2.2 = true
  · have hin : mIni M = true ∧ mOwn M = ci := by
      rcases hfin with q | q
      · rw [hff] at q; cases q
      · exact q
    obtain ⟨hname, howneq⟩ := hini hin.1
    unfold u_lay at hlay
    rw [if_pos hff] at hlay
    have hdecl : (tyT ci k).1 = own := by
      rw [howneq, hin.2]
      exact lay_own ci h10 k hk
    have hcf : m.cls = cf := by
      obtain ⟨_, _, c', _, _, _, -, -, hf', -, -, -, hown2, -⟩ := Cond.laysFinal_spec hlay
      have e1 : c' = cf := by have := hi.symm.trans hf'; simp at this; exact this.1.symm
      rw [hdecl] at hown2
      rw [← e1]; exact Option.some.inj (hown.symm.trans hown2)
    have h6 := u_fits hfc hkC hkind (Or.inr hlay) hi (fty_ok ci h10 k hk) hnr hfit
    exact W.putFinK hx hb hown (hts _ hlink) hi hst hcf hname (by rw [q2]; exact h6) q1 q3 (by rw [hsl]; exact k2_hasslot (q4 k hk)) rfl rfl hd fin_
  · unfold u_lay at hlay
    rw [if_neg hff] at hlay
    have h6 := u_store hfc hkC hkind hlay hi (fty_ok ci h10 k hk) hnr hfit
    exact W.putK hx hb (f := f) ⟨hown, hts _ hlink, ⟨_, _, _, hi⟩, hst⟩ (by rw [q2]; exact h6) q1 q3 (by rw [hsl]; exact k2_hasslot (q4 k hk)) rfl rfl hd fin_
end
