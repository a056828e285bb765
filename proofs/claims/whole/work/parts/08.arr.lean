section
variable {ex : Bool} {M : Mth} {p : Program} {l : Launch} {e : Env} {R : Room} {s : State} {m : MethodId} {args : Array Value} {below : List Frame} {meth : Method} {c : Code} {D : va_G} {cy : Nat → ClassId} {b0 n0 s0 nL : Nat} {Q : State → Prop} {cc : ByteArray} {own : String} {pc : Nat} {ls : Lsx} {w : Wd} {r : List Value}
theorem arrE_i {k : Nat} {a : Nat} (h : k = 10 ∨ k = 12 ∨ k = 13) : arrE k w a = .inl (w.1 a) := by
  unfold arrE
  rw [if_neg (by omega), if_neg (by omega)]
theorem arrE_l {a : Nat} : arrE 11 w a = .inr (.inl (w.2.1 a)) := rfl
theorem arrE_q {k : Nat} {a : Nat} (h : 14 ≤ k) : arrE k w a = .inr (.inr (.inr (.inr (w.2.2.1 a)))) := by
  unfold arrE
  rw [if_neg (by omega), if_pos h]
theorem st_iald (A : Amb ex M p s m args meth c D cy b0 cc own nL) {i : Int32} {a : Nat} (hd : decode cc pc = .ok (.iaload, 1)) (hs : (shp w a).1 = 10) (hin : vp_in i (shp w a).2)
    (kk : SW ex p l e R s m args below meth c D cy b0 n0 s0 nL Q (pc + 1) ls (.int (rdI w a i.toNatClampNeg) :: r) w) : SW ex p l e R s m args below meth c D cy b0 n0 s0 nL Q pc ls (.int i :: .ref a :: r) w := by
  obtain ⟨hx, hb, hml, hown, hts, hnw, hK, hb0, -⟩ := A
  intro hl hn0 hs0 H locs rl hP hS hL
  refine va_iald hx hb hK (hP.P (a := a) (by omega)) 0 0 (cA := cy 10) (n := (shp w a).2) (f := w.1 a) ?_ rfl hin hd (kk hl hn0 hs0 H locs rl hP hS hL)
  rw [cell_arr hs (by omega), arrE_i (by omega)]; rfl
theorem st_zald (A : Amb ex M p s m args meth c D cy b0 cc own nL) {i : Int32} {a : Nat} (hd : decode cc pc = .ok (.baload, 1)) (hs : (shp w a).1 = 12) (hin : vp_in i (shp w a).2)
    (kk : SW ex p l e R s m args below meth c D cy b0 n0 s0 nL Q (pc + 1) ls (.int (rdI w a i.toNatClampNeg) :: r) w) : SW ex p l e R s m args below meth c D cy b0 n0 s0 nL Q pc ls (.int i :: .ref a :: r) w := by
  obtain ⟨hx, hb, hml, hown, hts, hnw, hK, hb0, -⟩ := A
  intro hl hn0 hs0 H locs rl hP hS hL
  refine va_zald hx hb hK (hP.P (a := a) (by omega)) 0 2 (cA := cy 12) (n := (shp w a).2) (f := w.1 a) ?_ rfl hin hd (kk hl hn0 hs0 H locs rl hP hS hL)
  rw [cell_arr hs (by omega), arrE_i (by omega)]; rfl
theorem st_cald (A : Amb ex M p s m args meth c D cy b0 cc own nL) {i : Int32} {a : Nat} (hd : decode cc pc = .ok (.caload, 1)) (hs : (shp w a).1 = 13) (hin : vp_in i (shp w a).2)
    (kk : SW ex p l e R s m args below meth c D cy b0 n0 s0 nL Q (pc + 1) ls (.int (rdI w a i.toNatClampNeg) :: r) w) : SW ex p l e R s m args below meth c D cy b0 n0 s0 nL Q pc ls (.int i :: .ref a :: r) w := by
  obtain ⟨hx, hb, hml, hown, hts, hnw, hK, hb0, -⟩ := A
  intro hl hn0 hs0 H locs rl hP hS hL
  refine va_cald hx hb hK (hP.P (a := a) (by omega)) 0 3 (cA := cy 13) (n := (shp w a).2) (f := w.1 a) ?_ rfl hin hd (kk hl hn0 hs0 H locs rl hP hS hL)
  rw [cell_arr hs (by omega), arrE_i (by omega)]; rfl
theorem st_lald (A : Amb ex M p s m args meth c D cy b0 cc own nL) {i : Int32} {a : Nat} (hd : decode cc pc = .ok (.laload, 1)) (hs : (shp w a).1 = 11) (hin : vp_in i (shp w a).2)
    (kk : SW ex p l e R s m args below meth c D cy b0 n0 s0 nL Q (pc + 1) ls (.long (rdJ w a i.toNatClampNeg) :: r) w) : SW ex p l e R s m args below meth c D cy b0 n0 s0 nL Q pc ls (.int i :: .ref a :: r) w := by
  obtain ⟨hx, hb, hml, hown, hts, hnw, hK, hb0, -⟩ := A
  intro hl hn0 hs0 H locs rl hP hS hL
  refine va_lald hx hb hK (hP.P (a := a) (by omega)) 0 1 (cA := cy 11) (n := (shp w a).2) (f := w.2.1 a) ?_ rfl hin hd (kk hl hn0 hs0 H locs rl hP hS hL)
  rw [cell_arr hs (by omega), arrE_l]; rfl
theorem st_aald (A : Amb ex M p s m args meth c D cy b0 cc own nL) {i : Int32} {a : Nat} (hd : decode cc pc = .ok (.aaload, 1)) (hs : (shp w a).1 ∈ [14, 15, 16, 17]) (hin : vp_in i (shp w a).2)
    (kk : SW ex p l e R s m args below meth c D cy b0 n0 s0 nL Q (pc + 1) ls (va_rf (rdR w a i.toNatClampNeg) :: r) w) : SW ex p l e R s m args below meth c D cy b0 n0 s0 nL Q pc ls (.int i :: .ref a :: r) w := by
  obtain ⟨hx, hb, hml, hown, hts, hnw, hK, hb0, -⟩ := A
  intro hl hn0 hs0 H locs rl hP hS hL
  have hlt : i.toNatClampNeg < (shp w a).2 := Nat.not_le.mp fun q => hin (Or.inr q)
  have hr : 14 ≤ (shp w a).1 ∧ (shp w a).1 ≤ 17 := by
    simp only [List.mem_cons, List.not_mem_nil, or_false] at hs
    omega
  have hat := hP.at (a := a) (by omega)
  rw [cell_arr rfl (by omega), arrE_q hr.1] at hat
  have hat : H[a]? = some (arrV (cy (shp w a).1) (shp w a).2 (fun j => va_rf (w.2.2.1 a j))) := hat
  have ht : ∃ (t : Nat) (ty : FieldType), (tysOf cy)[t]? = some (cy (shp w a).1, ty) ∧ ty.isReference = true := by
    simp only [List.mem_cons, List.not_mem_nil, or_false] at hs
    rcases hs with q | q | q | q <;> rw [q]
    · exact ⟨4, _, rfl, rfl⟩
    · exact ⟨5, _, rfl, rfl⟩
    · exact ⟨6, _, rfl, rfl⟩
    · exact ⟨7, _, rfl, rfl⟩
  obtain ⟨t, ty, ht1, ht2⟩ := ht
  exact W.aald (v := va_rf (rdR w a i.toNatClampNeg)) (ty := ty) hx hb hat ((hK.2 t _ ht1).1 (shp w a).2 (fun j => va_rf (w.2.2.1 a j))) ht2 (fun q => by cases q) (by rw [arrV_size]; exact hin) (by rw [arrV_read _ _ hlt]; rfl) rfl rfl hd (kk hl hn0 hs0 H locs rl hP hS hL)
theorem st_alen (A : Amb ex M p s m args meth c D cy b0 cc own nL) {a : Nat} (hd : decode cc pc = .ok (.arraylength, 1)) (hs : 10 ≤ (shp w a).1 ∧ (shp w a).1 ≤ 17)
    (kk : SW ex p l e R s m args below meth c D cy b0 n0 s0 nL Q (pc + 1) ls (.int (Int32.ofNat (shp w a).2) :: r) w) : SW ex p l e R s m args below meth c D cy b0 n0 s0 nL Q pc ls (.ref a :: r) w := by
  obtain ⟨hx, hb, hml, hown, hts, hnw, hK, hb0, -⟩ := A
  intro hl hn0 hs0 H locs rl hP hS hL
  have ht : ∃ (t : Nat) (ty : FieldType), (tysOf cy)[t]? = some (cy (shp w a).1, ty) := by
    have : (shp w a).1 = 10 ∨ (shp w a).1 = 11 ∨ (shp w a).1 = 12 ∨ (shp w a).1 = 13 ∨ (shp w a).1 = 14 ∨ (shp w a).1 = 15 ∨ (shp w a).1 = 16 ∨ (shp w a).1 = 17 := by omega
    rcases this with q | q | q | q | q | q | q | q <;> rw [q]
    · exact ⟨0, _, rfl⟩
    · exact ⟨1, _, rfl⟩
    · exact ⟨2, _, rfl⟩
    · exact ⟨3, _, rfl⟩
    · exact ⟨4, _, rfl⟩
    · exact ⟨5, _, rfl⟩
    · exact ⟨6, _, rfl⟩
    · exact ⟨7, _, rfl⟩
  obtain ⟨t, ty, ht1⟩ := ht
  refine va_alen hx hb hK (hP.P (a := a) (by omega)) 0 t (cA := cy (shp w a).1) (x := ((shp w a).2, arrE (shp w a).1 w a)) ?_ ht1 rfl hd (kk hl hn0 hs0 H locs rl hP hS hL)
  rw [cell_arr rfl (by omega)]; rfl
theorem pic_wrI {k : Nat} {a j : Nat} {x : Int32} {H H' : Heap} (hP : Pic ex D cy b0 w H) (hk : k = 10 ∨ k = 12 ∨ k = 13) (hs : (shp w a).1 = k) (e1 : H'[a]? = some ((arrV (cy k) (shp w a).2 (fun j => .int (w.1 a j))).setSlot j (.int x))) (z : H'.size = H.size) (oq : ∀ q, q ≠ a → H'[q]? = H[q]?) : Pic ex D cy b0 (wrI w a j x) H' := by
  refine hP.put (a := a) (fun b hb => cell_congr (up2_ne hb) rfl rfl rfl) (fun _ => rfl) rfl ?_ z oq
  rw [cell_arr (w := wrI w a j x) hs (by omega), arrE_i hk]
  show H'[a]? = some (arrV (cy k) (shp w a).2 (fun i => .int (up2 w.1 a j x a i)))
  rw [e1, arrV_store, up2_at]
  congr 2
  funext i
  simp only [updV]
  split <;> rfl
theorem pic_wrJ {a j : Nat} {x : Int64} {H H' : Heap} (hP : Pic ex D cy b0 w H) (hs : (shp w a).1 = 11) (e1 : H'[a]? = some ((arrV (cy 11) (shp w a).2 (fun j => .long (w.2.1 a j))).setSlot j (.long x))) (z : H'.size = H.size) (oq : ∀ q, q ≠ a → H'[q]? = H[q]?) : Pic ex D cy b0 (wrJ w a j x) H' := by
  refine hP.put (a := a) (fun b hb => cell_congr rfl (up2_ne hb) rfl rfl) (fun _ => rfl) rfl ?_ z oq
  rw [cell_arr (w := wrJ w a j x) hs (by omega), arrE_l]
  show H'[a]? = some (arrV (cy 11) (shp w a).2 (fun i => .long (up2 w.2.1 a j x a i)))
  rw [e1, arrV_store, up2_at]
  congr 2
  funext i
  simp only [updV]
  split <;> rfl
theorem pic_wrR {k : Nat} {a j : Nat} {x : Nat} {H H' : Heap} (hP : Pic ex D cy b0 w H) (hk : 14 ≤ k) (hk2 : k < 100) (hs : (shp w a).1 = k) (e1 : H'[a]? = some ((arrV (cy k) (shp w a).2 (fun j => va_rf (w.2.2.1 a j))).setSlot j (.ref x))) (z : H'.size = H.size) (oq : ∀ q, q ≠ a → H'[q]? = H[q]?) : Pic ex D cy b0 (wrR w a j (some x)) H' := by
  refine hP.put (a := a) (fun b hb => cell_congr rfl rfl (up2_ne hb) rfl) (fun _ => rfl) rfl ?_ z oq
  rw [cell_arr (w := wrR w a j (some x)) hs (by omega), arrE_q hk]
  show H'[a]? = some (arrV (cy k) (shp w a).2 (fun i => va_rf (up2 w.2.2.1 a j (some x) a i)))
  rw [e1, arrV_store, up2_at]
  congr 2
  funext i
  simp only [updV]
  split <;> rfl
theorem st_iast (A : Amb ex M p s m args meth c D cy b0 cc own nL) {i x : Int32} {a : Nat} (hd : decode cc pc = .ok (.iastore, 1)) (hs : (shp w a).1 = 10) (hin : vp_in i (shp w a).2)
    (kk : SW ex p l e R s m args below meth c D cy b0 n0 s0 nL Q (pc + 1) ls r (wrI w a i.toNatClampNeg x)) : SW ex p l e R s m args below meth c D cy b0 n0 s0 nL Q pc ls (.int x :: .int i :: .ref a :: r) w := by
  obtain ⟨hx, hb, hml, hown, hts, hnw, hK, hb0, -⟩ := A
  intro hl hn0 hs0 H locs rl hP hS hL
  have hat := hP.at (a := a) (by omega)
  rw [cell_arr hs (by omega), arrE_i (by omega)] at hat
  have hat : H[a]? = some (arrV (cy 10) (shp w a).2 (fun j => .int (w.1 a j))) := hat
  refine W.iast hx hb hat ((hK.2 0 _ rfl).1 (shp w a).2 (fun j => .int (w.1 a j))) (fun q => by cases q) (by rw [arrV_size]; exact hin) rfl rfl hd fun H1 e1 z oq => ?_
  exact kk hl hn0 hs0 H1 _ rl (pic_wrI hP (by omega) hs e1 z oq) (hS.put z oq (hP.live (a := a) (by omega)).1) hL
theorem st_zast (A : Amb ex M p s m args meth c D cy b0 cc own nL) {i x : Int32} {a : Nat} (hd : decode cc pc = .ok (.bastore, 1)) (hs : (shp w a).1 = 12) (hin : vp_in i (shp w a).2)
    (kk : SW ex p l e R s m args below meth c D cy b0 n0 s0 nL Q (pc + 1) ls r (wrI w a i.toNatClampNeg (vp_nar .boolean x))) : SW ex p l e R s m args below meth c D cy b0 n0 s0 nL Q pc ls (.int x :: .int i :: .ref a :: r) w := by
  obtain ⟨hx, hb, hml, hown, hts, hnw, hK, hb0, -⟩ := A
  intro hl hn0 hs0 H locs rl hP hS hL
  have hat := hP.at (a := a) (by omega)
  rw [cell_arr hs (by omega), arrE_i (by omega)] at hat
  have hat : H[a]? = some (arrV (cy 12) (shp w a).2 (fun j => .int (w.1 a j))) := hat
  refine W.zast hx hb hat ((hK.2 2 _ rfl).1 (shp w a).2 (fun j => .int (w.1 a j))) (fun q => by cases q) (by rw [arrV_size]; exact hin) rfl rfl hd fun H1 e1 z oq => ?_
  exact kk hl hn0 hs0 H1 _ rl (pic_wrI (x := vp_nar .boolean x) hP (by omega) hs e1 z oq) (hS.put z oq (hP.live (a := a) (by omega)).1) hL
theorem st_cast (A : Amb ex M p s m args meth c D cy b0 cc own nL) {i x : Int32} {a : Nat} (hd : decode cc pc = .ok (.castore, 1)) (hs : (shp w a).1 = 13) (hin : vp_in i (shp w a).2)
    (kk : SW ex p l e R s m args below meth c D cy b0 n0 s0 nL Q (pc + 1) ls r (wrI w a i.toNatClampNeg (vp_nar .char x))) : SW ex p l e R s m args below meth c D cy b0 n0 s0 nL Q pc ls (.int x :: .int i :: .ref a :: r) w := by
  obtain ⟨hx, hb, hml, hown, hts, hnw, hK, hb0, -⟩ := A
  intro hl hn0 hs0 H locs rl hP hS hL
  have hat := hP.at (a := a) (by omega)
  rw [cell_arr hs (by omega), arrE_i (by omega)] at hat
  have hat : H[a]? = some (arrV (cy 13) (shp w a).2 (fun j => .int (w.1 a j))) := hat
  refine W.cast hx hb hat ((hK.2 3 _ rfl).1 (shp w a).2 (fun j => .int (w.1 a j))) (fun q => by cases q) (by rw [arrV_size]; exact hin) rfl rfl hd fun H1 e1 z oq => ?_
  exact kk hl hn0 hs0 H1 _ rl (pic_wrI (x := vp_nar .char x) hP (by omega) hs e1 z oq) (hS.put z oq (hP.live (a := a) (by omega)).1) hL
theorem st_last (A : Amb ex M p s m args meth c D cy b0 cc own nL) {i : Int32} {x : Int64} {a : Nat} (hd : decode cc pc = .ok (.lastore, 1)) (hs : (shp w a).1 = 11) (hin : vp_in i (shp w a).2)
    (kk : SW ex p l e R s m args below meth c D cy b0 n0 s0 nL Q (pc + 1) ls r (wrJ w a i.toNatClampNeg x)) : SW ex p l e R s m args below meth c D cy b0 n0 s0 nL Q pc ls (.long x :: .int i :: .ref a :: r) w := by
  obtain ⟨hx, hb, hml, hown, hts, hnw, hK, hb0, -⟩ := A
  intro hl hn0 hs0 H locs rl hP hS hL
  have hat := hP.at (a := a) (by omega)
  rw [cell_arr hs (by omega), arrE_l] at hat
  have hat : H[a]? = some (arrV (cy 11) (shp w a).2 (fun j => .long (w.2.1 a j))) := hat
  refine W.last hx hb hat ((hK.2 1 _ rfl).1 (shp w a).2 (fun j => .long (w.2.1 a j))) (fun q => by cases q) (by rw [arrV_size]; exact hin) rfl rfl hd fun H1 e1 z oq => ?_
  exact kk hl hn0 hs0 H1 _ rl (pic_wrJ hP hs e1 z oq) (hS.put z oq (hP.live (a := a) (by omega)).1) hL
theorem st_aast (A : Amb ex M p s m args meth c D cy b0 cc own nL) {i : Int32} {a x : Nat} (hd : decode cc pc = .ok (.aastore, 1)) (hs : 14 ≤ (shp w a).1 ∧ (shp w a).1 ≤ 16) (hv : (shp w x).1 = elC (shp w a).1) (hin : vp_in i (shp w a).2)
    (kk : SW ex p l e R s m args below meth c D cy b0 n0 s0 nL Q (pc + 1) ls r (wrR w a i.toNatClampNeg (some x))) : SW ex p l e R s m args below meth c D cy b0 n0 s0 nL Q pc ls (.ref x :: .int i :: .ref a :: r) w := by
  obtain ⟨hx, hb, hml, hown, hts, hnw, hK, hb0, -⟩ := A
  intro hl hn0 hs0 H locs rl hP hS hL
  have hlt : i.toNatClampNeg < (shp w a).2 := Nat.not_le.mp fun q => hin (Or.inr q)
  have h0 : ¬ i < 0 := fun q => hin (Or.inl q)
  have hat := hP.at (a := a) (by omega)
  rw [cell_arr rfl (by omega), arrE_q hs.1] at hat
  have hat : H[a]? = some (arrV (cy (shp w a).1) (shp w a).2 (fun j => va_rf (w.2.2.1 a j))) := hat
  have ht : ∃ (t ci : Nat), ci = elC (shp w a).1 ∧ ci < 10 ∧ (tysOf cy)[t]? = some (cy (shp w a).1, FieldType.object (clN ci)) := by
    have : (shp w a).1 = 14 ∨ (shp w a).1 = 15 ∨ (shp w a).1 = 16 := by omega
    rcases this with q | q | q <;> rw [q]
    · exact ⟨4, 0, rfl, by omega, rfl⟩
    · exact ⟨5, 4, rfl, by omega, rfl⟩
    · exact ⟨6, 7, rfl, by omega, rfl⟩
  obtain ⟨t, ci, hci, hc10, ht1⟩ := ht
  rw [← hci] at hv
  have hatv := hP.at (a := x) (by omega)
  rw [cell_obj hv hc10] at hatv
  obtain ⟨r', hr', cellV, g1, g2, g3, -⟩ := hatv
  have hcls := (hK.1 ci _ (vw_at ci hc10)).2
  obtain ⟨kA, comp, k1, k2, k3, -⟩ := (hK.2 t _ ht1).2
  have hcomp : comp = D.1 ci := Option.some.inj (k3.symm.trans hcls.1)
  subst hcomp
  obtain ⟨kC, hkC, -⟩ := hcls.2
  refine W.aast hx hb hat (fun q h => by cases h) (fun h => by cases h) k1 k2 rfl hkC ⟨h0, by rw [arrV_size]; exact hlt⟩ g1 (fun q h => by rw [g3] at h; cases h) (by rw [g2]; exact hkC) (by rw [g2]; exact va_assign hcls) rfl rfl hd fun H1 e1 z oq => ?_
  exact kk hl hn0 hs0 H1 _ rl (pic_wrR hP hs.1 (by omega) rfl e1 z oq) (hS.put z oq (hP.live (a := a) (by omega)).1) hL
end
