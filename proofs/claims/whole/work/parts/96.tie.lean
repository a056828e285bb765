/-! what the class does in space the reference does in its picture -/
def zax (j : Nat) (t : V3) : Prop := (j = 0 → t.1 = 0) ∧ (j = 1 → t.2.1 = 0) ∧ (j = 2 → t.2.2 = 0)
theorem prj3 (v : V3) : prj 3 v = v := rfl
theorem prj0 (v : V3) : prj 0 v = (v.2.1, v.2.2, 0) := rfl
theorem prj1 (v : V3) : prj 1 v = (v.1, v.2.2, 0) := rfl
theorem prj2 (v : V3) : prj 2 v = (v.1, v.2.1, 0) := rfl
section
variable {j : Nat}
theorem prj_dt (hj : j < 4) {e : V3} (he : zax j e) (v : V3) : dt (prj j e) (prj j v) = dt e v := by
  obtain ⟨h0, h1, h2⟩ := he
  rcases j4 hj with rfl | rfl | rfl | rfl
  · have := h0 rfl; rw [prj0, prj0]; simp only [dt]; grind
  · have := h1 rfl; rw [prj1, prj1]; simp only [dt]; grind
  · have := h2 rfl; rw [prj2, prj2]; simp only [dt]; grind
  · rfl
theorem prj_0 (hj : j < 4) {e : V3} (he : zax j e) : prj j e = (0, 0, 0) ↔ e = (0, 0, 0) := by
  constructor
  · intro h
    have k := prj_dt hj he e
    rw [h] at k
    exact dt_0 (by rw [← k]; simp [dt])
  · rintro rfl
    rcases j4 hj with rfl | rfl | rfl | rfl <;> rfl
theorem prj_gN (hj : j < 4) {e : V3} (he : zax j e) : gN (prj j e) = gN e := by
  obtain ⟨h0, h1, h2⟩ := he
  rcases j4 hj with rfl | rfl | rfl | rfl
  · have := h0 rfl; rw [prj0]; unfold gN; simp only [this]; simp
  · have := h1 rfl; rw [prj1]; unfold gN; simp only [this]; simp
  · have := h2 rfl; rw [prj2]; unfold gN; simp only [this]
  · rfl
theorem prj_gv (hj : j < 4) {e : V3} (he : zax j e) : gv (prj j e) = gv e := by
  have hg := prj_gN hj he
  obtain ⟨h0, h1, h2⟩ := he
  have key : neg (prj j e) ↔ neg e := by
    rcases j4 hj with rfl | rfl | rfl | rfl
    · have := h0 rfl; rw [prj0]; unfold neg; simp only; omega
    · have := h1 rfl; rw [prj1]; unfold neg; simp only; omega
    · have := h2 rfl; rw [prj2]; unfold neg; simp only; omega
    · exact Iff.rfl
  by_cases q : neg e
  · have a : gv e = -(gN e : Int) := if_pos q
    have b : gv (prj j e) = -(gN (prj j e) : Int) := if_pos (key.mpr q)
    rw [a, b, hg]
  · have a : gv e = (gN e : Int) := if_neg q
    have b : gv (prj j e) = (gN (prj j e) : Int) := if_neg (fun y => q (key.mp y))
    rw [a, b, hg]
theorem zax_nrm {e : V3} (he : zax j e) : zax j (nrm e) := by
  obtain ⟨h0, h1, h2⟩ := he
  unfold nrm
  exact ⟨fun q => by show e.1.tdiv _ = 0; rw [h0 q, Int.zero_tdiv], fun q => by show e.2.1.tdiv _ = 0; rw [h1 q, Int.zero_tdiv], fun q => by show e.2.2.tdiv _ = 0; rw [h2 q, Int.zero_tdiv]⟩
theorem prj_nrm (hj : j < 4) {e : V3} (he : zax j e) : nrm (prj j e) = prj j (nrm e) := by
  have hg := prj_gv hj he
  unfold nrm
  rw [hg]
  rcases j4 hj with rfl | rfl | rfl | rfl
  · rw [prj0, prj0]; simp
  · rw [prj1, prj1]; simp
  · rw [prj2, prj2]; simp
  · rfl
theorem prj_lex (hj : j < 4) {d e : V3} (hd : zax j d) (he : zax j e) : lexl (prj j d) (prj j e) ↔ lexl d e := by
  obtain ⟨h0, h1, h2⟩ := he
  obtain ⟨g0, g1, g2⟩ := hd
  rcases j4 hj with rfl | rfl | rfl | rfl
  · have := h0 rfl; have := g0 rfl; rw [prj0, prj0]; unfold lexl; simp only; omega
  · have := h1 rfl; have := g1 rfl; rw [prj1, prj1]; unfold lexl; simp only; omega
  · have := h2 rfl; have := g2 rfl; rw [prj2, prj2]; unfold lexl; simp only; omega
  · exact Iff.rfl
theorem mmF_congr {m : Nat} {Q Q' : Nat → V3} {d d' : V3} (h : ∀ k, dt d (Q k) = dt d' (Q' k)) : ∀ (e k : Nat) (s : Option (Int × Int)), mmF m Q d e k s = mmF m Q' d' e k s := by
  intro e
  induction e with
  | zero => intro k s; rfl
  | succ e ih =>
    intro k s
    have : mmS m Q d k s = mmS m Q' d' k s := by unfold mmS; rw [h k]
    show mmF m Q d e (k + 1) (mmS m Q d k s) = mmF m Q' d' e (k + 1) (mmS m Q' d' k s)
    rw [this, ih]
theorem prj_wd (hj : j < 4) {n m : Nat} {C : Nat → Int32} {e : V3} (he : zax j e) : wdA n m (qZ j C) (prj j e) = wdA n m (ptZ C) e := by
  unfold wdA rgN
  rw [mmF_congr (Q := qZ j C) (Q' := ptZ C) (d := prj j e) (d' := e) (fun k => prj_dt hj he _)]
def zaxO (j : Nat) (s : Option V3) : Prop := ∀ e, s = some e → zax j e
theorem zax_st {A : V3 → Int} {t : V3} {s : Option V3} (ht : zax j t) (hs : zaxO j s) : zaxO j (stW A t s) := by
  unfold stW
  by_cases q : t = (0, 0, 0)
  · rw [if_pos q]; exact hs
  · rw [if_neg q]
    have hn : zaxO j (some (nrm t)) := fun e he => by cases he; exact zax_nrm ht
    cases s with
    | none => exact hn
    | some e =>
      show zaxO j (if btr A (nrm t) e then some (nrm t) else some e)
      split
      · exact hn
      · exact hs
theorem prj_st (hj : j < 4) {n m : Nat} {C : Nat → Int32} {t : V3} {s : Option V3} (ht : zax j t) (hs : zaxO j s) : (stW (wdA n m (ptZ C)) t s).map (prj j) = stW (wdA n m (qZ j C)) (prj j t) (s.map (prj j)) := by
  unfold stW
  by_cases q : t = (0, 0, 0)
  · rw [if_pos q, if_pos ((prj_0 hj ht).mpr q)]
  · rw [if_neg q, if_neg (fun y => q ((prj_0 hj ht).mp y)), prj_nrm hj ht]
    cases s with
    | none => rfl
    | some e =>
      have he := hs e rfl
      have hd := zax_nrm ht
      have key : btr (wdA n m (qZ j C)) (prj j (nrm t)) (prj j e) ↔ btr (wdA n m (ptZ C)) (nrm t) e := by
        unfold btr
        rw [prj_wd hj hd, prj_wd hj he, prj_dt hj he, prj_dt hj hd, prj_lex hj hd he]
      show (if btr (wdA n m (ptZ C)) (nrm t) e then some (nrm t) else some e).map (prj j) = if btr (wdA n m (qZ j C)) (prj j (nrm t)) (prj j e) then some (prj j (nrm t)) else some (prj j e)
      by_cases y : btr (wdA n m (ptZ C)) (nrm t) e
      · rw [if_pos y, if_pos (key.mpr y)]; rfl
      · rw [if_neg y, if_neg (fun x => y (key.mp x))]; rfl
end
def ngV (t : V3) : V3 := (-t.1, -t.2.1, -t.2.2)
theorem nrm_ng {t : V3} (h : t ≠ (0, 0, 0)) : nrm (ngV t) = nrm t := by
  have hg : gN (ngV t) = gN t := by unfold gN ngV; simp only [Int.natAbs_neg]
  have key : neg (ngV t) ↔ ¬ neg t := by
    have : ¬ (t.1 = 0 ∧ t.2.1 = 0 ∧ t.2.2 = 0) := fun q => h (V3x q.1 q.2.1 q.2.2)
    unfold neg ngV
    simp only
    omega
  have hv : gv (ngV t) = - gv t := by
    by_cases q : neg t
    · have a : gv t = -(gN t : Int) := if_pos q
      have b : gv (ngV t) = (gN (ngV t) : Int) := if_neg (fun y => key.mp y q)
      rw [a, b, hg, Int.neg_neg]
    · have a : gv t = (gN t : Int) := if_neg q
      have b : gv (ngV t) = -(gN (ngV t) : Int) := if_pos (key.mpr q)
      rw [a, b, hg]
  unfold nrm
  rw [hv]
  unfold ngV
  simp only [Int.neg_tdiv, Int.tdiv_neg, Int.neg_neg]
theorem ng_0 {t : V3} : ngV t = (0, 0, 0) ↔ t = (0, 0, 0) := by
  constructor
  · intro h
    have h1 : (ngV t).1 = 0 := by rw [h]
    have h2 : (ngV t).2.1 = 0 := by rw [h]
    have h3 : (ngV t).2.2 = 0 := by rw [h]
    unfold ngV at h1 h2 h3
    simp only at h1 h2 h3
    exact V3x (show t.1 = 0 by omega) (show t.2.1 = 0 by omega) (show t.2.2 = 0 by omega)
  · rintro rfl; rfl
theorem st_ng {A : V3 → Int} {t : V3} {s : Option V3} : stW A (ngV t) s = stW A t s := by
  unfold stW
  by_cases q : t = (0, 0, 0)
  · rw [if_pos q, if_pos (ng_0.mpr q)]
  · rw [if_neg q, if_neg (fun y => q (ng_0.mp y)), nrm_ng q]
theorem prj_vc {j : Nat} (hj : j < 4) {C : Nat → Int32} {p : Nat} : vcP j C p = prj j (vcP 3 C p) := by
  unfold vcP qZ
  rcases j4 hj with rfl | rfl | rfl | rfl
  · simp only [prj0, prj3, sb]; rfl
  · simp only [prj1, prj3, sb]; rfl
  · simp only [prj2, prj3, sb]; rfl
  · rfl
theorem c1_prj {j : Nat} (hj : j < 3) {l : V3} : zax j (cx l (axv j)) ∧ (c1 (prj j l) = prj j (cx l (axv j)) ∨ c1 (prj j l) = ngV (prj j (cx l (axv j)))) := by
  have : j = 0 ∨ j = 1 ∨ j = 2 := by omega
  rcases this with rfl | rfl | rfl
  · refine ⟨⟨fun _ => by simp [cx, axv], fun h => by omega, fun h => by omega⟩, Or.inl ?_⟩
    rw [prj0, prj0]; simp [c1, cx, axv]
  · refine ⟨⟨fun h => by omega, fun _ => by simp [cx, axv], fun h => by omega⟩, Or.inr ?_⟩
    rw [prj1, prj1]; simp [c1, cx, axv, ngV]
  · refine ⟨⟨fun h => by omega, fun h => by omega, fun _ => by simp [cx, axv]⟩, Or.inl ?_⟩
    rw [prj2, prj2]; simp [c1, cx, axv]
/-- class and reference come to one way -/
theorem tie {j n : Nat} {C : Nat → Int32} (hj : j < 4) (h10 : n ≤ 10) : jdS j n (2 ^ n - 1) C = (sfo (wdP n C) (cdP j (LN n C))).map (prj j) ∧ zaxO j (sfo (wdP n C) (cdP j (LN n C))) := by
  rw [jdS_eq, lnL_map, pc_cd h10]
  by_cases q : j = 3
  · subst q
    have e1 : qZ 3 C = ptZ C := rfl
    have e2 : ∀ L, cdQ 3 L = cdP 3 L := fun L => by unfold cdQ cdP; rw [if_pos rfl, if_pos rfl]
    have e3 : ∀ s : Option V3, s.map (prj 3) = s := fun s => by cases s <;> rfl
    rw [e1, e2, e3]
    exact ⟨rfl, fun e _ => ⟨fun h => by omega, fun h => by omega, fun h => by omega⟩⟩
  · have hj3 : j < 3 := by omega
    have e1 : cdQ j ((pcO n n 0).map (vcP j C)) = (pcO n n 0).map (fun p => c1 (prj j (vcP 3 C p))) := by
      unfold cdQ; rw [if_neg q, List.map_map]
      congr 1
      funext p
      show c1 (vcP j C p) = _
      rw [prj_vc hj]
    have e2 : cdP j (LN n C) = (pcO n n 0).map (fun p => cx (vcP 3 C p) (axv j)) := by
      unfold cdP LN; rw [if_neg q, List.map_map]; rfl
    rw [e1, e2]
    unfold sfo
    have go : ∀ (L : List Nat) (s : Option V3), zaxO j s → (L.map (fun p => c1 (prj j (vcP 3 C p)))).foldl (fun s t => stW (wdA n (2 ^ n - 1) (qZ j C)) t s) (s.map (prj j)) = ((L.map (fun p => cx (vcP 3 C p) (axv j))).foldl (fun s t => stW (wdP n C) t s) s).map (prj j) ∧ zaxO j ((L.map (fun p => cx (vcP 3 C p) (axv j))).foldl (fun s t => stW (wdP n C) t s) s) := by
      intro L
      induction L with
      | nil => intro s hs; exact ⟨rfl, hs⟩
      | cons p r ih =>
        intro s hs
        obtain ⟨z1, z2⟩ := c1_prj hj3 (l := vcP 3 C p)
        have e3 : stW (wdA n (2 ^ n - 1) (qZ j C)) (c1 (prj j (vcP 3 C p))) (s.map (prj j)) = (stW (wdP n C) (cx (vcP 3 C p) (axv j)) s).map (prj j) := by
          have := prj_st (n := n) (m := 2 ^ n - 1) (C := C) hj z1 hs
          rcases z2 with y | y
          · rw [y]; exact this.symm
          · rw [y, st_ng]; exact this.symm
        rw [List.map_cons, List.map_cons, List.foldl_cons, List.foldl_cons, e3]
        exact ih _ (zax_st z1 hs)
    exact go (pcO n n 0) none (fun e he => by cases he)
theorem tie_fr {j n : Nat} {C : Nat → Int32} (hj : j < 4) {s : Option V3} (hs : zaxO j s) : frA (wdA n (2 ^ n - 1) (qZ j C)) (s.map (prj j)) = frA (wdP n C) s ∧ frB (wdA n (2 ^ n - 1) (qZ j C)) (s.map (prj j)) = frB (wdP n C) s := by
  cases s with
  | none => exact ⟨rfl, rfl⟩
  | some e =>
    have he := hs e rfl
    have e1 : nmO (wdA n (2 ^ n - 1) (qZ j C)) (some (prj j e)) = nmO (wdP n C) (some e) := by
      show (wdA _ _ _ _).natAbs = (wdP n C e).natAbs
      rw [prj_wd hj he]; rfl
    have e2 : dnO (some (prj j e)) = dnO (some e) := by
      show (dt _ _).natAbs = (dt _ _).natAbs
      rw [prj_dt hj he]
    show frA _ (some (prj j e)) = _ ∧ frB _ (some (prj j e)) = _
    unfold frA frB
    rw [e1, e2]
    exact ⟨rfl, rfl⟩
