
section
variable {p : Program} {l : Launch} {e : Env} {s : State} {m : MethodId} {below : List Frame} {meth : Method} {c : Code} {D : va_G} {cy : Nat → ClassId} {b L : Nat} {xs : Nat → Int32} {w : Wd}
set_option maxRecDepth 20000 in
theorem LA.fin (h : LA p s m meth c D cy b L xs) (hc : nxt w ≤ s.heap.size + 138 ∧ slt w ≤ 4000) {ls : Lsx} : LW false p l e s m below meth c D cy b 1012 ls [] w := by
  refine h.step (q := (1013, ls, [.int 1], w)) rfl rfl rfl hc ?_
  have hd : decode code 1013 = .ok (.ireturn, 1) := h.amb.2.2.2.2.2.2.2.2.1 1013 _ rfl
  intro q1 q2 q3 H locs rl hP hS hL
  refine va_forget (fun x hx => hS.2.2 x hx) ?_
  refine W.widen (k := 600000) (n := 7302250) (by show nxt w - s.heap.size ≤ 600000; omega) (by show slt w - 0 ≤ 7302250; omega) ?_
  exact lw_ret h.1.1 h.1.2.1 h.1.2.2.1 h.1.2.2.2.2.2.2.2.2.1 hd
theorem nI_p6' (i : Nat) : nI i + Int32.ofInt 6 = nI (i + 6) := nI_a i 6
theorem cmd_of (x : Int32) : ∃ k : Nat, k < 32 ∧ x &&& 31 = nI k := by
  refine ⟨(x &&& 31).toBitVec.toNat, ?_, ?_⟩
  · rw [Int32.toBitVec_and, BitVec.toNat_and]
    exact Nat.lt_of_le_of_lt Nat.and_le_right (by decide)
  · apply Int32.toBitVec_inj.mp
    show _ = (Int32.ofNat _).toBitVec
    rw [Int32.toBitVec_ofNat']
    simp
set_option maxRecDepth 20000 in
theorem LA.loop (h : LA p s m meth c D cy b L xs) {a : Nat} : ∀ (d i : Nat) (w : Wd), L ≤ i + d → i ≤ 3078 → INV w a → nxt w ≤ s.heap.size + 138 ∧ slt w ≤ 4000 → LW false p l e s m below meth c D cy b 18 [some (.ref b), some (.ref a), some (.ref (a + 125)), some (.int (nI i))] [] w := by
  have hL := h.2.1
  intro d
  induction d using Nat.strongRecOn with
  | ind d ih =>
  intro i w hd hi hI hc
  have hcmp : nI L - 6 < nI i ↔ L < i + 6 := by
    rw [nI_iI, nI_iI, show (6 : Int32) = iI 6 from rfl, iI_sub, iI_lt (by constructor <;> omega) (by constructor <;> omega)]
    omega
  have key : LW false p l e s m below meth c D cy b 24 [some (.ref b), some (.ref a), some (.ref (a + 125)), some (.int (nI i))] [.int (nI L - 6), .int (nI i)] w := by
    by_cases hlt : L < i + 6
    · refine h.step (q := (1012, [some (.ref b), some (.ref a), some (.ref (a + 125)), some (.int (nI i))], [], w)) rfl ?_ rfl hc (h.fin hc)
      show if2 .gt 988 24 _ [.int (nI L - 6), .int (nI i)] w = _
      have g : cmpC .gt (nI i) (nI L - 6) = true := decide_eq_true (hcmp.mpr hlt)
      unfold if2
      simp [g]
    · refine h.step (q := (27, [some (.ref b), some (.ref a), some (.ref (a + 125)), some (.int (nI i))], [], w)) rfl ?_ rfl hc ?_
      · show if2 .gt 988 24 _ [.int (nI L - 6), .int (nI i)] w = _
        have g : cmpC .gt (nI i) (nI L - 6) = false := decide_eq_false (fun q => hlt (hcmp.mp q))
        unfold if2
        simp [g]
      have hin : vp_in (nI i) L := by
        have g := inA_iff.mp (inA_nI (k := i) (n := L) (by omega) (by omega))
        rintro (q | q)
        · rw [Int32.lt_iff_toInt_lt] at q
          exact absurd g.1 (by simpa using q)
        · rw [nI_clamp (by omega)] at q; omega
      have next : ∀ v, INV v a → v.2.2.2 = w.2.2.2 → LW false p l e s m below meth c D cy b 1006 [some (.ref b), some (.ref a), some (.ref (a + 125)), some (.int (nI i))] [] v := fun v hv e2 => by
        have hcv : nxt v ≤ s.heap.size + 138 ∧ slt v ≤ 4000 := by unfold nxt slt; rw [e2]; exact hc
        refine h.step (q := (1009, [some (.ref b), some (.ref a), some (.ref (a + 125)), some (.int (nI i + Int32.ofInt 6))], [], v)) rfl rfl rfl hcv ?_
        rw [nI_p6']
        exact h.step (q := (18, _, [], v)) rfl rfl rfl hcv (ih (d - 6) (by omega) (i + 6) v (by omega) (by omega) hv hcv)
      refine h.step (q := (28, _, [.ref b], w)) rfl rfl rfl hc (h.step (q := (29, _, [.int (nI i), .ref b], w)) rfl rfl rfl hc (h.read hin rfl ?_))
      refine h.step (q := (32, _, [.int 31, .int (xs (nI i).toNatClampNeg)], w)) rfl rfl rfl hc (h.step (q := (33, _, [.int (xs (nI i).toNatClampNeg &&& 31)], w)) rfl rfl rfl hc ?_)
      obtain ⟨k, hk, ek⟩ := cmd_of (xs (nI i).toNatClampNeg)
      rw [ek]
      have hi6 : i + 6 ≤ L := by omega
      match k, hk with
      | 0, _ => exact h.step (q := (148, _, [], w)) rfl rfl rfl hc (q_add h hc hi6 hI next)
      | 1, _ => exact h.step (q := (191, _, [], w)) rfl rfl rfl hc (q_out h hc hi6 hI next)
      | 2, _ => exact h.step (q := (214, _, [], w)) rfl rfl rfl hc (q_move h hc hi6 hI next)
      | 3, _ => exact h.step (q := (257, _, [], w)) rfl rfl rfl hc (q_tolerance h hc hi6 hI next)
      | 4, _ => exact h.step (q := (280, _, [], w)) rfl rfl rfl hc (q_point h hc hi6 hI next)
      | 5, _ => exact h.step (q := (313, _, [], w)) rfl rfl rfl hc (q_hull h hc hi6 hI next)
      | 6, _ => exact h.step (q := (346, _, [], w)) rfl rfl rfl hc (q_edge h hc hi6 hI next)
      | 7, _ => exact h.step (q := (389, _, [], w)) rfl rfl rfl hc (q_count h hc hi6 hI next)
      | 8, _ => exact h.step (q := (412, _, [], w)) rfl rfl rfl hc (q_judge h hc hi6 hI next)
      | 9, _ => exact h.step (q := (446, _, [], w)) rfl rfl rfl hc (q_way h hc hi6 hI next)
      | 10, _ => exact h.step (q := (479, _, [], w)) rfl rfl rfl hc (q_without h hc hi6 hI next)
      | 11, _ => exact h.step (q := (523, _, [], w)) rfl rfl rfl hc (q_lost h hc hi6 hI next)
      | 12, _ => exact h.step (q := (567, _, [], w)) rfl rfl rfl hc (q_type h hc hi6 hI next)
      | 13, _ => exact h.step (q := (590, _, [], w)) rfl rfl rfl hc (q_read h hc hi6 hI next)
      | 14, _ => exact h.step (q := (603, _, [], w)) rfl rfl rfl hc (q_drift h hc hi6 hI next)
      | 15, _ => exact h.step (q := (626, _, [], w)) rfl rfl rfl hc (q_undo h hc hi6 hI next)
      | 16, _ => exact h.step (q := (639, _, [], w)) rfl rfl rfl hc (q_seed h hc hi6 hI next)
      | 17, _ => exact h.step (q := (662, _, [], w)) rfl rfl rfl hc (q_image h hc hi6 hI next)
      | 18, _ => exact h.step (q := (675, _, [], w)) rfl rfl rfl hc (q_restore h hc hi6 hI next)
      | 19, _ => exact h.step (q := (688, _, [], w)) rfl rfl rfl hc (q_corners h hc hi6 hI next)
      | 20, _ => exact h.step (q := (741, _, [], w)) rfl rfl rfl hc (q_film h hc hi6 hI next)
      | 21, _ => exact h.step (q := (794, _, [], w)) rfl rfl rfl hc (q_sheet h hc hi6 hI next)
      | 22, _ => exact h.step (q := (837, _, [], w)) rfl rfl rfl hc (q_drop h hc hi6 hI next)
      | 23, _ => exact h.step (q := (860, _, [], w)) rfl rfl rfl hc (q_item h hc hi6 hI next)
      | 24, _ => exact h.step (q := (943, _, [], w)) rfl rfl rfl hc (q_copy h hc hi6 hI next)
      | 25, _ => exact h.step (q := (1006, _, [], w)) rfl rfl rfl hc (next w hI rfl)
      | 26, _ => exact h.step (q := (1006, _, [], w)) rfl rfl rfl hc (next w hI rfl)
      | 27, _ => exact h.step (q := (1006, _, [], w)) rfl rfl rfl hc (next w hI rfl)
      | 28, _ => exact h.step (q := (1006, _, [], w)) rfl rfl rfl hc (next w hI rfl)
      | 29, _ => exact h.step (q := (1006, _, [], w)) rfl rfl rfl hc (next w hI rfl)
      | 30, _ => exact h.step (q := (1006, _, [], w)) rfl rfl rfl hc (next w hI rfl)
      | 31, _ => exact h.step (q := (1006, _, [], w)) rfl rfl rfl hc (next w hI rfl)
      | (k + 32), hk => exact absurd hk (by omega)
  refine h.step (q := (19, _, [.int (nI i)], w)) rfl rfl rfl hc (h.step (q := (20, _, [.ref b, .int (nI i)], w)) rfl rfl rfl hc (h.len rfl ?_))
  exact h.step (q := (23, _, [.int 6, .int (nI L), .int (nI i)], w)) rfl rfl rfl hc (h.step (q := (24, _, [.int (nI L - 6), .int (nI i)], w)) rfl rfl rfl hc key)
end
