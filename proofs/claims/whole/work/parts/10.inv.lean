theorem arrcl_int : Cond.arrayClass .int ∈ gw_tbl := gm 110 (by decide +kernel) rfl
theorem arrcl_long : Cond.arrayClass .long ∈ gw_tbl := gm 172 (by decide +kernel) rfl
theorem arrcl_boolean : Cond.arrayClass .boolean ∈ gw_tbl := gm 171 (by decide +kernel) rfl
theorem arrcl_char : Cond.arrayClass .char ∈ gw_tbl := gm 197 (by decide +kernel) rfl
theorem newO_inv {M : Mth} {i pc : Nat} {ls : Lsx} {st : List Value} {w : Wd} {q : Nx} (h : newO M i pc ls st w = some q) : ∃ ci, mCls M i = some ci ∧ ci < 10 ∧ q = (pc + 3, ls, .ref (nxt w) :: st, mk1 w ci 0 (nfl ci)) := by
  unfold newO at h; split at h
  · split at h
    · exact ⟨_, by assumption, by assumption, (Option.some.inj h).symm⟩
    · cases h
  · cases h
theorem newR_inv {M : Mth} {i pc : Nat} {ls : Lsx} {st : List Value} {w : Wd} {q : Nx} (h : newR M i pc ls st w = some q) : ∃ n r k, st = .int n :: r ∧ mCls M (i + 100000) = some k ∧ ((14 ≤ k ∧ k ≤ 16) ∧ 0 ≤ n ∧ n.toNatClampNeg ≤ 65536) ∧ q = (pc + 3, ls, .ref (nxt w) :: r, mk1 w k n.toNatClampNeg n.toNatClampNeg) := by
  unfold newR at h; split at h
  · split at h
    · split at h
      · exact ⟨_, _, _, rfl, by assumption, by assumption, (Option.some.inj h).symm⟩
      · cases h
    · cases h
  · cases h
theorem newM_inv {M : Mth} {i pc : Nat} {ls : Lsx} {st : List Value} {w : Wd} {q : Nx} (h : newM M i pc ls st w = some q) : ∃ k n r, st = .int k :: .int n :: r ∧ (mCls M i = some 17 ∧ (0 ≤ n ∧ n.toNatClampNeg ≤ 65536) ∧ (0 ≤ k ∧ k.toNatClampNeg ≤ 65536)) ∧ q = (pc + 4, ls, .ref (nxt w) :: r, mk2 w n.toNatClampNeg k.toNatClampNeg) := by
  unfold newM at h; split at h
  · split at h
    · exact ⟨_, _, _, rfl, by assumption, (Option.some.inj h).symm⟩
    · cases h
  · cases h
theorem newA_inv {M : Mth} {t : ArrayType} {pc : Nat} {ls : Lsx} {st : List Value} {w : Wd} {q : Nx} (h : newA M t pc ls st w = some q) : ∃ n r k, st = .int n :: r ∧ ((t = .int ∧ k = 10) ∨ (t = .long ∧ k = 11) ∨ (t = .boolean ∧ k = 12) ∨ (t = .char ∧ k = 13)) ∧ (mCls M 0 = some 18 ∧ 0 ≤ n ∧ n.toNatClampNeg ≤ 65536) ∧ q = (pc + 2, ls, .ref (nxt w) :: r, mk1 w k n.toNatClampNeg n.toNatClampNeg) := by
  unfold newA at h; split at h
  · split at h
    · split at h
      · exact ⟨_, _, 10, rfl, Or.inl ⟨rfl, rfl⟩, by assumption, (Option.some.inj h).symm⟩
      · cases h
    · split at h
      · exact ⟨_, _, 11, rfl, Or.inr (Or.inl ⟨rfl, rfl⟩), by assumption, (Option.some.inj h).symm⟩
      · cases h
    · split at h
      · exact ⟨_, _, 12, rfl, Or.inr (Or.inr (Or.inl ⟨rfl, rfl⟩)), by assumption, (Option.some.inj h).symm⟩
      · cases h
    · split at h
      · exact ⟨_, _, 13, rfl, Or.inr (Or.inr (Or.inr ⟨rfl, rfl⟩)), by assumption, (Option.some.inj h).symm⟩
      · cases h
    · cases h
  · cases h
section
variable {ex : Bool} {M : Mth} {p : Program} {l : Launch} {e : Env} {R : Room} {s : State} {m : MethodId} {args : Array Value} {below : List Frame} {meth : Method} {c : Code} {D : va_G} {cy : Nat → ClassId} {b0 n0 s0 nL : Nat} {Q : State → Prop} {cc : ByteArray} {own : String} {pc : Nat} {ls : Lsx} {st : List Value} {w : Wd} {r : List Value}
theorem br_if1 (A : Amb ex M p s m args meth c D cy b0 cc own nL) {cd : Jvm.ClassFile.Cond} {off : Int} {x : Int32} (hd : decode cc pc = .ok (.ifCond cd off, 3)) (h0 : 0 ≤ (pc : Int) + off)
    (kk : SW ex p l e R s m args below meth c D cy b0 n0 s0 nL Q (if cmpC cd x 0 then ((pc : Int) + off).toNat else pc + 3) ls r w) : SW ex p l e R s m args below meth c D cy b0 n0 s0 nL Q pc ls (.int x :: r) w := by
  obtain ⟨hx, hb, -⟩ := A
  intro hl hn0 hs0 H locs rl hP hS hL
  have kk := kk hl hn0 hs0 H locs rl hP hS hL
  have ht : (pc : Int) + off = ((((pc : Int) + off).toNat : Nat) : Int) := by omega
  cases cd with
  | eq => exact lv_if_eq (tgt := ((pc : Int) + off).toNat) hx hb hd ht (fun q => by rw [if_pos (by simpa [cmpC] using q)] at kk; exact kk) (fun q => by rw [if_neg (by simpa [cmpC] using q)] at kk; exact kk)
  | ne => exact lv_if_ne (tgt := ((pc : Int) + off).toNat) hx hb hd ht (fun q => by rw [if_pos (by simpa [cmpC] using q)] at kk; exact kk) (fun q => by rw [if_neg (by simpa [cmpC] using q)] at kk; exact kk)
  | lt => exact lv_if_lt (tgt := ((pc : Int) + off).toNat) hx hb hd ht (fun q => by rw [if_pos (by simpa [cmpC] using q)] at kk; exact kk) (fun q => by rw [if_neg (by simpa [cmpC] using q)] at kk; exact kk)
  | ge => exact lv_if_ge (tgt := ((pc : Int) + off).toNat) hx hb hd ht (fun q => by rw [if_pos (by simpa [cmpC] using q)] at kk; exact kk) (fun q => by rw [if_neg (by simpa [cmpC] using q)] at kk; exact kk)
  | gt => exact lv_if_gt (tgt := ((pc : Int) + off).toNat) hx hb hd ht (fun q => by rw [if_pos (by simpa [cmpC] using q)] at kk; exact kk) (fun q => by rw [if_neg (by simpa [cmpC] using q)] at kk; exact kk)
  | le => exact lv_if_le (tgt := ((pc : Int) + off).toNat) hx hb hd ht (fun q => by rw [if_pos (by simpa [cmpC] using q)] at kk; exact kk) (fun q => by rw [if_neg (by simpa [cmpC] using q)] at kk; exact kk)
theorem br_if2 (A : Amb ex M p s m args meth c D cy b0 cc own nL) {cd : Jvm.ClassFile.Cond} {off : Int} {x y : Int32} (hd : decode cc pc = .ok (.if_icmp cd off, 3)) (h0 : 0 ≤ (pc : Int) + off)
    (kk : SW ex p l e R s m args below meth c D cy b0 n0 s0 nL Q (if cmpC cd x y then ((pc : Int) + off).toNat else pc + 3) ls r w) : SW ex p l e R s m args below meth c D cy b0 n0 s0 nL Q pc ls (.int y :: .int x :: r) w := by
  obtain ⟨hx, hb, -⟩ := A
  intro hl hn0 hs0 H locs rl hP hS hL
  have kk := kk hl hn0 hs0 H locs rl hP hS hL
  have ht : (pc : Int) + off = ((((pc : Int) + off).toNat : Nat) : Int) := by omega
  cases cd with
  | eq => exact lv_icmp_eq (tgt := ((pc : Int) + off).toNat) hx hb hd ht (fun q => by rw [if_pos (by simpa [cmpC] using q)] at kk; exact kk) (fun q => by rw [if_neg (by simpa [cmpC] using q)] at kk; exact kk)
  | ne => exact lv_icmp_ne (tgt := ((pc : Int) + off).toNat) hx hb hd ht (fun q => by rw [if_pos (by simpa [cmpC] using q)] at kk; exact kk) (fun q => by rw [if_neg (by simpa [cmpC] using q)] at kk; exact kk)
  | lt => exact lv_icmp_lt (tgt := ((pc : Int) + off).toNat) hx hb hd ht (fun q => by rw [if_pos (by simpa [cmpC] using q)] at kk; exact kk) (fun q => by rw [if_neg (by simpa [cmpC] using q)] at kk; exact kk)
  | ge => exact lv_icmp_ge (tgt := ((pc : Int) + off).toNat) hx hb hd ht (fun q => by rw [if_pos (by simpa [cmpC] using q)] at kk; exact kk) (fun q => by rw [if_neg (by simpa [cmpC] using q)] at kk; exact kk)
  | gt => exact lv_icmp_gt (tgt := ((pc : Int) + off).toNat) hx hb hd ht (fun q => by rw [if_pos (by simpa [cmpC] using q)] at kk; exact kk) (fun q => by rw [if_neg (by simpa [cmpC] using q)] at kk; exact kk)
  | le => exact lv_icmp_le (tgt := ((pc : Int) + off).toNat) hx hb hd ht (fun q => by rw [if_pos (by simpa [cmpC] using q)] at kk; exact kk) (fun q => by rw [if_neg (by simpa [cmpC] using q)] at kk; exact kk)
end
