section
variable {ex : Bool} {M : Mth} {p : Program} {l : Launch} {e : Env} {R : Room} {s : State} {m : MethodId} {args : Array Value} {below : List Frame} {meth : Method} {c : Code} {D : va_G} {cy : Nat → ClassId} {b0 n0 s0 nL : Nat} {Q : State → Prop} {cc : ByteArray} {own : String} {pc : Nat} {ls : Lsx} {st : List Value} {w : Wd} {r : List Value}
theorem st_newm (A : Amb ex M p s m args meth c D cy b0 cc own nL) {i : Nat} {k n : Int32} (hd : decode cc pc = .ok (.multianewarray i 2, 4)) (hm : mCls M i = some 17) (hn : 0 ≤ n ∧ n.toNatClampNeg ≤ 65536) (hk : 0 ≤ k ∧ k.toNatClampNeg ≤ 65536)
    (hc1 : nxt (mk2 w n.toNatClampNeg k.toNatClampNeg) - n0 ≤ R.cells) (hc2 : slt (mk2 w n.toNatClampNeg k.toNatClampNeg) - s0 ≤ R.slots)
    (kk : SW ex p l e R s m args below meth c D cy b0 n0 s0 nL Q (pc + 4) ls (.ref (nxt w) :: r) (mk2 w n.toNatClampNeg k.toNatClampNeg)) : SW ex p l e R s m args below meth c D cy b0 n0 s0 nL Q pc ls (.int k :: .int n :: r) w := by
  sorry
end
