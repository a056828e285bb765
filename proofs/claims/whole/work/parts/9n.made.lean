
theorem rdI_mk1 {w : Wd} {k l s b j : Nat} : rdI (mk1 w k l s) b j = if b = nxt w then 0 else rdI w b j := rfl
theorem rdJ_mk1 {w : Wd} {k l s b j : Nat} : rdJ (mk1 w k l s) b j = if b = nxt w then 0 else rdJ w b j := rfl
theorem rdR_mk1 {w : Wd} {k l s b j : Nat} : rdR (mk1 w k l s) b j = if b = nxt w then none else rdR w b j := rfl
theorem shp_mk1 {w : Wd} {k l s b : Nat} : shp (mk1 w k l s) b = if b = nxt w then (k, l) else shp w b := rfl
theorem nxt_mk1 {w : Wd} {k l s : Nat} : nxt (mk1 w k l s) = nxt w + 1 := rfl
theorem slt_mk1 {w : Wd} {k l s : Nat} : slt (mk1 w k l s) = slt w + s := rfl
theorem nxt_wrI {w : Wd} {a k : Nat} {v : Int32} : nxt (wrI w a k v) = nxt w := rfl
theorem nxt_wrJ {w : Wd} {a k : Nat} {v : Int64} : nxt (wrJ w a k v) = nxt w := rfl
theorem nxt_wrR {w : Wd} {a k : Nat} {v : Option Nat} : nxt (wrR w a k v) = nxt w := rfl
theorem slt_wrI {w : Wd} {a k : Nat} {v : Int32} : slt (wrI w a k v) = slt w := rfl
theorem slt_wrJ {w : Wd} {a k : Nat} {v : Int64} : slt (wrJ w a k v) = slt w := rfl
theorem slt_wrR {w : Wd} {a k : Nat} {v : Option Nat} : slt (wrR w a k v) = slt w := rfl
theorem rdI_mk2 {w : Wd} {n k b j : Nat} : rdI (mk2 w n k) b j = if nxt w ≤ b then 0 else rdI w b j := rfl
theorem rdJ_mk2 {w : Wd} {n k b j : Nat} : rdJ (mk2 w n k) b j = if nxt w ≤ b then 0 else rdJ w b j := rfl
theorem rdR_mk2 {w : Wd} {n k b j : Nat} : rdR (mk2 w n k) b j = if b = nxt w then (if j < n then some (nxt w + 1 + j) else none) else if nxt w ≤ b then none else rdR w b j := rfl
theorem shp_mk2 {w : Wd} {n k b : Nat} : shp (mk2 w n k) b = if b = nxt w then (17, n) else if nxt w < b ∧ b < nxt w + 1 + n then (11, k) else shp w b := rfl
theorem nxt_mk2 {w : Wd} {n k : Nat} : nxt (mk2 w n k) = nxt w + 1 + n := rfl
theorem slt_mk2 {w : Wd} {n k : Nat} : slt (mk2 w n k) = slt w + (n + n * k) := rfl
/-- the worlds hold the same at cell c -/
def Sc (w u : Wd) (c : Nat) : Prop := (∀ j, rdI u c j = rdI w c j) ∧ (∀ j, rdJ u c j = rdJ w c j) ∧ (∀ j, rdR u c j = rdR w c j) ∧ shp u c = shp w c
/-- below a nothing changes; n cells and k slots more -/
def Ea (a n k : Nat) (w u : Wd) : Prop := (∀ c, c < a → Sc w u c) ∧ nxt u = nxt w + n ∧ slt u = slt w + k
theorem Sc.rfl' {w : Wd} {c : Nat} : Sc w w c := ⟨fun _ => rfl, fun _ => rfl, fun _ => rfl, rfl⟩
theorem Sc.tr {w u v : Wd} {c : Nat} (h : Sc w u c) (g : Sc u v c) : Sc w v c := ⟨fun j => (g.1 j).trans (h.1 j), fun j => (g.2.1 j).trans (h.2.1 j), fun j => (g.2.2.1 j).trans (h.2.2.1 j), g.2.2.2.trans h.2.2.2⟩
theorem Ea.refl {a : Nat} {w : Wd} : Ea a 0 0 w w := ⟨fun _ _ => Sc.rfl', rfl, rfl⟩
theorem Ea.tr {a a' n k n' k' : Nat} {w u v : Wd} (h : Ea a n k w u) (g : Ea a' n' k' u v) (ha : a ≤ a') : Ea a (n + n') (k + k') w v :=
  ⟨fun c hc => (h.1 c hc).tr (g.1 c (by omega)), by rw [g.2.1, h.2.1]; omega, by rw [g.2.2, h.2.2]; omega⟩
theorem Sc.wI {w : Wd} {a k c : Nat} {v : Int32} (h : c ≠ a) : Sc w (wrI w a k v) c := ⟨fun _ => if_neg (fun q => h q.1), fun _ => rfl, fun _ => rfl, rfl⟩
theorem Sc.wJ {w : Wd} {a k c : Nat} {v : Int64} (h : c ≠ a) : Sc w (wrJ w a k v) c := ⟨fun _ => rfl, fun _ => if_neg (fun q => h q.1), fun _ => rfl, rfl⟩
theorem Sc.wR {w : Wd} {a k c : Nat} {v : Option Nat} (h : c ≠ a) : Sc w (wrR w a k v) c := ⟨fun _ => rfl, fun _ => rfl, fun _ => if_neg (fun q => h q.1), rfl⟩
theorem Sc.m1 {w : Wd} {k l s c : Nat} (h : c < nxt w) : Sc w (mk1 w k l s) c := ⟨fun _ => if_neg (by omega), fun _ => if_neg (by omega), fun _ => if_neg (by omega), if_neg (by omega)⟩
theorem Sc.m2 {w : Wd} {n k c : Nat} (h : c < nxt w) : Sc w (mk2 w n k) c := ⟨fun _ => if_neg (by omega), fun _ => if_neg (by omega), fun _ => by rw [rdR_mk2, if_neg (by omega), if_neg (by omega)], by rw [shp_mk2, if_neg (by omega), if_neg (by omega)]⟩
theorem Ea.wI {a n k c j : Nat} {w u : Wd} {v : Int32} (h : Ea a n k w u) (hc : a ≤ c) : Ea a n k w (wrI u c j v) := ⟨fun d hd => (h.1 d hd).tr (.wI (by omega)), h.2.1, h.2.2⟩
theorem Ea.wJ {a n k c j : Nat} {w u : Wd} {v : Int64} (h : Ea a n k w u) (hc : a ≤ c) : Ea a n k w (wrJ u c j v) := ⟨fun d hd => (h.1 d hd).tr (.wJ (by omega)), h.2.1, h.2.2⟩
theorem Ea.wR {a n k c j : Nat} {w u : Wd} {v : Option Nat} (h : Ea a n k w u) (hc : a ≤ c) : Ea a n k w (wrR u c j v) := ⟨fun d hd => (h.1 d hd).tr (.wR (by omega)), h.2.1, h.2.2⟩
theorem Ea.m1 {a n k K l s : Nat} {w u : Wd} (h : Ea a n k w u) (hc : a ≤ nxt w) : Ea a (n + 1) (k + s) w (mk1 u K l s) :=
  ⟨fun d hd => (h.1 d hd).tr (.m1 (by have := h.2.1; omega)), by rw [nxt_mk1, h.2.1]; rfl, by rw [slt_mk1, h.2.2]; omega⟩
theorem Ea.m2 {a n k N K : Nat} {w u : Wd} (h : Ea a n k w u) (hc : a ≤ nxt w) : Ea a (n + (1 + N)) (k + (N + N * K)) w (mk2 u N K) :=
  ⟨fun d hd => (h.1 d hd).tr (.m2 (by have := h.2.1; omega)), by rw [nxt_mk2, h.2.1]; omega, by rw [slt_mk2, h.2.2]; omega⟩
theorem obj_eq {a : Nat} {w : Wd} : objFn [.ref a] w = some (none, w) := rfl
theorem s_X0_init {a : Nat} {w : Wd} (hs : shp w a = (0, 0)) : ∃ u, fX0_init [.ref a] w = some (none, u) ∧ Ea a 0 0 w u ∧ frIs u a 0 1 := by
  have hh : wp mX0_init 0 [some (.ref a)] [] w (fun r u => r = none ∧ Ea a 0 0 w u ∧ frIs u a 0 1) := by
    simp only [eX0_init_0, eX0_init_1, eX0_init_4, eX0_init_5, eX0_init_6, eX0_init_9, eX0_init_10, eX0_init_11, eX0_init_14, cont_some, tl_some, tl_none, csum_nil, csum_i, csum_r, csum_j, isc2_i, isc2_r, isc2_n, va_rf_s, vfn_ite, true_and, and_true, true_or, or_true, eq_self, Bool.false_eq_true, not_false_eq_true, not_true_eq_false, if_true, if_false, Nat.reduceAdd, Nat.reduceLeDiff, reduceIte, obj_eq, hs, shp_wrJ]
    refine ⟨(Ea.refl.wJ (Nat.le_refl _)).wJ (Nat.le_refl _), ?_⟩
    simp only [frIs, shp_wrJ, rdJ_wrJ, hs]
    simp
    exact ⟨rfl, rfl⟩
  obtain ⟨r, u, h1, rfl, h2, h3⟩ := sem_wp (nL := 1) (as := [.ref a]) (Nat.le_of_ble_eq_true rfl) hh
  exact ⟨u, h1, h2, h3⟩
