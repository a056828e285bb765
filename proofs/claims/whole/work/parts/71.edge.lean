/-! edge, both sides -/
theorem lo_medge {w : Wd} {o n f t : Nat} {U V : Nat → Int32} {a1 a2 a3 a4 a11 : Option Value} {Q : Option Value → Wd → Prop} (hm : isMd w o) (hv : mvIs w o n U V) (hz : inZ n (uZ U) (uZ V)) (hf : f < n) (ht : t < n) : ∀ (d c b : Nat) (a9 a10 : Option Value), c + d = n → b < n →
    (∀ a8 a9 a10, wp mX9_edge 161 [some (.ref o), a1, a2, a3, a4, some (.int (nI f)), some (.int (nI t)), some (.int (nI (opF U V f t d c b))), a8, a9, a10, a11] [] w Q) →
    wp mX9_edge 100 [some (.ref o), a1, a2, a3, a4, some (.int (nI f)), some (.int (nI t)), some (.int (nI b)), some (.int (nI c)), a9, a10, a11] [] w Q := by
  have h10 := hv.2.1
  intro d
  induction d with
  | zero =>
    intro c b a9 a10 hc hb hQ
    have e : c = n := by omega
    subst e
    have l : ¬ nI c < nI c := Int32.lt_irrefl
    simp only [eX9_edge_100, eX9_edge_102, eX9_edge_103, eX9_edge_106, cont_some, tl_some, tl_none, csum_nil, csum_i, csum_r, csum_j, isc2_i, isc2_r, isc2_n, va_rf_s, vfn_ite, true_and, and_true, true_or, or_true, eq_self, Bool.false_eq_true, not_false_eq_true, not_true_eq_false, if_true, if_false, Nat.reduceAdd, Nat.reduceLeDiff, reduceIte, hm.1, hm.2.1, hm.2.2.1, hm.2.2.2.1, hm.2.2.2.2.1, hm.2.2.2.2.2.1, hm.2.2.2.2.2.2.1, hm.2.2.2.2.2.2.2.1, hm.2.2.2.2.2.2.2.2.1, hm.2.2.2.2.2.2.2.2.2.1, hm.2.2.2.2.2.2.2.2.2.2.1, hm.2.2.2.2.2.2.2.2.2.2.2.1, hm.2.2.2.2.2.2.2.2.2.2.2.2.1, hm.2.2.2.2.2.2.2.2.2.2.2.2.2.1, hm.2.2.2.2.2.2.2.2.2.2.2.2.2.2.1, hm.2.2.2.2.2.2.2.2.2.2.2.2.2.2.2.1, hm.2.2.2.2.2.2.2.2.2.2.2.2.2.2.2.2.1, hm.2.2.2.2.2.2.2.2.2.2.2.2.2.2.2.2.2.1, hm.2.2.2.2.2.2.2.2.2.2.2.2.2.2.2.2.2.2.1, hm.2.2.2.2.2.2.2.2.2.2.2.2.2.2.2.2.2.2.2.1, hm.2.2.2.2.2.2.2.2.2.2.2.2.2.2.2.2.2.2.2.2.1, hm.2.2.2.2.2.2.2.2.2.2.2.2.2.2.2.2.2.2.2.2.2.1, hm.2.2.2.2.2.2.2.2.2.2.2.2.2.2.2.2.2.2.2.2.2.2.1, hm.2.2.2.2.2.2.2.2.2.2.2.2.2.2.2.2.2.2.2.2.2.2.2.1, hm.2.2.2.2.2.2.2.2.2.2.2.2.2.2.2.2.2.2.2.2.2.2.2.2, hv.1, l]
    exact hQ _ _ _
  | succ d ih =>
    intro c b a9 a10 hc hb hQ
    have l : nI c < nI n := nI_lt (by omega) (by omega)
    have e1 := m_turn hm hv hf ht (show c < n by omega)
    have e2 := m_turn hm hv hf ht hb
    have b1 := crZ_b hz hf ht (show c < n by omega)
    have b2 := crZ_b hz hf ht hb
    have m1 := mulB b1 b1
    have m2 := mulB b2 b2
    rw [crs_I] at e1 e2
    have eb : iI (crZ (uZ U) (uZ V) f t b * crZ (uZ U) (uZ V) f t b) < iI (crZ (uZ U) (uZ V) f t c * crZ (uZ U) (uZ V) f t c) ↔ crZ (uZ U) (uZ V) f t b * crZ (uZ U) (uZ V) f t b < crZ (uZ U) (uZ V) f t c * crZ (uZ U) (uZ V) f t c := iI_lt (by omega) (by omega)
    simp only [eX9_edge_100, eX9_edge_102, eX9_edge_103, eX9_edge_106, cont_some, tl_some, tl_none, csum_nil, csum_i, csum_r, csum_j, isc2_i, isc2_r, isc2_n, va_rf_s, vfn_ite, true_and, and_true, true_or, or_true, eq_self, Bool.false_eq_true, not_false_eq_true, not_true_eq_false, if_true, if_false, Nat.reduceAdd, Nat.reduceLeDiff, reduceIte, hm.1, hm.2.1, hm.2.2.1, hm.2.2.2.1, hm.2.2.2.2.1, hm.2.2.2.2.2.1, hm.2.2.2.2.2.2.1, hm.2.2.2.2.2.2.2.1, hm.2.2.2.2.2.2.2.2.1, hm.2.2.2.2.2.2.2.2.2.1, hm.2.2.2.2.2.2.2.2.2.2.1, hm.2.2.2.2.2.2.2.2.2.2.2.1, hm.2.2.2.2.2.2.2.2.2.2.2.2.1, hm.2.2.2.2.2.2.2.2.2.2.2.2.2.1, hm.2.2.2.2.2.2.2.2.2.2.2.2.2.2.1, hm.2.2.2.2.2.2.2.2.2.2.2.2.2.2.2.1, hm.2.2.2.2.2.2.2.2.2.2.2.2.2.2.2.2.1, hm.2.2.2.2.2.2.2.2.2.2.2.2.2.2.2.2.2.1, hm.2.2.2.2.2.2.2.2.2.2.2.2.2.2.2.2.2.2.1, hm.2.2.2.2.2.2.2.2.2.2.2.2.2.2.2.2.2.2.2.1, hm.2.2.2.2.2.2.2.2.2.2.2.2.2.2.2.2.2.2.2.2.1, hm.2.2.2.2.2.2.2.2.2.2.2.2.2.2.2.2.2.2.2.2.2.1, hm.2.2.2.2.2.2.2.2.2.2.2.2.2.2.2.2.2.2.2.2.2.2.1, hm.2.2.2.2.2.2.2.2.2.2.2.2.2.2.2.2.2.2.2.2.2.2.2.1, hm.2.2.2.2.2.2.2.2.2.2.2.2.2.2.2.2.2.2.2.2.2.2.2.2, hv.1, l]
    simp only [eX9_edge_109, eX9_edge_110, eX9_edge_112, eX9_edge_114, eX9_edge_116, eX9_edge_119, eX9_edge_121, eX9_edge_122, eX9_edge_124, eX9_edge_126, eX9_edge_128, eX9_edge_131, eX9_edge_133, eX9_edge_135, eX9_edge_137, eX9_edge_138, eX9_edge_140, eX9_edge_142, eX9_edge_143, cont_some, tl_some, tl_none, csum_nil, csum_i, csum_r, csum_j, isc2_i, isc2_r, isc2_n, va_rf_s, vfn_ite, true_and, and_true, true_or, or_true, eq_self, Bool.false_eq_true, not_false_eq_true, not_true_eq_false, if_true, if_false, Nat.reduceAdd, Nat.reduceLeDiff, reduceIte, hm.1, hm.2.1, hm.2.2.1, hm.2.2.2.1, hm.2.2.2.2.1, hm.2.2.2.2.2.1, hm.2.2.2.2.2.2.1, hm.2.2.2.2.2.2.2.1, hm.2.2.2.2.2.2.2.2.1, hm.2.2.2.2.2.2.2.2.2.1, hm.2.2.2.2.2.2.2.2.2.2.1, hm.2.2.2.2.2.2.2.2.2.2.2.1, hm.2.2.2.2.2.2.2.2.2.2.2.2.1, hm.2.2.2.2.2.2.2.2.2.2.2.2.2.1, hm.2.2.2.2.2.2.2.2.2.2.2.2.2.2.1, hm.2.2.2.2.2.2.2.2.2.2.2.2.2.2.2.1, hm.2.2.2.2.2.2.2.2.2.2.2.2.2.2.2.2.1, hm.2.2.2.2.2.2.2.2.2.2.2.2.2.2.2.2.2.1, hm.2.2.2.2.2.2.2.2.2.2.2.2.2.2.2.2.2.2.1, hm.2.2.2.2.2.2.2.2.2.2.2.2.2.2.2.2.2.2.2.1, hm.2.2.2.2.2.2.2.2.2.2.2.2.2.2.2.2.2.2.2.2.1, hm.2.2.2.2.2.2.2.2.2.2.2.2.2.2.2.2.2.2.2.2.2.1, hm.2.2.2.2.2.2.2.2.2.2.2.2.2.2.2.2.2.2.2.2.2.2.1, hm.2.2.2.2.2.2.2.2.2.2.2.2.2.2.2.2.2.2.2.2.2.2.2.1, hm.2.2.2.2.2.2.2.2.2.2.2.2.2.2.2.2.2.2.2.2.2.2.2.2, e1, e2, iI_mul]
    have hQ' : ∀ a8 a9 a10, wp mX9_edge 161 [some (.ref o), a1, a2, a3, a4, some (.int (nI f)), some (.int (nI t)), some (.int (nI (opF U V f t d (c + 1) (opS U V f t c b)))), a8, a9, a10, a11] [] w Q := hQ
    have go := fun a9 a10 => ih (c + 1) (opS U V f t c b) a9 a10 (by omega) (by unfold opS; split <;> omega) hQ'
    by_cases q : crZ (uZ U) (uZ V) f t b * crZ (uZ U) (uZ V) f t b < crZ (uZ U) (uZ V) f t c * crZ (uZ U) (uZ V) f t c
    · have q' := eb.mpr q
      have es : opS U V f t c b = c := if_pos q
      rw [es] at go
      simp only [eX9_edge_146, eX9_edge_148, eX9_edge_151, eX9_edge_153, eX9_edge_155, cont_some, tl_some, tl_none, csum_nil, csum_i, csum_r, csum_j, isc2_i, isc2_r, isc2_n, va_rf_s, vfn_ite, true_and, and_true, true_or, or_true, eq_self, Bool.false_eq_true, not_false_eq_true, not_true_eq_false, if_true, if_false, Nat.reduceAdd, Nat.reduceLeDiff, reduceIte, q', nI_1]
      rw [eX9_edge_158]
      exact go _ _
    · have q' : ¬ _ := fun z => q (eb.mp z)
      have es : opS U V f t c b = b := if_neg q
      rw [es] at go
      simp only [eX9_edge_151, eX9_edge_153, eX9_edge_155, cont_some, tl_some, tl_none, csum_nil, csum_i, csum_r, csum_j, isc2_i, isc2_r, isc2_n, va_rf_s, vfn_ite, true_and, and_true, true_or, or_true, eq_self, Bool.false_eq_true, not_false_eq_true, not_true_eq_false, if_true, if_false, Nat.reduceAdd, Nat.reduceLeDiff, reduceIte, q', nI_1]
      rw [eX9_edge_158]
      exact go _ _
/-- the answer of an edge -/
def edA (U V : Nat → Int32) (n f t : Nat) (x : Int32) : Int32 :=
  if x = 2 then nI (opF U V f t (n - 1) 1 0) else
    (lN (if x = 0 then (crZ (uZ U) (uZ V) f t (opF U V f t (n - 1) 1 0)).natAbs * (crZ (uZ U) (uZ V) f t (opF U V f t (n - 1) 1 0)).natAbs / Nat.gcd ((crZ (uZ U) (uZ V) f t (opF U V f t (n - 1) 1 0)).natAbs * (crZ (uZ U) (uZ V) f t (opF U V f t (n - 1) 1 0)).natAbs) (dsZ (uZ U) (uZ V) f t).natAbs
      else (dsZ (uZ U) (uZ V) f t).natAbs / Nat.gcd ((crZ (uZ U) (uZ V) f t (opF U V f t (n - 1) 1 0)).natAbs * (crZ (uZ U) (uZ V) f t (opF U V f t (n - 1) 1 0)).natAbs) (dsZ (uZ U) (uZ V) f t).natAbs)).toInt32
theorem jJ_sq {a : Int} : jJ (a * a) = lN (a.natAbs * a.natAbs) := by
  rw [lN_jJ, Int.natAbs_mul_self]
theorem i2l_cr {U V : Nat → Int32} {a b c : Nat} (h : (crZ (uZ U) (uZ V) a b c).natAbs ≤ 1800) : (crs U V a b c).toInt64 * (crs U V a b c).toInt64 = lN ((crZ (uZ U) (uZ V) a b c).natAbs * (crZ (uZ U) (uZ V) a b c).natAbs) := by
  rw [crs_I, iI_i2l (by omega), jJ_mul, jJ_sq]
theorem i2l_ds {U V : Nat → Int32} {a b : Nat} (h : dsZ (uZ U) (uZ V) a b ≤ 1800) : (dst U V a b).toInt64 = lN (dsZ (uZ U) (uZ V) a b).natAbs := by
  have h2 := dsZ_nn (x := uZ U) (y := uZ V) (a := a) (b := b)
  rw [dst_I, iI_i2l (by omega), lN_jJ]
  congr 1; omega
theorem s_commonN {a b : Nat} {w : Wd} (ha : a < 2 ^ 62) (hb : b < 2 ^ 62) : fX9_common [.long (lN a), .long (lN b)] w = some (some (.long (lN (Nat.gcd a b))), w) := by
  rw [lN_jJ a, lN_jJ b, s_common ⟨by omega, by omega⟩ (by omega) ⟨by omega, by omega⟩ (by omega)]
  rfl
/-- the next one of an edge -/
theorem hu_edge {n L k : Nat} {U V : Nat → Int32} {O : Nat → Nat} (hz : inZ n (uZ U) (uZ V)) (hu : huL U V n O L) (h2 : 2 ≤ L) (hk : k < L) : O k < n ∧ O (k + 1) < n ∧ dsZ (uZ U) (uZ V) (O k) (O (k + 1)) ≠ 0 ∧ (k + 1 = L → O (k + 1) = O 0) := by
  rcases hu with ⟨-, h⟩ | ⟨f, h1, h2', rfl, h4⟩
  · omega
  · have hc := orb_co hz h2' k
    have hsp := nx_spec hz hc.1 hc.2.1
    refine ⟨hc.1, (orb_co hz h2' (k + 1)).1, ?_, fun e => by rw [e]; exact h4.2.2.1⟩
    show dsZ _ _ _ (gtD _ (nxF U V (orb U V n f k) n 0 none)) ≠ 0
    cases e : nxF U V (orb U V n f k) n 0 none with
    | none =>
      rw [e] at hsp
      exfalso
      have all : ∀ i j, coZ n (uZ U) (uZ V) i → coZ n (uZ U) (uZ V) j → i = j := fun i j hi hj => by
        have a1 := hsp i hi.1
        have a2 := hsp j hj.1
        refine fi_eq hi.2.2 hj.2.2 ?_
        obtain ⟨p1, p2⟩ := dsZ_0.mp a1
        obtain ⟨p3, p4⟩ := dsZ_0.mp a2
        exact dsZ_0.mpr ⟨p3.trans p1.symm, p4.trans p2.symm⟩
      exact h4.2.2.2 1 (by omega) (by omega) (all _ _ (orb_co hz h2' 1) h2')
    | some b => rw [e] at hsp; exact hsp.2.1
def edL (L : Nat) (k : Int32) : Prop := (L = 2 ∧ k = 0) ∨ (3 ≤ L ∧ k < nI L)
theorem s_edges {w : Wd} {v L : Nat} (h : isV w v) (hL : rdI w v 4 = nI L) (h10 : L ≤ 10) : fX6_edges [.ref v] w = some (some (.int (nI (if L < 2 then 0 else if L = 2 then 1 else L))), w) := by
  refine sem_eq (Nat.le_of_ble_eq_true rfl) ?_
  show wp mX6_edges 0 [some (.ref v)] [] _ _
  by_cases q : L < 2
  · have q' : nI L < 2 := nI_lt (b := 2) q (by omega)
    simp only [eX6_edges_0, eX6_edges_1, eX6_edges_4, eX6_edges_5, eX6_edges_8, eX6_edges_9, eX6_edges_10, eX6_edges_11, eX6_edges_14, eX6_edges_15, eX6_edges_18, eX6_edges_19, eX6_edges_22, eX6_edges_23, eX6_edges_26, cont_some, tl_some, tl_none, csum_nil, csum_i, csum_r, csum_j, isc2_i, isc2_r, isc2_n, va_rf_s, vfn_ite, true_and, and_true, true_or, or_true, eq_self, Bool.false_eq_true, not_false_eq_true, not_true_eq_false, if_true, if_false, Nat.reduceAdd, Nat.reduceLeDiff, reduceIte, h.1, hL, q', q]
    rfl
  · have q' : ¬ nI L < 2 := nI_nlt (b := 2) (by omega) (by omega)
    by_cases q2 : L = 2
    · subst q2
      have e : nI 2 = 2 := rfl
      simp only [eX6_edges_0, eX6_edges_1, eX6_edges_4, eX6_edges_5, eX6_edges_8, eX6_edges_9, eX6_edges_10, eX6_edges_11, eX6_edges_14, eX6_edges_15, eX6_edges_18, eX6_edges_19, eX6_edges_22, eX6_edges_23, eX6_edges_26, cont_some, tl_some, tl_none, csum_nil, csum_i, csum_r, csum_j, isc2_i, isc2_r, isc2_n, va_rf_s, vfn_ite, true_and, and_true, true_or, or_true, eq_self, Bool.false_eq_true, not_false_eq_true, not_true_eq_false, if_true, if_false, Nat.reduceAdd, Nat.reduceLeDiff, reduceIte, h.1, hL, q', q, e]
      rfl
    · have e : ¬ nI L = 2 := fun z => q2 ((nI_eq (b := 2) (by omega) (by omega)).mp z)
      simp only [eX6_edges_0, eX6_edges_1, eX6_edges_4, eX6_edges_5, eX6_edges_8, eX6_edges_9, eX6_edges_10, eX6_edges_11, eX6_edges_14, eX6_edges_15, eX6_edges_18, eX6_edges_19, eX6_edges_22, eX6_edges_23, eX6_edges_26, cont_some, tl_some, tl_none, csum_nil, csum_i, csum_r, csum_j, isc2_i, isc2_r, isc2_n, va_rf_s, vfn_ite, true_and, and_true, true_or, or_true, eq_self, Bool.false_eq_true, not_false_eq_true, not_true_eq_false, if_true, if_false, Nat.reduceAdd, Nat.reduceLeDiff, reduceIte, h.1, hL, q', q, q2, e]
