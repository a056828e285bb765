/-! film -/
def filV (U V : Nat → Int32) (x : Nat) : Int64 := if x % 2 = 0 then (U (x / 2)).toInt64 else (V (x / 2)).toInt64
def filS (h : Sht) (k p t : Nat) (U V : Nat → Int32) : Sht := (h.1, fun k' i => if k' = k ∧ p ≤ i ∧ i < p + 2 * t then filV U V (i - p) else h.2 k' i)
theorem filV_0 {U V : Nat → Int32} {t x : Nat} (h : x = 2 * t) : filV U V x = (U t).toInt64 := by
  subst h
  unfold filV
  rw [if_pos (by omega)]
  congr 2
  omega
theorem filV_1 {U V : Nat → Int32} {t x : Nat} (h : x = 2 * t + 1) : filV U V x = (V t).toInt64 := by
  subst h
  unfold filV
  rw [if_neg (by omega)]
  congr 2
  omega
theorem filS_s {h : Sht} {k p t k' i : Nat} {U V : Nat → Int32} : (filS h k p (t + 1) U V).2 k' i = if k' = k ∧ i = p + 2 * t + 1 then (V t).toInt64 else if k' = k ∧ i = p + 2 * t then (U t).toInt64 else (filS h k p t U V).2 k' i := by
  simp only [filS]
  by_cases q1 : k' = k ∧ i = p + 2 * t + 1
  · rw [if_pos q1, if_pos (by omega), filV_1 (t := t) (by omega)]
  · rw [if_neg q1]
    by_cases q2 : k' = k ∧ i = p + 2 * t
    · rw [if_pos q2, if_pos (by omega), filV_0 (t := t) (by omega)]
    · rw [if_neg q2]
      by_cases q3 : k' = k ∧ p ≤ i ∧ i < p + 2 * t
      · rw [if_pos q3, if_pos (by omega)]
      · rw [if_neg q3, if_neg (by omega)]
theorem filS_0 {h : Sht} {k p : Nat} {U V : Nat → Int32} : filS h k p 0 U V = h := by
  unfold filS
  refine Prod.ext rfl ?_
  funext k' i
  exact if_neg (by omega)
def rFilm (S : Sst) (h : Sht) (a s l i x : Int32) (h' : Sht) : Prop := (¬ (0 ≤ a ∧ a ≤ 2) ∧ x = -1 ∧ h' = h) ∨ ((0 ≤ a ∧ a ≤ 2) ∧ ((∃ y, refu h s l i (nI (2 * S.1)) y ∧ y ≠ 0 ∧ x = y ∧ h' = h) ∨ (refu h s l i (nI (2 * S.1)) 0 ∧ x = nI (2 * S.1) ∧ h' = filS h s.toNatClampNeg i.toNatClampNeg S.1 (uOf S a.toNatClampNeg) (vOf S a.toNatClampNeg))))
theorem rFilm_fun {S : Sst} {h h1 h2 : Sht} {a s l i x y : Int32} (p : rFilm S h a s l i x h1) (c : rFilm S h a s l i y h2) : x = y ∧ h1 = h2 := by
  rcases p with ⟨n, rfl, rfl⟩ | ⟨n, p⟩ <;> rcases c with ⟨n', rfl, rfl⟩ | ⟨n', c⟩
  · exact ⟨rfl, rfl⟩
  · exact absurd n' n
  · exact absurd n n'
  · rcases p with ⟨z, a1, a2, rfl, rfl⟩ | ⟨a1, rfl, rfl⟩ <;> rcases c with ⟨z', c1, c2, rfl, rfl⟩ | ⟨c1, rfl, rfl⟩
    · exact ⟨refu_fun a1 c1, rfl⟩
    · exact absurd (refu_fun a1 c1) a2
    · exact absurd (refu_fun c1 a1) c2
    · exact ⟨rfl, rfl⟩
theorem nI_2m (n : Nat) : (2 : Int32) * nI n = nI (2 * n) := pk_mul 2 n
theorem CSk.fil {w : Wd} {r k p t k' : Nat} {h : Sht} {U V : Nat → Int32} (g : CSk w r k' (filS h k p t U V)) : CSk (wrJ (wrJ w (r + 2 + k) (p + 2 * t) (U t).toInt64) (r + 2 + k) (p + 2 * t + 1) (V t).toInt64) r k' (filS h k p (t + 1) U V) := by
  refine ⟨g.1, fun i hi => ?_⟩
  rw [filS_s, rdJ_wrJ, rdJ_wrJ]
  by_cases q1 : k' = k ∧ i = p + 2 * t + 1
  · rw [if_pos q1, if_pos (by omega)]
  · rw [if_neg q1, if_neg (by omega)]
    by_cases q2 : k' = k ∧ i = p + 2 * t
    · rw [if_pos q2, if_pos (by omega)]
    · rw [if_neg q2, if_neg (by omega)]
      exact g.2 i hi
theorem lo_film {w0 : Wd} {b k p n : Nat} {h : Sht} {U V : Nat → Int32} {a1 a3 a6 : Option Value} (h6 : isc2 (some a6) = false) (hk : k < 4) (hp : p + 2 * n ≤ 24) : ∀ (d t : Nat) (w : Wd), t + d = n → isCl w b → vIs w (b + 33) n U V → CS w (b + 44) (filS h k p t U V) → Fr (b + 44) (b + 52) w0 w →
    wp mX8_film 58 [some (.ref b), a1, some (.int (nI k)), a3, some (.int (nI p)), some (.int (nI (2 * n))), a6, some (.int (nI t))] [] w (fun r u => r = some (.int (nI (2 * n))) ∧ CS u (b + 44) (filS h k p n U V) ∧ Fr (b + 44) (b + 52) w0 u) := by
  have m17 : 17 ∈ [14, 15, 16, 17] := by decide
  intro d
  induction d with
  | zero =>
    intro t w ht hc hv hS hF
    have e : t = n := by omega
    subst e
    have h1 : ¬ nI t < nI t := Int32.lt_irrefl
    simp only [eX8_film_58, eX8_film_60, eX8_film_61, eX8_film_64, eX8_film_67, eX8_film_134, eX8_film_136, cont_some, tl_some, tl_none, csum_nil, csum_i, csum_r, csum_j, isc2_i, isc2_r, isc2_n, va_rf_s, vfn_ite, true_and, and_true, true_or, or_true, eq_self, Bool.false_eq_true, not_false_eq_true, not_true_eq_false, if_true, if_false, Nat.reduceAdd, Nat.reduceLeDiff, reduceIte, hc.1, hc.2.1, hc.2.2.1, hc.2.2.2.1, hc.2.2.2.2.1, hc.2.2.2.2.2.1, hc.2.2.2.2.2.2.1, hc.2.2.2.2.2.2.2.1, hc.2.2.2.2.2.2.2.2.1, hc.2.2.2.2.2.2.2.2.2.1, hc.2.2.2.2.2.2.2.2.2.2, hv.1.1, hv.2.1, h1]
    exact ⟨hS, hF⟩
  | succ d ih =>
    intro t w ht hc hv hS hF
    have h10 := hv.2.2.1
    have h1 : nI t < nI n := nI_lt (by omega) (by omega)
    have hr := hS.1
    obtain ⟨g1, g2⟩ := hr.2.2.2.2.2.2.2 k hk
    obtain ⟨v1, v2⟩ := hv.2.2.2 t (by omega)
    have i10 := inA_nI (show t < 10 by omega) (show 10 < 2147483648 by omega)
    have ct := nI_clamp (show t < 2 ^ 31 by omega)
    simp only [eX8_film_58, eX8_film_60, eX8_film_61, eX8_film_64, eX8_film_67, cont_some, tl_some, tl_none, csum_nil, csum_i, csum_r, csum_j, isc2_i, isc2_r, isc2_n, va_rf_s, vfn_ite, true_and, and_true, true_or, or_true, eq_self, Bool.false_eq_true, not_false_eq_true, not_true_eq_false, if_true, if_false, Nat.reduceAdd, Nat.reduceLeDiff, reduceIte, hc.1, hc.2.1, hc.2.2.1, hc.2.2.2.1, hc.2.2.2.2.1, hc.2.2.2.2.2.1, hc.2.2.2.2.2.2.1, hc.2.2.2.2.2.2.2.1, hc.2.2.2.2.2.2.2.2.1, hc.2.2.2.2.2.2.2.2.2.1, hc.2.2.2.2.2.2.2.2.2.2, hv.1.1, hv.2.1, h1]
    simp only [eX8_film_70, eX8_film_71, eX8_film_74, eX8_film_77, eX8_film_78, eX8_film_79, eX8_film_81, eX8_film_82, eX8_film_84, eX8_film_85, eX8_film_86, eX8_film_87, eX8_film_90, eX8_film_93, eX8_film_95, eX8_film_96, eX8_film_97, eX8_film_98, eX8_film_99, eX8_film_102, eX8_film_105, eX8_film_106, eX8_film_107, eX8_film_109, eX8_film_110, eX8_film_112, eX8_film_113, eX8_film_114, eX8_film_115, eX8_film_116, eX8_film_117, eX8_film_120, eX8_film_123, eX8_film_125, eX8_film_126, eX8_film_127, eX8_film_128, cont_some, tl_some, tl_none, csum_nil, csum_i, csum_r, csum_j, isc2_i, isc2_r, isc2_n, va_rf_s, vfn_ite, true_and, and_true, true_or, or_true, eq_self, Bool.false_eq_true, not_false_eq_true, not_true_eq_false, if_true, if_false, Nat.reduceAdd, Nat.reduceLeDiff, reduceIte, hc.1, hc.2.1, hc.2.2.1, hc.2.2.2.1, hc.2.2.2.2.1, hc.2.2.2.2.2.1, hc.2.2.2.2.2.2.1, hc.2.2.2.2.2.2.2.1, hc.2.2.2.2.2.2.2.2.1, hc.2.2.2.2.2.2.2.2.2.1, hc.2.2.2.2.2.2.2.2.2.2, hr.1, hr.2.1, hr.2.2.2.2.1, hv.1.1, hv.1.2.1, hv.1.2.2.1, hv.1.2.2.2.2.1, hv.1.2.2.2.2.2.1, shp_wrJ, rdR_wrJ, rdI_wrJ, h6, inA_nI hk (show 4 < 2147483648 by omega), nI_clamp (show k < 2 ^ 31 by omega), m17, g1, g2, nI_p2, pk_mul, nI_a, nI_1, inA_nI (show p + 2 * t < 24 by omega) (by omega), inA_nI (show p + 2 * t + 1 < 24 by omega) (by omega), nI_clamp (show p + 2 * t < 2 ^ 31 by omega), nI_clamp (show p + 2 * t + 1 < 2 ^ 31 by omega), i10, ct, v1, v2]
    rw [eX8_film_131]
    exact ih (t + 1) _ (by omega) hc hv ⟨hr, fun k' hk' => (hS.2 k' hk').fil⟩ ((hF.wrJ ⟨by omega, by omega⟩).wrJ ⟨by omega, by omega⟩)
theorem CS.fr {w u : Wd} {lo hi r : Nat} {h : Sht} (g : CS w r h) (f : Fr lo hi w u) (hd : r + 8 ≤ lo ∨ hi ≤ r) : CS u r h := by
  obtain ⟨g1, g2⟩ := g
  refine ⟨?_, fun k hk => (g2 k hk).fr rfl (fun _ _ => rfl) (f.I (by omega)) (f.I (by omega)) (fun _ _ => f.J (by omega))⟩
  obtain ⟨a1, a2, a3, a4, a5, a6, a7, a8⟩ := g1
  exact ⟨by rw [f.shp]; exact a1, by rw [f.R (by omega)]; exact a2, by rw [f.R (by omega)]; exact a3, by rw [f.R (by omega)]; exact a4, by rw [f.shp]; exact a5, by rw [f.shp]; exact a6, by rw [f.shp]; exact a7, fun k hk => ⟨by rw [f.R (by omega)]; exact (a8 k hk).1, by rw [f.shp]; exact (a8 k hk).2⟩⟩
theorem refu_0 {h : Sht} {s l i : Int32} {m : Nat} (hm : m ≤ 24) (r : refu h s l i (nI m) 0) : ∃ k p l' len, k < 4 ∧ s = nI k ∧ i = nI p ∧ h.1 k = some (l', len) ∧ l = nI l' ∧ p + m ≤ len := by
  rcases r with ⟨-, e⟩ | ⟨k, hk4, rfl, hl, ⟨-, e⟩ | ⟨l', len, hi, ⟨-, e⟩ | ⟨-, -, e⟩ | ⟨e, hok, -⟩⟩⟩
  · exact absurd e (by decide)
  · exact absurd e (by decide)
  · exact absurd e (by decide)
  · exact absurd e (by decide)
  · obtain ⟨h1, h2, h3⟩ := hok
    rw [nI_T (by omega)] at h2 h3
    refine ⟨k, i.toInt.toNat, l', len, hk4, rfl, ?_, hi, e.symm, by omega⟩
    rw [nI_iI]
    have : ((i.toInt.toNat : Nat) : Int) = i.toInt := by omega
    rw [this]; exact (Int32.ofInt_toInt i).symm
theorem c_film {w : Wd} {b : Nat} {c : Cst} {h : Sht} {a s l i : Int32} (hC : CC w b c) (hV : isV w (b + 33)) (hS : CS w (b + 44) h) : ∃ u v x h', fX8_film [.ref b, .int a, .int s, .int l, .int i] w = some (some (.int x), u) ∧ rFilm c.1 h a s l i x h' ∧ CS u (b + 44) h' ∧ Fr (b + 33) (b + 36) w v ∧ Fr (b + 44) (b + 52) v u ∧ isV u (b + 33) := by
  have hc := hC.1
  have hs := hC.2.1
  have hr := hS.1
  by_cases q : 0 ≤ a ∧ a ≤ 2
  · obtain ⟨y, hy, hrf⟩ := s_refusal (s := s) (l := l) (i := i) (n := nI (2 * c.1.1)) hS
    have h10 := hs.2.2.1
    by_cases y0 : y = 0
    · subst y0
      obtain ⟨a', ha, rfl⟩ := ax_iff.mp q
      have hr0 := hrf
      obtain ⟨k, p, l', len, hk, rfl, rfl, hi, rfl, hpl⟩ := refu_0 (by omega) hrf
      have g2 : len ≤ 24 := by
        have := (hS.2 k hk).1
        rw [hi] at this
        exact this.2.1
      obtain ⟨v, hlk, hvi, hvf⟩ := s_look (v := b + 33) (a := a') ha (by omega) hs hV
      have hSv := hS.fr hvf (by omega)
      have hcv := hc.fr hvf (by omega)
      have hh : wp mX8_film 0 [some (.ref b), some (.int (nI a')), some (.int (nI k)), some (.int (nI l')), some (.int (nI p)), none, none, none] [] w (fun r u => r = some (.int (nI (2 * c.1.1))) ∧ CS u (b + 44) (filS h k p c.1.1 (uOf c.1 a') (vOf c.1 a')) ∧ Fr (b + 44) (b + 52) v u) := by
        simp only [eX8_film_0, eX8_film_1, eX8_film_4, eX8_film_7, eX8_film_8, eX8_film_9, eX8_film_10, eX8_film_11, eX8_film_14, eX8_film_17, eX8_film_18, eX8_film_20, eX8_film_21, eX8_film_24, eX8_film_25, eX8_film_26, eX8_film_28, eX8_film_30, eX8_film_33, eX8_film_35, eX8_film_37, eX8_film_40, eX8_film_42, eX8_film_43, eX8_film_44, eX8_film_47, eX8_film_48, eX8_film_51, eX8_film_52, eX8_film_55, eX8_film_56, cont_some, tl_some, tl_none, csum_nil, csum_i, csum_r, csum_j, isc2_i, isc2_r, isc2_n, va_rf_s, vfn_ite, true_and, and_true, true_or, or_true, eq_self, Bool.false_eq_true, not_false_eq_true, not_true_eq_false, if_true, if_false, Nat.reduceAdd, Nat.reduceLeDiff, reduceIte, s_isAxis, b2i_0, q, and_self, hc.1, hc.2.1, hc.2.2.1, hc.2.2.2.1, hc.2.2.2.2.1, hc.2.2.2.2.2.1, hc.2.2.2.2.2.2.1, hc.2.2.2.2.2.2.2.1, hc.2.2.2.2.2.2.2.2.1, hc.2.2.2.2.2.2.2.2.2.1, hc.2.2.2.2.2.2.2.2.2.2, hs.1.1, hs.2.1, nI_2m, hr.1, hy, hV.1, hlk]
        exact lo_film rfl hk (show p + 2 * c.1.1 ≤ 24 by omega) c.1.1 0 v (by omega) hcv hvi (by rw [filS_0]; exact hSv) Fr.rf
      obtain ⟨r, u, h1, rfl, h2, h3⟩ := sem_wp (nL := 8) (as := [.ref b, .int (nI a'), .int (nI k), .int (nI l'), .int (nI p)]) (Nat.le_of_ble_eq_true rfl) hh
      refine ⟨u, v, nI (2 * c.1.1), _, h1, Or.inr ⟨q, Or.inr ⟨hr0, rfl, rfl⟩⟩, ?_, hvf, h3, hvi.1.fr h3 (by omega)⟩
      rw [nI_clamp (show k < 2 ^ 31 by omega), nI_clamp (show p < 2 ^ 31 by omega), nI_clamp (show a' < 2 ^ 31 by omega)]
      exact h2
    · refine ⟨w, w, y, h, ?_, Or.inr ⟨q, Or.inl ⟨y, hrf, y0, rfl, rfl⟩⟩, hS, Fr.rf, Fr.rf, hV⟩
      refine sem_eq (Nat.le_of_ble_eq_true rfl) ?_
      show wp mX8_film 0 [some (.ref b), some (.int a), some (.int s), some (.int l), some (.int i), none, none, none] [] _ _
      simp only [eX8_film_0, eX8_film_1, eX8_film_4, eX8_film_7, eX8_film_8, eX8_film_9, eX8_film_10, eX8_film_11, eX8_film_14, eX8_film_17, eX8_film_18, eX8_film_20, eX8_film_21, eX8_film_24, eX8_film_25, eX8_film_26, eX8_film_28, eX8_film_30, eX8_film_33, eX8_film_35, eX8_film_37, eX8_film_40, eX8_film_42, cont_some, tl_some, tl_none, csum_nil, csum_i, csum_r, csum_j, isc2_i, isc2_r, isc2_n, va_rf_s, vfn_ite, true_and, and_true, true_or, or_true, eq_self, Bool.false_eq_true, not_false_eq_true, not_true_eq_false, if_true, if_false, Nat.reduceAdd, Nat.reduceLeDiff, reduceIte, s_isAxis, b2i_0, q, and_self, hc.1, hc.2.1, hc.2.2.1, hc.2.2.2.1, hc.2.2.2.2.1, hc.2.2.2.2.2.1, hc.2.2.2.2.2.2.1, hc.2.2.2.2.2.2.2.1, hc.2.2.2.2.2.2.2.2.1, hc.2.2.2.2.2.2.2.2.2.1, hc.2.2.2.2.2.2.2.2.2.2, hs.1.1, hs.2.1, nI_2m, hr.1, hy, y0]
  · refine ⟨w, w, -1, h, ?_, Or.inl ⟨q, rfl, rfl⟩, hS, Fr.rf, Fr.rf, hV⟩
    refine sem_eq (Nat.le_of_ble_eq_true rfl) ?_
    show wp mX8_film 0 [some (.ref b), some (.int a), some (.int s), some (.int l), some (.int i), none, none, none] [] _ _
    simp only [eX8_film_0, eX8_film_1, eX8_film_4, eX8_film_7, eX8_film_8, cont_some, tl_some, tl_none, csum_nil, csum_i, csum_r, csum_j, isc2_i, isc2_r, isc2_n, va_rf_s, vfn_ite, true_and, and_true, true_or, or_true, eq_self, Bool.false_eq_true, not_false_eq_true, not_true_eq_false, if_true, if_false, Nat.reduceAdd, Nat.reduceLeDiff, reduceIte, s_isAxis, b2i_0, q]
theorem MSk.fil {w : Wd} {o k p t k' : Nat} {h : Sht} {U V : Nat → Int32} (hp : p + 2 * t + 1 < 24) (g : MSk w o k' (filS h k p t U V)) : MSk (wrJ (wrJ w (o + 7) (24 * k + p + 2 * t) (U t).toInt64) (o + 7) (24 * k + p + 2 * t + 1) (V t).toInt64) o k' (filS h k p (t + 1) U V) := by
  refine ⟨g.1, fun i hi => ?_⟩
  rw [filS_s, rdJ_wrJ, rdJ_wrJ]
  by_cases q1 : k' = k ∧ i = p + 2 * t + 1
  · rw [if_pos q1, if_pos (by omega)]
  · rw [if_neg q1, if_neg (by omega)]
    by_cases q2 : k' = k ∧ i = p + 2 * t
    · rw [if_pos q2, if_pos (by omega)]
    · rw [if_neg q2, if_neg (by omega)]
      exact g.2 i hi
theorem lo_mfilm {w0 : Wd} {o k p n : Nat} {h : Sht} {U V : Nat → Int32} {a1 a3 a5 : Option Value} (h5 : isc2 (some a5) = false) (hk : k < 4) (hp : p + 2 * n ≤ 24) : ∀ (d t : Nat) (w : Wd), t + d = n → mvIs w o n U V → MS w o (filS h k p t U V) → FrX (Xs o) w0 w →
    wp mX9_film 72 [some (.ref o), a1, some (.int (nI k)), a3, some (.int (nI p)), a5, some (.int (nI t))] [] w (fun r u => r = some (.int (nI (2 * n))) ∧ MS u o (filS h k p n U V) ∧ FrX (Xs o) w0 u) := by
  intro d
  induction d with
  | zero =>
    intro t w ht hv hS hF
    have e : t = n := by omega
    subst e
    have hm := hS.1
    have h1 : ¬ nI t < nI t := Int32.lt_irrefl
    simp only [eX9_film_72, eX9_film_74, eX9_film_75, eX9_film_78, eX9_film_139, eX9_film_140, eX9_film_141, eX9_film_144, eX9_film_145, cont_some, tl_some, tl_none, csum_nil, csum_i, csum_r, csum_j, isc2_i, isc2_r, isc2_n, va_rf_s, vfn_ite, true_and, and_true, true_or, or_true, eq_self, Bool.false_eq_true, not_false_eq_true, not_true_eq_false, if_true, if_false, Nat.reduceAdd, Nat.reduceLeDiff, reduceIte, hm.1, hm.2.1, hm.2.2.1, hm.2.2.2.1, hm.2.2.2.2.1, hm.2.2.2.2.2.1, hm.2.2.2.2.2.2.1, hm.2.2.2.2.2.2.2.1, hm.2.2.2.2.2.2.2.2.1, hm.2.2.2.2.2.2.2.2.2.1, hm.2.2.2.2.2.2.2.2.2.2.1, hm.2.2.2.2.2.2.2.2.2.2.2.1, hm.2.2.2.2.2.2.2.2.2.2.2.2.1, hm.2.2.2.2.2.2.2.2.2.2.2.2.2.1, hm.2.2.2.2.2.2.2.2.2.2.2.2.2.2.1, hm.2.2.2.2.2.2.2.2.2.2.2.2.2.2.2.1, hm.2.2.2.2.2.2.2.2.2.2.2.2.2.2.2.2.1, hm.2.2.2.2.2.2.2.2.2.2.2.2.2.2.2.2.2.1, hm.2.2.2.2.2.2.2.2.2.2.2.2.2.2.2.2.2.2.1, hm.2.2.2.2.2.2.2.2.2.2.2.2.2.2.2.2.2.2.2.1, hm.2.2.2.2.2.2.2.2.2.2.2.2.2.2.2.2.2.2.2.2.1, hm.2.2.2.2.2.2.2.2.2.2.2.2.2.2.2.2.2.2.2.2.2.1, hm.2.2.2.2.2.2.2.2.2.2.2.2.2.2.2.2.2.2.2.2.2.2.1, hm.2.2.2.2.2.2.2.2.2.2.2.2.2.2.2.2.2.2.2.2.2.2.2.1, hm.2.2.2.2.2.2.2.2.2.2.2.2.2.2.2.2.2.2.2.2.2.2.2.2, hv.1, h1, nI_2m]
    exact ⟨hS, hF⟩
  | succ d ih =>
    intro t w ht hv hS hF
    have h10 := hv.2.1
    have h1 : nI t < nI n := nI_lt (by omega) (by omega)
    have hm := hS.1
    obtain ⟨v1, v2⟩ := hv.2.2 t (by omega)
    have i10 := inA_nI (show t < 10 by omega) (show 10 < 2147483648 by omega)
    have ct := nI_clamp (show t < 2 ^ 31 by omega)
    simp only [eX9_film_72, eX9_film_74, eX9_film_75, eX9_film_78, cont_some, tl_some, tl_none, csum_nil, csum_i, csum_r, csum_j, isc2_i, isc2_r, isc2_n, va_rf_s, vfn_ite, true_and, and_true, true_or, or_true, eq_self, Bool.false_eq_true, not_false_eq_true, not_true_eq_false, if_true, if_false, Nat.reduceAdd, Nat.reduceLeDiff, reduceIte, hm.1, hm.2.1, hm.2.2.1, hm.2.2.2.1, hm.2.2.2.2.1, hm.2.2.2.2.2.1, hm.2.2.2.2.2.2.1, hm.2.2.2.2.2.2.2.1, hm.2.2.2.2.2.2.2.2.1, hm.2.2.2.2.2.2.2.2.2.1, hm.2.2.2.2.2.2.2.2.2.2.1, hm.2.2.2.2.2.2.2.2.2.2.2.1, hm.2.2.2.2.2.2.2.2.2.2.2.2.1, hm.2.2.2.2.2.2.2.2.2.2.2.2.2.1, hm.2.2.2.2.2.2.2.2.2.2.2.2.2.2.1, hm.2.2.2.2.2.2.2.2.2.2.2.2.2.2.2.1, hm.2.2.2.2.2.2.2.2.2.2.2.2.2.2.2.2.1, hm.2.2.2.2.2.2.2.2.2.2.2.2.2.2.2.2.2.1, hm.2.2.2.2.2.2.2.2.2.2.2.2.2.2.2.2.2.2.1, hm.2.2.2.2.2.2.2.2.2.2.2.2.2.2.2.2.2.2.2.1, hm.2.2.2.2.2.2.2.2.2.2.2.2.2.2.2.2.2.2.2.2.1, hm.2.2.2.2.2.2.2.2.2.2.2.2.2.2.2.2.2.2.2.2.2.1, hm.2.2.2.2.2.2.2.2.2.2.2.2.2.2.2.2.2.2.2.2.2.2.1, hm.2.2.2.2.2.2.2.2.2.2.2.2.2.2.2.2.2.2.2.2.2.2.2.1, hm.2.2.2.2.2.2.2.2.2.2.2.2.2.2.2.2.2.2.2.2.2.2.2.2, hv.1, h1]
    simp only [eX9_film_81, eX9_film_82, eX9_film_85, eX9_film_87, eX9_film_88, eX9_film_89, eX9_film_91, eX9_film_92, eX9_film_93, eX9_film_95, eX9_film_96, eX9_film_97, eX9_film_98, eX9_film_101, eX9_film_103, eX9_film_104, eX9_film_105, eX9_film_106, eX9_film_107, eX9_film_110, eX9_film_112, eX9_film_113, eX9_film_114, eX9_film_116, eX9_film_117, eX9_film_118, eX9_film_120, eX9_film_121, eX9_film_122, eX9_film_123, eX9_film_124, eX9_film_125, eX9_film_128, eX9_film_130, eX9_film_131, eX9_film_132, eX9_film_133, cont_some, tl_some, tl_none, csum_nil, csum_i, csum_r, csum_j, isc2_i, isc2_r, isc2_n, va_rf_s, vfn_ite, true_and, and_true, true_or, or_true, eq_self, Bool.false_eq_true, not_false_eq_true, not_true_eq_false, if_true, if_false, Nat.reduceAdd, Nat.reduceLeDiff, reduceIte, hm.1, hm.2.1, hm.2.2.1, hm.2.2.2.1, hm.2.2.2.2.1, hm.2.2.2.2.2.1, hm.2.2.2.2.2.2.1, hm.2.2.2.2.2.2.2.1, hm.2.2.2.2.2.2.2.2.1, hm.2.2.2.2.2.2.2.2.2.1, hm.2.2.2.2.2.2.2.2.2.2.1, hm.2.2.2.2.2.2.2.2.2.2.2.1, hm.2.2.2.2.2.2.2.2.2.2.2.2.1, hm.2.2.2.2.2.2.2.2.2.2.2.2.2.1, hm.2.2.2.2.2.2.2.2.2.2.2.2.2.2.1, hm.2.2.2.2.2.2.2.2.2.2.2.2.2.2.2.1, hm.2.2.2.2.2.2.2.2.2.2.2.2.2.2.2.2.1, hm.2.2.2.2.2.2.2.2.2.2.2.2.2.2.2.2.2.1, hm.2.2.2.2.2.2.2.2.2.2.2.2.2.2.2.2.2.2.1, hm.2.2.2.2.2.2.2.2.2.2.2.2.2.2.2.2.2.2.2.1, hm.2.2.2.2.2.2.2.2.2.2.2.2.2.2.2.2.2.2.2.2.1, hm.2.2.2.2.2.2.2.2.2.2.2.2.2.2.2.2.2.2.2.2.2.1, hm.2.2.2.2.2.2.2.2.2.2.2.2.2.2.2.2.2.2.2.2.2.2.1, hm.2.2.2.2.2.2.2.2.2.2.2.2.2.2.2.2.2.2.2.2.2.2.2.1, hm.2.2.2.2.2.2.2.2.2.2.2.2.2.2.2.2.2.2.2.2.2.2.2.2, shp_wrJ, rdR_wrJ, rdI_wrJ, h5, nI_p24, nI_p2, pk_mul, nI_a, nI_1, inA_nI (show 24 * k + p + 2 * t < 96 by omega) (by omega), inA_nI (show 24 * k + p + 2 * t + 1 < 96 by omega) (by omega), nI_clamp (show 24 * k + p + 2 * t < 2 ^ 31 by omega), nI_clamp (show 24 * k + p + 2 * t + 1 < 2 ^ 31 by omega), i10, ct, v1, v2]
    rw [eX9_film_136]
    exact ih (t + 1) _ (by omega) hv ⟨hm, fun k' hk' => (hS.2 k' hk').fil (by omega)⟩ ((hF.wrJ ⟨by omega, by omega⟩).wrJ ⟨by omega, by omega⟩)
theorem MS.frX {X : Nat → Nat → Prop} {w u : Wd} {o : Nat} {h : Sht} (g : MS w o h) (f : FrX X w u) (hd : ∀ c j, X c j → c < o + 5 ∨ o + 8 ≤ c) : MS u o h := by
  obtain ⟨g1, g2⟩ := g
  refine ⟨f.md g1, fun k hk => (g2 k hk).fr rfl (fun _ _ => rfl) (f.1 _ _ (fun z => ?_)) (f.1 _ _ (fun z => ?_)) (fun _ _ => f.2.1 _ _ (fun z => ?_))⟩ <;> (have := hd _ _ z; omega)
def Xf (o : Nat) : Nat → Nat → Prop := fun c j => Xv o c j ∨ Xs o c j
theorem m_film {w : Wd} {o : Nat} {c : Cst} {h : Sht} {a s l i : Int32} (hC : MC w o c) (hS : MS w o h) : ∃ u x h', fX9_film [.ref o, .int a, .int s, .int l, .int i] w = some (some (.int x), u) ∧ rFilm c.1 h a s l i x h' ∧ MS u o h' ∧ FrX (Xf o) w u := by
  have hm := hC.1
  have hb := hC.2.1
  have h10 := hb.2.1
  by_cases q : 0 ≤ a ∧ a ≤ 2
  · obtain ⟨y, hy, hr⟩ := m_lacks (s := s) (l := l) hS
    have low : ∀ z : Int32, z < 0 → refu h s l i (nI (2 * c.1.1)) z → y = z → ∃ u x h', fX9_film [.ref o, .int a, .int s, .int l, .int i] w = some (some (.int x), u) ∧ rFilm c.1 h a s l i x h' ∧ MS u o h' ∧ FrX (Xf o) w u := by
      intro z hz hrf hyz
      subst hyz
      refine ⟨w, y, h, ?_, Or.inr ⟨q, Or.inl ⟨y, hrf, fun e => by subst e; exact absurd hz (by decide), rfl, rfl⟩⟩, hS, FrX.rf⟩
      refine sem_eq (Nat.le_of_ble_eq_true rfl) ?_
      show wp mX9_film 0 [some (.ref o), some (.int a), some (.int s), some (.int l), some (.int i), none, none] [] _ _
      simp only [eX9_film_0, eX9_film_1, eX9_film_2, eX9_film_3, eX9_film_6, eX9_film_9, eX9_film_12, eX9_film_13, eX9_film_14, eX9_film_15, eX9_film_18, eX9_film_21, eX9_film_22, eX9_film_24, eX9_film_26, eX9_film_29, eX9_film_31, cont_some, tl_some, tl_none, csum_nil, csum_i, csum_r, csum_j, isc2_i, isc2_r, isc2_n, va_rf_s, vfn_ite, true_and, and_true, true_or, or_true, eq_self, Bool.false_eq_true, not_false_eq_true, not_true_eq_false, if_true, if_false, Nat.reduceAdd, Nat.reduceLeDiff, reduceIte, in02, b2i_0, q, and_self, hm.1, hm.2.1, hm.2.2.1, hm.2.2.2.1, hm.2.2.2.2.1, hm.2.2.2.2.2.1, hm.2.2.2.2.2.2.1, hm.2.2.2.2.2.2.2.1, hm.2.2.2.2.2.2.2.2.1, hm.2.2.2.2.2.2.2.2.2.1, hm.2.2.2.2.2.2.2.2.2.2.1, hm.2.2.2.2.2.2.2.2.2.2.2.1, hm.2.2.2.2.2.2.2.2.2.2.2.2.1, hm.2.2.2.2.2.2.2.2.2.2.2.2.2.1, hm.2.2.2.2.2.2.2.2.2.2.2.2.2.2.1, hm.2.2.2.2.2.2.2.2.2.2.2.2.2.2.2.1, hm.2.2.2.2.2.2.2.2.2.2.2.2.2.2.2.2.1, hm.2.2.2.2.2.2.2.2.2.2.2.2.2.2.2.2.2.1, hm.2.2.2.2.2.2.2.2.2.2.2.2.2.2.2.2.2.2.1, hm.2.2.2.2.2.2.2.2.2.2.2.2.2.2.2.2.2.2.2.1, hm.2.2.2.2.2.2.2.2.2.2.2.2.2.2.2.2.2.2.2.2.1, hm.2.2.2.2.2.2.2.2.2.2.2.2.2.2.2.2.2.2.2.2.2.1, hm.2.2.2.2.2.2.2.2.2.2.2.2.2.2.2.2.2.2.2.2.2.2.1, hm.2.2.2.2.2.2.2.2.2.2.2.2.2.2.2.2.2.2.2.2.2.2.2.1, hm.2.2.2.2.2.2.2.2.2.2.2.2.2.2.2.2.2.2.2.2.2.2.2.2, hy, hz]
    rcases hr with ⟨z, e⟩ | ⟨k, hk4, rfl, hl, ⟨z, e⟩ | ⟨l', len, hi, ⟨z, e⟩ | ⟨rfl, e⟩⟩⟩
    · exact low (-1) (by decide) (Or.inl ⟨z, rfl⟩) e
    · exact low (-11) (by decide) (Or.inr ⟨k, hk4, rfl, hl, Or.inl ⟨z, rfl⟩⟩) e
    · exact low (-12) (by decide) (Or.inr ⟨k, hk4, rfl, hl, Or.inr ⟨l', len, hi, Or.inl ⟨z, rfl⟩⟩⟩) e
    · subst e
      have hck := (hS.2 k hk4).1
      rw [hi] at hck
      obtain ⟨g1, g2, g3, g4⟩ := hck
      have ck := nI_clamp (show k < 2 ^ 31 by omega)
      have i4 := inA_nI hk4 (show 4 < 2147483648 by omega)
      have z0 : ¬ (0 : Int32) < 0 := by decide
      have i0 : inA 0 33 = true := by decide
      have c0 : (0 : Int32).toNatClampNeg = 0 := by decide
      have b1 := i.toInt_lt
      have b2 := i.le_toInt
      have e : 0 < lg_cmp (i.toInt64 + (nI (2 * c.1.1)).toInt64) (nI len).toInt64 ↔ (len : Int) < i.toInt + (2 * c.1.1 : Nat) := by
        rw [lgc_gt, i2l_jJ, i2l_jJ, i2l_jJ, jJ_add, nI_T (by omega), nI_T (by omega), jJ_lt ⟨by omega, by omega⟩ ⟨by omega, by omega⟩]
      have bad : ¬ okIx len i (nI (2 * c.1.1)) → refu h (nI k) (nI l') i (nI (2 * c.1.1)) (-13) := fun z => Or.inr ⟨k, hk4, rfl, hl, Or.inr ⟨l', len, hi, Or.inr (Or.inl ⟨rfl, z, rfl⟩)⟩⟩
      by_cases q1 : i < 0
      · have q1' := lt0.mp q1
        refine ⟨w, -13, h, ?_, Or.inr ⟨q, Or.inl ⟨-13, bad (fun z => by have := z.1; omega), by decide, rfl, rfl⟩⟩, hS, FrX.rf⟩
        refine sem_eq (Nat.le_of_ble_eq_true rfl) ?_
        show wp mX9_film 0 [some (.ref o), some (.int a), some (.int (nI k)), some (.int (nI l')), some (.int i), none, none] [] _ _
        simp only [eX9_film_0, eX9_film_1, eX9_film_2, eX9_film_3, eX9_film_6, eX9_film_9, eX9_film_12, eX9_film_13, eX9_film_14, eX9_film_15, eX9_film_18, eX9_film_21, eX9_film_22, eX9_film_24, eX9_film_26, eX9_film_29, eX9_film_31, eX9_film_32, eX9_film_34, eX9_film_37, eX9_film_39, eX9_film_40, eX9_film_41, eX9_film_42, eX9_film_45, eX9_film_46, eX9_film_47, eX9_film_48, eX9_film_49, eX9_film_50, eX9_film_51, eX9_film_54, eX9_film_55, eX9_film_56, eX9_film_57, eX9_film_58, eX9_film_61, eX9_film_63, cont_some, tl_some, tl_none, csum_nil, csum_i, csum_r, csum_j, isc2_i, isc2_r, isc2_n, va_rf_s, vfn_ite, true_and, and_true, true_or, or_true, eq_self, Bool.false_eq_true, not_false_eq_true, not_true_eq_false, if_true, if_false, Nat.reduceAdd, Nat.reduceLeDiff, reduceIte, in02, b2i_0, q, and_self, hm.1, hm.2.1, hm.2.2.1, hm.2.2.2.1, hm.2.2.2.2.1, hm.2.2.2.2.2.1, hm.2.2.2.2.2.2.1, hm.2.2.2.2.2.2.2.1, hm.2.2.2.2.2.2.2.2.1, hm.2.2.2.2.2.2.2.2.2.1, hm.2.2.2.2.2.2.2.2.2.2.1, hm.2.2.2.2.2.2.2.2.2.2.2.1, hm.2.2.2.2.2.2.2.2.2.2.2.2.1, hm.2.2.2.2.2.2.2.2.2.2.2.2.2.1, hm.2.2.2.2.2.2.2.2.2.2.2.2.2.2.1, hm.2.2.2.2.2.2.2.2.2.2.2.2.2.2.2.1, hm.2.2.2.2.2.2.2.2.2.2.2.2.2.2.2.2.1, hm.2.2.2.2.2.2.2.2.2.2.2.2.2.2.2.2.2.1, hm.2.2.2.2.2.2.2.2.2.2.2.2.2.2.2.2.2.2.1, hm.2.2.2.2.2.2.2.2.2.2.2.2.2.2.2.2.2.2.2.1, hm.2.2.2.2.2.2.2.2.2.2.2.2.2.2.2.2.2.2.2.2.1, hm.2.2.2.2.2.2.2.2.2.2.2.2.2.2.2.2.2.2.2.2.2.1, hm.2.2.2.2.2.2.2.2.2.2.2.2.2.2.2.2.2.2.2.2.2.2.1, hm.2.2.2.2.2.2.2.2.2.2.2.2.2.2.2.2.2.2.2.2.2.2.2.1, hm.2.2.2.2.2.2.2.2.2.2.2.2.2.2.2.2.2.2.2.2.2.2.2.2, hy, z0, q1]
      · have q1' : ¬ i.toInt < 0 := fun z => q1 (lt0.mpr z)
        by_cases q2 : 0 < lg_cmp (i.toInt64 + (nI (2 * c.1.1)).toInt64) (nI len).toInt64
        · have q2' := e.mp q2
          refine ⟨w, -13, h, ?_, Or.inr ⟨q, Or.inl ⟨-13, bad (fun z => by have := z.2.2; rw [nI_T (by omega)] at this; omega), by decide, rfl, rfl⟩⟩, hS, FrX.rf⟩
          refine sem_eq (Nat.le_of_ble_eq_true rfl) ?_
          show wp mX9_film 0 [some (.ref o), some (.int a), some (.int (nI k)), some (.int (nI l')), some (.int i), none, none] [] _ _
          simp only [eX9_film_0, eX9_film_1, eX9_film_2, eX9_film_3, eX9_film_6, eX9_film_9, eX9_film_12, eX9_film_13, eX9_film_14, eX9_film_15, eX9_film_18, eX9_film_21, eX9_film_22, eX9_film_24, eX9_film_26, eX9_film_29, eX9_film_31, eX9_film_32, eX9_film_34, eX9_film_37, eX9_film_39, eX9_film_40, eX9_film_41, eX9_film_42, eX9_film_45, eX9_film_46, eX9_film_47, eX9_film_48, eX9_film_49, eX9_film_50, eX9_film_51, eX9_film_54, eX9_film_55, eX9_film_56, eX9_film_57, eX9_film_58, eX9_film_61, eX9_film_63, cont_some, tl_some, tl_none, csum_nil, csum_i, csum_r, csum_j, isc2_i, isc2_r, isc2_n, va_rf_s, vfn_ite, true_and, and_true, true_or, or_true, eq_self, Bool.false_eq_true, not_false_eq_true, not_true_eq_false, if_true, if_false, Nat.reduceAdd, Nat.reduceLeDiff, reduceIte, in02, b2i_0, q, and_self, hm.1, hm.2.1, hm.2.2.1, hm.2.2.2.1, hm.2.2.2.2.1, hm.2.2.2.2.2.1, hm.2.2.2.2.2.2.1, hm.2.2.2.2.2.2.2.1, hm.2.2.2.2.2.2.2.2.1, hm.2.2.2.2.2.2.2.2.2.1, hm.2.2.2.2.2.2.2.2.2.2.1, hm.2.2.2.2.2.2.2.2.2.2.2.1, hm.2.2.2.2.2.2.2.2.2.2.2.2.1, hm.2.2.2.2.2.2.2.2.2.2.2.2.2.1, hm.2.2.2.2.2.2.2.2.2.2.2.2.2.2.1, hm.2.2.2.2.2.2.2.2.2.2.2.2.2.2.2.1, hm.2.2.2.2.2.2.2.2.2.2.2.2.2.2.2.2.1, hm.2.2.2.2.2.2.2.2.2.2.2.2.2.2.2.2.2.1, hm.2.2.2.2.2.2.2.2.2.2.2.2.2.2.2.2.2.2.1, hm.2.2.2.2.2.2.2.2.2.2.2.2.2.2.2.2.2.2.2.1, hm.2.2.2.2.2.2.2.2.2.2.2.2.2.2.2.2.2.2.2.2.1, hm.2.2.2.2.2.2.2.2.2.2.2.2.2.2.2.2.2.2.2.2.2.1, hm.2.2.2.2.2.2.2.2.2.2.2.2.2.2.2.2.2.2.2.2.2.2.1, hm.2.2.2.2.2.2.2.2.2.2.2.2.2.2.2.2.2.2.2.2.2.2.2.1, hm.2.2.2.2.2.2.2.2.2.2.2.2.2.2.2.2.2.2.2.2.2.2.2.2, hy, z0, q1, i0, c0, hb.1, nI_2m, i4, ck, g4, q2]
        · have q2' : ¬ (len : Int) < i.toInt + (2 * c.1.1 : Nat) := fun z => q2 (e.mpr z)
          have ok : okIx len i (nI (2 * c.1.1)) := by
            unfold okIx
            rw [nI_T (by omega)]
            exact ⟨by omega, by omega, by omega⟩
          have hr0 : refu h (nI k) (nI l') i (nI (2 * c.1.1)) 0 := Or.inr ⟨k, hk4, rfl, hl, Or.inr ⟨l', len, hi, Or.inr (Or.inr ⟨rfl, ok, rfl⟩)⟩⟩
          obtain ⟨p, m, rfl, em, hpm⟩ := okIx_n g2 ok
          have : 2 * c.1.1 = m := (nI_eq (by omega) (by omega)).mp em
          subst this
          obtain ⟨a', ha, rfl⟩ := ax_iff.mp q
          obtain ⟨v, hsv, hvi, hvf⟩ := m_sees ha hm hb
          have hSv : MS v o h := hS.frX hvf (fun c j z => by unfold Xv at z; omega)
          have hh : wp mX9_film 0 [some (.ref o), some (.int (nI a')), some (.int (nI k)), some (.int (nI l')), some (.int (nI p)), none, none] [] w (fun r u => r = some (.int (nI (2 * c.1.1))) ∧ MS u o (filS h k p c.1.1 (uOf c.1 a') (vOf c.1 a')) ∧ FrX (Xs o) v u) := by
            simp only [eX9_film_0, eX9_film_1, eX9_film_2, eX9_film_3, eX9_film_6, eX9_film_9, eX9_film_12, eX9_film_13, eX9_film_14, eX9_film_15, eX9_film_18, eX9_film_21, eX9_film_22, eX9_film_24, eX9_film_26, eX9_film_29, eX9_film_31, eX9_film_32, eX9_film_34, eX9_film_37, eX9_film_39, eX9_film_40, eX9_film_41, eX9_film_42, eX9_film_45, eX9_film_46, eX9_film_47, eX9_film_48, eX9_film_49, eX9_film_50, eX9_film_51, eX9_film_54, eX9_film_55, eX9_film_56, eX9_film_57, eX9_film_58, eX9_film_61, eX9_film_63, eX9_film_64, eX9_film_65, eX9_film_66, eX9_film_69, eX9_film_70, cont_some, tl_some, tl_none, csum_nil, csum_i, csum_r, csum_j, isc2_i, isc2_r, isc2_n, va_rf_s, vfn_ite, true_and, and_true, true_or, or_true, eq_self, Bool.false_eq_true, not_false_eq_true, not_true_eq_false, if_true, if_false, Nat.reduceAdd, Nat.reduceLeDiff, reduceIte, in02, b2i_0, q, and_self, hm.1, hm.2.1, hm.2.2.1, hm.2.2.2.1, hm.2.2.2.2.1, hm.2.2.2.2.2.1, hm.2.2.2.2.2.2.1, hm.2.2.2.2.2.2.2.1, hm.2.2.2.2.2.2.2.2.1, hm.2.2.2.2.2.2.2.2.2.1, hm.2.2.2.2.2.2.2.2.2.2.1, hm.2.2.2.2.2.2.2.2.2.2.2.1, hm.2.2.2.2.2.2.2.2.2.2.2.2.1, hm.2.2.2.2.2.2.2.2.2.2.2.2.2.1, hm.2.2.2.2.2.2.2.2.2.2.2.2.2.2.1, hm.2.2.2.2.2.2.2.2.2.2.2.2.2.2.2.1, hm.2.2.2.2.2.2.2.2.2.2.2.2.2.2.2.2.1, hm.2.2.2.2.2.2.2.2.2.2.2.2.2.2.2.2.2.1, hm.2.2.2.2.2.2.2.2.2.2.2.2.2.2.2.2.2.2.1, hm.2.2.2.2.2.2.2.2.2.2.2.2.2.2.2.2.2.2.2.1, hm.2.2.2.2.2.2.2.2.2.2.2.2.2.2.2.2.2.2.2.2.1, hm.2.2.2.2.2.2.2.2.2.2.2.2.2.2.2.2.2.2.2.2.2.1, hm.2.2.2.2.2.2.2.2.2.2.2.2.2.2.2.2.2.2.2.2.2.2.1, hm.2.2.2.2.2.2.2.2.2.2.2.2.2.2.2.2.2.2.2.2.2.2.2.1, hm.2.2.2.2.2.2.2.2.2.2.2.2.2.2.2.2.2.2.2.2.2.2.2.2, hy, z0, q1, i0, c0, hb.1, nI_2m, i4, ck, g4, q2, hsv]
            exact lo_mfilm rfl hk4 (show p + 2 * c.1.1 ≤ 24 by omega) c.1.1 0 v (by omega) hvi (by rw [filS_0]; exact hSv) FrX.rf
          obtain ⟨r, u, h1, rfl, h2, h3⟩ := sem_wp (nL := 7) (as := [.ref o, .int (nI a'), .int (nI k), .int (nI l'), .int (nI p)]) (Nat.le_of_ble_eq_true rfl) hh
          refine ⟨u, nI (2 * c.1.1), _, h1, Or.inr ⟨q, Or.inr ⟨hr0, rfl, rfl⟩⟩, ?_, (hvf.wide (fun _ _ z => Or.inl z)).tr (h3.wide (fun _ _ z => Or.inr z))⟩
          rw [ck, nI_clamp (show p < 2 ^ 31 by omega), nI_clamp (show a' < 2 ^ 31 by omega)]
          exact h2
  · refine ⟨w, -1, h, ?_, Or.inl ⟨q, rfl, rfl⟩, hS, FrX.rf⟩
    have m1 : (-1 : Int32) < 0 := by decide
    refine sem_eq (Nat.le_of_ble_eq_true rfl) ?_
    show wp mX9_film 0 [some (.ref o), some (.int a), some (.int s), some (.int l), some (.int i), none, none] [] _ _
    simp only [eX9_film_0, eX9_film_1, eX9_film_2, eX9_film_3, eX9_film_6, eX9_film_9, eX9_film_12, eX9_film_13, eX9_film_14, eX9_film_15, eX9_film_18, eX9_film_21, eX9_film_22, eX9_film_24, eX9_film_26, eX9_film_29, eX9_film_31, cont_some, tl_some, tl_none, csum_nil, csum_i, csum_r, csum_j, isc2_i, isc2_r, isc2_n, va_rf_s, vfn_ite, true_and, and_true, true_or, or_true, eq_self, Bool.false_eq_true, not_false_eq_true, not_true_eq_false, if_true, if_false, Nat.reduceAdd, Nat.reduceLeDiff, reduceIte, in02, b2i_0, q, m1]
