/-! ===== pure: a table's text is read alike ===== -/
section
variable {h g : mb_AH} {t : Nat → Int32} {tl : Nat}
theorem px_neg1 {k : Nat} (hk : k < 2 ^ 31) : ¬ nI k = -1 := fun e => by
  have := (px_oi (some k) (fun z hz => by cases hz; exact hk)).mp e
  cases this
theorem m6_rn53 (hc : mb_cd t tl) (v1 v2 : Int32) : ∀ (m j p v f : Nat) (h : mb_AH), mb_t6 h t tl → h.1 6 0 0 10 = nI p → h.1 6 0 0 11 = -1 → p ≤ tl → j + m = 3 → m < f → ∃ g : mb_AH, B_X6_readsNumber_53 f v1 v2 (nI v) (nI j) h = B_X6_readsNumber_104 v1 v2 (nI (sp_vl t v p (sp_dg t tl p m))) g ∧ mb_Ft h g ∧ g.1 6 0 0 10 = nI (p + sp_dg t tl p m) ∧ g.1 6 0 0 11 = -1 ∧ g.1 6 0 0 12 = h.1 6 0 0 12 ∧ g.1 6 0 0 13 = h.1 6 0 0 13 ∧ g.1 27 = h.1 27 := by
  intro m
  induction m with
  | zero =>
    intro j p v f h h6 e ew hp hj hf
    obtain ⟨f, rfl⟩ : ∃ g, f = g + 1 := ⟨f - 1, by omega⟩
    refine ⟨h, ?_, mb_Ft.rf h, e, ew, rfl, rfl, rfl⟩
    rw [B_X6_readsNumber_53, if_pos (show (3 : Int32) ≤ nI j from nI_le (a := 3) (by omega) (by omega))]
    rfl
  | succ m ih =>
    intro j p v f h h6 e ew hp hj hf
    obtain ⟨f, rfl⟩ : ∃ g, f = g + 1 := ⟨f - 1, by omega⟩
    have h70 := h6.2.1
    have es : sp_dg t tl p (m + 1) = cond (sp_d t tl p) (sp_dg t tl (p + 1) m + 1) 0 := rfl
    have hn := m6_next h6 (q := p) (by omega) e
    have htk := m6_takes h6 (q := p) (by omega) e ew (lo := 48) (hi := 57) (by decide)
    rw [B_X6_readsNumber_53, if_neg (show ¬ (3 : Int32) ≤ nI j from nI_ge (b := 3) (by omega) (by omega)), if_pos ew, hn]
    simp only [px_cI, px_cIx, px_cV, px_cVx, px_cL, px_cLx, px_cR0, px_cR1, px_cRx, px_lI, px_lL, px_up, px_gZ0, px_gZ1, px_gZb, px_g0, px_g1, px_g2, px_g3, px_g4, px_g5, px_g6, px_g7, px_g8, px_g9, px_g10, px_g11, px_g12, px_g13, px_g14, px_c0, px_c1, px_c2, px_c3, px_c4, px_c5, px_c6, px_c7, px_c8, px_c9, px_c10, px_c11, px_c12, px_c13, px_c14, m6_within]
    rw [htk, es]
    have ed : (decide (p < tl) && (decide ((48 : Int32) ≤ t p) && decide (t p ≤ 57))) = sp_d t tl p := rfl
    rw [ed]
    have ed2 : (decide ((48 : Int32) ≤ if p < tl then t p else 0) && decide ((if p < tl then t p else 0) ≤ (57 : Int32))) = sp_d t tl p := by
      unfold sp_d
      by_cases z : p < tl
      · rw [if_pos z, decide_eq_true z, Bool.true_and]
      · rw [if_neg z, decide_eq_false z]; rfl
    rw [ed2]
    cases hd : sp_d t tl p with
    | false =>
      rw [if_pos (by rfl)]
      exact ⟨h, rfl, mb_Ft.rf h, e, ew, rfl, rfl, rfl⟩
    | true =>
      obtain ⟨lq, c, ec, l, u⟩ := sp_d_c hc hd
      rw [if_neg (by decide), if_pos rfl]
      simp only [px_cI, px_cIx, px_cV, px_cVx, px_cL, px_cLx, px_cR0, px_cR1, px_cRx, px_lI, px_lL, px_up, px_gZ0, px_gZ1, px_gZb, px_g0, px_g1, px_g2, px_g3, px_g4, px_g5, px_g6, px_g7, px_g8, px_g9, px_g10, px_g11, px_g12, px_g13, px_g14, px_c0, px_c1, px_c2, px_c3, px_c4, px_c5, px_c6, px_c7, px_c8, px_c9, px_c10, px_c11, px_c12, px_c13, px_c14]
      rw [ec, (px_dig l).2, nI_1]
      have fA := mb_Ft.w6 h (j := 10) (by decide) (nI (p + 1))
      obtain ⟨g, e1, f1, e2, e3, e4, e5, e6⟩ := ih (j + 1) (p + 1) (10 * v + (c - 48)) f (mb_sI h 6 0 0 10 (nI (p + 1))) (h6.ft fA) (mb_sI_s _ _ _ _ _ _) (by rw [mb_sI_j _ _ _ _ _ _ (by decide)]; exact ew) (by omega) (by omega) (by omega)
      refine ⟨g, ?_, fA.tr f1, ?_, e3, ?_, ?_, ?_⟩
      · rw [e1]
        show _ = B_X6_readsNumber_104 v1 v2 (nI (sp_vl t (10 * v + ((t p).toNatClampNeg - 48)) (p + 1) (sp_dg t tl (p + 1) m))) g
        rw [ec, nI_clamp (by omega)]
      · rw [e2]
        show nI (p + 1 + sp_dg t tl (p + 1) m) = nI (p + (sp_dg t tl (p + 1) m + 1))
        rw [show p + 1 + sp_dg t tl (p + 1) m = p + (sp_dg t tl (p + 1) m + 1) by omega]
      · rw [e4, mb_sI_j _ _ _ _ _ _ (by decide)]
      · rw [e5, mb_sI_j _ _ _ _ _ _ (by decide)]
      · rw [e6, mb_sI_o _ _ _ _ _ _ (by decide)]
theorem m6_rn149 {c : Nat} (hc : c < 14) (x : Int32) (h : mb_AH) (e : h.1 6 0 0 13 = nI c) : ∃ g : mb_AH, B_X6_readsNumber_149 x (nI c) h = mb_rV g ∧ mb_Ft h g ∧ g.1 6 0 0 13 = nI (c + 1) ∧ (∀ j, j ≠ 13 → g.1 6 0 0 j = h.1 6 0 0 j) ∧ ∀ k, g.1 27 0 0 k = if k = c then x else h.1 27 0 0 k := by
  refine ⟨mb_sI (mb_sI h 27 0 0 c x) 6 0 0 13 (nI (c + 1)), ?_, (mb_Ft.w27 h c x).tr (mb_Ft.w6 _ (by decide) _), mb_sI_s _ _ _ _ _ _, fun j hj => by rw [mb_sI_j _ _ _ _ _ _ hj, mb_sI_o _ _ _ _ _ _ (by decide)], fun k => ?_⟩
  · unfold B_X6_readsNumber_149
    rw [px_gB hc (by decide), nI_clamp (by omega)]
    simp only [px_cI, px_cIx, px_cV, px_cVx, px_cL, px_cLx, px_cR0, px_cR1, px_cRx, px_lI, px_lL, px_up, px_gZ0, px_gZ1, px_gZb, px_g0, px_g1, px_g2, px_g3, px_g4, px_g5, px_g6, px_g7, px_g8, px_g9, px_g10, px_g11, px_g12, px_g13, px_g14, px_c0, px_c1, px_c2, px_c3, px_c4, px_c5, px_c6, px_c7, px_c8, px_c9, px_c10, px_c11, px_c12, px_c13, px_c14]
    rw [mb_sI_o _ _ _ _ _ _ (by decide), e, nI_1]
  · rw [mb_sI_o _ _ _ _ _ _ (by decide)]
    simp [mb_sI]
theorem m6_rn104 {c q vv : Nat} (hc : c < 14) (hq : q < 1000) (hvv : vv < 1000) {o : Option Nat} (ho : ∀ i, o = some i → i < 1000) (less : Bool) (h : mb_AH) (e : h.1 6 0 0 13 = nI c) (er : h.1 6 0 0 12 = mb_oi o) : ∃ g : mb_AH, B_X6_readsNumber_104 (nI q) (mb_b less) (nI vv) h = mb_rV g ∧ mb_Ft h g ∧ g.1 6 0 0 13 = nI (c + 1) ∧ g.1 6 0 0 11 = h.1 6 0 0 11 ∧ g.1 6 0 0 10 = h.1 6 0 0 10 ∧ g.1 6 0 0 12 = mb_oi (sp_nz q vv o) ∧ ∀ k, g.1 27 0 0 k = if k = c then cond less (-(nI vv)) (nI vv) else h.1 27 0 0 k := by
  have k128 : ∀ s0 : Int32, ∃ g : mb_AH, B_X6_readsNumber_128 (mb_b less) (nI vv) s0 h = mb_rV g ∧ mb_Ft h g ∧ g.1 6 0 0 13 = nI (c + 1) ∧ g.1 6 0 0 11 = h.1 6 0 0 11 ∧ g.1 6 0 0 10 = h.1 6 0 0 10 ∧ g.1 6 0 0 12 = s0 ∧ ∀ k, g.1 27 0 0 k = if k = c then cond less (-(nI vv)) (nI vv) else h.1 27 0 0 k := by
    intro s0
    have e2 : (mb_sI h 6 0 0 12 s0).1 6 0 0 13 = nI c := by rw [mb_sI_j _ _ _ _ _ _ (by decide)]; exact e
    obtain ⟨g, p1, p2, p3, p4, p5⟩ := m6_rn149 hc (cond less (-(nI vv)) (nI vv)) (mb_sI h 6 0 0 12 s0) e2
    refine ⟨g, ?_, (mb_Ft.w6 h (by decide) s0).tr p2, p3, ?_, ?_, ?_, fun k => ?_⟩
    · unfold B_X6_readsNumber_128
      simp only [px_cI, px_cIx, px_cV, px_cVx, px_cL, px_cLx, px_cR0, px_cR1, px_cRx, px_lI, px_lL, px_up, px_gZ0, px_gZ1, px_gZb, px_g0, px_g1, px_g2, px_g3, px_g4, px_g5, px_g6, px_g7, px_g8, px_g9, px_g10, px_g11, px_g12, px_g13, px_g14, px_c0, px_c1, px_c2, px_c3, px_c4, px_c5, px_c6, px_c7, px_c8, px_c9, px_c10, px_c11, px_c12, px_c13, px_c14]
      rw [e2]
      cases less with
      | false => rw [if_pos (by rfl)]; exact p1
      | true => rw [if_neg (by decide)]; exact p1
    · rw [p4 11 (by decide), mb_sI_j _ _ _ _ _ _ (by decide)]
    · rw [p4 10 (by decide), mb_sI_j _ _ _ _ _ _ (by decide)]
    · rw [p4 12 (by decide), mb_sI_s]
    · rw [p5 k, mb_sI_o _ _ _ _ _ _ (by decide)]
  unfold B_X6_readsNumber_104 B_X6_readsNumber_124 sp_nz
  by_cases z : vv ≤ 300
  · rw [if_pos (show nI vv ≤ 300 from nI_le (b := 300) z (by decide)), er]
    simp only [if_pos z]
    exact k128 _
  · rw [if_neg (show ¬ nI vv ≤ 300 from nI_ge (a := 300) (by omega) (by omega)), er]
    simp only [if_neg z]
    cases o with
    | none => rw [if_pos (by rfl)]; exact k128 _
    | some i =>
      have := ho i rfl
      rw [if_neg (show ¬ mb_oi (some i) = -1 from px_neg1 (by omega))]
      exact k128 _
theorem m6_rn (h6 : mb_t6 h t tl) (hc : mb_cd t tl) {q c : Nat} (hq : q ≤ tl) (hcc : c < 14) {o : Option Nat} (ho : ∀ i, o = some i → i < 1000) (e : h.1 6 0 0 10 = nI q) (ew : h.1 6 0 0 11 = -1) (er : h.1 6 0 0 12 = mb_oi o) (et : h.1 6 0 0 13 = nI c) :
    ∃ g : mb_AH, F_X6_readsNumber h = mb_rV g ∧ mb_Ft h g ∧ g.1 6 0 0 13 = nI (c + 1) ∧ ((sp_nn t tl q = 0 ∧ g.1 6 0 0 11 = nI (sp_na t tl q)) ∨ (0 < sp_nn t tl q ∧ g.1 6 0 0 11 = -1 ∧ g.1 6 0 0 10 = nI (sp_na t tl q + sp_nn t tl q) ∧ g.1 6 0 0 12 = mb_oi (sp_no t tl q o) ∧ ∀ k, g.1 27 0 0 k = if k = c then sp_nx t tl q else h.1 27 0 0 k)) := by
  have h70 := h6.2.1
  obtain ⟨na1, na2, na3⟩ := sp_na_le (t := t) hq
  have hF : F_X6_readsNumber h = B_X6_readsNumber_34 (nI q) (mb_b (decide (q < tl) && decide (t q = 45))) (mb_b (decide (q < tl) && decide (t q = 45))) (nI q) h := by
    unfold F_X6_readsNumber
    rw [e, m6_next h6 (by omega) e]
    simp only [px_cI, px_cIx, px_cV, px_cVx, px_cL, px_cLx, px_cR0, px_cR1, px_cRx, px_lI, px_lL, px_up, px_gZ0, px_gZ1, px_gZb, px_g0, px_g1, px_g2, px_g3, px_g4, px_g5, px_g6, px_g7, px_g8, px_g9, px_g10, px_g11, px_g12, px_g13, px_g14, px_c0, px_c1, px_c2, px_c3, px_c4, px_c5, px_c6, px_c7, px_c8, px_c9, px_c10, px_c11, px_c12, px_c13, px_c14]
    unfold B_X6_readsNumber_19
    rw [e]
    by_cases z : q < tl
    · rw [if_pos z, decide_eq_true z, Bool.true_and]
      by_cases z2 : t q = 45
      · rw [if_pos z2, decide_eq_true z2, if_neg (by decide)]; rfl
      · rw [if_neg z2, decide_eq_false z2, if_pos rfl]; rfl
    · rw [if_neg z, decide_eq_false z, Bool.false_and, if_neg (by decide), if_pos rfl]; rfl
  have ha : nI q + mb_b (decide (q < tl) && decide (t q = 45)) = nI (sp_na t tl q) := by
    unfold sp_na
    cases (decide (q < tl) && decide (t q = 45)) with
    | false => exact px_a0 _
    | true => exact nI_1 q
  have fA := mb_Ft.w6 h (j := 10) (by decide) (nI (sp_na t tl q))
  have hA6 := h6.ft fA
  have hAw : (mb_sI h 6 0 0 10 (nI (sp_na t tl q))).1 6 0 0 11 = -1 := by rw [mb_sI_j _ _ _ _ _ _ (by decide)]; exact ew
  have htk := m6_takes hA6 (q := sp_na t tl q) (by omega) (mb_sI_s _ _ _ _ _ _) hAw (lo := 48) (hi := 57) (by decide)
  have ed : (decide (sp_na t tl q < tl) && (decide ((48 : Int32) ≤ t (sp_na t tl q)) && decide (t (sp_na t tl q) ≤ 57))) = sp_d t tl (sp_na t tl q) := rfl
  rw [ed] at htk
  have en : sp_nn t tl q = cond (sp_d t tl (sp_na t tl q)) (sp_dg t tl (sp_na t tl q + 1) 2 + 1) 0 := rfl
  rw [hF]
  unfold B_X6_readsNumber_34
  rw [ha]
  simp only [px_cI, px_cIx, px_cV, px_cVx, px_cL, px_cLx, px_cR0, px_cR1, px_cRx, px_lI, px_lL, px_up, px_gZ0, px_gZ1, px_gZb, px_g0, px_g1, px_g2, px_g3, px_g4, px_g5, px_g6, px_g7, px_g8, px_g9, px_g10, px_g11, px_g12, px_g13, px_g14, px_c0, px_c1, px_c2, px_c3, px_c4, px_c5, px_c6, px_c7, px_c8, px_c9, px_c10, px_c11, px_c12, px_c13, px_c14]
  rw [htk]
  cases hd : sp_d t tl (sp_na t tl q) with
  | false =>
    rw [hd] at en
    rw [if_neg (by decide)]
    simp only [px_cI, px_cIx, px_cV, px_cVx, px_cL, px_cLx, px_cR0, px_cR1, px_cRx, px_lI, px_lL, px_up, px_gZ0, px_gZ1, px_gZb, px_g0, px_g1, px_g2, px_g3, px_g4, px_g5, px_g6, px_g7, px_g8, px_g9, px_g10, px_g11, px_g12, px_g13, px_g14, px_c0, px_c1, px_c2, px_c3, px_c4, px_c5, px_c6, px_c7, px_c8, px_c9, px_c10, px_c11, px_c12, px_c13, px_c14]
    have h11 : ¬ (mb_sI (mb_sI h 6 0 0 10 (nI (sp_na t tl q))) 6 0 0 11 (nI (sp_na t tl q))).1 6 0 0 11 = -1 := by rw [mb_sI_s]; exact px_neg1 (by omega)
    rw [show mb_fu = 69999 + 1 from rfl, B_X6_readsNumber_53, if_neg (by decide), if_neg h11]
    obtain ⟨g, p1, p2, p3, p4, p5, p6, p7⟩ := m6_rn104 (q := q) (vv := 0) hcc (by omega) (by decide) ho (decide (q < tl) && decide (t q = 45)) (mb_sI (mb_sI h 6 0 0 10 (nI (sp_na t tl q))) 6 0 0 11 (nI (sp_na t tl q))) (by rw [mb_sI_j _ _ _ _ _ _ (by decide), mb_sI_j _ _ _ _ _ _ (by decide)]; exact et) (by rw [mb_sI_j _ _ _ _ _ _ (by decide), mb_sI_j _ _ _ _ _ _ (by decide)]; exact er)
    exact ⟨g, p1, (fA.tr (mb_Ft.w6 _ (by decide) _)).tr p2, p3, Or.inl ⟨en, by rw [p4, mb_sI_s]⟩⟩
  | true =>
    rw [hd] at en
    obtain ⟨lq, c0, ec, l, u⟩ := sp_d_c hc hd
    rw [if_pos rfl]
    simp only [px_cI, px_cIx, px_cV, px_cVx, px_cL, px_cLx, px_cR0, px_cR1, px_cRx, px_lI, px_lL, px_up, px_gZ0, px_gZ1, px_gZb, px_g0, px_g1, px_g2, px_g3, px_g4, px_g5, px_g6, px_g7, px_g8, px_g9, px_g10, px_g11, px_g12, px_g13, px_g14, px_c0, px_c1, px_c2, px_c3, px_c4, px_c5, px_c6, px_c7, px_c8, px_c9, px_c10, px_c11, px_c12, px_c13, px_c14]
    have fB := fA.tr (mb_Ft.w6 (mb_sI h 6 0 0 10 (nI (sp_na t tl q))) (j := 10) (by decide) (nI (sp_na t tl q + 1)))
    rw [ec, show nI c0 - 48 = nI (c0 - 48) from px_sb (b := 48) l]
    obtain ⟨g2, q1, q2, q3, q4, q5, q6, q7⟩ := m6_rn53 hc (nI q) (mb_b (decide (q < tl) && decide (t q = 45))) 2 1 (sp_na t tl q + 1) (c0 - 48) mb_fu (mb_sI (mb_sI h 6 0 0 10 (nI (sp_na t tl q))) 6 0 0 10 (nI (sp_na t tl q + 1))) (h6.ft fB) (mb_sI_s _ _ _ _ _ _) (by rw [mb_sI_j _ _ _ _ _ _ (by decide)]; exact hAw) (by omega) (by decide) (by unfold mb_fu; omega)
    have ev : sp_nv t tl q = sp_vl t (c0 - 48) (sp_na t tl q + 1) (sp_dg t tl (sp_na t tl q + 1) 2) := by
      unfold sp_nv
      rw [en]
      show sp_vl t (10 * 0 + ((t (sp_na t tl q)).toNatClampNeg - 48)) (sp_na t tl q + 1) (sp_dg t tl (sp_na t tl q + 1) 2) = _
      rw [ec, nI_clamp (by omega), Nat.mul_zero, Nat.zero_add]
    obtain ⟨g, p1, p2, p3, p4, p5, p6, p7⟩ := m6_rn104 (q := q) (vv := sp_nv t tl q) hcc (by omega) (sp_nv_lt hc q) ho (decide (q < tl) && decide (t q = 45)) g2 (by rw [q6, mb_sI_j _ _ _ _ _ _ (by decide), mb_sI_j _ _ _ _ _ _ (by decide)]; exact et) (by rw [q5, mb_sI_j _ _ _ _ _ _ (by decide), mb_sI_j _ _ _ _ _ _ (by decide)]; exact er)
    refine ⟨g, ?_, (fB.tr q2).tr p2, p3, Or.inr ⟨by rw [en]; exact Nat.succ_pos _, by rw [p4, q4], ?_, p6, fun k => ?_⟩⟩
    · rw [show (1 : Int32) = nI 1 from rfl, q1, ← ev]
      exact p1
    · rw [p5, q3, en]
      show nI (sp_na t tl q + 1 + sp_dg t tl (sp_na t tl q + 1) 2) = nI (sp_na t tl q + (sp_dg t tl (sp_na t tl q + 1) 2 + 1))
      rw [show sp_na t tl q + 1 + sp_dg t tl (sp_na t tl q + 1) 2 = sp_na t tl q + (sp_dg t tl (sp_na t tl q + 1) 2 + 1) by omega]
    · rw [p7 k, q7, mb_sI_o _ _ _ _ _ _ (by decide), mb_sI_o _ _ _ _ _ _ (by decide)]
      rfl
theorem c3_step (h5 : mb_t5 h t tl) (hc : mb_cd t tl) {q c : Nat} (hq : q ≤ tl) (hcc : c < 14) {o : Option Nat} (ho : ∀ i, o = some i → i < 1000) (et : h.1 5 0 0 3 = nI c) (f : Nat) :
    B_X3_findFault_9 (f + 1) (mb_oi o) (nI q) h = if sp_nn t tl q = 0 then mb_rI (nI (sp_na t tl q)) h else if sp_na t tl q + sp_nn t tl q = tl then mb_rI (mb_oi (sp_no t tl q o)) (mb_sI (mb_sI h 17 0 0 c (sp_nx t tl q)) 5 0 0 3 (nI (c + 1))) else if t (sp_na t tl q + sp_nn t tl q) = 44 then B_X3_findFault_9 f (mb_oi (sp_no t tl q o)) (nI (sp_na t tl q + sp_nn t tl q + 1)) (mb_sI (mb_sI h 17 0 0 c (sp_nx t tl q)) 5 0 0 3 (nI (c + 1))) else mb_rI (nI (sp_na t tl q + sp_nn t tl q)) (mb_sI h 17 0 0 c (sp_nx t tl q)) := by
  have h70 := h5.2.1
  obtain ⟨na1, na2, na3⟩ := sp_na_le (t := t) hq
  have hnt : sp_na t tl q + sp_nn t tl q ≤ tl := sp_dg_tl t tl na3 3
  have hvv := sp_nv_lt hc q
  have k94 : ∀ (g : mb_AH), mb_t5 g t tl → g.1 5 0 0 3 = nI c → ∀ o2 : Option Nat, B_X3_findFault_94 (B_X3_findFault_9 f) (mb_oi o2) (nI (sp_na t tl q + sp_nn t tl q)) g = if sp_na t tl q + sp_nn t tl q = tl then mb_rI (mb_oi o2) (mb_sI g 5 0 0 3 (nI (c + 1))) else if t (sp_na t tl q + sp_nn t tl q) = 44 then B_X3_findFault_9 f (mb_oi o2) (nI (sp_na t tl q + sp_nn t tl q + 1)) (mb_sI g 5 0 0 3 (nI (c + 1))) else mb_rI (nI (sp_na t tl q + sp_nn t tl q)) g := by
    intro g g5 gc o2
    unfold B_X3_findFault_94
    rw [g5.1]
    by_cases z : sp_na t tl q + sp_nn t tl q = tl
    · rw [if_pos (by rw [z]), if_pos z, gc, nI_1]
      simp only [px_cI, px_cIx, px_cV, px_cVx, px_cL, px_cLx, px_cR0, px_cR1, px_cRx, px_lI, px_lL, px_up, px_gZ0, px_gZ1, px_gZb, px_g0, px_g1, px_g2, px_g3, px_g4, px_g5, px_g6, px_g7, px_g8, px_g9, px_g10, px_g11, px_g12, px_g13, px_g14, px_c0, px_c1, px_c2, px_c3, px_c4, px_c5, px_c6, px_c7, px_c8, px_c9, px_c10, px_c11, px_c12, px_c13, px_c14]
    · rw [if_neg (px_ne (by omega) (by omega) z), if_neg z, c3_isAt g5 (by omega)]
      simp only [px_cI, px_cIx, px_cV, px_cVx, px_cL, px_cLx, px_cR0, px_cR1, px_cRx, px_lI, px_lL, px_up, px_gZ0, px_gZ1, px_gZb, px_g0, px_g1, px_g2, px_g3, px_g4, px_g5, px_g6, px_g7, px_g8, px_g9, px_g10, px_g11, px_g12, px_g13, px_g14, px_c0, px_c1, px_c2, px_c3, px_c4, px_c5, px_c6, px_c7, px_c8, px_c9, px_c10, px_c11, px_c12, px_c13, px_c14]
      rw [decide_eq_true (show sp_na t tl q + sp_nn t tl q < tl by omega), Bool.true_and, gc, nI_1]
      by_cases z2 : t (sp_na t tl q + sp_nn t tl q) = 44
      · rw [if_pos z2, decide_eq_true z2, if_neg (by decide), nI_1]
      · rw [if_neg z2, decide_eq_false z2, if_pos (by rfl)]
  have k78 : ∀ x : Int32, B_X3_findFault_78 (B_X3_findFault_9 f) (mb_oi o) (nI q) (nI (sp_na t tl q + sp_nn t tl q)) (nI (sp_nv t tl q)) x (nI c) h = B_X3_findFault_94 (B_X3_findFault_9 f) (mb_oi (sp_no t tl q o)) (nI (sp_na t tl q + sp_nn t tl q)) (mb_sI h 17 0 0 c x) := by
    intro x
    unfold B_X3_findFault_78 sp_no sp_nz
    rw [px_gB hcc (by decide), nI_clamp (by omega)]
    simp only [px_cI, px_cIx, px_cV, px_cVx, px_cL, px_cLx, px_cR0, px_cR1, px_cRx, px_lI, px_lL, px_up, px_gZ0, px_gZ1, px_gZb, px_g0, px_g1, px_g2, px_g3, px_g4, px_g5, px_g6, px_g7, px_g8, px_g9, px_g10, px_g11, px_g12, px_g13, px_g14, px_c0, px_c1, px_c2, px_c3, px_c4, px_c5, px_c6, px_c7, px_c8, px_c9, px_c10, px_c11, px_c12, px_c13, px_c14]
    by_cases z : sp_nv t tl q ≤ 300
    · rw [if_pos (show nI (sp_nv t tl q) ≤ 300 from nI_le (b := 300) z (by decide)), if_pos z]
    · rw [if_neg (show ¬ nI (sp_nv t tl q) ≤ 300 from nI_ge (a := 300) (by omega) (by omega)), if_neg z]
      cases o with
      | none => rw [if_pos (by rfl)]; rfl
      | some i =>
        have := ho i rfl
        rw [if_neg (show ¬ mb_oi (some i) = -1 from px_neg1 (by omega))]
  have k33 : B_X3_findFault_33 (B_X3_findFault_9 f) (mb_oi o) (nI (sp_na t tl q)) (nI q) h = if sp_nn t tl q = 0 then mb_rI (nI (sp_na t tl q)) h else B_X3_findFault_94 (B_X3_findFault_9 f) (mb_oi (sp_no t tl q o)) (nI (sp_na t tl q + sp_nn t tl q)) (mb_sI h 17 0 0 c (sp_nx t tl q)) := by
    unfold B_X3_findFault_33 F_X3_endOfDigits F_X3_valueOf
    rw [c3_end_loop h5 (by omega) 3 (sp_na t tl q) mb_fu rfl (by unfold mb_fu; omega)]
    simp only [px_cI, px_cIx, px_cV, px_cVx, px_cL, px_cLx, px_cR0, px_cR1, px_cRx, px_lI, px_lL, px_up, px_gZ0, px_gZ1, px_gZb, px_g0, px_g1, px_g2, px_g3, px_g4, px_g5, px_g6, px_g7, px_g8, px_g9, px_g10, px_g11, px_g12, px_g13, px_g14, px_c0, px_c1, px_c2, px_c3, px_c4, px_c5, px_c6, px_c7, px_c8, px_c9, px_c10, px_c11, px_c12, px_c13, px_c14]
    rw [show sp_dg t tl (sp_na t tl q) 3 = sp_nn t tl q from rfl]
    by_cases z : sp_nn t tl q = 0
    · rw [if_pos (by rw [z]; rfl), if_pos z]
    · rw [if_neg (px_ne (by omega) (by omega) (by omega)), if_neg z]
      have := c3_val_loop h5 hc (e := sp_na t tl q + sp_nn t tl q) (sp_nn t tl q) (sp_na t tl q) 0 mb_fu rfl (fun i a b => sp_dg_d t tl 3 _ i a b) (by omega) (by unfold mb_fu; omega)
      rw [show (0 : Int32) = nI 0 from rfl, this]
      simp only [px_cI, px_cIx, px_cV, px_cVx, px_cL, px_cLx, px_cR0, px_cR1, px_cRx, px_lI, px_lL, px_up, px_gZ0, px_gZ1, px_gZb, px_g0, px_g1, px_g2, px_g3, px_g4, px_g5, px_g6, px_g7, px_g8, px_g9, px_g10, px_g11, px_g12, px_g13, px_g14, px_c0, px_c1, px_c2, px_c3, px_c4, px_c5, px_c6, px_c7, px_c8, px_c9, px_c10, px_c11, px_c12, px_c13, px_c14]
      rw [et, show sp_vl t 0 (sp_na t tl q) (sp_nn t tl q) = sp_nv t tl q from rfl, k78, k78]
      unfold sp_na sp_nx
      cases (decide (q < tl) && decide (t q = 45)) with
      | false => exact if_pos (show nI q ≤ nI q from nI_le (Nat.le_refl q) (by omega))
      | true => exact if_neg (show ¬ nI (q + 1) ≤ nI q from nI_ge (Nat.lt_succ_self q) (by omega))
  rw [B_X3_findFault_9, et, if_neg (show ¬ (14 : Int32) ≤ nI c from nI_ge (b := 14) hcc (by decide)), c3_isAt h5 (by omega)]
  simp only [px_cI, px_cIx, px_cV, px_cVx, px_cL, px_cLx, px_cR0, px_cR1, px_cRx, px_lI, px_lL, px_up, px_gZ0, px_gZ1, px_gZb, px_g0, px_g1, px_g2, px_g3, px_g4, px_g5, px_g6, px_g7, px_g8, px_g9, px_g10, px_g11, px_g12, px_g13, px_g14, px_c0, px_c1, px_c2, px_c3, px_c4, px_c5, px_c6, px_c7, px_c8, px_c9, px_c10, px_c11, px_c12, px_c13, px_c14, nI_1]
  have hsel : (if mb_b (decide (q < tl) && decide (t q = 45)) = 0 then B_X3_findFault_33 (B_X3_findFault_9 f) (mb_oi o) (nI q) (nI q) h else B_X3_findFault_33 (B_X3_findFault_9 f) (mb_oi o) (nI (q + 1)) (nI q) h) = B_X3_findFault_33 (B_X3_findFault_9 f) (mb_oi o) (nI (sp_na t tl q)) (nI q) h := by
    unfold sp_na
    cases (decide (q < tl) && decide (t q = 45)) with
    | false => exact if_pos rfl
    | true => exact if_neg (by decide)
  rw [hsel, k33, k94 _ (h5.ft (mb_Ft.w17 h c _)) (by rw [mb_sI_o _ _ _ _ _ _ (by decide)]; exact et)]
end
