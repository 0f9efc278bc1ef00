/-! ===== pure: fault, setTable, type, clearText ===== -/
section
variable {h g : mb_AH} {t : Nat → Int32} {tl : Nat} {w v : Nat → Int32} {B K T D U n : Nat}
theorem sp_nx_in {q : Nat} (hv : sp_nv t tl q ≤ 300) : -300 ≤ (sp_nx t tl q).toInt ∧ (sp_nx t tl q).toInt ≤ 300 := by
  unfold sp_nx
  cases (decide (q < tl) && decide (t q = 45)) with
  | false =>
    show -300 ≤ (nI (sp_nv t tl q)).toInt ∧ (nI (sp_nv t tl q)).toInt ≤ 300
    rw [nI_toInt (by omega)]; omega
  | true =>
    show -300 ≤ (-nI (sp_nv t tl q)).toInt ∧ (-nI (sp_nv t tl q)).toInt ≤ 300
    rw [Int32.toInt_neg, nI_toInt (by omega), Int.bmod_eq_of_le (by omega) (by omega)]; omega
theorem sp_no_none {q : Nat} {o : Option Nat} (h : sp_no t tl q o = none) : sp_nv t tl q ≤ 300 ∧ o = none := by
  unfold sp_no sp_nz at h
  by_cases z : sp_nv t tl q ≤ 300
  · rw [if_pos z] at h; exact ⟨z, h⟩
  · rw [if_neg z] at h
    cases o <;> cases h
theorem sp_no_lt {q : Nat} {o : Option Nat} (hq : q < 1000) (ho : ∀ i, o = some i → i < 1000) : ∀ i, sp_no t tl q o = some i → i < 1000 := by
  intro i h
  unfold sp_no sp_nz at h
  by_cases z : sp_nv t tl q ≤ 300
  · rw [if_pos z] at h; exact ho i h
  · rw [if_neg z] at h
    cases o with
    | none => cases h; exact hq
    | some j => cases h; exact ho i rfl
theorem px_oin {o : Option Nat} (ho : ∀ i, o = some i → i < 1000) (h : mb_oi o = -1) : o = none := by
  cases o with
  | none => rfl
  | some k => exact absurd h (px_neg1 (by have := ho k rfl; omega))
/-- what both sides have told up to the c-th number -/
def mb_tn (hC hR : mb_AH) (c : Nat) (o : Option Nat) : Prop := ∀ k, k < c → hC.1 17 0 0 k = hR.1 27 0 0 k ∧ (o = none → -300 ≤ (hC.1 17 0 0 k).toInt ∧ (hC.1 17 0 0 k).toInt ≤ 300)
theorem tx_both (hc : mb_cd t tl) : ∀ (m c q : Nat) (o : Option Nat) (hC hR : mb_AH) (f f2 : Nat), c + m = 14 → 1 ≤ m → q ≤ tl → m < f → 2 * m + 2 < f2 → (∀ i, o = some i → i < 1000) → mb_t5 hC t tl → mb_t6 hR t tl → hC.1 5 0 0 3 = nI c → hR.1 6 0 0 10 = nI q → hR.1 6 0 0 11 = -1 → hR.1 6 0 0 12 = mb_oi o → hR.1 6 0 0 13 = nI c → mb_tn hC hR c o →
    ∃ (r : Int32) (gC gR : mb_AH), B_X3_findFault_9 f (mb_oi o) (nI q) hC = mb_rI r gC ∧ mb_cV (F_X6_readsNumber hR) (fun g => B_X6_reads_24 f2 g) = mb_rI r gR ∧ mb_Ft hC gC ∧ mb_Ft hR gR ∧ (r = -1 → ∃ c2 : Nat, 1 ≤ c2 ∧ c2 ≤ 14 ∧ gC.1 5 0 0 3 = nI c2 ∧ gR.1 6 0 0 13 = nI c2 ∧ mb_tn gC gR c2 none) := by
  intro m
  induction m with
  | zero => intro c q o hC hR f f2 _ h1; omega
  | succ m ih =>
    intro c q o hC hR f f2 hcm _ hq hf hf2 ho h5 h6 e3 e10 e11 e12 e13 htn
    obtain ⟨f, rfl⟩ : ∃ g, f = g + 1 := ⟨f - 1, by omega⟩
    obtain ⟨f2, rfl⟩ : ∃ g, f2 = g + 1 := ⟨f2 - 1, by omega⟩
    have h70 := h5.2.1
    have hcc : c < 14 := by omega
    obtain ⟨na1, na2, na3⟩ := sp_na_le (t := t) hq
    have hnt : sp_na t tl q + sp_nn t tl q ≤ tl := sp_dg_tl t tl na3 3
    have hs := c3_step h5 hc hq hcc ho e3 f
    obtain ⟨gA, a1, a2, a3, a4⟩ := m6_rn h6 hc hq hcc ho e10 e11 e12 e13
    have gA6 := h6.ft a2
    rw [hs, a1, px_cV, B_X6_reads_24]
    rcases a4 with ⟨z, b1⟩ | ⟨z, b1, b2, b3, b4⟩
    · refine ⟨nI (sp_na t tl q), hC, gA, if_pos z, ?_, mb_Ft.rf hC, a2, fun y => absurd y (px_neg1 (by omega))⟩
      unfold B_X6_reads_87
      rw [if_neg (by rw [b1]; exact px_neg1 (by omega)), if_neg (by rw [b1]; exact px_neg1 (by omega)), b1]
    · rw [if_neg (show ¬ sp_nn t tl q = 0 by omega), if_pos b1, gA6.1, b2]
      have f17 := mb_Ft.w17 hC c (sp_nx t tl q)
      have f53 := f17.tr (mb_Ft.w5 (mb_sI hC 17 0 0 c (sp_nx t tl q)) (nI (c + 1)))
      have hno := sp_no_lt (t := t) (tl := tl) (show q < 1000 by omega) ho
      have htn2 : ∀ gR2 : mb_AH, gR2.1 27 = gA.1 27 → mb_tn (mb_sI (mb_sI hC 17 0 0 c (sp_nx t tl q)) 5 0 0 3 (nI (c + 1))) gR2 (c + 1) (sp_no t tl q o) := by
        intro gR2 e27 k hk
        rw [e27, b4 k, mb_sI_o _ _ _ _ _ _ (show 17 ≠ 5 by decide)]
        by_cases z2 : k = c
        · subst z2
          rw [mb_sI_s, if_pos rfl]
          exact ⟨rfl, fun y => sp_nx_in (sp_no_none y).1⟩
        · rw [mb_sI_j _ _ _ _ _ _ z2, if_neg z2]
          obtain ⟨y1, y2⟩ := htn k (by omega)
          exact ⟨y1, fun y => y2 (sp_no_none y).2⟩
      by_cases z1 : sp_na t tl q + sp_nn t tl q = tl
      · rw [if_pos z1, if_pos (nI_le (by omega) (by omega))]
        refine ⟨_, _, gA, rfl, ?_, f53, a2, fun y => ⟨c + 1, by omega, by omega, mb_sI_s _ _ _ _ _ _, a3, ?_⟩⟩
        · unfold B_X6_reads_87
          rw [if_pos b1, b3]
        · have := htn2 gA rfl
          rw [px_oin hno y] at this
          exact this
      · rw [if_neg z1, if_neg (nI_ge (by omega) (by omega)), a3]
        have h87 : ∀ g2 : mb_AH, g2.1 6 0 0 11 = nI (sp_na t tl q + sp_nn t tl q) → B_X6_reads_24 f2 g2 = mb_rI (nI (sp_na t tl q + sp_nn t tl q)) g2 := by
          intro g2 y
          obtain ⟨f3, rfl⟩ : ∃ g, f2 = g + 1 := ⟨f2 - 1, by omega⟩
          rw [B_X6_reads_24]
          unfold B_X6_reads_87
          rw [if_neg (by rw [y]; exact px_neg1 (by omega)), if_neg (by rw [y]; exact px_neg1 (by omega)), y]
        by_cases z3 : c + 1 = 14
        · rw [if_pos (show nI (c + 1) = 14 by rw [z3]; rfl), px_up]
          have hw := h87 (mb_sI gA 6 0 0 11 (nI (sp_na t tl q + sp_nn t tl q))) (mb_sI_s _ _ _ _ _ _)
          by_cases z2 : t (sp_na t tl q + sp_nn t tl q) = 44
          · refine ⟨nI (sp_na t tl q + sp_nn t tl q), _, _, ?_, hw, f53, a2.tr (mb_Ft.w6 gA (j := 11) (by decide) _), fun y => absurd y (px_neg1 (by omega))⟩
            rw [if_pos z2]
            obtain ⟨f, rfl⟩ : ∃ g, f = g + 1 := ⟨f - 1, by omega⟩
            rw [B_X3_findFault_9, mb_sI_s, z3, if_pos (by decide), px_nIm (sp_na t tl q + sp_nn t tl q + 1) (by omega), Nat.add_sub_cancel]
          · refine ⟨nI (sp_na t tl q + sp_nn t tl q), _, _, ?_, hw, f17, a2.tr (mb_Ft.w6 gA (j := 11) (by decide) _), fun y => absurd y (px_neg1 (by omega))⟩
            rw [if_neg z2]
        · rw [if_neg (show ¬ nI (c + 1) = 14 from px_ne (b := 14) (by omega) (by decide) z3), m6_takes gA6 (by omega) b2 b1 (lo := 44) (hi := 44) (by decide), decide_eq_true (show sp_na t tl q + sp_nn t tl q < tl by omega), Bool.true_and]
          by_cases z2 : t (sp_na t tl q + sp_nn t tl q) = 44
          · rw [if_pos z2, z2, if_pos (by decide)]
            simp only [px_cI, px_cIx, px_cV, px_cVx, px_cL, px_cLx, px_cR0, px_cR1, px_cRx, px_lI, px_lL, px_up, px_gZ0, px_gZ1, px_gZb, px_g0, px_g1, px_g2, px_g3, px_g4, px_g5, px_g6, px_g7, px_g8, px_g9, px_g10, px_g11, px_g12, px_g13, px_g14, px_c0, px_c1, px_c2, px_c3, px_c4, px_c5, px_c6, px_c7, px_c8, px_c9, px_c10, px_c11, px_c12, px_c13, px_c14]
            rw [if_pos (by rw [mb_sI_j _ _ _ _ _ _ (by decide)]; exact b1)]
            have f10 := a2.tr (mb_Ft.w6 gA (j := 10) (by decide) (nI (sp_na t tl q + sp_nn t tl q + 1)))
            obtain ⟨r, gC, gR, p1, p2, p3, p4, p5⟩ := ih (c + 1) (sp_na t tl q + sp_nn t tl q + 1) (sp_no t tl q o) (mb_sI (mb_sI hC 17 0 0 c (sp_nx t tl q)) 5 0 0 3 (nI (c + 1))) (mb_sI gA 6 0 0 10 (nI (sp_na t tl q + sp_nn t tl q + 1))) f f2 (by omega) (by omega) (by omega) (by omega) (by omega) hno (h5.ft f53) (h6.ft f10) (mb_sI_s _ _ _ _ _ _) (mb_sI_s _ _ _ _ _ _) (by rw [mb_sI_j _ _ _ _ _ _ (by decide)]; exact b1) (by rw [mb_sI_j _ _ _ _ _ _ (by decide)]; exact b3) (by rw [mb_sI_j _ _ _ _ _ _ (by decide)]; exact a3) (htn2 _ (mb_sI_o _ _ _ _ _ _ (by decide)))
            exact ⟨r, gC, gR, p1, p2, f53.tr p3, f10.tr p4, p5⟩
          · have hcm : (decide ((44 : Int32) ≤ t (sp_na t tl q + sp_nn t tl q)) && decide (t (sp_na t tl q + sp_nn t tl q) ≤ 44)) = false := by
              rw [Bool.eq_false_iff]
              intro y
              rw [Bool.and_eq_true, decide_eq_true_iff, decide_eq_true_iff] at y
              exact z2 (Int32.le_antisymm y.2 y.1)
            rw [if_neg z2, hcm, if_neg (by decide)]
            simp only [px_cI, px_cIx, px_cV, px_cVx, px_cL, px_cLx, px_cR0, px_cR1, px_cRx, px_lI, px_lL, px_up, px_gZ0, px_gZ1, px_gZb, px_g0, px_g1, px_g2, px_g3, px_g4, px_g5, px_g6, px_g7, px_g8, px_g9, px_g10, px_g11, px_g12, px_g13, px_g14, px_c0, px_c1, px_c2, px_c3, px_c4, px_c5, px_c6, px_c7, px_c8, px_c9, px_c10, px_c11, px_c12, px_c13, px_c14]
            rw [if_neg (by rw [mb_sI_s]; exact px_neg1 (by omega))]
            exact ⟨nI (sp_na t tl q + sp_nn t tl q), _, _, rfl, h87 _ (mb_sI_s _ _ _ _ _ _), f17, a2.tr (mb_Ft.w6 gA (j := 11) (by decide) _), fun y => absurd y (px_neg1 (by omega))⟩
theorem tx_fault0 (hc : mb_cd t tl) (hC hR : mb_AH) (h5 : mb_t5 hC t tl) (h6 : mb_t6 hR t tl) : ∃ (r : Int32) (gC gR : mb_AH), F_X3_findFault hC = mb_rI r gC ∧ F_X6_reads hR = mb_rI r gR ∧ mb_Ft hC gC ∧ mb_Ft hR gR ∧ (r = -1 → ∃ c2 : Nat, 1 ≤ c2 ∧ c2 ≤ 14 ∧ gC.1 5 0 0 3 = nI c2 ∧ gR.1 6 0 0 13 = nI c2 ∧ mb_tn gC gR c2 none) := by
  have fC := mb_Ft.w5 hC 0
  have fR := (((mb_Ft.w6 hR (j := 10) (by decide) 0).tr (mb_Ft.w6 _ (j := 11) (by decide) (-1))).tr (mb_Ft.w6 _ (j := 12) (by decide) (-1))).tr (mb_Ft.w6 _ (j := 13) (by decide) 0)
  obtain ⟨r, gC, gR, p1, p2, p3, p4, p5⟩ := tx_both hc 14 0 0 none (mb_sI hC 5 0 0 3 0) (mb_sI (mb_sI (mb_sI (mb_sI hR 6 0 0 10 0) 6 0 0 11 (-1)) 6 0 0 12 (-1)) 6 0 0 13 0) mb_fu mb_fu rfl (by decide) (Nat.zero_le _) (by unfold mb_fu; omega) (by unfold mb_fu; omega) (fun i hi => by cases hi) (h5.ft fC) (h6.ft fR) (mb_sI_s _ _ _ _ _ _) (by rw [mb_sI_j _ _ _ _ _ _ (by decide), mb_sI_j _ _ _ _ _ _ (by decide), mb_sI_j _ _ _ _ _ _ (by decide), mb_sI_s]; rfl) (by rw [mb_sI_j _ _ _ _ _ _ (by decide), mb_sI_j _ _ _ _ _ _ (by decide), mb_sI_s]) (by rw [mb_sI_j _ _ _ _ _ _ (by decide), mb_sI_s]; rfl) (mb_sI_s _ _ _ _ _ _) (fun k hk => absurd hk (Nat.not_lt_zero k))
  refine ⟨r, gC, gR, ?_, ?_, fC.tr p3, fR.tr p4, p5⟩
  · unfold F_X3_findFault
    simp only [px_cI, px_cIx, px_cV, px_cVx, px_cL, px_cLx, px_cR0, px_cR1, px_cRx, px_lI, px_lL, px_up, px_gZ0, px_gZ1, px_gZb, px_g0, px_g1, px_g2, px_g3, px_g4, px_g5, px_g6, px_g7, px_g8, px_g9, px_g10, px_g11, px_g12, px_g13, px_g14, px_c0, px_c1, px_c2, px_c3, px_c4, px_c5, px_c6, px_c7, px_c8, px_c9, px_c10, px_c11, px_c12, px_c13, px_c14]
    exact p1
  · unfold F_X6_reads
    simp only [px_cI, px_cIx, px_cV, px_cVx, px_cL, px_cLx, px_cR0, px_cR1, px_cRx, px_lI, px_lL, px_up, px_gZ0, px_gZ1, px_gZb, px_g0, px_g1, px_g2, px_g3, px_g4, px_g5, px_g6, px_g7, px_g8, px_g9, px_g10, px_g11, px_g12, px_g13, px_g14, px_c0, px_c1, px_c2, px_c3, px_c4, px_c5, px_c6, px_c7, px_c8, px_c9, px_c10, px_c11, px_c12, px_c13, px_c14]
    exact p2
theorem mb_rI_inj {a b : Int32} {f g : mb_AH} (h : mb_rI a f = mb_rI b g) : a = b ∧ f = g := by
  injection h with h
  injection h with h1 h2
  injection h1 with h1
  injection h1 with h1
  injection h1 with h1
  exact ⟨h1, h2⟩
theorem tx_fault (hc : mb_cd t tl) (hC : mb_AH) (h5 : mb_t5 hC t tl) (h6 : mb_t6 hC t tl) : ∃ (r : Int32) (gC : mb_AH), F_X3_findFault hC = mb_rI r gC ∧ mb_Ft hC gC ∧ ∀ hR : mb_AH, mb_t6 hR t tl → ∃ gR : mb_AH, F_X6_reads hR = mb_rI r gR ∧ mb_Ft hR gR ∧ (r = -1 → ∃ c2 : Nat, 1 ≤ c2 ∧ c2 ≤ 14 ∧ gC.1 5 0 0 3 = nI c2 ∧ gR.1 6 0 0 13 = nI c2 ∧ mb_tn gC gR c2 none) := by
  obtain ⟨r, gC, -, e1, -, f1, -⟩ := tx_fault0 hc hC hC h5 h6
  refine ⟨r, gC, e1, f1, fun hR h62 => ?_⟩
  obtain ⟨r2, gC2, gR, e2, e3, -, f3, k⟩ := tx_fault0 hc hC hR h5 h62
  obtain ⟨rfl, rfl⟩ := mb_rI_inj (e1.symm.trans e2)
  exact ⟨gR, e3, f3, k⟩
theorem mb_S.txt (hS : mb_S n h) : ∃ (t : Nat → Int32) (tl : Nat), mb_cd t tl ∧ mb_t5 h t tl ∧ mb_t6 h t tl := by
  obtain ⟨⟨tl, a, b, c, d⟩, -, -⟩ := hS
  exact ⟨fun k => h.1 23 0 0 k, tl, fun k hk => (d k hk).2, ⟨b, a, fun k hk => (d k hk).1⟩, c, a, fun k _ => rfl⟩
theorem mb_S.ft (hS : mb_S n h) (f : mb_Ft h g) : mb_S n g :=
  hS.cg (by rw [f.1 0 (by decide) (by decide) (by decide) (by decide)]) (f.2.2.2 3 (by decide)) (f.2.2.2 6 (by decide)) (f.2.2.1 1 (by decide)) (f.1 21 (by decide) (by decide) (by decide) (by decide)) (f.1 20 (by decide) (by decide) (by decide) (by decide)) (f.1 16 (by decide) (by decide) (by decide) (by decide)) (f.1 23 (by decide) (by decide) (by decide) (by decide)) (by rw [f.2.1]) (f.1 1 (by decide) (by decide) (by decide) (by decide)) (f.1 2 (by decide) (by decide) (by decide) (by decide)) (f.1 3 (by decide) (by decide) (by decide) (by decide)) (f.1 12 (by decide) (by decide) (by decide) (by decide)) (by rw [f.2.1])
theorem mb_t6.ref (a : mb_t6 h t tl) (x : Int32) : mb_t6 (mb_sI h 6 0 0 4 x) t tl := ⟨by rw [mb_sI_j _ _ _ _ _ _ (by decide)]; exact a.1, a.2.1, fun k hk => by rw [mb_sI_o _ _ _ _ _ _ (by decide)]; exact a.2.2 k hk⟩
theorem s_fault (hS : mb_S n h) : mb_PP (F_X5_fault h) F_X6_fault (mb_S (n + 1)) := by
  obtain ⟨t, tl, hc, h5, h6⟩ := hS.txt
  obtain ⟨r, gC, e1, fC, hR⟩ := tx_fault hc h h5 h6
  obtain ⟨gR, e2, fR, -⟩ := hR (mb_sI gC 6 0 0 4 0) ((h6.ft fC).ref 0)
  refine ⟨r, gC, gR, ?_, ?_, ((((hS.up (Nat.le_succ n)).ft fC).ref 0).ft fR)⟩
  · unfold F_X5_fault
    rw [e1]
    simp only [px_cI, px_cIx, px_cV, px_cVx, px_cL, px_cLx, px_cR0, px_cR1, px_cRx, px_lI, px_lL, px_up, px_gZ0, px_gZ1, px_gZb, px_g0, px_g1, px_g2, px_g3, px_g4, px_g5, px_g6, px_g7, px_g8, px_g9, px_g10, px_g11, px_g12, px_g13, px_g14, px_c0, px_c1, px_c2, px_c3, px_c4, px_c5, px_c6, px_c7, px_c8, px_c9, px_c10, px_c11, px_c12, px_c13, px_c14]
  · unfold F_X6_fault
    simp only [px_cI, px_cIx, px_cV, px_cVx, px_cL, px_cLx, px_cR0, px_cR1, px_cRx, px_lI, px_lL, px_up, px_gZ0, px_gZ1, px_gZb, px_g0, px_g1, px_g2, px_g3, px_g4, px_g5, px_g6, px_g7, px_g8, px_g9, px_g10, px_g11, px_g12, px_g13, px_g14, px_c0, px_c1, px_c2, px_c3, px_c4, px_c5, px_c6, px_c7, px_c8, px_c9, px_c10, px_c11, px_c12, px_c13, px_c14]
    rw [e2]
    simp only [px_cI, px_cIx, px_cV, px_cVx, px_cL, px_cLx, px_cR0, px_cR1, px_cRx, px_lI, px_lL, px_up, px_gZ0, px_gZ1, px_gZb, px_g0, px_g1, px_g2, px_g3, px_g4, px_g5, px_g6, px_g7, px_g8, px_g9, px_g10, px_g11, px_g12, px_g13, px_g14, px_c0, px_c1, px_c2, px_c3, px_c4, px_c5, px_c6, px_c7, px_c8, px_c9, px_c10, px_c11, px_c12, px_c13, px_c14]
theorem mb_W.tb {T2 : Nat} (h : mb_W w B K T D U) (e : ∀ j, j ≠ 8 → ¬ (12 ≤ j ∧ j < 26) → v j = w j) (e8 : v 8 = nI T2) (h1 : 1 ≤ T2) (h2 : T2 ≤ 14) (l : ∀ k, k < T2 → -300 ≤ (v (12 + k)).toInt ∧ (v (12 + k)).toInt ≤ 300) : mb_W v B K T2 D U := by
  have eo : ∀ k j, bo v k j = bo w k j := fun k j => e _ (by omega) (by omega)
  have et : ∀ k j, bt v k j = bt w k j := fun k j => e _ (by omega) (by omega)
  obtain ⟨⟨z1, z2, z3, z4, -⟩, d, uu, a, b, c1, c2, -, hg, wi, hp⟩ := h
  refine ⟨⟨by rw [e 6 (by decide) (by decide)]; exact z1, z2, by rw [e 7 (by decide) (by decide)]; exact z3, z4, e8, h1, h2⟩, by rw [e 4 (by decide) (by decide)]; exact d, by rw [e 9 (by decide) (by decide)]; exact uu, fun k hk => ?_, fun b9 hb9 => ?_, fun k j hk hj => ?_, fun k j hk hj => ?_, l, ?_, by rw [e 5 (by decide) (by decide)]; exact wi, ?_⟩
  · have := a k hk
    unfold mb_at9 mb_hm9 mb_wt9 mb_nu9 at this ⊢
    simp only [eo]
    exact this
  · have := b b9 hb9
    unfold mb_nb9 at this ⊢
    simp only [et]
    exact this
  · simp only [eo]
    exact c1 k j hk hj
  · simp only [eo]
    exact c2 k j hk hj
  · rw [e 0 (by decide) (by decide), e 1 (by decide) (by decide), e 2 (by decide) (by decide), e 3 (by decide) (by decide)]
    exact hg
  · rw [e 10 (by decide) (by decide), e 11 (by decide) (by decide)]
    exact hp
theorem c2_tl_loop {T2 : Nat} (h2 : T2 ≤ 14) : ∀ (m j f : Nat) (h : mb_AH), h.1 1 0 0 5 = nI T2 → (∀ k, k < T2 → h.1 17 0 0 k = v (12 + k) ∧ (v (12 + k)).toInt ≤ 300) → (∀ k, k < j → h.1 12 0 0 k = v (12 + k)) → (h.1 1 0 0 6 = if j = 0 then 300 else sp_low v (j - 1)) → j + m = T2 → m < f →
    ∃ g : mb_AH, B_X2_takeLows_17 f 0 (nI j) h = mb_rV g ∧ mb_Fr 0 h g ∧ (∀ k, k ≠ 12 → k ≠ 1 → g.1 k = h.1 k) ∧ (∀ k, k ≠ 6 → g.1 1 0 0 k = h.1 1 0 0 k) ∧ g.2 = h.2 ∧ (∀ k, k < T2 → g.1 12 0 0 k = v (12 + k)) ∧ (g.1 1 0 0 6 = if T2 = 0 then 300 else sp_low v (T2 - 1)) := by
  intro m
  induction m with
  | zero =>
    intro j f h e5 e17 e12 e6 hj hf
    obtain ⟨f, rfl⟩ : ∃ g, f = g + 1 := ⟨f - 1, by omega⟩
    have : j = T2 := by omega
    subst this
    refine ⟨h, ?_, mb_Fr.rf _ _, fun _ _ _ => rfl, fun _ _ => rfl, rfl, e12, e6⟩
    rw [B_X2_takeLows_17, e5, if_pos (nI_le (by omega) (by omega))]
  | succ m ih =>
    intro j f h e5 e17 e12 e6 hj hf
    obtain ⟨f, rfl⟩ : ∃ g, f = g + 1 := ⟨f - 1, by omega⟩
    have hjT : j < T2 := by omega
    obtain ⟨y1, y2⟩ := e17 j hjT
    have em : (if v (12 + j) < h.1 1 0 0 6 then v (12 + j) else h.1 1 0 0 6) = sp_low v j := by
      rw [e6]
      by_cases z : j = 0
      · subst z
        rw [if_pos rfl]
        show _ = v 12
        by_cases z2 : v (12 + 0) < 300
        · rw [if_pos z2]
        · rw [if_neg z2]
          rw [Int32.lt_iff_toInt_lt, show (300 : Int32).toInt = 300 by decide] at z2
          rw [← Int32.toInt_inj, show (300 : Int32).toInt = 300 by decide]
          show (300 : Int) = (v (12 + 0)).toInt
          omega
      · rw [if_neg z]
        obtain ⟨i, rfl⟩ : ∃ i, j = i + 1 := ⟨j - 1, by omega⟩
        rfl
    have fA : mb_Fr 0 h (mb_sI h 12 0 0 j (v (12 + j))) := mb_Fr.wI (k := 12) h 0 j _ (by decide)
    have fB := fA.tr (mb_Fr.wI (k := 1) (mb_sI h 12 0 0 j (v (12 + j))) 0 6 (sp_low v j) (by decide))
    obtain ⟨g, p1, p2, p3, p4, p5, p6, p7⟩ := ih (j + 1) f (mb_sI (mb_sI h 12 0 0 j (v (12 + j))) 1 0 0 6 (sp_low v j)) (by rw [mb_sI_j _ _ _ _ _ _ (by decide), mb_sI_o _ _ _ _ _ _ (by decide)]; exact e5) (fun k hk => by rw [mb_sI_o _ _ _ _ _ _ (by decide), mb_sI_o _ _ _ _ _ _ (by decide)]; exact e17 k hk) (fun k hk => by
      rw [mb_sI_o _ _ _ _ _ _ (by decide)]
      by_cases z : k = j
      · subst z; exact mb_sI_s _ _ _ _ _ _
      · rw [mb_sI_j _ _ _ _ _ _ z]; exact e12 k (by omega)) (by rw [mb_sI_s, if_neg (by omega), Nat.add_sub_cancel]) (by omega) (by omega)
    refine ⟨g, ?_, fB.tr p2, fun k q1 q2 => by rw [p3 k q1 q2, mb_sI_o _ _ _ _ _ _ q2, mb_sI_o _ _ _ _ _ _ q1], fun k q => by rw [p4 k q, mb_sI_j _ _ _ _ _ _ q, mb_sI_o _ _ _ _ _ _ (by decide)], p5, p6, p7⟩
    rw [B_X2_takeLows_17, e5, if_neg (nI_ge hjT (by omega))]
    simp only [px_cI, px_cIx, px_cV, px_cVx, px_cL, px_cLx, px_cR0, px_cR1, px_cRx, px_lI, px_lL, px_up, px_gZ0, px_gZ1, px_gZb, px_g0, px_g1, px_g2, px_g3, px_g4, px_g5, px_g6, px_g7, px_g8, px_g9, px_g10, px_g11, px_g12, px_g13, px_g14, px_c0, px_c1, px_c2, px_c3, px_c4, px_c5, px_c6, px_c7, px_c8, px_c9, px_c10, px_c11, px_c12, px_c13, px_c14, nI_1, px_gB (show j < 14 by omega) (show 14 < 2 ^ 31 by decide), nI_clamp (show j < 2 ^ 31 by omega), y1]
    rw [mb_sI_s, mb_sI_o _ _ _ _ _ _ (show 1 ≠ 12 by decide), em]
    exact p1
end
