/-! ===== pure: setTable, type, clearText, undo ===== -/
section
variable {h g : mb_AH} {t : Nat → Int32} {tl : Nat} {w : Nat → Int32} {B K T D U n rc : Nat}
theorem mb_rV_inj {a b : mb_AH} (e : mb_rV a = mb_rV b) : a = b := (Prod.mk.inj (Option.some.inj e)).2
theorem mut_ok2 {es : List String} {f5 : Option mb_RS} {f6 : mb_AH → Option mb_RS} {g5 : mb_AH} {v : Int32} {ws : Nat → Nat → Int32} (hS : mb_S n h) (h5 : f5 = mb_rI v g5) (hC : mb_C (n + 1) g5 rc ws w) (hz : mb_Fz h g5) (h6 : ∀ g : mb_AH, g.1 = g5.1 → ∃ gR g6, mb_Ft g gR ∧ f6 g = mb_rI v g6 ∧ mb_Mo gR g6 rc ws w) : mb_PI es f5 f6 (mb_S (n + 1)) := by
  obtain ⟨gR, g6, fr, e6, m1, m2, m3, m4, m5, m6, m7⟩ := h6 (mb_sL g5 30 0 0 0 v.toInt64) rfl
  obtain ⟨⟨tl, t⟩, -, -⟩ := hS
  refine Or.inl ⟨v, g5, g6, h5, e6, m4, by rw [m2, fr.2.1]; simp [mb_sL], ?_⟩
  have kk : ∀ k, k ≠ 20 → k ≠ 21 → k ≠ 5 → k ≠ 6 → k ≠ 17 → k ≠ 27 → g6.1 k = g5.1 k := fun k a b c d e f => (m1 k a b d).trans (fr.1 k c d e f)
  have k16 : g6.1 16 = h.1 16 := (kk 16 (by decide) (by decide) (by decide) (by decide) (by decide) (by decide)).trans (hz 16 (by decide))
  have k23 : g6.1 23 = h.1 23 := (kk 23 (by decide) (by decide) (by decide) (by decide) (by decide) (by decide)).trans (hz 23 (by decide))
  have k5 : g6.1 5 0 0 1 = h.1 5 0 0 1 := by
    rw [m1 5 (by decide) (by decide) (by decide), fr.2.2.1 1 (by decide)]
    exact congrFun (congrFun (congrFun (hz 5 (by decide)) 0) 0) 1
  have k66 : g6.1 6 0 0 6 = h.1 6 0 0 6 := by
    rw [m5, fr.2.2.2 6 (by decide)]
    exact congrFun (congrFun (congrFun (hz 6 (by decide)) 0) 0) 6
  refine mb_S.of (tl := tl) (t.cg k5 k66 k16 k23) (hC.cg ?_ ?_ ?_ ?_ ?_ ?_ ?_) m3 m6 m7
  · rw [kk 0 (by decide) (by decide) (by decide) (by decide) (by decide) (by decide)]
  · rw [m2, fr.2.1]; rfl
  · exact kk 1 (by decide) (by decide) (by decide) (by decide) (by decide) (by decide)
  · exact kk 2 (by decide) (by decide) (by decide) (by decide) (by decide) (by decide)
  · exact kk 3 (by decide) (by decide) (by decide) (by decide) (by decide) (by decide)
  · exact kk 12 (by decide) (by decide) (by decide) (by decide) (by decide) (by decide)
  · rw [m2, fr.2.1]; funext a b j; simp [mb_sL]
def wtb (w : Nat → Int32) (c : Nat) (f : Nat → Int32) : Nat → Int32 := fun j => if j = 8 then nI c else if 12 ≤ j ∧ j < 26 then (if j - 12 < c then f (j - 12) else 0) else w j
theorem wtb_o (w : Nat → Int32) (c : Nat) (f : Nat → Int32) {j : Nat} (h8 : j ≠ 8) (hj : ¬ (12 ≤ j ∧ j < 26)) : wtb w c f j = w j := by
  unfold wtb
  rw [if_neg h8, if_neg hj]
theorem wtb_k (w : Nat → Int32) {c : Nat} (f : Nat → Int32) {k : Nat} (hk : k < c) (hc : c ≤ 14) : wtb w c f (12 + k) = f k := by
  unfold wtb
  rw [if_neg (by omega), if_pos (by omega), if_pos (by omega), Nat.add_sub_cancel_left]
theorem m6_tb_loop {c2 : Nat} (h2 : c2 ≤ 14) : ∀ (m j f : Nat) (h : mb_AH), h.1 6 0 0 13 = nI c2 → j + m = 14 → m < f → ∃ g : mb_AH, B_X6_setTable_39 f (nI j) h = mb_rI (nI c2) g ∧ (∀ k, k ≠ 20 → g.1 k = h.1 k) ∧ g.2 = h.2 ∧ ∀ i, g.1 20 0 0 i = if 12 + j ≤ i ∧ i < 26 then (if i - 12 < c2 then h.1 27 0 0 (i - 12) else 0) else h.1 20 0 0 i := by
  intro m
  induction m with
  | zero =>
    intro j f h e hj hf
    obtain ⟨f, rfl⟩ : ∃ g, f = g + 1 := ⟨f - 1, by omega⟩
    refine ⟨h, ?_, fun _ _ => rfl, rfl, fun i => by rw [if_neg (by omega)]⟩
    rw [B_X6_setTable_39, if_pos (show (14 : Int32) ≤ nI j from nI_le (a := 14) (by omega) (by omega)), e]
  | succ m ih =>
    intro j f h e hj hf
    obtain ⟨f, rfl⟩ : ∃ g, f = g + 1 := ⟨f - 1, by omega⟩
    obtain ⟨g, e1, e2, e3, e4⟩ := ih (j + 1) f (mb_sI h 20 0 0 (12 + j) (if j < c2 then h.1 27 0 0 j else 0)) (by rw [mb_sI_o _ _ _ _ _ _ (by decide)]; exact e) (by omega) (by omega)
    refine ⟨g, ?_, fun k hk => by rw [e2 k hk, mb_sI_o _ _ _ _ _ _ hk], e3, fun i => ?_⟩
    · rw [B_X6_setTable_39, if_neg (show ¬ (14 : Int32) ≤ nI j from nI_ge (b := 14) (by omega) (by omega)), e]
      unfold B_X6_setTable_71
      rw [show (12 : Int32) + nI j = nI (12 + j) from nI_add 12 j, px_gB (show 12 + j < 270 by omega) (by decide), px_gB (show 12 + j < 270 by omega) (by decide), px_gB (show j < 14 by omega) (by decide), nI_clamp (by omega), nI_clamp (by omega), nI_1]
      by_cases q : j < c2
      · rw [if_neg (nI_ge q (by omega))]
        rw [if_pos q] at e1
        exact e1
      · rw [if_pos (nI_le (by omega) (by omega))]
        rw [if_neg q] at e1
        exact e1
    · rw [e4 i]
      by_cases q : i = 12 + j
      · subst q
        rw [if_neg (show ¬ (12 + (j + 1) ≤ 12 + j ∧ 12 + j < 26) by omega), if_pos (show 12 + j ≤ 12 + j ∧ 12 + j < 26 by omega), mb_sI_s, Nat.add_sub_cancel_left]
      · rw [mb_sI_j _ _ _ _ _ _ q, mb_sI_o _ _ _ _ _ _ (show 27 ≠ 20 by decide)]
        by_cases q2 : 12 + (j + 1) ≤ i ∧ i < 26
        · rw [if_pos q2, if_pos (show 12 + j ≤ i ∧ i < 26 by omega)]
        · rw [if_neg q2, if_neg (show ¬ (12 + j ≤ i ∧ i < 26) by omega)]
theorem s_setTable (hS : mb_S n h) : mb_PI ["java/lang/IllegalArgumentException"] (F_X5_setTable h) F_X6_setTable (mb_S (n + 1)) := by
  obtain ⟨t, tl, hc, h5, h6⟩ := hS.txt
  obtain ⟨r, gC, e1, fC, hR⟩ := tx_fault hc h h5 h6
  have hS2 := hS.ft fC
  by_cases q : r = -1
  · subst q
    obtain ⟨gA, eA, fA, kA⟩ := hR h h6
    obtain ⟨c2, l1, l2, n1, n2, tn⟩ := kA rfl
    obtain ⟨-, -, B, K, T, D, U, hw, r, lD, lU, ⟨p, ep, lp⟩, hH⟩ := id hS2
    obtain ⟨rc, c, c6⟩ := hS2.C
    obtain ⟨g, e2, cg, fx⟩ := c5_remember c
    have rg := r.fx fx
    have hB := hw.B16; have hK := hw.K20
    have ev : ∀ j, j ≠ 8 → ¬ (12 ≤ j ∧ j < 26) → wtb (gC.1 20 0 0) c2 (gC.1 17 0 0) j = gC.1 20 0 0 j := fun j a b => wtb_o _ _ _ a b
    have ek : ∀ k, k < c2 → wtb (gC.1 20 0 0) c2 (gC.1 17 0 0) (12 + k) = gC.1 17 0 0 k := fun k hk => wtb_k _ _ hk l2
    have g5e : g.1 5 0 0 3 = nI c2 := by rw [fx.1 5 (by decide)]; exact n1
    obtain ⟨g5, p1, p2, p3, p4, p5, p6, p7⟩ := c2_tl_loop (v := wtb (gC.1 20 0 0) c2 (gC.1 17 0 0)) l2 c2 0 mb_fu (mb_sI (mb_sI g 1 0 0 5 (nI c2)) 1 0 0 6 300) (by rw [mb_sI_j _ _ _ _ _ _ (by decide), mb_sI_s]) (fun k hk => by
      rw [ek k hk, mb_sI_o _ _ _ _ _ _ (by decide), mb_sI_o _ _ _ _ _ _ (by decide), fx.1 17 (by decide)]
      exact ⟨rfl, ((tn k hk).2 rfl).2⟩) (fun k hk => absurd hk (Nat.not_lt_zero k)) (by rw [mb_sI_s, if_pos rfl]) (by omega) (by unfold mb_fu; omega)
    have fr : mb_Fr 0 g g5 := ((mb_Fr.wI (k := 1) g 0 5 (nI c2) (by decide)).tr (mb_Fr.wI (k := 1) _ 0 6 300 (by decide))).tr p2
    have hf : ∀ j, j ≠ 5 → j ≠ 6 → g5.1 1 0 0 j = g.1 1 0 0 j := fun j a b => by rw [p4 j b, mb_sI_j _ _ _ _ _ _ b, mb_sI_j _ _ _ _ _ _ a]
    have h15 : g5.1 1 0 0 5 = nI c2 := by rw [p4 5 (by decide), mb_sI_j _ _ _ _ _ _ (by decide), mb_sI_s]
    have ho : ∀ k, k ≠ 12 → k ≠ 1 → g5.1 k = g.1 k := fun k a b => by rw [p3 k a b, mb_sI_o _ _ _ _ _ _ b, mb_sI_o _ _ _ _ _ _ b]
    have W2 : mb_W (wtb (gC.1 20 0 0) c2 (gC.1 17 0 0)) B K c2 D U := hw.tb ev (if_pos rfl) l1 l2 (fun k hk => by rw [ek k hk]; exact (tn k hk).2 rfl)
    have eo : ∀ k j, bo (wtb (gC.1 20 0 0) c2 (gC.1 17 0 0)) k j = bo (gC.1 20 0 0) k j := fun k j => ev _ (by omega) (by omega)
    have et : ∀ k j, bt (wtb (gC.1 20 0 0) c2 (gC.1 17 0 0)) k j = bt (gC.1 20 0 0) k j := fun k j => ev _ (by omega) (by omega)
    have r5 : mb_RM g5 0 (wtb (gC.1 20 0 0) c2 (gC.1 17 0 0)) B K c2 := by
      obtain ⟨⟨c0, c1, c2', c3, c4, c5, c6, c7, c8, c9⟩, pp, lo, l, tt, bb⟩ := rg
      refine ⟨⟨?_, ?_, ?_, ?_, ?_, ?_, ?_, ?_, ?_, ?_⟩, ?_, ?_, p6, fun b hb => ?_, fun k hk => ?_⟩
      · rw [hf _ (by decide) (by decide), ev _ (by decide) (by decide)]; exact c0
      · rw [hf _ (by decide) (by decide), ev _ (by decide) (by decide)]; exact c1
      · rw [hf _ (by decide) (by decide), ev _ (by decide) (by decide)]; exact c2'
      · rw [hf _ (by decide) (by decide), ev _ (by decide) (by decide)]; exact c3
      · rw [hf _ (by decide) (by decide), ev _ (by decide) (by decide)]; exact c4
      · rw [hf _ (by decide) (by decide), ev _ (by decide) (by decide)]; exact c5
      · rw [hf _ (by decide) (by decide), ev _ (by decide) (by decide)]; exact c6
      · rw [hf _ (by decide) (by decide), ev _ (by decide) (by decide)]; exact c7
      · rw [h15]; exact (if_pos rfl).symm
      · rw [hf _ (by decide) (by decide), ev _ (by decide) (by decide)]; exact c9
      · unfold sp_paid at pp ⊢
        rw [p5, ev 10 (by decide) (by decide), ev 11 (by decide) (by decide)]; exact pp
      · rw [p7, if_neg (by omega)]
      · rw [ho 2 (by decide) (by decide), et, et, et, et]; exact tt b hb
      · rw [ho 3 (by decide) (by decide), ev 4 (by decide) (by decide)]
        simp only [eo]
        exact bb k hk
    have fz : mb_Fz gC g5 := mb_Fz.of fx fr
    have x5 : F_X5_setTable h = mb_rI (nI c2) g5 := by
      have p1' : B_X2_takeLows_17 mb_fu 0 0 (mb_sI (mb_sI g 1 0 0 5 (nI c2)) 1 0 0 6 300) = mb_rV g5 := p1
      unfold F_X5_setTable
      rw [e1]
      simp only [px_cI, px_cIx, px_cV, px_cVx, px_cL, px_cLx, px_cR0, px_cR1, px_cRx, px_lI, px_lL, px_up, px_gZ0, px_gZ1, px_gZb, px_g0, px_g1, px_g2, px_g3, px_g4, px_g5, px_g6, px_g7, px_g8, px_g9, px_g10, px_g11, px_g12, px_g13, px_g14, px_c0, px_c1, px_c2, px_c3, px_c4, px_c5, px_c6, px_c7, px_c8, px_c9, px_c10, px_c11, px_c12, px_c13, px_c14]
      rw [if_pos trivial, e2]
      simp only [px_cI, px_cIx, px_cV, px_cVx, px_cL, px_cLx, px_cR0, px_cR1, px_cRx, px_lI, px_lL, px_up, px_gZ0, px_gZ1, px_gZb, px_g0, px_g1, px_g2, px_g3, px_g4, px_g5, px_g6, px_g7, px_g8, px_g9, px_g10, px_g11, px_g12, px_g13, px_g14, px_c0, px_c1, px_c2, px_c3, px_c4, px_c5, px_c6, px_c7, px_c8, px_c9, px_c10, px_c11, px_c12, px_c13, px_c14]
      unfold F_X2_takeLows
      rw [g5e]
      simp only [px_cI, px_cIx, px_cV, px_cVx, px_cL, px_cLx, px_cR0, px_cR1, px_cRx, px_lI, px_lL, px_up, px_gZ0, px_gZ1, px_gZb, px_g0, px_g1, px_g2, px_g3, px_g4, px_g5, px_g6, px_g7, px_g8, px_g9, px_g10, px_g11, px_g12, px_g13, px_g14, px_c0, px_c1, px_c2, px_c3, px_c4, px_c5, px_c6, px_c7, px_c8, px_c9, px_c10, px_c11, px_c12, px_c13, px_c14]
      rw [p1']
      simp only [px_cI, px_cIx, px_cV, px_cVx, px_cL, px_cLx, px_cR0, px_cR1, px_cRx, px_lI, px_lL, px_up, px_gZ0, px_gZ1, px_gZb, px_g0, px_g1, px_g2, px_g3, px_g4, px_g5, px_g6, px_g7, px_g8, px_g9, px_g10, px_g11, px_g12, px_g13, px_g14, px_c0, px_c1, px_c2, px_c3, px_c4, px_c5, px_c6, px_c7, px_c8, px_c9, px_c10, px_c11, px_c12, px_c13, px_c14]
      rw [h15]
    refine mut_ok2 hS2 x5 (cg.wr fr ⟨B, K, c2, D, U, W2, r5, by omega, by omega, ⟨p, by rw [ev 10 (by decide) (by decide)]; exact ep, by omega⟩, fun k hk => (hH k hk).cg (hw.boat hk).1 hB (ev 5 (by decide) (by decide)) (fun b _ => et b 1) (fun j _ => eo k j)⟩ (Nat.le_succ n)) fz (fun g9 hg9 => ?_)
    have t9 : mb_t6 g9 t tl := by
      obtain ⟨a, b, c⟩ := h6.ft fC
      exact ⟨by rw [hg9, fz 6 (by decide)]; exact a, b, fun k hk => by rw [hg9, fz 23 (by decide)]; exact c k hk⟩
    obtain ⟨gR, eR, fR, kR⟩ := hR g9 t9
    obtain ⟨c3, -, l3, m1, m2, tm⟩ := kR rfl
    have h32 : c3 = c2 := (nI_eq (by omega) (by omega)).mp (m1.symm.trans n1)
    subst h32
    have z20 : gR.1 20 = gC.1 20 := by rw [fR.1 20 (by decide) (by decide) (by decide) (by decide), hg9]; exact fz 20 (by decide)
    have z21 : gR.1 21 = gC.1 21 := by rw [fR.1 21 (by decide) (by decide) (by decide) (by decide), hg9]; exact fz 21 (by decide)
    have z63 : gR.1 6 0 0 3 = nI rc := by rw [fR.2.2.2 3 (by decide), hg9, fz 6 (by decide)]; exact c6
    obtain ⟨g1, f1, f2, f3⟩ := m6_begin (g := gR) c.1 z63
    obtain ⟨g1', f1', s1, s2, -⟩ := m6_saves (h := mb_sI gR 6 0 0 4 0) c.1 (by rw [mb_sI_j _ _ _ _ _ _ (by decide)]; exact z63)
    have hgg : g1' = g1 := mb_rV_inj (f1'.symm.trans f1)
    subst hgg
    have k13 : g1'.1 6 0 0 13 = nI c3 := by rw [s2 13 (by decide), mb_sI_j _ _ _ _ _ _ (by decide)]; exact m2
    have k27 : g1'.1 27 = gR.1 27 := by rw [s1 27 (by decide) (by decide), mb_sI_o _ _ _ _ _ _ (by decide)]
    obtain ⟨g6, y1, y2, y3, y4⟩ := m6_tb_loop l2 14 0 mb_fu (mb_sI g1' 20 0 0 8 (nI c3)) (by rw [mb_sI_o _ _ _ _ _ _ (by decide)]; exact k13) rfl (by unfold mb_fu; omega)
    have mo := f3 g6 _ (fun k hk => by rw [y2 k hk, mb_sI_o _ _ _ _ _ _ hk]) y3 rfl
    rw [z20, z21] at mo
    refine ⟨gR, g6, fR, ?_, mo.1, mo.2.1, mo.2.2.1, mo.2.2.2.1, mo.2.2.2.2.1, mo.2.2.2.2.2.1, fun j hj => ?_⟩
    · unfold F_X6_setTable
      rw [eR]
      simp only [px_cI, px_cIx, px_cV, px_cVx, px_cL, px_cLx, px_cR0, px_cR1, px_cRx, px_lI, px_lL, px_up, px_gZ0, px_gZ1, px_gZb, px_g0, px_g1, px_g2, px_g3, px_g4, px_g5, px_g6, px_g7, px_g8, px_g9, px_g10, px_g11, px_g12, px_g13, px_g14, px_c0, px_c1, px_c2, px_c3, px_c4, px_c5, px_c6, px_c7, px_c8, px_c9, px_c10, px_c11, px_c12, px_c13, px_c14]
      rw [if_pos trivial]
      unfold B_X6_setTable_14
      rw [m6_refused0]
      simp only [px_cI, px_cIx, px_cV, px_cVx, px_cL, px_cLx, px_cR0, px_cR1, px_cRx, px_lI, px_lL, px_up, px_gZ0, px_gZ1, px_gZb, px_g0, px_g1, px_g2, px_g3, px_g4, px_g5, px_g6, px_g7, px_g8, px_g9, px_g10, px_g11, px_g12, px_g13, px_g14, px_c0, px_c1, px_c2, px_c3, px_c4, px_c5, px_c6, px_c7, px_c8, px_c9, px_c10, px_c11, px_c12, px_c13, px_c14, if_true]
      rw [f1']
      simp only [px_cI, px_cIx, px_cV, px_cVx, px_cL, px_cLx, px_cR0, px_cR1, px_cRx, px_lI, px_lL, px_up, px_gZ0, px_gZ1, px_gZb, px_g0, px_g1, px_g2, px_g3, px_g4, px_g5, px_g6, px_g7, px_g8, px_g9, px_g10, px_g11, px_g12, px_g13, px_g14, px_c0, px_c1, px_c2, px_c3, px_c4, px_c5, px_c6, px_c7, px_c8, px_c9, px_c10, px_c11, px_c12, px_c13, px_c14]
      rw [k13]
      exact y1
    · rw [y4]
      unfold wtb
      by_cases a : 12 ≤ j ∧ j < 26
      · rw [if_pos (by omega), if_neg (show ¬ j = 8 by omega), if_pos a]
        by_cases b : j - 12 < c3
        · rw [if_pos b, if_pos b, mb_sI_o _ _ _ _ _ _ (by decide), k27]
          exact (tm _ b).1.symm
        · rw [if_neg b, if_neg b]
      · rw [if_neg (by omega)]
        by_cases b : j = 8
        · subst b
          rw [mb_sI_s, if_pos rfl]
        · rw [mb_sI_j _ _ _ _ _ _ b, if_neg b, if_neg a, f2, z20]
  · obtain ⟨gR, e2, fR, -⟩ := hR gC (h6.ft fC)
    refine Or.inr ⟨0, "java/lang/IllegalArgumentException", gC, 0, mb_sI gR 6 0 0 4 1, rfl, ?_, ?_, mb_sI_s _ _ _ _ _ _, (((hS.up (Nat.le_succ n)).ft fC).ft fR).ref 1⟩
    · unfold F_X5_setTable
      rw [e1]
      simp only [px_cI, px_cIx, px_cV, px_cVx, px_cL, px_cLx, px_cR0, px_cR1, px_cRx, px_lI, px_lL, px_up, px_gZ0, px_gZ1, px_gZb, px_g0, px_g1, px_g2, px_g3, px_g4, px_g5, px_g6, px_g7, px_g8, px_g9, px_g10, px_g11, px_g12, px_g13, px_g14, px_c0, px_c1, px_c2, px_c3, px_c4, px_c5, px_c6, px_c7, px_c8, px_c9, px_c10, px_c11, px_c12, px_c13, px_c14]
      rw [if_neg q]
    · unfold F_X6_setTable B_X6_setTable_14
      rw [e2]
      simp only [px_cI, px_cIx, px_cV, px_cVx, px_cL, px_cLx, px_cR0, px_cR1, px_cRx, px_lI, px_lL, px_up, px_gZ0, px_gZ1, px_gZb, px_g0, px_g1, px_g2, px_g3, px_g4, px_g5, px_g6, px_g7, px_g8, px_g9, px_g10, px_g11, px_g12, px_g13, px_g14, px_c0, px_c1, px_c2, px_c3, px_c4, px_c5, px_c6, px_c7, px_c8, px_c9, px_c10, px_c11, px_c12, px_c13, px_c14]
      rw [if_neg q, m6_refused1 1 (by decide)]
      rfl
/-! texts: type and clearText -/
theorem px_ch1 {c : Nat} (hc : c ≤ 126) : ((nI c).toUInt32 % 65536).toInt32 = nI c := by
  have : ∀ c : Fin 127, ((nI c.1).toUInt32 % 65536).toInt32 = nI c.1 := by decide +kernel
  exact this ⟨c, by omega⟩
theorem px_ch2 {c : Nat} (hc : c ≤ 126) : vp_nar .char (nI c) = nI c := by
  have : ∀ c : Fin 127, vp_nar .char (nI c.1) = nI c.1 := by decide +kernel
  exact this ⟨c, by omega⟩
def mb_ty (h : mb_AH) (tl : Nat) (x y : Int32) (v : Int64) : mb_AH := mb_sI (mb_sI (mb_sI (mb_sL (mb_sI (mb_sI h 16 0 0 tl x) 5 0 0 1 y) 30 0 0 0 v) 6 0 0 4 0) 23 0 0 tl x) 6 0 0 6 y
theorem mb_ty_o (h : mb_AH) (tl : Nat) (x y : Int32) (v : Int64) {k : Nat} (h5 : k ≠ 5) (h6 : k ≠ 6) (h16 : k ≠ 16) (h23 : k ≠ 23) : (mb_ty h tl x y v).1 k = h.1 k := by
  funext a b j
  simp [mb_ty, mb_sI, mb_sL, h5, h6, h16, h23]
theorem mb_S.tx {g : mb_AH} {tl : Nat} (r : mb_S n h) (kk : ∀ k, k ≠ 5 → k ≠ 6 → k ≠ 16 → k ≠ 23 → g.1 k = h.1 k) (e63 : g.1 6 0 0 3 = h.1 6 0 0 3) (eR : g.2.2 = h.2.2) (eL : g.2.1 1 = h.2.1 1) (t : mb_tx g tl) : mb_S n g := by
  obtain ⟨-, ⟨rc, b⟩, c⟩ := r
  refine ⟨⟨tl, t⟩, ⟨rc, b.cg (by rw [kk 0 (by decide) (by decide) (by decide) (by decide)]) e63 (kk 21 (by decide) (by decide) (by decide) (by decide)) eR (kk 1 (by decide) (by decide) (by decide) (by decide)) (kk 2 (by decide) (by decide) (by decide) (by decide)) (kk 3 (by decide) (by decide) (by decide) (by decide)) (kk 12 (by decide) (by decide) (by decide) (by decide)) eL⟩, ?_⟩
  rw [kk 20 (by decide) (by decide) (by decide) (by decide)]
  exact c.cg (by rw [kk 1 (by decide) (by decide) (by decide) (by decide)]) (by rw [kk 2 (by decide) (by decide) (by decide) (by decide)]) (by rw [kk 3 (by decide) (by decide) (by decide) (by decide)]) (by rw [kk 12 (by decide) (by decide) (by decide) (by decide)]) (by rw [eL])
theorem s_type (hS : mb_S n h) (x : Int32) : mb_PI ["java/lang/IllegalArgumentException", "java/lang/IllegalStateException"] (F_X5_type x h) (F_X6_type x) (mb_S (n + 1)) := by
  obtain ⟨⟨tl, ta, tb, tc, td⟩, -, -⟩ := id hS
  by_cases q : (decide ((32 : Int32) ≤ x) && decide (x ≤ 126)) = true
  · obtain ⟨c, rfl, lc, uc⟩ := px_w9 (l := 32) (u := 126) (by decide) q (by decide)
    by_cases q2 : tl < 70
    · refine Or.inl ⟨nI (tl + 1), mb_sI (mb_sI h 16 0 0 tl (nI c)) 5 0 0 1 (nI (tl + 1)), mb_ty h tl (nI c) (nI (tl + 1)) (nI (tl + 1)).toInt64, ?_, ?_, ?_, ?_, ?_⟩
      · unfold F_X5_type
        rw [c5_isWithin, q]
        simp only [px_cI, px_cIx, px_cV, px_cVx, px_cL, px_cLx, px_cR0, px_cR1, px_cRx, px_lI, px_lL, px_up, px_gZ0, px_gZ1, px_gZb, px_g0, px_g1, px_g2, px_g3, px_g4, px_g5, px_g6, px_g7, px_g8, px_g9, px_g10, px_g11, px_g12, px_g13, px_g14, px_c0, px_c1, px_c2, px_c3, px_c4, px_c5, px_c6, px_c7, px_c8, px_c9, px_c10, px_c11, px_c12, px_c13, px_c14]
        rw [if_neg (by decide), tb, if_pos (show nI tl < 70 from nI_lt (b := 70) q2 (by decide))]
        unfold F_X3_append
        rw [tb, px_gB q2 (by decide), nI_clamp (by omega), px_ch1 uc, px_ch2 uc]
        simp only [px_cI, px_cIx, px_cV, px_cVx, px_cL, px_cLx, px_cR0, px_cR1, px_cRx, px_lI, px_lL, px_up, px_gZ0, px_gZ1, px_gZb, px_g0, px_g1, px_g2, px_g3, px_g4, px_g5, px_g6, px_g7, px_g8, px_g9, px_g10, px_g11, px_g12, px_g13, px_g14, px_c0, px_c1, px_c2, px_c3, px_c4, px_c5, px_c6, px_c7, px_c8, px_c9, px_c10, px_c11, px_c12, px_c13, px_c14]
        rw [mb_sI_o _ _ _ _ _ _ (show 5 ≠ 16 by decide), tb, nI_1, mb_sI_s]
      · unfold F_X6_type B_X6_type_30
        rw [m6_within, q]
        simp only [px_cI, px_cIx, px_cV, px_cVx, px_cL, px_cLx, px_cR0, px_cR1, px_cRx, px_lI, px_lL, px_up, px_gZ0, px_gZ1, px_gZb, px_g0, px_g1, px_g2, px_g3, px_g4, px_g5, px_g6, px_g7, px_g8, px_g9, px_g10, px_g11, px_g12, px_g13, px_g14, px_c0, px_c1, px_c2, px_c3, px_c4, px_c5, px_c6, px_c7, px_c8, px_c9, px_c10, px_c11, px_c12, px_c13, px_c14]
        rw [if_neg (by decide)]
        have e66 : (mb_sL (mb_sI (mb_sI h 16 0 0 tl (nI c)) 5 0 0 1 (nI (tl + 1))) 30 0 0 0 (nI (tl + 1)).toInt64).1 6 0 0 6 = nI tl := by
          show (mb_sI (mb_sI h 16 0 0 tl (nI c)) 5 0 0 1 (nI (tl + 1))).1 6 0 0 6 = nI tl
          rw [mb_sI_o _ _ _ _ _ _ (by decide), mb_sI_o _ _ _ _ _ _ (by decide), tc]
        rw [e66, if_neg (show ¬ nI tl = 70 from px_ne (b := 70) (by omega) (by decide) (by omega)), m6_refused0]
        simp only [px_cI, px_cIx, px_cV, px_cVx, px_cL, px_cLx, px_cR0, px_cR1, px_cRx, px_lI, px_lL, px_up, px_gZ0, px_gZ1, px_gZb, px_g0, px_g1, px_g2, px_g3, px_g4, px_g5, px_g6, px_g7, px_g8, px_g9, px_g10, px_g11, px_g12, px_g13, px_g14, px_c0, px_c1, px_c2, px_c3, px_c4, px_c5, px_c6, px_c7, px_c8, px_c9, px_c10, px_c11, px_c12, px_c13, px_c14, if_true]
        rw [mb_sI_j _ _ _ _ _ _ (show 6 ≠ 4 by decide), e66, px_gB q2 (by decide), nI_clamp (by omega), mb_sI_o _ _ _ _ _ _ (show 6 ≠ 23 by decide), mb_sI_j _ _ _ _ _ _ (show 6 ≠ 4 by decide), e66, nI_1, mb_sI_s]
        rfl
      · simp [mb_ty, mb_sI, mb_sL]
      · simp [mb_ty, mb_sI, mb_sL]
      · refine (hS.up (Nat.le_succ n)).tx (tl := tl + 1) (fun k a b c2 d => mb_ty_o _ _ _ _ _ a b c2 d) (by simp [mb_ty, mb_sI, mb_sL]) rfl (by funext a b j; simp [mb_ty, mb_sI, mb_sL]) ⟨by omega, by simp [mb_ty, mb_sI, mb_sL], by simp [mb_ty, mb_sI, mb_sL], fun k hk => ?_⟩
        by_cases z : k = tl
        · subst z
          have e1 : (mb_ty h k (nI c) (nI (k + 1)) (nI (k + 1)).toInt64).1 16 0 0 k = nI c := by simp [mb_ty, mb_sI, mb_sL]
          have e2 : (mb_ty h k (nI c) (nI (k + 1)) (nI (k + 1)).toInt64).1 23 0 0 k = nI c := by simp [mb_ty, mb_sI, mb_sL]
          rw [e1, e2]
          exact ⟨rfl, c, rfl, lc, uc⟩
        · have e1 : (mb_ty h tl (nI c) (nI (tl + 1)) (nI (tl + 1)).toInt64).1 16 0 0 k = h.1 16 0 0 k := by simp [mb_ty, mb_sI, mb_sL, z]
          have e2 : (mb_ty h tl (nI c) (nI (tl + 1)) (nI (tl + 1)).toInt64).1 23 0 0 k = h.1 23 0 0 k := by simp [mb_ty, mb_sI, mb_sL, z]
          rw [e1, e2]
          exact td k (by omega)
    · have q3 : tl = 70 := by omega
      subst q3
      refine q_thr (j := 1) (b := 0) (E := "java/lang/IllegalStateException") hS rfl ?_ ?_
      · unfold F_X5_type
        rw [c5_isWithin, q]
        simp only [px_cI, px_cIx, px_cV, px_cVx, px_cL, px_cLx, px_cR0, px_cR1, px_cRx, px_lI, px_lL, px_up, px_gZ0, px_gZ1, px_gZb, px_g0, px_g1, px_g2, px_g3, px_g4, px_g5, px_g6, px_g7, px_g8, px_g9, px_g10, px_g11, px_g12, px_g13, px_g14, px_c0, px_c1, px_c2, px_c3, px_c4, px_c5, px_c6, px_c7, px_c8, px_c9, px_c10, px_c11, px_c12, px_c13, px_c14]
        rw [if_neg (by decide), tb, if_neg (by decide)]
      · unfold F_X6_type B_X6_type_30
        rw [m6_within, q]
        simp only [px_cI, px_cIx, px_cV, px_cVx, px_cL, px_cLx, px_cR0, px_cR1, px_cRx, px_lI, px_lL, px_up, px_gZ0, px_gZ1, px_gZb, px_g0, px_g1, px_g2, px_g3, px_g4, px_g5, px_g6, px_g7, px_g8, px_g9, px_g10, px_g11, px_g12, px_g13, px_g14, px_c0, px_c1, px_c2, px_c3, px_c4, px_c5, px_c6, px_c7, px_c8, px_c9, px_c10, px_c11, px_c12, px_c13, px_c14]
        rw [if_neg (by decide), tc, if_pos (by rfl), m6_refused1 2 (by decide)]
        rfl
  · have hf : (decide ((32 : Int32) ≤ x) && decide (x ≤ 126)) = false := Bool.eq_false_iff.mpr q
    refine q_thr (j := 0) (b := 0) (E := "java/lang/IllegalArgumentException") hS rfl ?_ ?_
    · unfold F_X5_type
      rw [c5_isWithin, hf]
      simp only [px_cI, px_cIx, px_cV, px_cVx, px_cL, px_cLx, px_cR0, px_cR1, px_cRx, px_lI, px_lL, px_up, px_gZ0, px_gZ1, px_gZb, px_g0, px_g1, px_g2, px_g3, px_g4, px_g5, px_g6, px_g7, px_g8, px_g9, px_g10, px_g11, px_g12, px_g13, px_g14, px_c0, px_c1, px_c2, px_c3, px_c4, px_c5, px_c6, px_c7, px_c8, px_c9, px_c10, px_c11, px_c12, px_c13, px_c14]
      rw [if_pos (by rfl)]
    · unfold F_X6_type B_X6_type_30
      rw [m6_within, hf]
      simp only [px_cI, px_cIx, px_cV, px_cVx, px_cL, px_cLx, px_cR0, px_cR1, px_cRx, px_lI, px_lL, px_up, px_gZ0, px_gZ1, px_gZb, px_g0, px_g1, px_g2, px_g3, px_g4, px_g5, px_g6, px_g7, px_g8, px_g9, px_g10, px_g11, px_g12, px_g13, px_g14, px_c0, px_c1, px_c2, px_c3, px_c4, px_c5, px_c6, px_c7, px_c8, px_c9, px_c10, px_c11, px_c12, px_c13, px_c14]
      rw [if_pos (by rfl), m6_refused1 1 (by decide)]
      rfl
theorem s_clearText (hS : mb_S n h) : mb_PP (F_X5_clearText h) F_X6_clearText (mb_S (n + 1)) := by
  obtain ⟨⟨tl, ta, tb, tc, td⟩, -, -⟩ := id hS
  refine ⟨nI tl, mb_sI h 5 0 0 1 0, mb_sI (mb_sI (mb_sI h 5 0 0 1 0) 6 0 0 4 0) 6 0 0 6 0, ?_, ?_, ?_⟩
  · unfold F_X5_clearText
    rw [tb]
    simp only [px_cI, px_cIx, px_cV, px_cVx, px_cL, px_cLx, px_cR0, px_cR1, px_cRx, px_lI, px_lL, px_up, px_gZ0, px_gZ1, px_gZb, px_g0, px_g1, px_g2, px_g3, px_g4, px_g5, px_g6, px_g7, px_g8, px_g9, px_g10, px_g11, px_g12, px_g13, px_g14, px_c0, px_c1, px_c2, px_c3, px_c4, px_c5, px_c6, px_c7, px_c8, px_c9, px_c10, px_c11, px_c12, px_c13, px_c14]
  · unfold F_X6_clearText
    simp only [px_cI, px_cIx, px_cV, px_cVx, px_cL, px_cLx, px_cR0, px_cR1, px_cRx, px_lI, px_lL, px_up, px_gZ0, px_gZ1, px_gZb, px_g0, px_g1, px_g2, px_g3, px_g4, px_g5, px_g6, px_g7, px_g8, px_g9, px_g10, px_g11, px_g12, px_g13, px_g14, px_c0, px_c1, px_c2, px_c3, px_c4, px_c5, px_c6, px_c7, px_c8, px_c9, px_c10, px_c11, px_c12, px_c13, px_c14]
    rw [mb_sI_j _ _ _ _ _ _ (show 6 ≠ 4 by decide), mb_sI_o _ _ _ _ _ _ (show 6 ≠ 5 by decide), tc]
  · refine (hS.up (Nat.le_succ n)).tx (tl := 0) (fun k a b c2 d => by rw [mb_sI_o _ _ _ _ _ _ b, mb_sI_o _ _ _ _ _ _ b, mb_sI_o _ _ _ _ _ _ a]) (by simp [mb_sI]) rfl rfl ⟨by omega, by simp [mb_sI]; rfl, by simp [mb_sI]; rfl, fun k hk => absurd hk (Nat.not_lt_zero k)⟩
/-! undo -/
theorem m6_undo_loop {m : Nat} (hm : m < 4) : ∀ (q j f : Nat) (h : mb_AH), h.1 6 0 0 3 = nI m → j + q = 270 → q < f → ∃ g : mb_AH, B_X6_undo_33 f (nI j) h = mb_rI (nI m) g ∧ (∀ k, k ≠ 20 → g.1 k = h.1 k) ∧ g.2 = h.2 ∧ ∀ i, g.1 20 0 0 i = if j ≤ i ∧ i < 270 then h.1 21 0 0 (270 * m + i) else h.1 20 0 0 i := by
  intro q
  induction q with
  | zero =>
    intro j f h e hj hf
    obtain ⟨f, rfl⟩ : ∃ g, f = g + 1 := ⟨f - 1, by omega⟩
    refine ⟨h, ?_, fun _ _ => rfl, rfl, fun i => by rw [if_neg (by omega)]⟩
    rw [B_X6_undo_33, if_pos (show (270 : Int32) ≤ nI j from nI_le (a := 270) (by omega) (by omega)), e]
  | succ q ih =>
    intro j f h e hj hf
    obtain ⟨f, rfl⟩ : ∃ g, f = g + 1 := ⟨f - 1, by omega⟩
    obtain ⟨g, e1, e2, e3, e4⟩ := ih (j + 1) f (mb_sI h 20 0 0 j (h.1 21 0 0 (270 * m + j))) (by rw [mb_sI_o _ _ _ _ _ _ (by decide)]; exact e) (by omega) (by omega)
    refine ⟨g, ?_, fun k hk => by rw [e2 k hk, mb_sI_o _ _ _ _ _ _ hk], e3, fun i => ?_⟩
    · have hx : (270 : Int32) * nI m + nI j = nI (270 * m + j) := by rw [show (270 : Int32) = nI 270 from rfl, pk_mul, nI_add]
      rw [B_X6_undo_33, if_neg (show ¬ (270 : Int32) ≤ nI j from nI_ge (b := 270) (by omega) (by omega)), e, hx, px_gB (show 270 * m + j < 1080 by omega) (by decide), px_gB (show j < 270 by omega) (by decide), nI_clamp (by omega), nI_clamp (by omega)]
      simp only [px_cI, px_cIx, px_cV, px_cVx, px_cL, px_cLx, px_cR0, px_cR1, px_cRx, px_lI, px_lL, px_up, px_gZ0, px_gZ1, px_gZb, px_g0, px_g1, px_g2, px_g3, px_g4, px_g5, px_g6, px_g7, px_g8, px_g9, px_g10, px_g11, px_g12, px_g13, px_g14, px_c0, px_c1, px_c2, px_c3, px_c4, px_c5, px_c6, px_c7, px_c8, px_c9, px_c10, px_c11, px_c12, px_c13, px_c14, nI_1]
      exact e1
    · rw [e4 i]
      by_cases z : i = j
      · subst z
        rw [if_neg (by omega), if_pos (by omega), mb_sI_s]
      · rw [mb_sI_j _ _ _ _ _ _ z, mb_sI_o _ _ _ _ _ _ (show 21 ≠ 20 by decide)]
        by_cases q2 : j + 1 ≤ i ∧ i < 270
        · rw [if_pos q2, if_pos (by omega)]
        · rw [if_neg q2, if_neg (by omega)]
theorem s_undo (hS : mb_S n h) : mb_PI ["java/lang/IllegalStateException"] (F_X5_undo h) F_X6_undo (mb_S (n + 1)) := by
  obtain ⟨rc, c, c6⟩ := (hS.up (Nat.le_succ n)).C
  obtain ⟨a, b, d, e, f, j⟩ := id c
  rcases Nat.eq_zero_or_pos rc with z | z
  · subst z
    refine q_thr (j := 0) (b := 0) (E := "java/lang/IllegalStateException") hS rfl ?_ ?_
    · unfold F_X5_undo
      rw [b, if_neg (by decide)]
    · unfold F_X6_undo B_X6_undo_13
      rw [c6, if_pos (by rfl), m6_refused1 1 (by decide)]
      rfl
  · obtain ⟨m, rfl⟩ : ∃ m, rc = m + 1 := ⟨rc - 1, by omega⟩
    have c1 : mb_C (n + 1) (mb_sI h 0 0 0 3 (nI m)) m (fun i j => h.1 21 0 0 (270 * i + j)) (h.1 20 0 0) := ⟨by omega, mb_sI_s _ _ _ _ _ _, d, e, fun i hi => (f i (by omega)).cg (by rw [mb_sI_o _ _ _ _ _ _ (by decide)]) (by rw [mb_sI_o _ _ _ _ _ _ (by decide)]) (by rw [mb_sI_o _ _ _ _ _ _ (by decide)]) (by rw [mb_sI_o _ _ _ _ _ _ (by decide)]) rfl, j.cg (by rw [mb_sI_o _ _ _ _ _ _ (by decide)]) (by rw [mb_sI_o _ _ _ _ _ _ (by decide)]) (by rw [mb_sI_o _ _ _ _ _ _ (by decide)]) (by rw [mb_sI_o _ _ _ _ _ _ (by decide)]) rfl⟩
    have jm : mb_J (n + 1) (mb_sI h 0 0 0 3 (nI m)) (h.2.2 m) (fun j => h.1 21 0 0 (270 * m + j)) := (f m (by omega)).cg (by rw [mb_sI_o _ _ _ _ _ _ (by decide)]) (by rw [mb_sI_o _ _ _ _ _ _ (by decide)]) (by rw [mb_sI_o _ _ _ _ _ _ (by decide)]) (by rw [mb_sI_o _ _ _ _ _ _ (by decide)]) rfl
    have hR := d m (by omega)
    obtain ⟨g, e1, fr, j2⟩ := jm.cp (o := 0) (by omega)
    have g03 : g.1 0 0 0 3 = nI m := by rw [fr.1 0 0 0 3 (fun z => absurd z.1 (by decide)), mb_sI_s]
    have fz : mb_Fz h g := fun k hk => by rw [fr.fk (fun z => hk (Or.inr z)), mb_sI_o _ _ _ _ _ _ (fun z => hk (Or.inl z))]
    refine mut_ok (g5 := g) (rc := m) (v := nI m) hS ?_ (c1.wr fr j2 (Nat.le_refl _)) fz (fun g9 hg9 => ?_)
    · unfold F_X5_undo
      rw [b, if_pos (show (1 : Int32) ≤ nI (m + 1) from nI_le (a := 1) (by omega) (by omega)), nI_pred]
      simp only [px_cI, px_cIx, px_cV, px_cVx, px_cL, px_cLx, px_cR0, px_cR1, px_cRx, px_lI, px_lL, px_up, px_gZ0, px_gZ1, px_gZb, px_g0, px_g1, px_g2, px_g3, px_g4, px_g5, px_g6, px_g7, px_g8, px_g9, px_g10, px_g11, px_g12, px_g13, px_g14, px_c0, px_c1, px_c2, px_c3, px_c4, px_c5, px_c6, px_c7, px_c8, px_c9, px_c10, px_c11, px_c12, px_c13, px_c14]
      rw [mb_sI_s, px_gB (show m < 4 by omega) (by decide), nI_clamp (by omega)]
      show mb_cV (F_X2_copyFrom 0 (h.2.2 m) (mb_sI h 0 0 0 3 (nI m))) _ = _
      rw [e1]
      simp only [px_cI, px_cIx, px_cV, px_cVx, px_cL, px_cLx, px_cR0, px_cR1, px_cRx, px_lI, px_lL, px_up, px_gZ0, px_gZ1, px_gZb, px_g0, px_g1, px_g2, px_g3, px_g4, px_g5, px_g6, px_g7, px_g8, px_g9, px_g10, px_g11, px_g12, px_g13, px_g14, px_c0, px_c1, px_c2, px_c3, px_c4, px_c5, px_c6, px_c7, px_c8, px_c9, px_c10, px_c11, px_c12, px_c13, px_c14]
      rw [g03]
    · have z20 : g9.1 20 = h.1 20 := by rw [hg9]; exact fz 20 (by decide)
      have z21 : g9.1 21 = h.1 21 := by rw [hg9]; exact fz 21 (by decide)
      have z63 : g9.1 6 0 0 3 = nI (m + 1) := by rw [hg9, fz 6 (by decide)]; exact c6
      obtain ⟨g6, y1, y2, y3, y4⟩ := m6_undo_loop (m := m) (by omega) 270 0 mb_fu (mb_sI (mb_sI g9 6 0 0 4 0) 6 0 0 3 (nI m)) (mb_sI_s _ _ _ _ _ _) rfl (by unfold mb_fu; omega)
      refine ⟨g6, ?_, fun k h1 h2 h3 => by rw [y2 k h1, mb_sI_o _ _ _ _ _ _ h3, mb_sI_o _ _ _ _ _ _ h3], y3, by rw [y2 6 (by decide), mb_sI_s], by rw [y2 6 (by decide), mb_sI_j _ _ _ _ _ _ (by decide), mb_sI_s], by rw [y2 6 (by decide), mb_sI_j _ _ _ _ _ _ (by decide), mb_sI_j _ _ _ _ _ _ (by decide)], fun i hi j hj => by rw [y2 21 (by decide), mb_sI_o _ _ _ _ _ _ (by decide), mb_sI_o _ _ _ _ _ _ (by decide), z21], fun j hj => ?_⟩
      · unfold F_X6_undo B_X6_undo_13
        rw [z63, if_neg (show ¬ nI (m + 1) = 0 from nI_ne0 (by omega) (by omega)), m6_refused0]
        simp only [px_cI, px_cIx, px_cV, px_cVx, px_cL, px_cLx, px_cR0, px_cR1, px_cRx, px_lI, px_lL, px_up, px_gZ0, px_gZ1, px_gZb, px_g0, px_g1, px_g2, px_g3, px_g4, px_g5, px_g6, px_g7, px_g8, px_g9, px_g10, px_g11, px_g12, px_g13, px_g14, px_c0, px_c1, px_c2, px_c3, px_c4, px_c5, px_c6, px_c7, px_c8, px_c9, px_c10, px_c11, px_c12, px_c13, px_c14, if_true]
        rw [mb_sI_j _ _ _ _ _ _ (show 3 ≠ 4 by decide), z63, nI_pred]
        exact y1
      · rw [y4, if_pos (by omega), mb_sI_o _ _ _ _ _ _ (by decide), mb_sI_o _ _ _ _ _ _ (by decide), z21]
end
