/-! ===== pure: pass, owesAfter, winterBerth, wouldGoAshore: the calls; and the step of every call ===== -/
section
variable {h g : mb_AH} {w v : Nat → Int32} {B K T D U n o rc : Nat} {ws : Nat → Nat → Int32}
theorem c5_r12 (b : h.1 0 0 0 3 = nI rc) (hr : rc < 4) (hR : 2 ≤ h.2.2 rc) (j : mb_J n h 0 w) : ∃ g : mb_AH, B_X5_remember_12 h = mb_rV g ∧ g.2.1 1 1 = h.2.1 1 1 := by
  obtain ⟨g, e1, fr, jg⟩ := j.cp (o := h.2.2 rc) (by omega)
  refine ⟨mb_sI g 0 0 0 3 (nI (rc + 1)), ?_, ?_⟩
  · unfold B_X5_remember_12
    rw [b, px_gB (show rc < 4 from hr) (by decide), nI_clamp (by omega), e1]
    simp only [px_cI, px_cIx, px_cV, px_cVx, px_cL, px_cLx, px_cR0, px_cR1, px_cRx, px_lI, px_lL, px_up, px_gZ0, px_gZ1, px_gZb, px_g0, px_g1, px_g2, px_g3, px_g4, px_g5, px_g6, px_g7, px_g8, px_g9, px_g10, px_g11, px_g12, px_g13, px_g14, px_c0, px_c1, px_c2, px_c3, px_c4, px_c5, px_c6, px_c7, px_c8, px_c9, px_c10, px_c11, px_c12, px_c13, px_c14]
    rw [fr.1 0 0 0 3 (fun z => absurd z.1 (by decide)), b, nI_1]
  · show g.2.1 1 1 = h.2.1 1 1
    rw [fr.fL (by omega)]
theorem c5_rem_o1 (c : mb_C n h rc ws w) : ∃ g : mb_AH, F_X5_remember h = mb_rV g ∧ g.2.1 1 1 = h.2.1 1 1 := by
  unfold F_X5_remember
  obtain ⟨a, b, d, e, f, j⟩ := c
  by_cases hr : rc < 4
  · rw [b, if_pos (show nI rc < 4 from nI_lt (b := 4) hr (by decide))]
    exact c5_r12 b hr (d rc hr).1 j
  · have hr4 : rc = 4 := by omega
    subst hr4
    rw [b, if_neg (show ¬ nI 4 < 4 by decide)]
    have hdrop : F_X5_dropOldestRecord h = mb_rV (mb_sI (mb_sR (mb_sR (mb_sR (mb_sR h 0 (h.2.2 1)) 1 (h.2.2 2)) 2 (h.2.2 3)) 3 (h.2.2 0)) 0 0 0 3 3) := by
      unfold F_X5_dropOldestRecord
      rw [show mb_gB 0 4 (B_X5_dropOldestRecord_9 mb_fu (h.2.2 (0 : Int32).toNatClampNeg) 1 h) = B_X5_dropOldestRecord_9 mb_fu (h.2.2 0) (nI 1) h from by rw [show (0 : Int32) = nI 0 from rfl, px_gB (by decide) (by decide), nI_clamp (by decide)]; rfl]
      rw [show mb_fu = 69996 + 1 + 1 + 1 + 1 from rfl]
      rw [B_X5_dropOldestRecord_9, if_neg (by decide), px_gB (by decide) (by decide), show nI 1 - 1 = nI 0 from rfl, px_gB (by decide) (by decide), nI_clamp (by decide), nI_clamp (by decide)]
      simp only [px_cI, px_cIx, px_cV, px_cVx, px_cL, px_cLx, px_cR0, px_cR1, px_cRx, px_lI, px_lL, px_up, px_gZ0, px_gZ1, px_gZb, px_g0, px_g1, px_g2, px_g3, px_g4, px_g5, px_g6, px_g7, px_g8, px_g9, px_g10, px_g11, px_g12, px_g13, px_g14, px_c0, px_c1, px_c2, px_c3, px_c4, px_c5, px_c6, px_c7, px_c8, px_c9, px_c10, px_c11, px_c12, px_c13, px_c14, nI_1]
      rw [B_X5_dropOldestRecord_9, if_neg (by decide), px_gB (by decide) (by decide), show nI (1 + 1) - 1 = nI 1 from rfl, px_gB (by decide) (by decide), nI_clamp (by decide), nI_clamp (by decide)]
      simp only [px_cI, px_cIx, px_cV, px_cVx, px_cL, px_cLx, px_cR0, px_cR1, px_cRx, px_lI, px_lL, px_up, px_gZ0, px_gZ1, px_gZb, px_g0, px_g1, px_g2, px_g3, px_g4, px_g5, px_g6, px_g7, px_g8, px_g9, px_g10, px_g11, px_g12, px_g13, px_g14, px_c0, px_c1, px_c2, px_c3, px_c4, px_c5, px_c6, px_c7, px_c8, px_c9, px_c10, px_c11, px_c12, px_c13, px_c14, nI_1]
      rw [B_X5_dropOldestRecord_9, if_neg (by decide), px_gB (by decide) (by decide), show nI (1 + 1 + 1) - 1 = nI 2 from rfl, px_gB (by decide) (by decide), nI_clamp (by decide), nI_clamp (by decide)]
      simp only [px_cI, px_cIx, px_cV, px_cVx, px_cL, px_cLx, px_cR0, px_cR1, px_cRx, px_lI, px_lL, px_up, px_gZ0, px_gZ1, px_gZb, px_g0, px_g1, px_g2, px_g3, px_g4, px_g5, px_g6, px_g7, px_g8, px_g9, px_g10, px_g11, px_g12, px_g13, px_g14, px_c0, px_c1, px_c2, px_c3, px_c4, px_c5, px_c6, px_c7, px_c8, px_c9, px_c10, px_c11, px_c12, px_c13, px_c14, nI_1]
      rw [B_X5_dropOldestRecord_9, if_pos (by decide), show (3 : Int32) = nI 3 from rfl, px_gB (by decide) (by decide), nI_clamp (by decide)]
      simp only [px_cI, px_cIx, px_cV, px_cVx, px_cL, px_cLx, px_cR0, px_cR1, px_cRx, px_lI, px_lL, px_up, px_gZ0, px_gZ1, px_gZb, px_g0, px_g1, px_g2, px_g3, px_g4, px_g5, px_g6, px_g7, px_g8, px_g9, px_g10, px_g11, px_g12, px_g13, px_g14, px_c0, px_c1, px_c2, px_c3, px_c4, px_c5, px_c6, px_c7, px_c8, px_c9, px_c10, px_c11, px_c12, px_c13, px_c14]
      rfl
    rw [hdrop]
    simp only [px_cI, px_cIx, px_cV, px_cVx, px_cL, px_cLx, px_cR0, px_cR1, px_cRx, px_lI, px_lL, px_up, px_gZ0, px_gZ1, px_gZb, px_g0, px_g1, px_g2, px_g3, px_g4, px_g5, px_g6, px_g7, px_g8, px_g9, px_g10, px_g11, px_g12, px_g13, px_g14, px_c0, px_c1, px_c2, px_c3, px_c4, px_c5, px_c6, px_c7, px_c8, px_c9, px_c10, px_c11, px_c12, px_c13, px_c14]
    have h2 := d 0 (by decide)
    obtain ⟨g, e1, e2⟩ := c5_r12 (n := n) (w := w) (rc := 3) (h := mb_sI (mb_sR (mb_sR (mb_sR (mb_sR h 0 (h.2.2 1)) 1 (h.2.2 2)) 2 (h.2.2 3)) 3 (h.2.2 0)) 0 0 0 3 3) (mb_sI_s _ _ _ _ _ _) (by decide) h2.1 (j.cg (by rw [mb_sI_o _ _ _ _ _ _ (by decide)]; rfl) (by rw [mb_sI_o _ _ _ _ _ _ (by decide)]; rfl) (by rw [mb_sI_o _ _ _ _ _ _ (by decide)]; rfl) (by rw [mb_sI_o _ _ _ _ _ _ (by decide)]; rfl) rfl)
    exact ⟨g, e1, e2⟩
theorem mb_S.fw (hS : mb_S n h) (f : mb_Fw 1 h g) : mb_S n g := by
  obtain ⟨⟨tl, t⟩, ⟨rc, a, b, c, d, e, F⟩, j⟩ := hS
  have k0 : ∀ k, k ≠ 4 → k ≠ 14 → k ≠ 15 → ¬ (k = 1 ∨ k = 2 ∨ k = 3 ∨ k = 12) → g.1 k = h.1 k := f.1
  have jj : ∀ (o : Nat) (v : Nat → Int32), o ≠ 1 → mb_J n h o v → mb_J n g o v := fun o v ho q => q.cg (f.2.1 1 o (by decide) ho) (f.2.1 2 o (by decide) ho) (f.2.1 3 o (by decide) ho) (f.2.1 12 o (by decide) ho) (f.2.2.2.1 o ho)
  refine ⟨⟨tl, t.cg (by rw [k0 5 (by decide) (by decide) (by decide) (by decide)]) (by rw [k0 6 (by decide) (by decide) (by decide) (by decide)]) (k0 16 (by decide) (by decide) (by decide) (by decide)) (k0 23 (by decide) (by decide) (by decide) (by decide))⟩, ⟨rc, a, by rw [k0 0 (by decide) (by decide) (by decide) (by decide)]; exact b, by rw [k0 6 (by decide) (by decide) (by decide) (by decide)]; exact c, by rw [f.2.2.2.2]; exact d, by rw [f.2.2.2.2]; exact e, fun i hi => ?_⟩, ?_⟩
  · rw [f.2.2.2.2, k0 21 (by decide) (by decide) (by decide) (by decide)]
    have := d i (by omega)
    exact jj _ _ (by omega) (F i hi)
  · rw [k0 20 (by decide) (by decide) (by decide) (by decide)]
    exact jj 0 _ (by decide) j
theorem mb_S.f6 (hS : mb_S n h) (k0 : ∀ k, k ≠ 20 → k ≠ 22 → k ≠ 24 → k ≠ 25 → k ≠ 26 → g.1 k = h.1 k) (e2 : g.2 = h.2) (er : ∀ j, j < 270 → g.1 20 0 0 j = h.1 20 0 0 j) : mb_S n g := by
  obtain ⟨rc, c, c6⟩ := hS.C
  obtain ⟨⟨tl, t⟩, -, -⟩ := hS
  have kk : ∀ k, k = 0 ∨ k = 1 ∨ k = 2 ∨ k = 3 ∨ k = 12 ∨ k = 5 ∨ k = 6 ∨ k = 16 ∨ k = 23 ∨ k = 21 → g.1 k = h.1 k := fun k hk => k0 k (by omega) (by omega) (by omega) (by omega) (by omega)
  refine mb_S.of (tl := tl) (t.cg (by rw [kk 5 (by decide)]) (by rw [kk 6 (by decide)]) (kk 16 (by decide)) (kk 23 (by decide))) (c.cg (by rw [kk 0 (by decide)]) (by rw [e2]) (kk 1 (by decide)) (kk 2 (by decide)) (kk 3 (by decide)) (kk 12 (by decide)) (by rw [e2])) (by rw [kk 6 (by decide)]; exact c6) (fun i _ j _ => by rw [kk 21 (by decide)]) er
theorem mut_ok3 {es : List String} {f5 : Option mb_RS} {f6 : mb_AH → Option mb_RS} {g5 : mb_AH} {x : Int32} (hS : mb_S n h) (h5 : f5 = mb_rI x g5) (hC : mb_C (n + 1) g5 rc ws w) (hz : mb_Fz h g5)
    (h6 : ∀ g : mb_AH, g.1 = g5.1 → ∃ g6, f6 g = mb_rI x g6 ∧ (∀ k, k = 0 ∨ k = 1 ∨ k = 2 ∨ k = 3 ∨ k = 12 ∨ k = 5 ∨ k = 16 ∨ k = 23 → g6.1 k = g.1 k) ∧ g6.2 = g.2 ∧ g6.1 6 0 0 3 = nI rc ∧ g6.1 6 0 0 4 = 0 ∧ g6.1 6 0 0 6 = g.1 6 0 0 6 ∧ (∀ i, i < rc → ∀ j, j < 270 → g6.1 21 0 0 (270 * i + j) = ws i j) ∧ ∀ j, j < 270 → g6.1 20 0 0 j = w j) : mb_PI es f5 f6 (mb_S (n + 1)) := by
  obtain ⟨g6, e6, m1, m2, m3, m4, m5, m6, m7⟩ := h6 (mb_sL g5 30 0 0 0 x.toInt64) rfl
  obtain ⟨⟨tl, t⟩, -, -⟩ := hS
  refine Or.inl ⟨x, g5, g6, h5, e6, m4, by rw [m2]; simp [mb_sL], ?_⟩
  have kk : ∀ k, k = 0 ∨ k = 1 ∨ k = 2 ∨ k = 3 ∨ k = 12 ∨ k = 5 ∨ k = 16 ∨ k = 23 → g6.1 k = g5.1 k := fun k hk => m1 k hk
  have k66 : g6.1 6 0 0 6 = h.1 6 0 0 6 := by rw [m5]; exact congrFun (congrFun (congrFun (hz 6 (by decide)) 0) 0) 6
  refine mb_S.of (tl := tl) (t.cg (by rw [kk 5 (by decide), hz 5 (by decide)]) k66 (by rw [kk 16 (by decide), hz 16 (by decide)]) (by rw [kk 23 (by decide), hz 23 (by decide)])) (hC.cg ?_ ?_ ?_ ?_ ?_ ?_ ?_) m3 m6 m7
  · rw [kk 0 (by decide)]
  · rw [m2]; rfl
  · exact kk 1 (by decide)
  · exact kk 2 (by decide)
  · exact kk 3 (by decide)
  · exact kk 12 (by decide)
  · rw [m2]; funext a b j; simp [mb_sL]
theorem mb_W.cgr (hw : mb_W w B K T D U) (hH : mb_H w K) (e : ∀ j, j < 270 → v j = w j) : mb_W v B K T D U ∧ mb_H v K := by
  have hB := hw.B16; have hK := hw.K20
  exact ⟨hw.cg e, fun k hk => (hH k hk).cg (hw.boat hk).1 hB (e 5 (by decide)) (fun b hb => e _ (by omega)) (fun j hj => e _ (by omega))⟩
/-- the reference begins a thought -/
theorem m6_think (g9 : mb_AH) (er : g9.1 20 0 0 = w) : ∃ ga, F_X6_keeps (mb_sI g9 6 0 0 4 0) = mb_rV ga ∧ (∀ k, k ≠ 22 → k ≠ 6 → ga.1 k = g9.1 k) ∧ (∀ j, j ≠ 4 → ga.1 6 0 0 j = g9.1 6 0 0 j) ∧ ga.1 6 0 0 4 = 0 ∧ ga.2 = g9.2 ∧ ga.1 20 0 0 = w ∧ ∀ j, j < 270 → ga.1 22 0 0 j = w j := by
  obtain ⟨ga, a1, a2, a3, a4⟩ := m6_keeps (mb_sI g9 6 0 0 4 0)
  refine ⟨ga, a1, fun k h22 h6 => by rw [a2 k h22, mb_sI_o _ _ _ _ _ _ h6], fun j hj => by rw [a2 6 (by decide), mb_sI_j _ _ _ _ _ _ hj], by rw [a2 6 (by decide), mb_sI_s], a3, by rw [a2 20 (by decide), mb_sI_o _ _ _ _ _ _ (by decide)]; exact er, fun j hj => by rw [a4 j hj, mb_sI_o _ _ _ _ _ _ (by decide), er]⟩
/-- the end of a call that was only thought: the class's thought marina and the reference's scratch have changed -/
theorem think_ok {es : List String} {f5 : Option mb_RS} {f6 : mb_AH → Option mb_RS} {x : Int32} {g5 : mb_AH} (hS : mb_S n h) (h5 : f5 = mb_rI x g5) (fw : mb_Fw 1 h g5)
    (h6 : ∀ g9 ga : mb_AH, g9.1 20 0 0 = h.1 20 0 0 → F_X6_keeps (mb_sI g9 6 0 0 4 0) = mb_rV ga → ga.1 20 0 0 = h.1 20 0 0 → (∀ j, j < 270 → ga.1 22 0 0 j = h.1 20 0 0 j) → ∃ gb, mb_F6 ga gb ∧ f6 g9 = mb_cV (F_X6_returns gb) (fun gc => mb_rI x gc)) : mb_PI es f5 f6 (mb_S (n + 1)) := by
  have hS5 := (hS.up (Nat.le_succ n)).fw fw
  have e20 : (mb_sL g5 30 0 0 0 x.toInt64).1 20 0 0 = h.1 20 0 0 := by
    show g5.1 20 0 0 = h.1 20 0 0
    rw [fw.1 20 (by decide) (by decide) (by decide) (by decide)]
  obtain ⟨ga, a1, a2, a3, a4, a5, a6, a7⟩ := m6_think (mb_sL g5 30 0 0 0 x.toInt64) e20
  obtain ⟨gb, b1, b2⟩ := h6 _ ga e20 a1 a6 a7
  obtain ⟨gc, c1, c2, c3, c4⟩ := m6_returns gb
  refine Or.inl ⟨x, g5, gc, h5, ?_, ?_, ?_, ?_⟩
  · rw [b2, c1]
    simp only [px_cI, px_cIx, px_cV, px_cVx, px_cL, px_cLx, px_cR0, px_cR1, px_cRx, px_lI, px_lL, px_up, px_gZ0, px_gZ1, px_gZb, px_g0, px_g1, px_g2, px_g3, px_g4, px_g5, px_g6, px_g7, px_g8, px_g9, px_g10, px_g11, px_g12, px_g13, px_g14, px_c0, px_c1, px_c2, px_c3, px_c4, px_c5, px_c6, px_c7, px_c8, px_c9, px_c10, px_c11, px_c12, px_c13, px_c14]
  · rw [c2 6 (by decide), b1.1 6 (by decide) (by decide) (by decide) (by decide), a4]
  · rw [c3, b1.2, a5]; simp [mb_sL]
  · refine ((hS5.out x.toInt64).ref 0).f6 (fun k h20 h22 h24 h25 h26 => ?_) ?_ (fun j hj => ?_)
    · rw [c2 k h20, b1.1 k h20 h24 h25 h26]
      by_cases q : k = 6
      · subst q
        funext i1 i2 j
        obtain ⟨ga2, x1, x2, -⟩ := m6_keeps (mb_sI (mb_sL g5 30 0 0 0 x.toInt64) 6 0 0 4 0)
        have : ga2 = ga := mb_rV_inj (x1.symm.trans a1)
        subst this
        rw [x2 6 (by decide)]
      · rw [a2 k h22 q, mb_sI_o _ _ _ _ _ _ q]
    · rw [c3, b1.2, a5]; rfl
    · rw [c4 j hj, b1.1 22 (by decide) (by decide) (by decide) (by decide), a7 j hj, px_s20, e20]
theorem s_winterBerth (hS : mb_S n h) (x : Int32) : mb_PI ["java/lang/IndexOutOfBoundsException", "java/lang/IllegalStateException"] (F_X5_winterBerth x h) (F_X6_winterBerth x) (mb_S (n + 1)) := by
  obtain ⟨-, -, B, K, T, D, U, hw, r, lD, lU, lp, hH⟩ := id hS
  have hK := hw.K20; have hB := hw.B16
  rcases px_ix x (N := K) (by omega) with q | ⟨k, hk, rfl⟩
  · refine q_thr (j := 0) (b := 0) (E := "java/lang/IndexOutOfBoundsException") hS rfl ?_ ?_
    · unfold F_X5_winterBerth
      rw [c5_checkBoat r hw, q, if_neg (by decide)]; rfl
    · unfold F_X6_winterBerth B_X6_winterBerth_28
      rw [m6_isBoat hw.z, q]
      simp only [px_cI, px_cIx, px_cV, px_cVx, px_cL, px_cLx, px_cR0, px_cR1, px_cRx, px_lI, px_lL, px_up, px_gZ0, px_gZ1, px_gZb, px_g0, px_g1, px_g2, px_g3, px_g4, px_g5, px_g6, px_g7, px_g8, px_g9, px_g10, px_g11, px_g12, px_g13, px_g14, px_c0, px_c1, px_c2, px_c3, px_c4, px_c5, px_c6, px_c7, px_c8, px_c9, px_c10, px_c11, px_c12, px_c13, px_c14]
      rw [if_pos (by rfl), m6_refused1 1 (by decide)]; rfl
  · have hk20 : k < 20 := by omega
    have h5 : F_X5_winterBerth (nI k) h = mb_cV (F_X5_thinkOfWinter h) (fun h102 => (mb_gB (nI k) 20 (some (.inl (some (.inl (h102.1 3 1 (nI k).toNatClampNeg 4))), h102)))) := by
      unfold F_X5_winterBerth
      rw [c5_checkBoat r hw, px_ixt hk (by omega), if_pos rfl]
      simp only [px_cI, px_cIx, px_cV, px_cVx, px_cL, px_cLx, px_cR0, px_cR1, px_cRx, px_lI, px_lL, px_up, px_gZ0, px_gZ1, px_gZb, px_g0, px_g1, px_g2, px_g3, px_g4, px_g5, px_g6, px_g7, px_g8, px_g9, px_g10, px_g11, px_g12, px_g13, px_g14, px_c0, px_c1, px_c2, px_c3, px_c4, px_c5, px_c6, px_c7, px_c8, px_c9, px_c10, px_c11, px_c12, px_c13, px_c14]
    have h6 : ∀ g : mb_AH, g.1 20 0 0 = h.1 20 0 0 → F_X6_winterBerth (nI k) g = if h.1 20 0 0 5 = 1 then B_X6_winterBerth_28 (nI k) 2 g else B_X6_winterBerth_28 (nI k) 0 g := by
      intro g e
      have hzg : mb_W0 (g.1 20 0 0) B K T := by rw [e]; exact hw.z
      unfold F_X6_winterBerth
      rw [m6_isBoat hzg, px_ixt hk (by omega)]
      simp only [px_cI, px_cIx, px_cV, px_cVx, px_cL, px_cLx, px_cR0, px_cR1, px_cRx, px_lI, px_lL, px_up, px_gZ0, px_gZ1, px_gZb, px_g0, px_g1, px_g2, px_g3, px_g4, px_g5, px_g6, px_g7, px_g8, px_g9, px_g10, px_g11, px_g12, px_g13, px_g14, px_c0, px_c1, px_c2, px_c3, px_c4, px_c5, px_c6, px_c7, px_c8, px_c9, px_c10, px_c11, px_c12, px_c13, px_c14]
      rw [if_neg (by decide), e]
    rcases hw.wi with w5 | w5
    · obtain ⟨g1, e1, fr1, r1⟩ := c2_copyFrom (o := 1) r hw (by decide)
      obtain ⟨g2, e2, f2, r2⟩ := c2_beginWinter hw r1
      refine think_ok (x := bo (winw (h.1 20 0 0) B K T) k 4) (g5 := g2) hS ?_ ((mb_Fw.fr fr1).tr f2) (fun g9 ga z9 za z20 z22 => ?_)
      · rw [h5]
        unfold F_X5_thinkOfWinter
        rw [r.f5, w5, if_pos rfl, e1]
        simp only [px_cI, px_cIx, px_cV, px_cVx, px_cL, px_cLx, px_cR0, px_cR1, px_cRx, px_lI, px_lL, px_up, px_gZ0, px_gZ1, px_gZb, px_g0, px_g1, px_g2, px_g3, px_g4, px_g5, px_g6, px_g7, px_g8, px_g9, px_g10, px_g11, px_g12, px_g13, px_g14, px_c0, px_c1, px_c2, px_c3, px_c4, px_c5, px_c6, px_c7, px_c8, px_c9, px_c10, px_c11, px_c12, px_c13, px_c14]
        rw [e2]
        simp only [px_cI, px_cIx, px_cV, px_cVx, px_cL, px_cLx, px_cR0, px_cR1, px_cRx, px_lI, px_lL, px_up, px_gZ0, px_gZ1, px_gZb, px_g0, px_g1, px_g2, px_g3, px_g4, px_g5, px_g6, px_g7, px_g8, px_g9, px_g10, px_g11, px_g12, px_g13, px_g14, px_c0, px_c1, px_c2, px_c3, px_c4, px_c5, px_c6, px_c7, px_c8, px_c9, px_c10, px_c11, px_c12, px_c13, px_c14]
        rw [px_gB hk20 (by decide), nI_clamp (by omega), (r2.q hk).2.2.2.2.1]
      · have hwa : mb_W (ga.1 20 0 0) B K T D U := by rw [z20]; exact hw
        obtain ⟨gb, b1, b2, b3, b4⟩ := m6_begins hwa
        refine ⟨gb, ⟨b2, b3⟩, ?_⟩
        rw [h6 g9 z9, w5, if_neg (by decide)]
        unfold B_X6_winterBerth_28
        rw [m6_refused0]
        simp only [px_cI, px_cIx, px_cV, px_cVx, px_cL, px_cLx, px_cR0, px_cR1, px_cRx, px_lI, px_lL, px_up, px_gZ0, px_gZ1, px_gZb, px_g0, px_g1, px_g2, px_g3, px_g4, px_g5, px_g6, px_g7, px_g8, px_g9, px_g10, px_g11, px_g12, px_g13, px_g14, px_c0, px_c1, px_c2, px_c3, px_c4, px_c5, px_c6, px_c7, px_c8, px_c9, px_c10, px_c11, px_c12, px_c13, px_c14, if_true]
        rw [za]
        simp only [px_cI, px_cIx, px_cV, px_cVx, px_cL, px_cLx, px_cR0, px_cR1, px_cRx, px_lI, px_lL, px_up, px_gZ0, px_gZ1, px_gZb, px_g0, px_g1, px_g2, px_g3, px_g4, px_g5, px_g6, px_g7, px_g8, px_g9, px_g10, px_g11, px_g12, px_g13, px_g14, px_c0, px_c1, px_c2, px_c3, px_c4, px_c5, px_c6, px_c7, px_c8, px_c9, px_c10, px_c11, px_c12, px_c13, px_c14]
        rw [b1]
        simp only [px_cI, px_cIx, px_cV, px_cVx, px_cL, px_cLx, px_cR0, px_cR1, px_cRx, px_lI, px_lL, px_up, px_gZ0, px_gZ1, px_gZb, px_g0, px_g1, px_g2, px_g3, px_g4, px_g5, px_g6, px_g7, px_g8, px_g9, px_g10, px_g11, px_g12, px_g13, px_g14, px_c0, px_c1, px_c2, px_c3, px_c4, px_c5, px_c6, px_c7, px_c8, px_c9, px_c10, px_c11, px_c12, px_c13, px_c14]
        rw [m6_oB hk20 (j := 4) (by decide) (y := 4) rfl, b4, z20]
        simp only [px_cI, px_cIx, px_cV, px_cVx, px_cL, px_cLx, px_cR0, px_cR1, px_cRx, px_lI, px_lL, px_up, px_gZ0, px_gZ1, px_gZb, px_g0, px_g1, px_g2, px_g3, px_g4, px_g5, px_g6, px_g7, px_g8, px_g9, px_g10, px_g11, px_g12, px_g13, px_g14, px_c0, px_c1, px_c2, px_c3, px_c4, px_c5, px_c6, px_c7, px_c8, px_c9, px_c10, px_c11, px_c12, px_c13, px_c14]
    · refine q_thr (j := 1) (b := 0) (E := "java/lang/IllegalStateException") hS rfl ?_ ?_
      · rw [h5]
        unfold F_X5_thinkOfWinter
        rw [r.f5, w5, if_neg (by decide)]
        simp only [px_cI, px_cIx, px_cV, px_cVx, px_cL, px_cLx, px_cR0, px_cR1, px_cRx, px_lI, px_lL, px_up, px_gZ0, px_gZ1, px_gZb, px_g0, px_g1, px_g2, px_g3, px_g4, px_g5, px_g6, px_g7, px_g8, px_g9, px_g10, px_g11, px_g12, px_g13, px_g14, px_c0, px_c1, px_c2, px_c3, px_c4, px_c5, px_c6, px_c7, px_c8, px_c9, px_c10, px_c11, px_c12, px_c13, px_c14]
      · rw [h6 h rfl, w5, if_pos rfl]
        unfold B_X6_winterBerth_28
        rw [m6_refused1 2 (by decide)]; rfl
theorem s_wouldGoAshore (hS : mb_S n h) : mb_PI ["java/lang/IllegalStateException"] (F_X5_wouldGoAshore h) F_X6_wouldGoAshore (mb_S (n + 1)) := by
  obtain ⟨-, -, B, K, T, D, U, hw, r, lD, lU, lp, hH⟩ := id hS
  have hK := hw.K20; have hB := hw.B16
  have h6 : ∀ g : mb_AH, g.1 20 0 0 = h.1 20 0 0 → F_X6_wouldGoAshore g = if h.1 20 0 0 5 = 1 then B_X6_wouldGoAshore_16 1 g else B_X6_wouldGoAshore_16 0 g := by
    intro g e
    unfold F_X6_wouldGoAshore
    simp only [px_cI, px_cIx, px_cV, px_cVx, px_cL, px_cLx, px_cR0, px_cR1, px_cRx, px_lI, px_lL, px_up, px_gZ0, px_gZ1, px_gZb, px_g0, px_g1, px_g2, px_g3, px_g4, px_g5, px_g6, px_g7, px_g8, px_g9, px_g10, px_g11, px_g12, px_g13, px_g14, px_c0, px_c1, px_c2, px_c3, px_c4, px_c5, px_c6, px_c7, px_c8, px_c9, px_c10, px_c11, px_c12, px_c13, px_c14]
    rw [e]
  rcases hw.wi with w5 | w5
  · obtain ⟨g1, e1, fr1, r1⟩ := c2_copyFrom (o := 1) r hw (by decide)
    obtain ⟨g2, e2, f2, r2⟩ := c2_beginWinter hw r1
    have h0 : sp_st (h.1 20 0 0) K 3 = 0 := sp_cnt_0 (fun k _ hk => by
      rw [decide_eq_false_iff_not]
      intro z
      have hh := hH k (by omega)
      have := (hh.1 (hh.2.1 z)).1
      rw [w5] at this
      exact absurd this (by decide))
    refine think_ok (x := nI (sp_st (winw (h.1 20 0 0) B K T) K 3)) (g5 := g2) hS ?_ ((mb_Fw.fr fr1).tr f2) (fun g9 ga z9 za z20 z22 => ?_)
    · unfold F_X5_wouldGoAshore F_X5_thinkOfWinter
      rw [r.f5, w5, if_pos rfl, e1]
      simp only [px_cI, px_cIx, px_cV, px_cVx, px_cL, px_cLx, px_cR0, px_cR1, px_cRx, px_lI, px_lL, px_up, px_gZ0, px_gZ1, px_gZb, px_g0, px_g1, px_g2, px_g3, px_g4, px_g5, px_g6, px_g7, px_g8, px_g9, px_g10, px_g11, px_g12, px_g13, px_g14, px_c0, px_c1, px_c2, px_c3, px_c4, px_c5, px_c6, px_c7, px_c8, px_c9, px_c10, px_c11, px_c12, px_c13, px_c14]
      rw [e2]
      simp only [px_cI, px_cIx, px_cV, px_cVx, px_cL, px_cLx, px_cR0, px_cR1, px_cRx, px_lI, px_lL, px_up, px_gZ0, px_gZ1, px_gZb, px_g0, px_g1, px_g2, px_g3, px_g4, px_g5, px_g6, px_g7, px_g8, px_g9, px_g10, px_g11, px_g12, px_g13, px_g14, px_c0, px_c1, px_c2, px_c3, px_c4, px_c5, px_c6, px_c7, px_c8, px_c9, px_c10, px_c11, px_c12, px_c13, px_c14]
      rw [c2_countIn r2 (win_W hw)]
      simp only [px_cI, px_cIx, px_cV, px_cVx, px_cL, px_cLx, px_cR0, px_cR1, px_cRx, px_lI, px_lL, px_up, px_gZ0, px_gZ1, px_gZb, px_g0, px_g1, px_g2, px_g3, px_g4, px_g5, px_g6, px_g7, px_g8, px_g9, px_g10, px_g11, px_g12, px_g13, px_g14, px_c0, px_c1, px_c2, px_c3, px_c4, px_c5, px_c6, px_c7, px_c8, px_c9, px_c10, px_c11, px_c12, px_c13, px_c14]
    · have hwa : mb_W (ga.1 20 0 0) B K T D U := by rw [z20]; exact hw
      obtain ⟨gb, b1, b2, b3, b4⟩ := m6_begins hwa
      have hwb : mb_W (gb.1 20 0 0) B K T D U := by rw [b4]; exact win_W hwa
      refine ⟨gb, ⟨b2, b3⟩, ?_⟩
      rw [h6 g9 z9, w5, if_neg (by decide)]
      unfold B_X6_wouldGoAshore_16
      rw [m6_refused0]
      simp only [px_cI, px_cIx, px_cV, px_cVx, px_cL, px_cLx, px_cR0, px_cR1, px_cRx, px_lI, px_lL, px_up, px_gZ0, px_gZ1, px_gZb, px_g0, px_g1, px_g2, px_g3, px_g4, px_g5, px_g6, px_g7, px_g8, px_g9, px_g10, px_g11, px_g12, px_g13, px_g14, px_c0, px_c1, px_c2, px_c3, px_c4, px_c5, px_c6, px_c7, px_c8, px_c9, px_c10, px_c11, px_c12, px_c13, px_c14, if_true]
      rw [za]
      simp only [px_cI, px_cIx, px_cV, px_cVx, px_cL, px_cLx, px_cR0, px_cR1, px_cRx, px_lI, px_lL, px_up, px_gZ0, px_gZ1, px_gZb, px_g0, px_g1, px_g2, px_g3, px_g4, px_g5, px_g6, px_g7, px_g8, px_g9, px_g10, px_g11, px_g12, px_g13, px_g14, px_c0, px_c1, px_c2, px_c3, px_c4, px_c5, px_c6, px_c7, px_c8, px_c9, px_c10, px_c11, px_c12, px_c13, px_c14]
      rw [m6_countIn hwa.z, z20, h0]
      simp only [px_cI, px_cIx, px_cV, px_cVx, px_cL, px_cLx, px_cR0, px_cR1, px_cRx, px_lI, px_lL, px_up, px_gZ0, px_gZ1, px_gZb, px_g0, px_g1, px_g2, px_g3, px_g4, px_g5, px_g6, px_g7, px_g8, px_g9, px_g10, px_g11, px_g12, px_g13, px_g14, px_c0, px_c1, px_c2, px_c3, px_c4, px_c5, px_c6, px_c7, px_c8, px_c9, px_c10, px_c11, px_c12, px_c13, px_c14]
      rw [b1]
      simp only [px_cI, px_cIx, px_cV, px_cVx, px_cL, px_cLx, px_cR0, px_cR1, px_cRx, px_lI, px_lL, px_up, px_gZ0, px_gZ1, px_gZb, px_g0, px_g1, px_g2, px_g3, px_g4, px_g5, px_g6, px_g7, px_g8, px_g9, px_g10, px_g11, px_g12, px_g13, px_g14, px_c0, px_c1, px_c2, px_c3, px_c4, px_c5, px_c6, px_c7, px_c8, px_c9, px_c10, px_c11, px_c12, px_c13, px_c14]
      rw [m6_countIn hwb.z, b4, z20]
      simp only [px_cI, px_cIx, px_cV, px_cVx, px_cL, px_cLx, px_cR0, px_cR1, px_cRx, px_lI, px_lL, px_up, px_gZ0, px_gZ1, px_gZb, px_g0, px_g1, px_g2, px_g3, px_g4, px_g5, px_g6, px_g7, px_g8, px_g9, px_g10, px_g11, px_g12, px_g13, px_g14, px_c0, px_c1, px_c2, px_c3, px_c4, px_c5, px_c6, px_c7, px_c8, px_c9, px_c10, px_c11, px_c12, px_c13, px_c14]
      rw [show nI 0 = (0 : Int32) from rfl, Int32.sub_zero]
  · refine q_thr (j := 0) (b := 0) (E := "java/lang/IllegalStateException") hS rfl ?_ ?_
    · unfold F_X5_wouldGoAshore F_X5_thinkOfWinter
      rw [r.f5, w5, if_neg (by decide)]
      simp only [px_cI, px_cIx, px_cV, px_cVx, px_cL, px_cLx, px_cR0, px_cR1, px_cRx, px_lI, px_lL, px_up, px_gZ0, px_gZ1, px_gZb, px_g0, px_g1, px_g2, px_g3, px_g4, px_g5, px_g6, px_g7, px_g8, px_g9, px_g10, px_g11, px_g12, px_g13, px_g14, px_c0, px_c1, px_c2, px_c3, px_c4, px_c5, px_c6, px_c7, px_c8, px_c9, px_c10, px_c11, px_c12, px_c13, px_c14]
    · rw [h6 h rfl, w5, if_pos rfl]
      unfold B_X6_wouldGoAshore_16
      rw [m6_refused1 1 (by decide)]; rfl
theorem s_owesAfter (hn : n < 512) (hS : mb_S n h) (x y : Int32) : mb_PI ["java/lang/IndexOutOfBoundsException", "java/lang/IllegalArgumentException"] (F_X5_owesAfter x y h) (F_X6_owesAfter x y) (mb_S (n + 1)) := by
  obtain ⟨-, -, B, K, T, D, U, hw, r, lD, lU, lp, hH⟩ := id hS
  have hK := hw.K20; have hB := hw.B16
  rcases px_ix x (N := K) (by omega) with q | ⟨k, hk, rfl⟩
  · refine q_thr (j := 0) (b := 0) (E := "java/lang/IndexOutOfBoundsException") hS rfl ?_ ?_
    · unfold F_X5_owesAfter
      rw [c5_checkBoat r hw, q, if_neg (by decide)]; rfl
    · unfold F_X6_owesAfter B_X6_owesAfter_29
      rw [m6_isBoat hw.z, q]
      simp only [px_cI, px_cIx, px_cV, px_cVx, px_cL, px_cLx, px_cR0, px_cR1, px_cRx, px_lI, px_lL, px_up, px_gZ0, px_gZ1, px_gZb, px_g0, px_g1, px_g2, px_g3, px_g4, px_g5, px_g6, px_g7, px_g8, px_g9, px_g10, px_g11, px_g12, px_g13, px_g14, px_c0, px_c1, px_c2, px_c3, px_c4, px_c5, px_c6, px_c7, px_c8, px_c9, px_c10, px_c11, px_c12, px_c13, px_c14]
      rw [if_pos (by rfl), m6_refused1 1 (by decide)]; rfl
  · have hk20 : k < 20 := by omega
    have h6 : ∀ g : mb_AH, g.1 20 0 0 = h.1 20 0 0 → F_X6_owesAfter (nI k) y g = if (decide ((1 : Int32) ≤ y) && decide (y ≤ 400)) = true then B_X6_owesAfter_29 (nI k) y 0 g else B_X6_owesAfter_29 (nI k) y 2 g := by
      intro g e
      have hzg : mb_W0 (g.1 20 0 0) B K T := by rw [e]; exact hw.z
      unfold F_X6_owesAfter
      rw [m6_isBoat hzg, px_ixt hk (by omega)]
      simp only [px_cI, px_cIx, px_cV, px_cVx, px_cL, px_cLx, px_cR0, px_cR1, px_cRx, px_lI, px_lL, px_up, px_gZ0, px_gZ1, px_gZb, px_g0, px_g1, px_g2, px_g3, px_g4, px_g5, px_g6, px_g7, px_g8, px_g9, px_g10, px_g11, px_g12, px_g13, px_g14, px_c0, px_c1, px_c2, px_c3, px_c4, px_c5, px_c6, px_c7, px_c8, px_c9, px_c10, px_c11, px_c12, px_c13, px_c14, m6_within]
      rw [if_neg (by decide)]
      cases hq : (decide ((1 : Int32) ≤ y) && decide (y ≤ 400)) with
      | false => rw [if_pos (by rfl), if_neg (by decide)]
      | true => rw [if_neg (by decide), if_pos rfl]
    by_cases q : (decide ((1 : Int32) ≤ y) && decide (y ≤ 400)) = true
    · obtain ⟨N, rfl, l1, l2⟩ := px_w9 (l := 1) (u := 400) (by decide) q (by decide)
      obtain ⟨g1, e1, fr1, r1⟩ := c2_copyFrom (o := 1) r hw (by decide)
      obtain ⟨p1, p2⟩ := c2_lp (N := N) l2 N 0 mb_fu g1 (h.1 20 0 0) D U 0 (by omega) (by unfold mb_fu; omega) hw r1 hH (by omega) (by omega)
      have hcls : ∀ (z : Option mb_RS), F_X2_letPass 1 (nI N) g1 = z → F_X5_owesAfter (nI k) (nI N) h = mb_cI z (fun y105 h104 => (if y105 = (-1) then (some (.inl (some (.inl (-1))), h104)) else (mb_gB (nI k) 20 (some (.inl (some (.inl (h104.1 3 1 (nI k).toNatClampNeg 6))), h104))))) := fun z hz => by
        unfold F_X5_owesAfter F_X5_checkDays
        rw [c5_checkBoat r hw, px_ixt hk (by omega), if_pos rfl]
        simp only [px_cI, px_cIx, px_cV, px_cVx, px_cL, px_cLx, px_cR0, px_cR1, px_cRx, px_lI, px_lL, px_up, px_gZ0, px_gZ1, px_gZb, px_g0, px_g1, px_g2, px_g3, px_g4, px_g5, px_g6, px_g7, px_g8, px_g9, px_g10, px_g11, px_g12, px_g13, px_g14, px_c0, px_c1, px_c2, px_c3, px_c4, px_c5, px_c6, px_c7, px_c8, px_c9, px_c10, px_c11, px_c12, px_c13, px_c14, c5_isWithin]
        rw [q, if_neg (by decide)]
        simp only [px_cI, px_cIx, px_cV, px_cVx, px_cL, px_cLx, px_cR0, px_cR1, px_cRx, px_lI, px_lL, px_up, px_gZ0, px_gZ1, px_gZb, px_g0, px_g1, px_g2, px_g3, px_g4, px_g5, px_g6, px_g7, px_g8, px_g9, px_g10, px_g11, px_g12, px_g13, px_g14, px_c0, px_c1, px_c2, px_c3, px_c4, px_c5, px_c6, px_c7, px_c8, px_c9, px_c10, px_c11, px_c12, px_c13, px_c14]
        rw [e1]
        simp only [px_cI, px_cIx, px_cV, px_cVx, px_cL, px_cLx, px_cR0, px_cR1, px_cRx, px_lI, px_lL, px_up, px_gZ0, px_gZ1, px_gZb, px_g0, px_g1, px_g2, px_g3, px_g4, px_g5, px_g6, px_g7, px_g8, px_g9, px_g10, px_g11, px_g12, px_g13, px_g14, px_c0, px_c1, px_c2, px_c3, px_c4, px_c5, px_c6, px_c7, px_c8, px_c9, px_c10, px_c11, px_c12, px_c13, px_c14]
        rw [hz]
      have href : ∀ g9 ga : mb_AH, g9.1 20 0 0 = h.1 20 0 0 → F_X6_keeps (mb_sI g9 6 0 0 4 0) = mb_rV ga → F_X6_owesAfter (nI k) (nI N) g9 = B_X6_owesAfter_46 mb_fu (nI k) (nI N) 0 0 ga := fun g9 ga z9 za => by
        rw [h6 g9 z9, if_pos q]
        unfold B_X6_owesAfter_29
        rw [m6_refused0]
        simp only [px_cI, px_cIx, px_cV, px_cVx, px_cL, px_cLx, px_cR0, px_cR1, px_cRx, px_lI, px_lL, px_up, px_gZ0, px_gZ1, px_gZb, px_g0, px_g1, px_g2, px_g3, px_g4, px_g5, px_g6, px_g7, px_g8, px_g9, px_g10, px_g11, px_g12, px_g13, px_g14, px_c0, px_c1, px_c2, px_c3, px_c4, px_c5, px_c6, px_c7, px_c8, px_c9, px_c10, px_c11, px_c12, px_c13, px_c14, if_true]
        rw [za]
        simp only [px_cI, px_cIx, px_cV, px_cVx, px_cL, px_cLx, px_cR0, px_cR1, px_cRx, px_lI, px_lL, px_up, px_gZ0, px_gZ1, px_gZb, px_g0, px_g1, px_g2, px_g3, px_g4, px_g5, px_g6, px_g7, px_g8, px_g9, px_g10, px_g11, px_g12, px_g13, px_g14, px_c0, px_c1, px_c2, px_c3, px_c4, px_c5, px_c6, px_c7, px_c8, px_c9, px_c10, px_c11, px_c12, px_c13, px_c14]
      cases e : sp_days B K T N (h.1 20 0 0) D 0 with
      | none =>
        obtain ⟨g2, a1, a2⟩ := p1 e
        have a1 : F_X2_letPass 1 (nI N) g1 = _ := a1
        refine think_ok (x := -1) (g5 := g2) hS ?_ ((mb_Fw.fr fr1).tr a2) (fun g9 ga z9 za z20 z22 => ?_)
        · rw [hcls _ a1]
          simp only [px_cI, px_cIx, px_cV, px_cVx, px_cL, px_cLx, px_cR0, px_cR1, px_cRx, px_lI, px_lL, px_up, px_gZ0, px_gZ1, px_gZb, px_g0, px_g1, px_g2, px_g3, px_g4, px_g5, px_g6, px_g7, px_g8, px_g9, px_g10, px_g11, px_g12, px_g13, px_g14, px_c0, px_c1, px_c2, px_c3, px_c4, px_c5, px_c6, px_c7, px_c8, px_c9, px_c10, px_c11, px_c12, px_c13, px_c14]
          rw [if_pos trivial]
        · have hwa : mb_W (ga.1 20 0 0) B K T D U := by rw [z20]; exact hw
          obtain ⟨q1, -⟩ := m6_oa (N := N) l2 hk20 N 0 mb_fu ga D U 0 0 (by decide) (by omega) (by unfold mb_fu; omega) hwa (by rw [z20]; exact hH) (by omega) (by omega)
          rw [z20] at q1
          obtain ⟨gb, b1, b2⟩ := q1 e
          have b1 : B_X6_owesAfter_46 mb_fu (nI k) (nI N) 0 0 ga = _ := b1
          refine ⟨gb, b2, ?_⟩
          rw [href g9 ga z9 za, b1]
          rfl
      | some s =>
        obtain ⟨w2, c2⟩ := s
        obtain ⟨g2, a1, a2, r2⟩ := p2 w2 c2 e
        have a1 : F_X2_letPass 1 (nI N) g1 = _ := a1
        obtain ⟨U2, u1, hw2, hH2, e10, lc⟩ := days_W N _ D U 0 hw hH (by omega) (by omega) w2 c2 e
        refine think_ok (x := bo w2 k 8) (g5 := g2) hS ?_ ((mb_Fw.fr fr1).tr a2) (fun g9 ga z9 za z20 z22 => ?_)
        · rw [hcls _ a1]
          simp only [px_cI, px_cIx, px_cV, px_cVx, px_cL, px_cLx, px_cR0, px_cR1, px_cRx, px_lI, px_lL, px_up, px_gZ0, px_gZ1, px_gZb, px_g0, px_g1, px_g2, px_g3, px_g4, px_g5, px_g6, px_g7, px_g8, px_g9, px_g10, px_g11, px_g12, px_g13, px_g14, px_c0, px_c1, px_c2, px_c3, px_c4, px_c5, px_c6, px_c7, px_c8, px_c9, px_c10, px_c11, px_c12, px_c13, px_c14]
          rw [if_neg (px_neg1 (by omega)), px_gB hk20 (by decide), nI_clamp (by omega), (r2.q hk).2.2.2.2.2.2]
        · have hwa : mb_W (ga.1 20 0 0) B K T D U := by rw [z20]; exact hw
          obtain ⟨-, q2⟩ := m6_oa (N := N) l2 hk20 N 0 mb_fu ga D U 0 0 (by decide) (by omega) (by unfold mb_fu; omega) hwa (by rw [z20]; exact hH) (by omega) (by omega)
          rw [z20] at q2
          obtain ⟨gb, b1, b2⟩ := q2 w2 c2 e
          have b1 : B_X6_owesAfter_46 mb_fu (nI k) (nI N) 0 0 ga = _ := b1
          refine ⟨gb, b2, ?_⟩
          rw [href g9 ga z9 za, b1]
          rfl
    · have hf := bf_t q
      refine q_thr (j := 1) (b := 0) (E := "java/lang/IllegalArgumentException") hS rfl ?_ ?_
      · unfold F_X5_owesAfter F_X5_checkDays
        rw [c5_checkBoat r hw, px_ixt hk (by omega), if_pos rfl]
        simp only [px_cI, px_cIx, px_cV, px_cVx, px_cL, px_cLx, px_cR0, px_cR1, px_cRx, px_lI, px_lL, px_up, px_gZ0, px_gZ1, px_gZb, px_g0, px_g1, px_g2, px_g3, px_g4, px_g5, px_g6, px_g7, px_g8, px_g9, px_g10, px_g11, px_g12, px_g13, px_g14, px_c0, px_c1, px_c2, px_c3, px_c4, px_c5, px_c6, px_c7, px_c8, px_c9, px_c10, px_c11, px_c12, px_c13, px_c14, c5_isWithin]
        rw [hf, if_pos (by rfl)]
        simp only [px_cI, px_cIx, px_cV, px_cVx, px_cL, px_cLx, px_cR0, px_cR1, px_cRx, px_lI, px_lL, px_up, px_gZ0, px_gZ1, px_gZb, px_g0, px_g1, px_g2, px_g3, px_g4, px_g5, px_g6, px_g7, px_g8, px_g9, px_g10, px_g11, px_g12, px_g13, px_g14, px_c0, px_c1, px_c2, px_c3, px_c4, px_c5, px_c6, px_c7, px_c8, px_c9, px_c10, px_c11, px_c12, px_c13, px_c14]
      · rw [h6 h rfl, if_neg q]
        unfold B_X6_owesAfter_29
        rw [m6_refused1 2 (by decide)]; rfl
theorem s_pass (hn : n < 512) (hS : mb_S n h) (y : Int32) : mb_PI ["java/lang/IllegalArgumentException", "java/lang/IllegalStateException"] (F_X5_pass y h) (F_X6_pass y) (mb_S (n + 1)) := by
  obtain ⟨-, -, B, K, T, D, U, hw, r, lD, lU, ⟨p, ep, lp⟩, hH⟩ := id hS
  have hK := hw.K20; have hB := hw.B16
  have h6 : ∀ g : mb_AH, F_X6_pass y g = if (decide ((1 : Int32) ≤ y) && decide (y ≤ 400)) = true then B_X6_pass_17 y 0 g else B_X6_pass_17 y 1 g := by
    intro g
    unfold F_X6_pass
    simp only [px_cI, px_cIx, px_cV, px_cVx, px_cL, px_cLx, px_cR0, px_cR1, px_cRx, px_lI, px_lL, px_up, px_gZ0, px_gZ1, px_gZb, px_g0, px_g1, px_g2, px_g3, px_g4, px_g5, px_g6, px_g7, px_g8, px_g9, px_g10, px_g11, px_g12, px_g13, px_g14, px_c0, px_c1, px_c2, px_c3, px_c4, px_c5, px_c6, px_c7, px_c8, px_c9, px_c10, px_c11, px_c12, px_c13, px_c14, m6_within]
    cases hq : (decide ((1 : Int32) ≤ y) && decide (y ≤ 400)) with
    | false => rw [if_pos (by rfl), if_neg (by decide)]
    | true => rw [if_neg (by decide), if_pos rfl]
  by_cases q : (decide ((1 : Int32) ≤ y) && decide (y ≤ 400)) = true
  · obtain ⟨N, rfl, l1, l2⟩ := px_w9 (l := 1) (u := 400) (by decide) q (by decide)
    obtain ⟨g1, e1, fr1, r1⟩ := c2_copyFrom (o := 1) r hw (by decide)
    obtain ⟨p1, p2⟩ := c2_lp (N := N) l2 N 0 mb_fu g1 (h.1 20 0 0) D U 0 (by omega) (by unfold mb_fu; omega) hw r1 hH (by omega) (by omega)
    have hcls : ∀ (z : Option mb_RS), F_X2_letPass 1 (nI N) g1 = z → F_X5_pass (nI N) h = mb_cI z (fun y104 h103 => (if y104 = (-1) then (some (.inr "java/lang/IllegalStateException", h103)) else (mb_cV (F_X5_remember h103) fun h105 => (mb_cV (F_X2_copyFrom 0 1 h105) fun h106 => (some (.inl (some (.inl y104)), h106)))))) := fun z hz => by
      unfold F_X5_pass F_X5_checkDays
      simp only [px_cI, px_cIx, px_cV, px_cVx, px_cL, px_cLx, px_cR0, px_cR1, px_cRx, px_lI, px_lL, px_up, px_gZ0, px_gZ1, px_gZb, px_g0, px_g1, px_g2, px_g3, px_g4, px_g5, px_g6, px_g7, px_g8, px_g9, px_g10, px_g11, px_g12, px_g13, px_g14, px_c0, px_c1, px_c2, px_c3, px_c4, px_c5, px_c6, px_c7, px_c8, px_c9, px_c10, px_c11, px_c12, px_c13, px_c14, c5_isWithin]
      rw [q, if_neg (by decide)]
      simp only [px_cI, px_cIx, px_cV, px_cVx, px_cL, px_cLx, px_cR0, px_cR1, px_cRx, px_lI, px_lL, px_up, px_gZ0, px_gZ1, px_gZb, px_g0, px_g1, px_g2, px_g3, px_g4, px_g5, px_g6, px_g7, px_g8, px_g9, px_g10, px_g11, px_g12, px_g13, px_g14, px_c0, px_c1, px_c2, px_c3, px_c4, px_c5, px_c6, px_c7, px_c8, px_c9, px_c10, px_c11, px_c12, px_c13, px_c14]
      rw [e1]
      simp only [px_cI, px_cIx, px_cV, px_cVx, px_cL, px_cLx, px_cR0, px_cR1, px_cRx, px_lI, px_lL, px_up, px_gZ0, px_gZ1, px_gZb, px_g0, px_g1, px_g2, px_g3, px_g4, px_g5, px_g6, px_g7, px_g8, px_g9, px_g10, px_g11, px_g12, px_g13, px_g14, px_c0, px_c1, px_c2, px_c3, px_c4, px_c5, px_c6, px_c7, px_c8, px_c9, px_c10, px_c11, px_c12, px_c13, px_c14]
      rw [hz]
    have href : ∀ g9 ga : mb_AH, F_X6_keeps (mb_sI g9 6 0 0 4 0) = mb_rV ga → F_X6_pass (nI N) g9 = B_X6_pass_33 mb_fu (nI N) 0 0 ga := fun g9 ga za => by
      rw [h6 g9, if_pos q]
      unfold B_X6_pass_17
      rw [m6_refused0]
      simp only [px_cI, px_cIx, px_cV, px_cVx, px_cL, px_cLx, px_cR0, px_cR1, px_cRx, px_lI, px_lL, px_up, px_gZ0, px_gZ1, px_gZb, px_g0, px_g1, px_g2, px_g3, px_g4, px_g5, px_g6, px_g7, px_g8, px_g9, px_g10, px_g11, px_g12, px_g13, px_g14, px_c0, px_c1, px_c2, px_c3, px_c4, px_c5, px_c6, px_c7, px_c8, px_c9, px_c10, px_c11, px_c12, px_c13, px_c14, if_true]
      rw [za]
      simp only [px_cI, px_cIx, px_cV, px_cVx, px_cL, px_cLx, px_cR0, px_cR1, px_cRx, px_lI, px_lL, px_up, px_gZ0, px_gZ1, px_gZb, px_g0, px_g1, px_g2, px_g3, px_g4, px_g5, px_g6, px_g7, px_g8, px_g9, px_g10, px_g11, px_g12, px_g13, px_g14, px_c0, px_c1, px_c2, px_c3, px_c4, px_c5, px_c6, px_c7, px_c8, px_c9, px_c10, px_c11, px_c12, px_c13, px_c14]
    cases e : sp_days B K T N (h.1 20 0 0) D 0 with
    | none =>
      obtain ⟨g2, a1, a2⟩ := p1 e
      have a1 : F_X2_letPass 1 (nI N) g1 = _ := a1
      have fw := (mb_Fw.fr fr1).tr a2
      have hS2 := (hS.up (Nat.le_succ n)).fw fw
      have e20 : g2.1 20 0 0 = h.1 20 0 0 := by rw [fw.1 20 (by decide) (by decide) (by decide) (by decide)]
      obtain ⟨ga, t1, t2, t3, t4, t5, t6, t7⟩ := m6_think g2 e20
      have hwa : mb_W (ga.1 20 0 0) B K T D U := by rw [t6]; exact hw
      obtain ⟨q1, -⟩ := m6_ps (N := N) l2 N 0 mb_fu ga D U 0 (by omega) (by unfold mb_fu; omega) hwa (by rw [t6]; exact hH) (by omega) (by omega)
      rw [t6] at q1
      obtain ⟨gb, b1, b2⟩ := q1 e
      have b1 : B_X6_pass_33 mb_fu (nI N) 0 0 ga = _ := b1
      obtain ⟨gc, c1, c2, c3, c4⟩ := m6_returns gb
      refine Or.inr ⟨1, "java/lang/IllegalStateException", g2, 0, mb_sI gc 6 0 0 4 2, rfl, ?_, ?_, mb_sI_s _ _ _ _ _ _, ?_⟩
      · rw [hcls _ a1]
        simp only [px_cI, px_cIx, px_cV, px_cVx, px_cL, px_cLx, px_cR0, px_cR1, px_cRx, px_lI, px_lL, px_up, px_gZ0, px_gZ1, px_gZb, px_g0, px_g1, px_g2, px_g3, px_g4, px_g5, px_g6, px_g7, px_g8, px_g9, px_g10, px_g11, px_g12, px_g13, px_g14, px_c0, px_c1, px_c2, px_c3, px_c4, px_c5, px_c6, px_c7, px_c8, px_c9, px_c10, px_c11, px_c12, px_c13, px_c14]
        rw [if_pos trivial]
      · rw [href g2 ga t1, b1, c1]
        simp only [px_cI, px_cIx, px_cV, px_cVx, px_cL, px_cLx, px_cR0, px_cR1, px_cRx, px_lI, px_lL, px_up, px_gZ0, px_gZ1, px_gZb, px_g0, px_g1, px_g2, px_g3, px_g4, px_g5, px_g6, px_g7, px_g8, px_g9, px_g10, px_g11, px_g12, px_g13, px_g14, px_c0, px_c1, px_c2, px_c3, px_c4, px_c5, px_c6, px_c7, px_c8, px_c9, px_c10, px_c11, px_c12, px_c13, px_c14]
      · have hx : mb_S (n + 1) gc := by
          refine (hS2.ref 0).f6 (fun k h20 h22 h24 h25 h26 => ?_) ?_ (fun j hj => ?_)
          · rw [c2 k h20, b2.1 k h20 h24 h25 h26]
            by_cases q : k = 6
            · subst q
              obtain ⟨ga2, x1, x2, -⟩ := m6_keeps (mb_sI g2 6 0 0 4 0)
              have : ga2 = ga := mb_rV_inj (x1.symm.trans t1)
              subst this
              rw [x2 6 (by decide)]
            · rw [t2 k h22 q, mb_sI_o _ _ _ _ _ _ q]
          · rw [c3, b2.2, t5]; rfl
          · rw [c4 j hj, b2.1 22 (by decide) (by decide) (by decide) (by decide), t7 j hj, px_s20, e20]
        exact hx.ref 2
    | some s =>
      obtain ⟨w2, c2⟩ := s
      obtain ⟨g2, a1, a2, r2⟩ := p2 w2 c2 e
      have a1 : F_X2_letPass 1 (nI N) g1 = _ := a1
      obtain ⟨U2, u1, hw2, hH2, e10, lc⟩ := days_W N _ D U 0 hw hH (by omega) (by omega) w2 c2 e
      have fw := (mb_Fw.fr fr1).tr a2
      have hS2 := hS.fw fw
      obtain ⟨rc, c, c6⟩ := hS2.C
      obtain ⟨g3, e3, cg, fx⟩ := c5_remember c
      obtain ⟨g3b, e3b, eo1⟩ := c5_rem_o1 c
      have h33 : g3b = g3 := mb_rV_inj (e3b.symm.trans e3)
      rw [h33] at eo1
      have r3 : mb_RM g3 1 w2 B K T := r2.cg ((fx.2.1 1).resolve_right (by decide)) ((fx.2.1 2).resolve_right (by decide)) ((fx.2.1 3).resolve_right (by decide)) ((fx.2.1 12).resolve_right (by decide)) eo1
      obtain ⟨g5, e5, fr5, r5⟩ := c2_copyFrom (o := 0) r3 hw2 (by decide)
      have e20 : g2.1 20 = h.1 20 := fw.1 20 (by decide) (by decide) (by decide) (by decide)
      have fz := mb_Fz.of fx fr5
      refine mut_ok3 (g5 := g5) (w := w2) (x := nI c2) hS2 ?_ (cg.wr fr5 ⟨B, K, T, D + N, U2, hw2, r5, by omega, by omega, ⟨p, by rw [e10]; exact ep, by omega⟩, hH2⟩ (Nat.le_succ n)) fz (fun g9 hg9 => ?_)
      · rw [hcls _ a1]
        simp only [px_cI, px_cIx, px_cV, px_cVx, px_cL, px_cLx, px_cR0, px_cR1, px_cRx, px_lI, px_lL, px_up, px_gZ0, px_gZ1, px_gZb, px_g0, px_g1, px_g2, px_g3, px_g4, px_g5, px_g6, px_g7, px_g8, px_g9, px_g10, px_g11, px_g12, px_g13, px_g14, px_c0, px_c1, px_c2, px_c3, px_c4, px_c5, px_c6, px_c7, px_c8, px_c9, px_c10, px_c11, px_c12, px_c13, px_c14]
        rw [if_neg (px_neg1 (by omega)), e3]
        simp only [px_cI, px_cIx, px_cV, px_cVx, px_cL, px_cLx, px_cR0, px_cR1, px_cRx, px_lI, px_lL, px_up, px_gZ0, px_gZ1, px_gZb, px_g0, px_g1, px_g2, px_g3, px_g4, px_g5, px_g6, px_g7, px_g8, px_g9, px_g10, px_g11, px_g12, px_g13, px_g14, px_c0, px_c1, px_c2, px_c3, px_c4, px_c5, px_c6, px_c7, px_c8, px_c9, px_c10, px_c11, px_c12, px_c13, px_c14]
        rw [e5]
        simp only [px_cI, px_cIx, px_cV, px_cVx, px_cL, px_cLx, px_cR0, px_cR1, px_cRx, px_lI, px_lL, px_up, px_gZ0, px_gZ1, px_gZb, px_g0, px_g1, px_g2, px_g3, px_g4, px_g5, px_g6, px_g7, px_g8, px_g9, px_g10, px_g11, px_g12, px_g13, px_g14, px_c0, px_c1, px_c2, px_c3, px_c4, px_c5, px_c6, px_c7, px_c8, px_c9, px_c10, px_c11, px_c12, px_c13, px_c14]
      · have z20 : g9.1 20 = g2.1 20 := by rw [hg9]; exact fz 20 (by decide)
        have z21 : g9.1 21 = g2.1 21 := by rw [hg9]; exact fz 21 (by decide)
        have z6 : g9.1 6 = g2.1 6 := by rw [hg9]; exact fz 6 (by decide)
        obtain ⟨ga, t1, t2, t3, t4, t5, t6, t7⟩ := m6_think (w := h.1 20 0 0) g9 (by rw [z20, e20])
        have hwa : mb_W (ga.1 20 0 0) B K T D U := by rw [t6]; exact hw
        obtain ⟨-, q2⟩ := m6_ps (N := N) l2 N 0 mb_fu ga D U 0 (by omega) (by unfold mb_fu; omega) hwa (by rw [t6]; exact hH) (by omega) (by omega)
        rw [t6] at q2
        obtain ⟨gb, b1, b2, b3⟩ := q2 w2 c2 e
        have b1 : B_X6_pass_33 mb_fu (nI N) 0 0 ga = _ := b1
        obtain ⟨gc, s1, s2, s3, s4, s5⟩ := m6_swap (nI c2) 270 0 mb_fu gb rfl (by unfold mb_fu; omega)
        have s1 : B_X6_pass_74 mb_fu (nI c2) 0 gb = _ := s1
        have k6 : gc.1 6 = ga.1 6 := by rw [s2 6 (by decide) (by decide), b2.1 6 (by decide) (by decide) (by decide) (by decide)]
        have k63 : gc.1 6 0 0 3 = nI rc := by rw [k6, t3 3 (by decide), z6]; exact c6
        obtain ⟨gd, v1, v2, v3, v4, v5, v6⟩ := m6_saves (h := gc) c.1 k63
        obtain ⟨g6, y1, y2, y3, y4⟩ := m6_returns gd
        refine ⟨g6, ?_, fun k hk => ?_, ?_, ?_, ?_, ?_, fun i hi j hj => ?_, fun j hj => ?_⟩
        · rw [href g9 ga t1, b1, s1, v1]
          simp only [px_cI, px_cIx, px_cV, px_cVx, px_cL, px_cLx, px_cR0, px_cR1, px_cRx, px_lI, px_lL, px_up, px_gZ0, px_gZ1, px_gZb, px_g0, px_g1, px_g2, px_g3, px_g4, px_g5, px_g6, px_g7, px_g8, px_g9, px_g10, px_g11, px_g12, px_g13, px_g14, px_c0, px_c1, px_c2, px_c3, px_c4, px_c5, px_c6, px_c7, px_c8, px_c9, px_c10, px_c11, px_c12, px_c13, px_c14]
          rw [y1]
          simp only [px_cI, px_cIx, px_cV, px_cVx, px_cL, px_cLx, px_cR0, px_cR1, px_cRx, px_lI, px_lL, px_up, px_gZ0, px_gZ1, px_gZb, px_g0, px_g1, px_g2, px_g3, px_g4, px_g5, px_g6, px_g7, px_g8, px_g9, px_g10, px_g11, px_g12, px_g13, px_g14, px_c0, px_c1, px_c2, px_c3, px_c4, px_c5, px_c6, px_c7, px_c8, px_c9, px_c10, px_c11, px_c12, px_c13, px_c14]
        · rw [y2 k (by omega), v2 k (by omega) (by omega), s2 k (by omega) (by omega), b2.1 k (by omega) (by omega) (by omega) (by omega), t2 k (by omega) (by omega)]
        · rw [y3, v4, s3, b2.2, t5]
        · rw [y2 6 (by decide), v5]
        · rw [y2 6 (by decide), v3 4 (by decide), k6, t4]
        · rw [y2 6 (by decide), v3 6 (by decide), k6, t3 6 (by decide)]
        · rw [y2 21 (by decide), v6 i hi j hj]
          have k21 : gc.1 21 = g2.1 21 := by rw [s2 21 (by decide) (by decide), b2.1 21 (by decide) (by decide) (by decide) (by decide), t2 21 (by decide) (by decide), z21]
          have k20 : gc.1 20 0 0 j = g2.1 20 0 0 j := by rw [s4 j, if_pos ⟨Nat.zero_le _, hj⟩, b2.1 22 (by decide) (by decide) (by decide) (by decide), t7 j hj, e20]
          unfold ws_n
          rw [k21]
          by_cases hr : rc < 4
          · rw [if_pos hr, if_pos hr]
            by_cases hi2 : i = rc
            · rw [if_pos hi2, if_pos hi2, k20]
            · rw [if_neg hi2, if_neg hi2]
          · rw [if_neg hr, if_neg hr]
            by_cases hi2 : i = 3
            · rw [if_pos hi2, if_pos hi2, k20]
            · rw [if_neg hi2, if_neg hi2]
        · rw [y4 j hj, v2 22 (by decide) (by decide), s5 j, if_pos ⟨Nat.zero_le _, hj⟩, b3]
  · have hf := bf_t q
    refine q_thr (j := 0) (b := 0) (E := "java/lang/IllegalArgumentException") hS rfl ?_ ?_
    · unfold F_X5_pass F_X5_checkDays
      simp only [px_cI, px_cIx, px_cV, px_cVx, px_cL, px_cLx, px_cR0, px_cR1, px_cRx, px_lI, px_lL, px_up, px_gZ0, px_gZ1, px_gZb, px_g0, px_g1, px_g2, px_g3, px_g4, px_g5, px_g6, px_g7, px_g8, px_g9, px_g10, px_g11, px_g12, px_g13, px_g14, px_c0, px_c1, px_c2, px_c3, px_c4, px_c5, px_c6, px_c7, px_c8, px_c9, px_c10, px_c11, px_c12, px_c13, px_c14, c5_isWithin]
      rw [hf, if_pos (by rfl)]
      simp only [px_cI, px_cIx, px_cV, px_cVx, px_cL, px_cLx, px_cR0, px_cR1, px_cRx, px_lI, px_lL, px_up, px_gZ0, px_gZ1, px_gZb, px_g0, px_g1, px_g2, px_g3, px_g4, px_g5, px_g6, px_g7, px_g8, px_g9, px_g10, px_g11, px_g12, px_g13, px_g14, px_c0, px_c1, px_c2, px_c3, px_c4, px_c5, px_c6, px_c7, px_c8, px_c9, px_c10, px_c11, px_c12, px_c13, px_c14]
    · rw [h6 h, if_neg q]
      unfold B_X6_pass_17
      rw [m6_refused1 1 (by decide)]; rfl
end
theorem mb_step : mb_Step mb_S := by
  intro n h x1 x2 x3 x4 hn hS
  exact ⟨hS.up (Nat.le_succ n), s_setTable hS, s_low hS x1, s_addBerth hS x1 x2 0 x4 (Or.inl rfl), s_addBerth hS x1 x2 1 x4 (Or.inr rfl), s_addBoat hS x1 x2 x3, s_set hS x1 x2, s_setRate hS x1 x2, s_berth hS x1 x2, s_boat hS x1 x2, s_fits hS x1 x2, s_info hS x1, s_place hS x1 x2, s_leave hS x1, s_change hS x1 x2, s_await hn hS x1, s_offer hS x1, s_waiting hS x1, s_bestBerth hS x1, s_pass hn hS x1, s_pay hn hS x1 x2, s_charge hn hS x1 x2, s_owed hS, s_paid hS, s_owesAfter hn hS x1 x2, s_groundsIn hS x1, s_winterBerth hS x1, s_wouldGoAshore hS, s_greatestClearance hS, s_missingDepth hS x1 x2, s_type hS x1, s_clearText hS, s_fault hS, s_undo hS, s_checksum hS⟩
