/-! ===== pure: await, charge, change ===== -/
section
variable {h g : mb_AH} {w : Nat → Int32} {B K T D U n rc : Nat}
/-- a call that changes: the class remembers and writes, the reference saves and writes, the same row -/
theorem s_mut {es : List String} {f5 : Option mb_RS} {f6 : mb_AH → Option mb_RS} {v : Int32} {w2 : Nat → Int32} {B2 K2 T2 D2 U2 : Nat} (hS : mb_S n h) (r : mb_RM h 0 (h.1 20 0 0) B K T)
    (cls : ∀ g, F_X5_remember h = mb_rV g → mb_RM g 0 (h.1 20 0 0) B K T → mb_Fx h g → ∃ g5, f5 = mb_rI v g5 ∧ mb_Fr 0 g g5 ∧ mb_RM g5 0 w2 B2 K2 T2)
    (W2 : mb_W w2 B2 K2 T2 D2 U2) (lD : D2 ≤ 400 * (n + 1)) (lU : U2 ≤ 8000 * (n + 1)) (lp : ∃ p : Nat, w2 10 = nI p ∧ p ≤ 3 * (n + 1)) (lH : mb_H w2 K2)
    (ref : ∀ g9 g1 : mb_AH, g9.1 20 = h.1 20 → g1.1 20 = h.1 20 → F_X6_saves (mb_sI g9 6 0 0 4 0) = mb_rV g1 → ∃ g6, f6 g9 = mb_rI v g6 ∧ (∀ i, i ≠ 20 → g6.1 i = g1.1 i) ∧ g6.2 = g1.2 ∧ ∀ j, j < 270 → g6.1 20 0 0 j = w2 j) : mb_PI es f5 f6 (mb_S (n + 1)) := by
  obtain ⟨rc, c, c6⟩ := hS.C
  obtain ⟨g, e1, cg, fx⟩ := c5_remember c
  obtain ⟨g5, e5, fr, r5⟩ := cls g e1 (r.fx fx) fx
  have fz := mb_Fz.of fx fr
  refine mut_ok (g5 := g5) (w := w2) hS e5 (cg.wr fr ⟨B2, K2, T2, D2, U2, W2, r5, lD, lU, lp, lH⟩ (Nat.le_succ n)) fz (fun g9 hg9 => ?_)
  have z20 : g9.1 20 = h.1 20 := by rw [hg9]; exact fz 20 (by decide)
  have z21 : g9.1 21 = h.1 21 := by rw [hg9]; exact fz 21 (by decide)
  have z6 : g9.1 6 = h.1 6 := by rw [hg9]; exact fz 6 (by decide)
  obtain ⟨g1, f1, f2, f3⟩ := m6_begin (g := g9) c.1 (by rw [z6]; exact c6)
  obtain ⟨g6, p1, p2, p3, p4⟩ := ref g9 g1 z20 (by rw [f2, z20]) f1
  have := f3 g6 _ p2 p3 rfl
  rw [z20, z21] at this
  exact ⟨g6, p1, this.1, this.2.1, this.2.2.1, this.2.2.2.1, this.2.2.2.2.1, this.2.2.2.2.2.1, p4⟩
/-- the row of a boat that begins to wait -/
def ww (w : Nat → Int32) (k : Nat) : Nat → Int32 := fun i => if i = 9 then w 9 + 1 else wb (wb (wb (wb w k 3 2) k 4 (-1)) k 5 0) k 6 (w 9) i
theorem ww_lo (w : Nat → Int32) (k : Nat) {i : Nat} (hi : i < 90) (h9 : i ≠ 9) : ww w k i = w i := by
  unfold ww
  rw [if_neg h9, wb_lo _ _ _ _ hi, wb_lo _ _ _ _ hi, wb_lo _ _ _ _ hi, wb_lo _ _ _ _ hi]
theorem ww_9 (w : Nat → Int32) (k : Nat) : ww w k 9 = w 9 + 1 := rfl
theorem ww_bo (w : Nat → Int32) (k : Nat) {k2 j2 : Nat} (hj2 : j2 < 9) : bo (ww w k) k2 j2 = if k2 = k then (if j2 = 3 then 2 else if j2 = 4 then -1 else if j2 = 5 then 0 else if j2 = 6 then w 9 else bo w k2 j2) else bo w k2 j2 := by
  have e : bo (ww w k) k2 j2 = bo (wb (wb (wb (wb w k 3 2) k 4 (-1)) k 5 0) k 6 (w 9)) k2 j2 := by
    unfold bo ww
    rw [if_neg (by omega)]
  rw [e, wb_bo _ _ _ _ (by decide) hj2, wb_bo _ _ _ _ (by decide) hj2, wb_bo _ _ _ _ (by decide) hj2, wb_bo _ _ _ _ (by decide) hj2]
  by_cases q : k2 = k
  · subst q
    simp only [true_and, if_true]
    rcases (show j2 = 0 ∨ j2 = 1 ∨ j2 = 2 ∨ j2 = 3 ∨ j2 = 4 ∨ j2 = 5 ∨ j2 = 6 ∨ j2 = 7 ∨ j2 = 8 by omega) with rfl | rfl | rfl | rfl | rfl | rfl | rfl | rfl | rfl <;> rfl
  · simp only [q, false_and, if_false]
/-- with no home -/
def wx (w : Nat → Int32) (k : Nat) : Nat → Int32 := wb (ww w k) k 7 (-1)
theorem wx_lo (w : Nat → Int32) (k : Nat) {i : Nat} (hi : i < 90) (h9 : i ≠ 9) : wx w k i = w i := by
  unfold wx
  rw [wb_lo _ _ _ _ hi, ww_lo w k hi h9]
theorem wx_9 (w : Nat → Int32) (k : Nat) : wx w k 9 = w 9 + 1 := by
  unfold wx
  rw [wb_lo _ _ _ _ (by decide), ww_9]
theorem wx_bo (w : Nat → Int32) (k : Nat) {k2 j2 : Nat} (hj2 : j2 < 9) : bo (wx w k) k2 j2 = if k2 = k then (if j2 = 3 then 2 else if j2 = 4 then -1 else if j2 = 5 then 0 else if j2 = 6 then w 9 else if j2 = 7 then -1 else bo w k2 j2) else bo w k2 j2 := by
  unfold wx
  rw [wb_bo _ _ _ _ (by decide) hj2, ww_bo w k hj2]
  by_cases q : k2 = k
  · subst q
    simp only [true_and, if_true]
    rcases (show j2 = 0 ∨ j2 = 1 ∨ j2 = 2 ∨ j2 = 3 ∨ j2 = 4 ∨ j2 = 5 ∨ j2 = 6 ∨ j2 = 7 ∨ j2 = 8 by omega) with rfl | rfl | rfl | rfl | rfl | rfl | rfl | rfl | rfl <;> rfl
  · simp only [q, false_and, if_false]
theorem wx_j (w : Nat → Int32) (k : Nat) {j : Nat} (hj : j = 0 ∨ j = 1 ∨ j = 2 ∨ j = 8) : bo (wx w k) k j = bo w k j := by
  rw [wx_bo w k (by omega), if_pos rfl]
  rcases hj with rfl | rfl | rfl | rfl <;> rfl
theorem wx_W (hw : mb_W w B K T D U) (lU : U + 1 ≤ 5000000) {k : Nat} (hk : k < K) : mb_W (wx w k) B K T D (U + 1) := by
  have hK := hw.K20
  obtain ⟨-, -, -, nu⟩ := hw.boat hk
  have e3 : bo (wx w k) k 3 = 2 := by rw [wx_bo w k (by decide), if_pos rfl]; rfl
  have e6 : bo (wx w k) k 6 = w 9 := by rw [wx_bo w k (by decide), if_pos rfl]; rfl
  refine hw.boat1 (k0 := k) (fun j hj h9 => wx_lo w k hj h9) (by rw [wx_9, hw.2.2.1.1, nI_1]) lU (Nat.le_succ U) (fun k2 _ hne j hj => by rw [wx_bo w k hj, if_neg hne]) ⟨?_, ?_, ?_, ?_⟩ (fun k2 hk2 hne e1 e2 => ?_) (fun k2 hk2 hne e1 e2 => ?_)
  · unfold mb_at9
    rw [e3]
    exact Or.inr ⟨Or.inr (Or.inl rfl), by rw [wx_bo w k (by decide), if_pos rfl]; rfl⟩
  · unfold mb_hm9
    exact Or.inl (by rw [wx_bo w k (by decide), if_pos rfl]; rfl)
  · unfold mb_wt9
    rw [e3, e6]
    exact ⟨fun _ => ⟨0, U, by rw [wx_bo w k (by decide), if_pos rfl]; rfl, Nat.zero_le _, hw.2.2.1.1, Nat.lt_succ_self U⟩, fun z => absurd rfl z⟩
  · unfold mb_nu9 at nu ⊢
    rw [wx_j w k (by decide), wx_j w k (by decide), wx_j w k (by decide), wx_j w k (by decide)]
    exact nu
  · rw [e3] at e2
    exact absurd e2 (by decide)
  · rw [e6]
    obtain ⟨-, -, ⟨z, -⟩, -⟩ := hw.boat hk2
    obtain ⟨a, s, -, -, es, ls⟩ := z e1
    have := hw.2.2.1.2
    rw [es, hw.2.2.1.1]
    exact px_ne (by omega) (by omega) (by omega)
theorem wx_H (hw : mb_W w B K T D U) (hH : mb_H w K) {k : Nat} : mb_H (wx w k) K := by
  have hB := hw.B16
  intro k2 hk2
  by_cases q : k2 = k
  · subst q
    have e3 : bo (wx w k2) k2 3 = 2 := by rw [wx_bo w k2 (by decide), if_pos rfl]; rfl
    have e7 : bo (wx w k2) k2 7 = -1 := by rw [wx_bo w k2 (by decide), if_pos rfl]; rfl
    unfold mb_h9
    rw [e3, e7]
    exact ⟨fun z => absurd rfl z, fun z => absurd z (by decide), fun z => absurd z (by decide)⟩
  · exact (hH k2 hk2).cg (hw.boat hk2).1 hB (wx_lo w k (by decide) (by decide)) (fun b hb => wx_lo w k (by omega) (by omega)) (fun j hj => by rw [wx_bo w k hj, if_neg q])
theorem c2_begin (o k : Nat) (g : mb_AH) : ∃ g5 : mb_AH, F_X2_beginToWait o o k g = mb_rV g5 ∧ mb_Fr o g g5 ∧ (∀ i, i ≠ 3 → i ≠ 1 → g5.1 i = g.1 i) ∧ g5.2 = g.2 ∧ (∀ j, j ≠ 14 → g5.1 1 o 0 j = g.1 1 o 0 j) ∧ g5.1 1 o 0 14 = g.1 1 o 0 14 + 1 ∧ ∀ k2 j, g5.1 3 o k2 j = if k2 = k then (if j = 3 then 2 else if j = 4 then -1 else if j = 5 then -1 else if j = 7 then g.1 1 o 0 11 else if j = 8 then g.1 1 o 0 14 else g.1 3 o k2 j) else g.1 3 o k2 j := by
  obtain ⟨g1, e1, fr, o3, o2, o1⟩ := c1_move o k 2 (-1) g
  have w1 : mb_Fr o g1 (mb_sI g1 3 o k 7 (g1.1 1 o 0 11)) := mb_Fr.wI (k := 3) g1 k 7 _ (by decide)
  have w2 := mb_Fr.wI (k := 3) (o := o) (mb_sI g1 3 o k 7 (g1.1 1 o 0 11)) k 8 ((mb_sI g1 3 o k 7 (g1.1 1 o 0 11)).1 1 o 0 14) (by decide)
  have w3 := mb_Fr.wI (k := 1) (o := o) (mb_sI (mb_sI g1 3 o k 7 (g1.1 1 o 0 11)) 3 o k 8 ((mb_sI g1 3 o k 7 (g1.1 1 o 0 11)).1 1 o 0 14)) 0 14 ((mb_sI (mb_sI g1 3 o k 7 (g1.1 1 o 0 11)) 3 o k 8 ((mb_sI g1 3 o k 7 (g1.1 1 o 0 11)).1 1 o 0 14)).1 1 o 0 14 + 1) (by decide)
  refine ⟨_, ?_, fr.tr (w1.tr (w2.tr w3)), fun i h3 h1 => ?_, ?_, fun j hj => ?_, ?_, fun k2 j => ?_⟩
  · unfold F_X2_beginToWait
    rw [e1]
    simp only [px_cI, px_cIx, px_cV, px_cVx, px_cL, px_cLx, px_cR0, px_cR1, px_cRx, px_lI, px_lL, px_up, px_gZ0, px_gZ1, px_gZb, px_g0, px_g1, px_g2, px_g3, px_g4, px_g5, px_g6, px_g7, px_g8, px_g9, px_g10, px_g11, px_g12, px_g13, px_g14, px_c0, px_c1, px_c2, px_c3, px_c4, px_c5, px_c6, px_c7, px_c8, px_c9, px_c10, px_c11, px_c12, px_c13, px_c14]
  · rw [mb_sI_o _ _ _ _ _ _ h1, mb_sI_o _ _ _ _ _ _ h3, mb_sI_o _ _ _ _ _ _ h3, o3 i h3]
  · exact o2
  · rw [mb_sI_j _ _ _ _ _ _ hj, mb_sI_o _ _ _ _ _ _ (by decide), mb_sI_o _ _ _ _ _ _ (by decide), o3 1 (by decide)]
  · rw [mb_sI_s, mb_sI_o _ _ _ _ _ _ (by decide), mb_sI_o _ _ _ _ _ _ (by decide), o3 1 (by decide)]
  · rw [mb_sI_o _ _ _ _ _ _ (by decide), mb_sI_o _ _ _ _ _ _ (show 1 ≠ 3 by decide), o3 1 (by decide)]
    simp only [mb_sI, true_and, o1, o3 1 (by decide)]
    by_cases q : k2 = k
    · subst q
      simp only [true_and, if_true]
      by_cases q8 : j = 8
      · subst q8; rfl
      · by_cases q7 : j = 7
        · subst q7; rfl
        · simp only [q8, q7, if_false]
    · simp only [q, false_and, if_false]
theorem wx_RM {o : Nat} (r : mb_RM g o w B K T) (hB : B ≤ 16) (hT : T ≤ 14) {k : Nat} (hk : k < K) {g5 : mb_AH} (o3 : ∀ i, i ≠ 3 → i ≠ 1 → g5.1 i = g.1 i) (o2 : g5.2 = g.2) (om : ∀ j, j ≠ 14 → g5.1 1 o 0 j = g.1 1 o 0 j) (o9 : g5.1 1 o 0 14 = g.1 1 o 0 14 + 1) (o1 : ∀ k2 j, g5.1 3 o k2 j = if k2 = k then (if j = 3 then 2 else if j = 4 then -1 else if j = 5 then -1 else if j = 7 then g.1 1 o 0 11 else if j = 8 then g.1 1 o 0 14 else g.1 3 o k2 j) else g.1 3 o k2 j) : mb_RM g5 o (wx w k) B K T := by
  refine r.boat1 (k0 := k) hB hT (fun j hj h9 => wx_lo w k hj h9) (by rw [o9, wx_9, r.f9]) (fun k2 _ hne j hj => by rw [wx_bo w k hj, if_neg hne]) om (by rw [o3 2 (by decide) (by decide)]) (fun k2 hne => by funext j; rw [o1 k2 j, if_neg hne]) (by rw [o3 12 (by decide) (by decide)]) (by rw [o2]) ?_
  obtain ⟨a0, a1, a2, a3, a4, a5, a6⟩ := r.q hk
  have z : ∀ j, g5.1 3 o k j = if j = 3 then 2 else if j = 4 then -1 else if j = 5 then -1 else if j = 7 then g.1 1 o 0 11 else if j = 8 then g.1 1 o 0 14 else g.1 3 o k j := fun j => by rw [o1, if_pos rfl]
  have y : ∀ j, j < 9 → bo (wx w k) k j = if j = 3 then 2 else if j = 4 then -1 else if j = 5 then 0 else if j = 6 then w 9 else if j = 7 then -1 else bo w k j := fun j hj => by rw [wx_bo w k hj, if_pos rfl]
  unfold cp_b
  rw [z 0, z 1, z 2, z 3, z 4, z 5, z 6, z 7, z 8, wx_lo w k (by decide) (by decide), y 0 (by decide), y 1 (by decide), y 2 (by decide), y 3 (by decide), y 4 (by decide), y 5 (by decide), y 6 (by decide), y 7 (by decide), y 8 (by decide)]
  exact ⟨⟨a0, a1, a2, rfl, rfl, rfl, a6⟩, fun _ => ⟨by show g.1 1 o 0 11 = w 4 - 0; rw [r.f4, Int32.sub_zero], by show g.1 1 o 0 14 = w 9; exact r.f9⟩⟩
theorem m6_waits {k : Nat} (hk : k < 20) (g1 : mb_AH) : ∃ g6 : mb_AH, F_X6_waits (nI k) g1 = mb_rV g6 ∧ (∀ i, i ≠ 20 → g6.1 i = g1.1 i) ∧ g6.2 = g1.2 ∧ g6.1 20 0 0 = ww (g1.1 20 0 0) k := by
  refine ⟨mb_sI (mb_sI (mb_sI (mb_sI (mb_sI g1 20 0 0 (90 + 9 * k + 3) 2) 20 0 0 (90 + 9 * k + 4) (-1)) 20 0 0 (90 + 9 * k + 5) 0) 20 0 0 (90 + 9 * k + 6) (g1.1 20 0 0 9)) 20 0 0 9 (g1.1 20 0 0 9 + 1), ?_, fun i hi => ?_, ?_, ?_⟩
  · unfold F_X6_waits F_X6_puts
    rw [(m6_setsw hk (j := 3) (y := 3) (by decide) rfl 2 g1).1]
    simp only [px_cI, px_cIx, px_cV, px_cVx, px_cL, px_cLx, px_cR0, px_cR1, px_cRx, px_lI, px_lL, px_up, px_gZ0, px_gZ1, px_gZb, px_g0, px_g1, px_g2, px_g3, px_g4, px_g5, px_g6, px_g7, px_g8, px_g9, px_g10, px_g11, px_g12, px_g13, px_g14, px_c0, px_c1, px_c2, px_c3, px_c4, px_c5, px_c6, px_c7, px_c8, px_c9, px_c10, px_c11, px_c12, px_c13, px_c14]
    rw [(m6_setsw hk (j := 4) (y := 4) (by decide) rfl (-1) _).1]
    simp only [px_cI, px_cIx, px_cV, px_cVx, px_cL, px_cLx, px_cR0, px_cR1, px_cRx, px_lI, px_lL, px_up, px_gZ0, px_gZ1, px_gZb, px_g0, px_g1, px_g2, px_g3, px_g4, px_g5, px_g6, px_g7, px_g8, px_g9, px_g10, px_g11, px_g12, px_g13, px_g14, px_c0, px_c1, px_c2, px_c3, px_c4, px_c5, px_c6, px_c7, px_c8, px_c9, px_c10, px_c11, px_c12, px_c13, px_c14]
    rw [(m6_setsw hk (j := 5) (y := 5) (by decide) rfl 0 _).1]
    simp only [px_cI, px_cIx, px_cV, px_cVx, px_cL, px_cLx, px_cR0, px_cR1, px_cRx, px_lI, px_lL, px_up, px_gZ0, px_gZ1, px_gZb, px_g0, px_g1, px_g2, px_g3, px_g4, px_g5, px_g6, px_g7, px_g8, px_g9, px_g10, px_g11, px_g12, px_g13, px_g14, px_c0, px_c1, px_c2, px_c3, px_c4, px_c5, px_c6, px_c7, px_c8, px_c9, px_c10, px_c11, px_c12, px_c13, px_c14]
    rw [(m6_setsw hk (j := 6) (y := 6) (by decide) rfl _ _).1]
    simp only [px_cI, px_cIx, px_cV, px_cVx, px_cL, px_cLx, px_cR0, px_cR1, px_cRx, px_lI, px_lL, px_up, px_gZ0, px_gZ1, px_gZb, px_g0, px_g1, px_g2, px_g3, px_g4, px_g5, px_g6, px_g7, px_g8, px_g9, px_g10, px_g11, px_g12, px_g13, px_g14, px_c0, px_c1, px_c2, px_c3, px_c4, px_c5, px_c6, px_c7, px_c8, px_c9, px_c10, px_c11, px_c12, px_c13, px_c14]
    rw [mb_sI_j _ _ _ _ _ _ (show 9 ≠ 90 + 9 * k + 6 by omega), mb_sI_j _ _ _ _ _ _ (show 9 ≠ 90 + 9 * k + 5 by omega), mb_sI_j _ _ _ _ _ _ (show 9 ≠ 90 + 9 * k + 4 by omega), mb_sI_j _ _ _ _ _ _ (show 9 ≠ 90 + 9 * k + 3 by omega)]
  · rw [mb_sI_o _ _ _ _ _ _ hi, mb_sI_o _ _ _ _ _ _ hi, mb_sI_o _ _ _ _ _ _ hi, mb_sI_o _ _ _ _ _ _ hi, mb_sI_o _ _ _ _ _ _ hi]
  · rfl
  · funext i
    simp [mb_sI, ww, wb]
theorem ww_wx (w : Nat → Int32) {k : Nat} (h7 : bo w k 7 = -1) : ww w k = wx w k := by
  funext i
  unfold wx wb
  by_cases q : i = 90 + 9 * k + 7
  · rw [if_pos q, q]
    have := ww_bo w k (k2 := k) (j2 := 7) (by decide)
    rw [if_pos rfl] at this
    exact this.trans h7
  · rw [if_neg q]
theorem s_await (hn : n < 512) (hS : mb_S n h) (x : Int32) : mb_PI ["java/lang/IndexOutOfBoundsException", "java/lang/IllegalStateException"] (F_X5_await x h) (F_X6_await x) (mb_S (n + 1)) := by
  obtain ⟨-, -, B, K, T, D, U, hw, r, lD, lU, ⟨p, ep, lp⟩, hH⟩ := id hS
  have hK := hw.K20; have hB := hw.B16
  rcases px_ix x (N := K) (by omega) with q | ⟨k, hk, rfl⟩
  · refine q_thr (j := 0) (b := 0) (E := "java/lang/IndexOutOfBoundsException") hS rfl ?_ ?_
    · unfold F_X5_await
      rw [c5_checkBoat r hw, q, if_neg (by decide)]; rfl
    · unfold F_X6_await B_X6_await_27
      rw [m6_isBoat hw.z, q]
      simp only [px_cI, px_cIx, px_cV, px_cVx, px_cL, px_cLx, px_cR0, px_cR1, px_cRx, px_lI, px_lL, px_up, px_gZ0, px_gZ1, px_gZb, px_g0, px_g1, px_g2, px_g3, px_g4, px_g5, px_g6, px_g7, px_g8, px_g9, px_g10, px_g11, px_g12, px_g13, px_g14, px_c0, px_c1, px_c2, px_c3, px_c4, px_c5, px_c6, px_c7, px_c8, px_c9, px_c10, px_c11, px_c12, px_c13, px_c14]
      rw [if_pos (by rfl), m6_refused1 1 (by decide)]; rfl
  · have h5 : F_X5_await (nI k) h = if bo (h.1 20 0 0) k 3 = 0 then mb_cV (F_X5_remember h) (fun h102 => mb_cV (F_X2_beginToWait 0 0 k h102) fun h103 => mb_cI (F_X2_countAheadOf 0 0 k h103) fun y105 h104 => mb_rI y105 h104) else mb_rX "java/lang/IllegalStateException" h := by
      unfold F_X5_await
      rw [c5_checkBoat r hw, px_ixt hk (by omega), if_pos (by rfl)]
      simp only [px_cI, px_cIx, px_cV, px_cVx, px_cL, px_cLx, px_cR0, px_cR1, px_cRx, px_lI, px_lL, px_up, px_gZ0, px_gZ1, px_gZb, px_g0, px_g1, px_g2, px_g3, px_g4, px_g5, px_g6, px_g7, px_g8, px_g9, px_g10, px_g11, px_g12, px_g13, px_g14, px_c0, px_c1, px_c2, px_c3, px_c4, px_c5, px_c6, px_c7, px_c8, px_c9, px_c10, px_c11, px_c12, px_c13, px_c14]
      rw [px_gB (show k < 20 by omega) (by decide), nI_clamp (by omega), (r.q hk).2.2.2.1]
    have h6 : ∀ g : mb_AH, g.1 20 = h.1 20 → F_X6_await (nI k) g = if bo (h.1 20 0 0) k 3 = 0 then B_X6_await_27 (nI k) 0 g else B_X6_await_27 (nI k) 2 g := by
      intro g hg
      have e : g.1 20 0 0 = h.1 20 0 0 := by rw [hg]
      have hzg : mb_W0 (g.1 20 0 0) B K T := by rw [e]; exact hw.z
      unfold F_X6_await
      rw [m6_isBoat hzg, px_ixt hk (by omega)]
      simp only [px_cI, px_cIx, px_cV, px_cVx, px_cL, px_cLx, px_cR0, px_cR1, px_cRx, px_lI, px_lL, px_up, px_gZ0, px_gZ1, px_gZb, px_g0, px_g1, px_g2, px_g3, px_g4, px_g5, px_g6, px_g7, px_g8, px_g9, px_g10, px_g11, px_g12, px_g13, px_g14, px_c0, px_c1, px_c2, px_c3, px_c4, px_c5, px_c6, px_c7, px_c8, px_c9, px_c10, px_c11, px_c12, px_c13, px_c14, m6_oB (show k < 20 by omega) (j := 3) (by decide) (y := 3) rfl]
      rw [if_neg (by decide), e]
    by_cases q : bo (h.1 20 0 0) k 3 = 0
    · rw [if_pos q] at h5
      have h7 : bo (h.1 20 0 0) k 7 = -1 := Classical.byContradiction fun z => by
        rcases ((hH k hk).1 z).2 with z2 | z2 <;> rw [q] at z2 <;> exact absurd z2 (by decide)
      have W2 := wx_W hw (by omega) hk
      have z3 : bo (wx (h.1 20 0 0) k) k 3 = 2 := by rw [wx_bo _ k (by decide), if_pos rfl]; rfl
      refine s_mut (v := nI (sp_ah (wx (h.1 20 0 0) k) K k)) (w2 := wx (h.1 20 0 0) k) hS r (fun g e1 rg fx => ?_) W2 (by omega) (by omega) ⟨p, by rw [wx_lo _ _ (by decide) (by decide)]; exact ep, by omega⟩ (wx_H hw hH) (fun g9 g1 z9 z1 f1 => ?_)
      · obtain ⟨g5, e2, fr, o3, o2, om, o9, o1⟩ := c2_begin 0 k g
        have r5 := wx_RM rg hB hw.T14 hk o3 o2 om o9 o1
        refine ⟨g5, ?_, fr, r5⟩
        rw [h5, e1]
        simp only [px_cI, px_cIx, px_cV, px_cVx, px_cL, px_cLx, px_cR0, px_cR1, px_cRx, px_lI, px_lL, px_up, px_gZ0, px_gZ1, px_gZb, px_g0, px_g1, px_g2, px_g3, px_g4, px_g5, px_g6, px_g7, px_g8, px_g9, px_g10, px_g11, px_g12, px_g13, px_g14, px_c0, px_c1, px_c2, px_c3, px_c4, px_c5, px_c6, px_c7, px_c8, px_c9, px_c10, px_c11, px_c12, px_c13, px_c14]
        rw [e2]
        simp only [px_cI, px_cIx, px_cV, px_cVx, px_cL, px_cLx, px_cR0, px_cR1, px_cRx, px_lI, px_lL, px_up, px_gZ0, px_gZ1, px_gZb, px_g0, px_g1, px_g2, px_g3, px_g4, px_g5, px_g6, px_g7, px_g8, px_g9, px_g10, px_g11, px_g12, px_g13, px_g14, px_c0, px_c1, px_c2, px_c3, px_c4, px_c5, px_c6, px_c7, px_c8, px_c9, px_c10, px_c11, px_c12, px_c13, px_c14]
        rw [c2_countAheadOf r5 W2 hk z3]
        simp only [px_cI, px_cIx, px_cV, px_cVx, px_cL, px_cLx, px_cR0, px_cR1, px_cRx, px_lI, px_lL, px_up, px_gZ0, px_gZ1, px_gZb, px_g0, px_g1, px_g2, px_g3, px_g4, px_g5, px_g6, px_g7, px_g8, px_g9, px_g10, px_g11, px_g12, px_g13, px_g14, px_c0, px_c1, px_c2, px_c3, px_c4, px_c5, px_c6, px_c7, px_c8, px_c9, px_c10, px_c11, px_c12, px_c13, px_c14]
      · obtain ⟨g6, p1, p2, p3, p4⟩ := m6_waits (k := k) (by omega) g1
        have e4 : g6.1 20 0 0 = wx (h.1 20 0 0) k := by rw [p4, z1, ww_wx _ h7]
        refine ⟨g6, ?_, p2, p3, fun j _ => by rw [e4]⟩
        rw [h6 g9 z9, if_pos q]
        unfold B_X6_await_27
        rw [m6_refused0]
        simp only [px_cI, px_cIx, px_cV, px_cVx, px_cL, px_cLx, px_cR0, px_cR1, px_cRx, px_lI, px_lL, px_up, px_gZ0, px_gZ1, px_gZb, px_g0, px_g1, px_g2, px_g3, px_g4, px_g5, px_g6, px_g7, px_g8, px_g9, px_g10, px_g11, px_g12, px_g13, px_g14, px_c0, px_c1, px_c2, px_c3, px_c4, px_c5, px_c6, px_c7, px_c8, px_c9, px_c10, px_c11, px_c12, px_c13, px_c14, if_true]
        rw [f1]
        simp only [px_cI, px_cIx, px_cV, px_cVx, px_cL, px_cLx, px_cR0, px_cR1, px_cRx, px_lI, px_lL, px_up, px_gZ0, px_gZ1, px_gZb, px_g0, px_g1, px_g2, px_g3, px_g4, px_g5, px_g6, px_g7, px_g8, px_g9, px_g10, px_g11, px_g12, px_g13, px_g14, px_c0, px_c1, px_c2, px_c3, px_c4, px_c5, px_c6, px_c7, px_c8, px_c9, px_c10, px_c11, px_c12, px_c13, px_c14]
        rw [p1]
        simp only [px_cI, px_cIx, px_cV, px_cVx, px_cL, px_cLx, px_cR0, px_cR1, px_cRx, px_lI, px_lL, px_up, px_gZ0, px_gZ1, px_gZb, px_g0, px_g1, px_g2, px_g3, px_g4, px_g5, px_g6, px_g7, px_g8, px_g9, px_g10, px_g11, px_g12, px_g13, px_g14, px_c0, px_c1, px_c2, px_c3, px_c4, px_c5, px_c6, px_c7, px_c8, px_c9, px_c10, px_c11, px_c12, px_c13, px_c14]
        rw [m6_ahead (h := g6) (B := B) (K := K) (T := T) (by rw [e4]; exact W2.z) hk, e4]
        simp only [px_cI, px_cIx, px_cV, px_cVx, px_cL, px_cLx, px_cR0, px_cR1, px_cRx, px_lI, px_lL, px_up, px_gZ0, px_gZ1, px_gZb, px_g0, px_g1, px_g2, px_g3, px_g4, px_g5, px_g6, px_g7, px_g8, px_g9, px_g10, px_g11, px_g12, px_g13, px_g14, px_c0, px_c1, px_c2, px_c3, px_c4, px_c5, px_c6, px_c7, px_c8, px_c9, px_c10, px_c11, px_c12, px_c13, px_c14]
    · rw [if_neg q] at h5
      refine q_thr (j := 1) (b := 0) (E := "java/lang/IllegalStateException") hS rfl h5 ?_
      rw [h6 h rfl, if_neg q]
      unfold B_X6_await_27
      rw [m6_refused1 2 (by decide)]; rfl
end
