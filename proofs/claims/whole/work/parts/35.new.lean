/-! ===== pure: addBerth, addBoat ===== -/
section
variable {h g : mb_AH} {w v : Nat → Int32} {B K T D U n o : Nat}
def sp_nb (x1 x2 x4 : Int32) : Bool := (decide ((50 : Int32) ≤ x1) && decide (x1 ≤ 900)) && ((decide ((30 : Int32) ≤ x2) && decide (x2 ≤ 400)) && (decide (0 ≤ x4) && decide (x4 ≤ 9999999)))
def sp_nq (x1 x2 x3 : Int32) : Bool := (decide ((30 : Int32) ≤ x1) && decide (x1 ≤ 400)) && ((decide ((20 : Int32) ≤ x2) && decide (x2 ≤ 500)) && (decide (0 ≤ x3) && decide (x3 ≤ 99)))
theorem px_and3 (a b c : Bool) (X Y : Option mb_RS) : (if mb_b a = 0 then X else if mb_b b = 0 then X else if mb_b c = 0 then X else Y) = if (a && (b && c)) = true then Y else X := by
  cases a <;> cases b <;> cases c <;> rfl
/-- a new berth -/
def wn (w : Nat → Int32) (B : Nat) (x1 x2 e x4 : Int32) : Nat → Int32 := wr (wr (wr (wr (wr w (26 + 4 * B) x1) (26 + 4 * B + 1) x2) (26 + 4 * B + 2) e) (26 + 4 * B + 3) x4) 6 (nI (B + 1))
theorem wn_o (w : Nat → Int32) (B : Nat) (x1 x2 e x4 : Int32) {j : Nat} (h6 : j ≠ 6) (hj : j < 26 + 4 * B ∨ 26 + 4 * B + 4 ≤ j) : wn w B x1 x2 e x4 j = w j := by
  unfold wn
  rw [wr_o _ _ _ h6, wr_o _ _ _ (by omega), wr_o _ _ _ (by omega), wr_o _ _ _ (by omega), wr_o _ _ _ (by omega)]
theorem wn_6 (w : Nat → Int32) (B : Nat) (x1 x2 e x4 : Int32) : wn w B x1 x2 e x4 6 = nI (B + 1) := wr_s _ _ _
theorem wn_n (w : Nat → Int32) (B : Nat) (x1 x2 e x4 : Int32) : bt (wn w B x1 x2 e x4) B 0 = x1 ∧ bt (wn w B x1 x2 e x4) B 1 = x2 ∧ bt (wn w B x1 x2 e x4) B 2 = e ∧ bt (wn w B x1 x2 e x4) B 3 = x4 := by
  unfold wn bt
  refine ⟨?_, ?_, ?_, ?_⟩
  · rw [wr_o _ _ _ (by omega), wr_o _ _ _ (by omega), wr_o _ _ _ (by omega), wr_o _ _ _ (by omega), Nat.add_zero, wr_s]
  · rw [wr_o _ _ _ (by omega), wr_o _ _ _ (by omega), wr_o _ _ _ (by omega), wr_s]
  · rw [wr_o _ _ _ (by omega), wr_o _ _ _ (by omega), wr_s]
  · rw [wr_o _ _ _ (by omega), wr_s]
theorem wn_t (w : Nat → Int32) (B : Nat) (x1 x2 e x4 : Int32) {b j : Nat} (hb : b < B) (hj : j < 4) : bt (wn w B x1 x2 e x4) b j = bt w b j := wn_o w B x1 x2 e x4 (by omega) (by omega)
theorem wn_b (w : Nat → Int32) {B : Nat} (hB : B < 16) (x1 x2 e x4 : Int32) (k j : Nat) : bo (wn w B x1 x2 e x4) k j = bo w k j := wn_o w B x1 x2 e x4 (by omega) (by omega)
theorem sp_low_cg2 (e : ∀ j, 12 ≤ j → j < 26 → v j = w j) : ∀ m, m < 14 → sp_low v m = sp_low w m := by
  intro m
  induction m with
  | zero => intro _; exact e 12 (by decide) (by decide)
  | succ m ih =>
    intro hm
    show (if v (12 + (m + 1)) < sp_low v m then v (12 + (m + 1)) else sp_low v m) = (if w (12 + (m + 1)) < sp_low w m then w (12 + (m + 1)) else sp_low w m)
    rw [e _ (by omega) (by omega), ih (by omega)]
theorem wn_W (hw : mb_W w B K T D U) (hB : B < 16) {x1 x2 e x4 : Int32} (hq : sp_nb x1 x2 x4 = true) (he : e = 0 ∨ e = 1) : mb_W (wn w B x1 x2 e x4) (B + 1) K T D U := by
  have hT := hw.T14
  have eb := wn_b w hB x1 x2 e x4
  have el : ∀ j, j < 26 → j ≠ 6 → wn w B x1 x2 e x4 j = w j := fun j h1 h2 => wn_o _ _ _ _ _ _ h2 (by omega)
  unfold sp_nb at hq
  obtain ⟨hq1, hq2⟩ := Bool.and_eq_true_iff.mp hq
  obtain ⟨hq3, hq4⟩ := Bool.and_eq_true_iff.mp hq2
  obtain ⟨a1, ea1, l1, u1⟩ := px_w9 (l := 50) (u := 900) (by decide) hq1 (by decide)
  obtain ⟨a2, ea2, l2, u2⟩ := px_w9 (l := 30) (u := 400) (by decide) hq3 (by decide)
  obtain ⟨a4, ea4, -, u4⟩ := px_w9 (l := 0) (u := 9999999) (by decide) hq4 (by decide)
  obtain ⟨⟨z1, z2, z3, z4, z5⟩, d, uu, a, b, c1, c2, l, hg, wi, hp⟩ := hw
  obtain ⟨n0, n1, n2, n3⟩ := wn_n w B x1 x2 e x4
  refine ⟨⟨wn_6 _ _ _ _ _ _, by omega, by rw [el 7 (by decide) (by decide)]; exact z3, z4, by rw [el 8 (by decide) (by decide)]; exact z5⟩, by rw [el 4 (by decide) (by decide)]; exact d, by rw [el 9 (by decide) (by decide)]; exact uu, fun k hk => ?_, fun b9 hb9 => ?_, fun k j hk hj => ?_, fun k j hk hj => ?_, fun k hk => ?_, ?_, ?_, ?_⟩
  · obtain ⟨q1, q2, q3, q4⟩ := a k hk
    unfold mb_at9 mb_hm9 mb_wt9 mb_nu9 at *
    simp only [eb]
    refine ⟨?_, ?_, q3, q4⟩
    · rcases q1 with ⟨s1, b9, s2, s3⟩ | s
      · exact Or.inl ⟨s1, b9, by omega, s3⟩
      · exact Or.inr s
    · rcases q2 with s | ⟨b9, s2, s3⟩
      · exact Or.inl s
      · exact Or.inr ⟨b9, by omega, s3⟩
  · by_cases q : b9 = B
    · subst q
      unfold mb_nb9
      rw [n0, n1, n2, n3]
      exact ⟨a1, a2, a4, ea1, l1, u1, ea2, l2, u2, he, ea4, u4⟩
    · have := b b9 (by omega)
      unfold mb_nb9 at this ⊢
      rw [wn_t _ _ _ _ _ _ (by omega) (by decide), wn_t _ _ _ _ _ _ (by omega) (by decide), wn_t _ _ _ _ _ _ (by omega) (by decide), wn_t _ _ _ _ _ _ (by omega) (by decide)]
      exact this
  · simp only [eb]
    exact c1 k j hk hj
  · simp only [eb]
    exact c2 k j hk hj
  · rw [el _ (by omega) (by omega)]
    exact l k hk
  · rw [el 0 (by decide) (by decide), el 1 (by decide) (by decide), el 2 (by decide) (by decide), el 3 (by decide) (by decide)]
    exact hg
  · rw [el 5 (by decide) (by decide)]; exact wi
  · rw [el 10 (by decide) (by decide), el 11 (by decide) (by decide)]
    exact hp
theorem c0_become (k : Nat) (x1 x2 e x4 : Int32) (he : e = 0 ∨ e = 1) (g : mb_AH) : F_X0_become 0 k x1 x2 e x4 g = mb_rV (mb_sI (mb_sI (mb_sI (mb_sI g 2 0 k 0 x1) 2 0 k 1 x2) 2 0 k 2 e) 2 0 k 3 x4) := by
  unfold F_X0_become
  rcases he with rfl | rfl <;> simp only [px_cI, px_cIx, px_cV, px_cVx, px_cL, px_cLx, px_cR0, px_cR1, px_cRx, px_lI, px_lL, px_up, px_gZ0, px_gZ1, px_gZb, px_g0, px_g1, px_g2, px_g3, px_g4, px_g5, px_g6, px_g7, px_g8, px_g9, px_g10, px_g11, px_g12, px_g13, px_g14, px_c0, px_c1, px_c2, px_c3, px_c4, px_c5, px_c6, px_c7, px_c8, px_c9, px_c10, px_c11, px_c12, px_c13, px_c14]
theorem s_addBerth (hS : mb_S n h) (x1 x2 e x4 : Int32) (he : e = 0 ∨ e = 1) : mb_PI ["java/lang/IllegalArgumentException", "java/lang/IllegalStateException"] (F_X5_addBerth x1 x2 e x4 h) (F_X6_addBerth x1 x2 e x4) (mb_S (n + 1)) := by
  obtain ⟨-, -, B, K, T, D, U, hw, r, lD, lU, ⟨p, ep, lp⟩, hH⟩ := id hS
  have hK := hw.K20; have hB := hw.B16; have hT := hw.T14
  have h5 : F_X5_addBerth x1 x2 e x4 h = if sp_nb x1 x2 x4 = true then (if B < 16 then mb_cV (F_X5_remember h) (fun h107 => mb_lI (h107.1 1 0 0 1) fun y108 => mb_gB y108 16 (mb_cV (F_X0_become 0 y108.toNatClampNeg x1 x2 e x4 h107) fun h109 => mb_up (mb_sI h109 1 0 0 1 (y108 + 1)) fun h110 => mb_rI y108 h110)) else mb_rX "java/lang/IllegalStateException" h) else mb_rX "java/lang/IllegalArgumentException" h := by
    unfold F_X5_addBerth sp_nb
    simp only [c5_isWithin, c5_isRate, px_cI, px_cIx, px_cV, px_cVx, px_cL, px_cLx, px_cR0, px_cR1, px_cRx, px_lI, px_lL, px_up, px_gZ0, px_gZ1, px_gZb, px_g0, px_g1, px_g2, px_g3, px_g4, px_g5, px_g6, px_g7, px_g8, px_g9, px_g10, px_g11, px_g12, px_g13, px_g14, px_c0, px_c1, px_c2, px_c3, px_c4, px_c5, px_c6, px_c7, px_c8, px_c9, px_c10, px_c11, px_c12, px_c13, px_c14, px_and3]
    rw [r.f6, hw.w6]
    by_cases q : B < 16
    · rw [if_pos (show nI B < 16 from nI_lt (b := 16) q (by decide)), if_pos q]
    · rw [if_neg (show ¬ nI B < 16 from nI_nlt (b := 16) (by omega) (by omega)), if_neg q]
  have h6 : ∀ g : mb_AH, g.1 20 = h.1 20 → F_X6_addBerth x1 x2 e x4 g = if sp_nb x1 x2 x4 = true then (if B < 16 then B_X6_addBerth_66 x1 x2 e x4 0 g else B_X6_addBerth_66 x1 x2 e x4 2 g) else B_X6_addBerth_66 x1 x2 e x4 1 g := by
    intro g hg
    unfold F_X6_addBerth sp_nb
    simp only [m6_within, m6_isRate, px_cI, px_cIx, px_cV, px_cVx, px_cL, px_cLx, px_cR0, px_cR1, px_cRx, px_lI, px_lL, px_up, px_gZ0, px_gZ1, px_gZb, px_g0, px_g1, px_g2, px_g3, px_g4, px_g5, px_g6, px_g7, px_g8, px_g9, px_g10, px_g11, px_g12, px_g13, px_g14, px_c0, px_c1, px_c2, px_c3, px_c4, px_c5, px_c6, px_c7, px_c8, px_c9, px_c10, px_c11, px_c12, px_c13, px_c14, px_and3]
    unfold B_X6_addBerth_36 B_X6_addBerth_37
    rw [if_pos rfl, if_neg (show ¬ (1 : Int32) = 0 by decide)]
    simp only [px_cI, px_cIx, px_cV, px_cVx, px_cL, px_cLx, px_cR0, px_cR1, px_cRx, px_lI, px_lL, px_up, px_gZ0, px_gZ1, px_gZb, px_g0, px_g1, px_g2, px_g3, px_g4, px_g5, px_g6, px_g7, px_g8, px_g9, px_g10, px_g11, px_g12, px_g13, px_g14, px_c0, px_c1, px_c2, px_c3, px_c4, px_c5, px_c6, px_c7, px_c8, px_c9, px_c10, px_c11, px_c12, px_c13, px_c14]
    rw [hg, hw.w6]
    by_cases q : B < 16
    · rw [if_neg (show ¬ nI B = 16 from px_ne (b := 16) (by omega) (by decide) (by omega)), if_pos q]
    · rw [if_pos (show nI B = 16 from by rw [show B = 16 by omega]; rfl), if_neg q]
  by_cases q1 : sp_nb x1 x2 x4 = true
  · by_cases q2 : B < 16
    · rw [if_pos q1, if_pos q2] at h5
      have hW := wn_W hw q2 q1 he
      refine s_mut (v := nI B) (w2 := wn (h.1 20 0 0) B x1 x2 e x4) hS r (fun g e1 rg fx => ?_) hW (by omega) (by omega) ⟨p, by rw [wn_o _ _ _ _ _ _ (by decide) (by omega)]; exact ep, by omega⟩ (fun k2 hk2 => (hH k2 hk2).cg (hw.boat hk2).1 hB (wn_o _ _ _ _ _ _ (by decide) (by omega)) (fun b hb => wn_t _ _ _ _ _ _ hb (by decide)) (fun j hj => wn_b _ q2 _ _ _ _ _ _)) (fun g9 g1 z9 z1 f1 => ?_)
      · refine ⟨mb_sI (mb_sI (mb_sI (mb_sI (mb_sI g 2 0 B 0 x1) 2 0 B 1 x2) 2 0 B 2 e) 2 0 B 3 x4) 1 0 0 1 (nI (B + 1)), ?_, (((((mb_Fr.wI (k := 2) g B 0 _ (by decide)).tr (mb_Fr.wI (k := 2) _ B 1 _ (by decide))).tr (mb_Fr.wI (k := 2) _ B 2 _ (by decide))).tr (mb_Fr.wI (k := 2) _ B 3 _ (by decide)))).tr (mb_Fr.wI (k := 1) _ 0 1 _ (by decide)), ?_⟩
        · rw [h5, e1]
          simp only [px_cI, px_cIx, px_cV, px_cVx, px_cL, px_cLx, px_cR0, px_cR1, px_cRx, px_lI, px_lL, px_up, px_gZ0, px_gZ1, px_gZb, px_g0, px_g1, px_g2, px_g3, px_g4, px_g5, px_g6, px_g7, px_g8, px_g9, px_g10, px_g11, px_g12, px_g13, px_g14, px_c0, px_c1, px_c2, px_c3, px_c4, px_c5, px_c6, px_c7, px_c8, px_c9, px_c10, px_c11, px_c12, px_c13, px_c14]
          rw [rg.f6, hw.w6, px_gB q2 (by decide), nI_clamp (by omega), c0_become _ _ _ _ _ he, nI_1]
          simp only [px_cI, px_cIx, px_cV, px_cVx, px_cL, px_cLx, px_cR0, px_cR1, px_cRx, px_lI, px_lL, px_up, px_gZ0, px_gZ1, px_gZb, px_g0, px_g1, px_g2, px_g3, px_g4, px_g5, px_g6, px_g7, px_g8, px_g9, px_g10, px_g11, px_g12, px_g13, px_g14, px_c0, px_c1, px_c2, px_c3, px_c4, px_c5, px_c6, px_c7, px_c8, px_c9, px_c10, px_c11, px_c12, px_c13, px_c14]
        · obtain ⟨⟨c0, c1, c2, c3, c4, c5, c6, c7, c8, c9⟩, pd, lo, l, t, b⟩ := rg
          have em : ∀ j, j ≠ 1 → (mb_sI (mb_sI (mb_sI (mb_sI (mb_sI g 2 0 B 0 x1) 2 0 B 1 x2) 2 0 B 2 e) 2 0 B 3 x4) 1 0 0 1 (nI (B + 1))).1 1 0 0 j = g.1 1 0 0 j := fun j hj => by
            rw [mb_sI_j _ _ _ _ _ _ hj, mb_sI_o _ _ _ _ _ _ (by decide), mb_sI_o _ _ _ _ _ _ (by decide), mb_sI_o _ _ _ _ _ _ (by decide), mb_sI_o _ _ _ _ _ _ (by decide)]
          have ek : ∀ k, k ≠ 1 → k ≠ 2 → (mb_sI (mb_sI (mb_sI (mb_sI (mb_sI g 2 0 B 0 x1) 2 0 B 1 x2) 2 0 B 2 e) 2 0 B 3 x4) 1 0 0 1 (nI (B + 1))).1 k = g.1 k := fun k h1 h2 => by
            rw [mb_sI_o _ _ _ _ _ _ h1, mb_sI_o _ _ _ _ _ _ h2, mb_sI_o _ _ _ _ _ _ h2, mb_sI_o _ _ _ _ _ _ h2, mb_sI_o _ _ _ _ _ _ h2]
          have el : ∀ j, j < 26 → j ≠ 6 → wn (h.1 20 0 0) B x1 x2 e x4 j = h.1 20 0 0 j := fun j h1 h2 => wn_o _ _ _ _ _ _ h2 (by omega)
          refine ⟨⟨?_, ?_, ?_, ?_, ?_, ?_, ?_, ?_, ?_, ?_⟩, ?_, ?_, fun k hk => ?_, fun b9 hb9 => ?_, fun k hk => ?_⟩
          · rw [em _ (by decide), el _ (by decide) (by decide)]; exact c0
          · rw [em _ (by decide), el _ (by decide) (by decide)]; exact c1
          · rw [em _ (by decide), el _ (by decide) (by decide)]; exact c2
          · rw [em _ (by decide), el _ (by decide) (by decide)]; exact c3
          · rw [em _ (by decide), el _ (by decide) (by decide)]; exact c4
          · rw [em _ (by decide), el _ (by decide) (by decide)]; exact c5
          · rw [mb_sI_s, wn_6]
          · rw [em _ (by decide), el _ (by decide) (by decide)]; exact c7
          · rw [em _ (by decide), el _ (by decide) (by decide)]; exact c8
          · rw [em _ (by decide), el _ (by decide) (by decide)]; exact c9
          · unfold sp_paid at pd ⊢
            rw [el 10 (by decide) (by decide), el 11 (by decide) (by decide)]
            exact pd
          · rw [em _ (by decide), sp_low_cg2 (fun j h1 h2 => el j (by omega) (by omega)) _ (by omega)]; exact lo
          · rw [ek 12 (by decide) (by decide), el _ (by omega) (by omega)]; exact l k hk
          · rw [mb_sI_o _ _ _ _ _ _ (show 2 ≠ 1 by decide)]
            by_cases z : b9 = B
            · subst z
              obtain ⟨n0, n1, n2, n3⟩ := wn_n (h.1 20 0 0) b9 x1 x2 e x4
              rw [n0, n1, n2, n3]
              simp [mb_sI]
            · obtain ⟨t0, t1, t2, t3⟩ := t b9 (by omega)
              rw [wn_t _ _ _ _ _ _ (by omega) (by decide), wn_t _ _ _ _ _ _ (by omega) (by decide), wn_t _ _ _ _ _ _ (by omega) (by decide), wn_t _ _ _ _ _ _ (by omega) (by decide)]
              simp [mb_sI, z, t0, t1, t2, t3]
          · rw [ek 3 (by decide) (by decide)]
            simp only [wn_b _ q2, el 4 (by decide) (by decide)]
            exact b k hk
      · refine ⟨mb_sI (mb_sI (mb_sI (mb_sI (mb_sI g1 20 0 0 (26 + 4 * B) x1) 20 0 0 (26 + 4 * B + 1) x2) 20 0 0 (26 + 4 * B + 2) e) 20 0 0 (26 + 4 * B + 3) x4) 20 0 0 6 (nI (B + 1)), ?_, fun i hi => by simp only [mb_sI_o _ _ _ _ _ _ hi], rfl, fun j _ => by simp only [m6_wr, z1]; rfl⟩
        rw [h6 g9 z9, if_pos q1, if_pos q2]
        unfold B_X6_addBerth_66 B_X6_addBerth_127
        rw [m6_refused0]
        simp only [px_cI, px_cIx, px_cV, px_cVx, px_cL, px_cLx, px_cR0, px_cR1, px_cRx, px_lI, px_lL, px_up, px_gZ0, px_gZ1, px_gZb, px_g0, px_g1, px_g2, px_g3, px_g4, px_g5, px_g6, px_g7, px_g8, px_g9, px_g10, px_g11, px_g12, px_g13, px_g14, px_c0, px_c1, px_c2, px_c3, px_c4, px_c5, px_c6, px_c7, px_c8, px_c9, px_c10, px_c11, px_c12, px_c13, px_c14, if_true]
        rw [f1]
        simp only [px_cI, px_cIx, px_cV, px_cVx, px_cL, px_cLx, px_cR0, px_cR1, px_cRx, px_lI, px_lL, px_up, px_gZ0, px_gZ1, px_gZb, px_g0, px_g1, px_g2, px_g3, px_g4, px_g5, px_g6, px_g7, px_g8, px_g9, px_g10, px_g11, px_g12, px_g13, px_g14, px_c0, px_c1, px_c2, px_c3, px_c4, px_c5, px_c6, px_c7, px_c8, px_c9, px_c10, px_c11, px_c12, px_c13, px_c14]
        rw [z1, hw.w6]
        have i0 : (26 : Int32) + ((4 : Int32) * nI B) = nI (26 + 4 * B) := by rw [show (26 : Int32) = nI 26 from rfl, show (4 : Int32) = nI 4 from rfl, pk_mul, nI_add]
        have i1 : nI (26 + 4 * B) + 1 = nI (26 + 4 * B + 1) := nI_1 _
        have i2 : nI (26 + 4 * B) + 2 = nI (26 + 4 * B + 2) := nI_add _ 2
        have i3 : nI (26 + 4 * B) + 3 = nI (26 + 4 * B + 3) := nI_add _ 3
        rw [i0, i1, i2, i3, px_gB (by omega) (by decide), px_gB (by omega) (by decide)]
        simp only [nI_clamp (show 26 + 4 * B < 2 ^ 31 by omega), nI_clamp (show 26 + 4 * B + 1 < 2 ^ 31 by omega), nI_clamp (show 26 + 4 * B + 2 < 2 ^ 31 by omega), nI_clamp (show 26 + 4 * B + 3 < 2 ^ 31 by omega), px_gB (show 26 + 4 * B + 2 < 270 by omega) (by decide), px_gB (show 26 + 4 * B + 3 < 270 by omega) (by decide)]
        have i6 : ∀ y2 : Int32, (mb_sI (mb_sI (mb_sI (mb_sI g1 20 0 0 (26 + 4 * B) x1) 20 0 0 (26 + 4 * B + 1) x2) 20 0 0 (26 + 4 * B + 2) y2) 20 0 0 (26 + 4 * B + 3) x4).1 20 0 0 6 = nI B := fun y2 => by
          rw [mb_sI_j _ _ _ _ _ _ (by omega), mb_sI_j _ _ _ _ _ _ (by omega), mb_sI_j _ _ _ _ _ _ (by omega), mb_sI_j _ _ _ _ _ _ (by omega), z1, hw.w6]
        simp only [i6, nI_1, mb_sI_s]
        rcases he with rfl | rfl
        · rw [if_pos rfl, show nI (B + 1) - 1 = nI B from px_nIm (B + 1) (by omega)]
        · rw [if_neg (by decide), show nI (B + 1) - 1 = nI B from px_nIm (B + 1) (by omega)]
    · rw [if_pos q1, if_neg q2] at h5
      refine q_thr (j := 1) (b := 0) (E := "java/lang/IllegalStateException") hS rfl h5 ?_
      rw [h6 h rfl, if_pos q1, if_neg q2]
      unfold B_X6_addBerth_66
      rw [m6_refused1 2 (by decide)]; rfl
  · rw [if_neg q1] at h5
    refine q_thr (j := 0) (b := 0) (E := "java/lang/IllegalArgumentException") hS rfl h5 ?_
    rw [h6 h rfl, if_neg q1]
    unfold B_X6_addBerth_66
    rw [m6_refused1 1 (by decide)]; rfl
/-- a new boat -/
def wq (w : Nat → Int32) (K : Nat) (x1 x2 x3 : Int32) : Nat → Int32 := fun i => if i = 7 then nI (K + 1) else if i = 90 + 9 * K + 7 then -1 else if i = 90 + 9 * K + 4 then -1 else if i = 90 + 9 * K + 2 then x3 else if i = 90 + 9 * K + 1 then x2 else if i = 90 + 9 * K then x1 else if 90 + 9 * K ≤ i ∧ i < 90 + 9 * K + 9 then 0 else w i
theorem wq_o (w : Nat → Int32) (K : Nat) (x1 x2 x3 : Int32) {i : Nat} (h7 : i ≠ 7) (hi : i < 90 + 9 * K) : wq w K x1 x2 x3 i = w i := by
  unfold wq
  rw [if_neg h7, if_neg (by omega), if_neg (by omega), if_neg (by omega), if_neg (by omega), if_neg (by omega), if_neg (by omega)]
theorem wq_b (w : Nat → Int32) (K : Nat) (x1 x2 x3 : Int32) {k j : Nat} (hk : k < K) (hj : j < 9) : bo (wq w K x1 x2 x3) k j = bo w k j := wq_o w K x1 x2 x3 (by omega) (by omega)
theorem wq_t (w : Nat → Int32) (K : Nat) (x1 x2 x3 : Int32) {b j : Nat} (hb : b < 16) (hj : j < 4) : bt (wq w K x1 x2 x3) b j = bt w b j := wq_o w K x1 x2 x3 (by omega) (by omega)
theorem wq_n (w : Nat → Int32) (K : Nat) (x1 x2 x3 : Int32) {j : Nat} (hj : j < 9) : bo (wq w K x1 x2 x3) K j = if j = 7 then -1 else if j = 4 then -1 else if j = 2 then x3 else if j = 1 then x2 else if j = 0 then x1 else 0 := by
  unfold bo wq
  rw [if_neg (by omega)]
  rcases (show j = 0 ∨ j = 1 ∨ j = 2 ∨ j = 3 ∨ j = 4 ∨ j = 5 ∨ j = 6 ∨ j = 7 ∨ j = 8 by omega) with rfl | rfl | rfl | rfl | rfl | rfl | rfl | rfl | rfl
  · rw [if_neg (by omega), if_neg (by omega), if_neg (by omega), if_neg (by omega), if_pos (by omega)]; rfl
  · rw [if_neg (by omega), if_neg (by omega), if_neg (by omega), if_pos rfl]; rfl
  · rw [if_neg (by omega), if_neg (by omega), if_pos rfl]; rfl
  · rw [if_neg (by omega), if_neg (by omega), if_neg (by omega), if_neg (by omega), if_neg (by omega), if_pos (by omega)]; rfl
  · rw [if_neg (by omega), if_pos rfl]; rfl
  · rw [if_neg (by omega), if_neg (by omega), if_neg (by omega), if_neg (by omega), if_neg (by omega), if_pos (by omega)]; rfl
  · rw [if_neg (by omega), if_neg (by omega), if_neg (by omega), if_neg (by omega), if_neg (by omega), if_pos (by omega)]; rfl
  · rw [if_pos rfl]; rfl
  · rw [if_neg (by omega), if_neg (by omega), if_neg (by omega), if_neg (by omega), if_neg (by omega), if_pos (by omega)]; rfl
theorem wq_W (hw : mb_W w B K T D U) (hK : K < 20) {x1 x2 x3 : Int32} (hq : sp_nq x1 x2 x3 = true) : mb_W (wq w K x1 x2 x3) B (K + 1) T D U := by
  have hT := hw.T14; have hB := hw.B16
  have eb : ∀ k j, k < K → j < 9 → bo (wq w K x1 x2 x3) k j = bo w k j := fun k j hk hj => wq_b w K x1 x2 x3 hk hj
  have el : ∀ j, j < 90 → j ≠ 7 → wq w K x1 x2 x3 j = w j := fun j h1 h2 => wq_o _ _ _ _ _ h2 (by omega)
  have en : ∀ j, j < 9 → bo (wq w K x1 x2 x3) K j = _ := fun j hj => wq_n w K x1 x2 x3 hj
  unfold sp_nq at hq
  obtain ⟨hq1, hq2⟩ := Bool.and_eq_true_iff.mp hq
  obtain ⟨hq3, hq4⟩ := Bool.and_eq_true_iff.mp hq2
  obtain ⟨a1, ea1, l1, u1⟩ := px_w9 (l := 30) (u := 400) (by decide) hq1 (by decide)
  obtain ⟨a2, ea2, l2, u2⟩ := px_w9 (l := 20) (u := 500) (by decide) hq3 (by decide)
  obtain ⟨a3, ea3, -, u3⟩ := px_w9 (l := 0) (u := 99) (by decide) hq4 (by decide)
  obtain ⟨⟨z1, z2, z3, z4, z5⟩, d, uu, a, b, c1, c2, l, hg, wi, hp⟩ := hw
  have s3 : bo (wq w K x1 x2 x3) K 3 = 0 := by rw [en 3 (by decide)]; rfl
  refine ⟨⟨by rw [el 6 (by decide) (by decide)]; exact z1, z2, if_pos rfl, by omega, by rw [el 8 (by decide) (by decide)]; exact z5⟩, by rw [el 4 (by decide) (by decide)]; exact d, by rw [el 9 (by decide) (by decide)]; exact uu, fun k hk => ?_, fun b9 hb9 => ?_, fun k j hk hj => ?_, fun k j hk hj => ?_, fun k hk => ?_, ?_, ?_, ?_⟩
  · by_cases q : k = K
    · subst q
      refine ⟨?_, ?_, ?_, ?_⟩
      · unfold mb_at9
        rw [s3, en 4 (by decide)]
        exact Or.inr ⟨Or.inl rfl, rfl⟩
      · unfold mb_hm9
        rw [en 7 (by decide)]
        exact Or.inl rfl
      · unfold mb_wt9
        rw [s3, en 5 (by decide)]
        exact ⟨fun z => absurd z (by decide), fun _ => rfl⟩
      · unfold mb_nu9
        rw [en 0 (by decide), en 1 (by decide), en 2 (by decide), en 8 (by decide)]
        exact ⟨a1, a2, a3, 0, ea1, l1, u1, ea2, l2, u2, ea3, u3, rfl, by decide⟩
    · have hk : k < K := by omega
      have := a k hk
      unfold mb_at9 mb_hm9 mb_wt9 mb_nu9 at this ⊢
      simp only [eb k 0 hk (by decide), eb k 1 hk (by decide), eb k 2 hk (by decide), eb k 3 hk (by decide), eb k 4 hk (by decide), eb k 5 hk (by decide), eb k 6 hk (by decide), eb k 7 hk (by decide), eb k 8 hk (by decide)]
      exact this
  · have := b b9 hb9
    unfold mb_nb9 at this ⊢
    rw [wq_t _ _ _ _ _ (by omega) (by decide), wq_t _ _ _ _ _ (by omega) (by decide), wq_t _ _ _ _ _ (by omega) (by decide), wq_t _ _ _ _ _ (by omega) (by decide)]
    exact this
  · intro h1 h2 q
    have hk2 : k < K := by
      by_cases z : k = K
      · rw [z, s3] at h1; exact absurd h1 (by decide)
      · omega
    have hj2 : j < K := by
      by_cases z : j = K
      · rw [z, s3] at h2; exact absurd h2 (by decide)
      · omega
    rw [eb _ _ hk2 (by decide)] at h1
    rw [eb _ _ hj2 (by decide)] at h2
    rw [eb _ _ hk2 (by decide), eb _ _ hj2 (by decide)] at q
    exact c1 k j hk2 hj2 h1 h2 q
  · intro h1 h2 q
    have hk2 : k < K := by
      by_cases z : k = K
      · rw [z, s3] at h1; exact absurd h1 (by decide)
      · omega
    have hj2 : j < K := by
      by_cases z : j = K
      · rw [z, s3] at h2; exact absurd h2 (by decide)
      · omega
    rw [eb _ _ hk2 (by decide)] at h1
    rw [eb _ _ hj2 (by decide)] at h2
    rw [eb _ _ hk2 (by decide), eb _ _ hj2 (by decide)] at q
    exact c2 k j hk2 hj2 h1 h2 q
  · rw [el _ (by omega) (by omega)]
    exact l k hk
  · rw [el 0 (by decide) (by decide), el 1 (by decide) (by decide), el 2 (by decide) (by decide), el 3 (by decide) (by decide)]
    exact hg
  · rw [el 5 (by decide) (by decide)]; exact wi
  · rw [el 10 (by decide) (by decide), el 11 (by decide) (by decide)]
    exact hp
theorem wq_H (hw : mb_W w B K T D U) (hH : mb_H w K) (x1 x2 x3 : Int32) : mb_H (wq w K x1 x2 x3) (K + 1) := by
  have hB := hw.B16
  intro k hk
  by_cases q : k = K
  · subst q
    have en : ∀ j, j < 9 → bo (wq w k x1 x2 x3) k j = _ := fun j hj => wq_n w k x1 x2 x3 hj
    unfold mb_h9
    have s3 : bo (wq w k x1 x2 x3) k 3 = 0 := by rw [en 3 (by decide)]; rfl
    have s7 : bo (wq w k x1 x2 x3) k 7 = -1 := by rw [en 7 (by decide)]; rfl
    rw [s7, s3]
    exact ⟨fun z => absurd rfl z, fun z => absurd z (by decide), fun z => absurd z (by decide)⟩
  · have hk : k < K := by omega
    exact (hH k hk).cg (hw.boat hk).1 hB (wq_o _ _ _ _ _ (by decide) (by omega)) (fun b hb => wq_t _ _ _ _ _ (by omega) (by decide)) (fun j hj => wq_b _ _ _ _ _ hk hj)
theorem m6_ab_loop {K : Nat} (hK : K < 20) (x1 x2 x3 : Int32) : ∀ (m j f : Nat) (h : mb_AH), j + m = 9 → m < f → ∃ g : mb_AH, B_X6_addBoat_103 f x1 x2 x3 (nI K) (nI j) h = mb_rI (nI K) (mb_sI (mb_sI (mb_sI (mb_sI (mb_sI g 20 0 0 (90 + 9 * K + 0) x1) 20 0 0 (90 + 9 * K + 1) x2) 20 0 0 (90 + 9 * K + 2) x3) 20 0 0 (90 + 9 * K + 4) (-1)) 20 0 0 (90 + 9 * K + 7) (-1)) ∧ (∀ i, i ≠ 20 → g.1 i = h.1 i) ∧ g.2 = h.2 ∧ ∀ i, g.1 20 0 0 i = if 90 + 9 * K + j ≤ i ∧ i < 90 + 9 * K + 9 then 0 else h.1 20 0 0 i := by
  have fs : ∀ (j : Nat) (hj : j < 9) (y : Int32) (hy : y = nI j) (g2 : mb_AH) (x : Int32), F_X6_sets (nI K) y x g2 = mb_rV (mb_sI g2 20 0 0 (90 + 9 * K + j) x) := fun j hj y hy g2 x => (m6_setsw hK hj hy x g2).1
  intro m
  induction m with
  | zero =>
    intro j f h hj hf
    obtain ⟨f, rfl⟩ : ∃ g, f = g + 1 := ⟨f - 1, by omega⟩
    refine ⟨h, ?_, fun _ _ => rfl, rfl, fun i => by rw [if_neg (by omega)]⟩
    rw [B_X6_addBoat_103, if_pos (show (9 : Int32) ≤ nI j from nI_le (a := 9) (by omega) (by omega))]
    simp only [px_cI, px_cIx, px_cV, px_cVx, px_cL, px_cLx, px_cR0, px_cR1, px_cRx, px_lI, px_lL, px_up, px_gZ0, px_gZ1, px_gZb, px_g0, px_g1, px_g2, px_g3, px_g4, px_g5, px_g6, px_g7, px_g8, px_g9, px_g10, px_g11, px_g12, px_g13, px_g14, px_c0, px_c1, px_c2, px_c3, px_c4, px_c5, px_c6, px_c7, px_c8, px_c9, px_c10, px_c11, px_c12, px_c13, px_c14, fs 0 (by decide) 0 rfl, fs 1 (by decide) 1 rfl, fs 2 (by decide) 2 rfl, fs 4 (by decide) 4 rfl, fs 7 (by decide) 7 rfl]
  | succ m ih =>
    intro j f h hj hf
    obtain ⟨f, rfl⟩ : ∃ g, f = g + 1 := ⟨f - 1, by omega⟩
    obtain ⟨g, e1, e2, e3, e4⟩ := ih (j + 1) f (mb_sI h 20 0 0 (90 + 9 * K + j) 0) (by omega) (by omega)
    refine ⟨g, ?_, fun i hi => by rw [e2 i hi, mb_sI_o _ _ _ _ _ _ hi], e3, fun i => ?_⟩
    · rw [B_X6_addBoat_103, if_neg (show ¬ (9 : Int32) ≤ nI j from nI_ge (b := 9) (by omega) (by omega)), fs j (by omega) (nI j) rfl]
      simp only [px_cI, px_cIx, px_cV, px_cVx, px_cL, px_cLx, px_cR0, px_cR1, px_cRx, px_lI, px_lL, px_up, px_gZ0, px_gZ1, px_gZb, px_g0, px_g1, px_g2, px_g3, px_g4, px_g5, px_g6, px_g7, px_g8, px_g9, px_g10, px_g11, px_g12, px_g13, px_g14, px_c0, px_c1, px_c2, px_c3, px_c4, px_c5, px_c6, px_c7, px_c8, px_c9, px_c10, px_c11, px_c12, px_c13, px_c14, nI_1]
      exact e1
    · rw [e4 i]
      by_cases q : i = 90 + 9 * K + j
      · subst q
        rw [if_neg (by omega), if_pos (by omega), mb_sI_s]
      · rw [mb_sI_j _ _ _ _ _ _ q]
        by_cases q2 : 90 + 9 * K + (j + 1) ≤ i ∧ i < 90 + 9 * K + 9
        · rw [if_pos q2, if_pos (by omega)]
        · rw [if_neg q2, if_neg (by omega)]
theorem s_addBoat (hS : mb_S n h) (x1 x2 x3 : Int32) : mb_PI ["java/lang/IllegalArgumentException", "java/lang/IllegalStateException"] (F_X5_addBoat x1 x2 x3 h) (F_X6_addBoat x1 x2 x3) (mb_S (n + 1)) := by
  obtain ⟨-, -, B, K, T, D, U, hw, r, lD, lU, ⟨p, ep, lp⟩, hH⟩ := id hS
  have hK := hw.K20; have hB := hw.B16; have hT := hw.T14
  have h5 : F_X5_addBoat x1 x2 x3 h = if sp_nq x1 x2 x3 = true then (if K < 20 then mb_cV (F_X5_remember h) (fun h107 => mb_lI (h107.1 1 0 0 3) fun y108 => mb_gB y108 20 (mb_cV (F_X1_become 0 y108.toNatClampNeg x1 x2 x3 h107) fun h109 => mb_up (mb_sI h109 1 0 0 3 (y108 + 1)) fun h110 => mb_rI y108 h110)) else mb_rX "java/lang/IllegalStateException" h) else mb_rX "java/lang/IllegalArgumentException" h := by
    unfold F_X5_addBoat sp_nq
    simp only [c5_isWithin, px_cI, px_cIx, px_cV, px_cVx, px_cL, px_cLx, px_cR0, px_cR1, px_cRx, px_lI, px_lL, px_up, px_gZ0, px_gZ1, px_gZb, px_g0, px_g1, px_g2, px_g3, px_g4, px_g5, px_g6, px_g7, px_g8, px_g9, px_g10, px_g11, px_g12, px_g13, px_g14, px_c0, px_c1, px_c2, px_c3, px_c4, px_c5, px_c6, px_c7, px_c8, px_c9, px_c10, px_c11, px_c12, px_c13, px_c14, px_and3]
    rw [r.f7, hw.w7]
    by_cases q : K < 20
    · rw [if_pos (show nI K < 20 from nI_lt (b := 20) q (by decide)), if_pos q]
    · rw [if_neg (show ¬ nI K < 20 from nI_nlt (b := 20) (by omega) (by omega)), if_neg q]
  have h6 : ∀ g : mb_AH, g.1 20 = h.1 20 → F_X6_addBoat x1 x2 x3 g = if sp_nq x1 x2 x3 = true then (if K < 20 then B_X6_addBoat_68 x1 x2 x3 0 g else B_X6_addBoat_68 x1 x2 x3 2 g) else B_X6_addBoat_68 x1 x2 x3 1 g := by
    intro g hg
    unfold F_X6_addBoat sp_nq
    simp only [m6_within, px_cI, px_cIx, px_cV, px_cVx, px_cL, px_cLx, px_cR0, px_cR1, px_cRx, px_lI, px_lL, px_up, px_gZ0, px_gZ1, px_gZb, px_g0, px_g1, px_g2, px_g3, px_g4, px_g5, px_g6, px_g7, px_g8, px_g9, px_g10, px_g11, px_g12, px_g13, px_g14, px_c0, px_c1, px_c2, px_c3, px_c4, px_c5, px_c6, px_c7, px_c8, px_c9, px_c10, px_c11, px_c12, px_c13, px_c14, px_and3]
    unfold B_X6_addBoat_38 B_X6_addBoat_39
    rw [if_pos rfl, if_neg (show ¬ (1 : Int32) = 0 by decide)]
    simp only [px_cI, px_cIx, px_cV, px_cVx, px_cL, px_cLx, px_cR0, px_cR1, px_cRx, px_lI, px_lL, px_up, px_gZ0, px_gZ1, px_gZb, px_g0, px_g1, px_g2, px_g3, px_g4, px_g5, px_g6, px_g7, px_g8, px_g9, px_g10, px_g11, px_g12, px_g13, px_g14, px_c0, px_c1, px_c2, px_c3, px_c4, px_c5, px_c6, px_c7, px_c8, px_c9, px_c10, px_c11, px_c12, px_c13, px_c14]
    rw [hg, hw.w7]
    by_cases q : K < 20
    · rw [if_neg (show ¬ nI K = 20 from px_ne (b := 20) (by omega) (by decide) (by omega)), if_pos q]
    · rw [if_pos (show nI K = 20 from by rw [show K = 20 by omega]; rfl), if_neg q]
  by_cases q1 : sp_nq x1 x2 x3 = true
  · by_cases q2 : K < 20
    · rw [if_pos q1, if_pos q2] at h5
      have hW := wq_W hw q2 q1
      refine s_mut (v := nI K) (w2 := wq (h.1 20 0 0) K x1 x2 x3) hS r (fun g e1 rg fx => ?_) hW (by omega) (by omega) ⟨p, by rw [wq_o _ _ _ _ _ (by decide) (by omega)]; exact ep, by omega⟩ (wq_H hw hH x1 x2 x3) (fun g9 g1 z9 z1 f1 => ?_)
      · refine ⟨mb_sI (mb_sI (mb_sI (mb_sI (mb_sI (mb_sI (mb_sI (mb_sI g 3 0 K 0 x1) 3 0 K 1 x2) 3 0 K 2 x3) 3 0 K 6 0) 3 0 K 3 0) 3 0 K 4 (-1)) 3 0 K 5 (-1)) 1 0 0 3 (nI (K + 1)), ?_, ((((((((mb_Fr.wI (k := 3) g K 0 _ (by decide)).tr (mb_Fr.wI (k := 3) _ K 1 _ (by decide))).tr (mb_Fr.wI (k := 3) _ K 2 _ (by decide))).tr (mb_Fr.wI (k := 3) _ K 6 _ (by decide))).tr (mb_Fr.wI (k := 3) _ K 3 _ (by decide))).tr (mb_Fr.wI (k := 3) _ K 4 _ (by decide))).tr (mb_Fr.wI (k := 3) _ K 5 _ (by decide)))).tr (mb_Fr.wI (k := 1) _ 0 3 _ (by decide)), ?_⟩
        · rw [h5, e1]
          simp only [px_cI, px_cIx, px_cV, px_cVx, px_cL, px_cLx, px_cR0, px_cR1, px_cRx, px_lI, px_lL, px_up, px_gZ0, px_gZ1, px_gZb, px_g0, px_g1, px_g2, px_g3, px_g4, px_g5, px_g6, px_g7, px_g8, px_g9, px_g10, px_g11, px_g12, px_g13, px_g14, px_c0, px_c1, px_c2, px_c3, px_c4, px_c5, px_c6, px_c7, px_c8, px_c9, px_c10, px_c11, px_c12, px_c13, px_c14]
          rw [rg.f7, hw.w7, px_gB q2 (by decide), nI_clamp (by omega), nI_1]
          unfold F_X1_become F_X1_moveForGood F_X1_move
          simp only [px_cI, px_cIx, px_cV, px_cVx, px_cL, px_cLx, px_cR0, px_cR1, px_cRx, px_lI, px_lL, px_up, px_gZ0, px_gZ1, px_gZb, px_g0, px_g1, px_g2, px_g3, px_g4, px_g5, px_g6, px_g7, px_g8, px_g9, px_g10, px_g11, px_g12, px_g13, px_g14, px_c0, px_c1, px_c2, px_c3, px_c4, px_c5, px_c6, px_c7, px_c8, px_c9, px_c10, px_c11, px_c12, px_c13, px_c14]
        · obtain ⟨⟨c0, c1, c2, c3, c4, c5, c6, c7, c8, c9⟩, pd, lo, l, t, b⟩ := rg
          have em : ∀ j, j ≠ 3 → (mb_sI (mb_sI (mb_sI (mb_sI (mb_sI (mb_sI (mb_sI (mb_sI g 3 0 K 0 x1) 3 0 K 1 x2) 3 0 K 2 x3) 3 0 K 6 0) 3 0 K 3 0) 3 0 K 4 (-1)) 3 0 K 5 (-1)) 1 0 0 3 (nI (K + 1))).1 1 0 0 j = g.1 1 0 0 j := fun j hj => by
            rw [mb_sI_j _ _ _ _ _ _ hj]
            simp only [mb_sI_o _ _ _ _ _ _ (show 1 ≠ 3 by decide)]
          have ek : ∀ k, k ≠ 1 → k ≠ 3 → (mb_sI (mb_sI (mb_sI (mb_sI (mb_sI (mb_sI (mb_sI (mb_sI g 3 0 K 0 x1) 3 0 K 1 x2) 3 0 K 2 x3) 3 0 K 6 0) 3 0 K 3 0) 3 0 K 4 (-1)) 3 0 K 5 (-1)) 1 0 0 3 (nI (K + 1))).1 k = g.1 k := fun k h1 h2 => by
            rw [mb_sI_o _ _ _ _ _ _ h1]
            simp only [mb_sI_o _ _ _ _ _ _ h2]
          have el : ∀ j, j < 90 → j ≠ 7 → wq (h.1 20 0 0) K x1 x2 x3 j = h.1 20 0 0 j := fun j h1 h2 => wq_o _ _ _ _ _ h2 (by omega)
          refine ⟨⟨?_, ?_, ?_, ?_, ?_, ?_, ?_, ?_, ?_, ?_⟩, ?_, ?_, fun k hk => ?_, fun b9 hb9 => ?_, fun k hk => ?_⟩
          · rw [em _ (by decide), el _ (by decide) (by decide)]; exact c0
          · rw [em _ (by decide), el _ (by decide) (by decide)]; exact c1
          · rw [em _ (by decide), el _ (by decide) (by decide)]; exact c2
          · rw [em _ (by decide), el _ (by decide) (by decide)]; exact c3
          · rw [em _ (by decide), el _ (by decide) (by decide)]; exact c4
          · rw [em _ (by decide), el _ (by decide) (by decide)]; exact c5
          · rw [em _ (by decide), el _ (by decide) (by decide)]; exact c6
          · rw [mb_sI_s]; exact (if_pos rfl).symm
          · rw [em _ (by decide), el _ (by decide) (by decide)]; exact c8
          · rw [em _ (by decide), el _ (by decide) (by decide)]; exact c9
          · unfold sp_paid at pd ⊢
            rw [el 10 (by decide) (by decide), el 11 (by decide) (by decide)]
            exact pd
          · rw [em _ (by decide), sp_low_cg2 (fun j h1 h2 => el j (by omega) (by omega)) _ (by omega)]; exact lo
          · rw [ek 12 (by decide) (by decide), el _ (by omega) (by omega)]; exact l k hk
          · rw [ek 2 (by decide) (by decide)]
            obtain ⟨t0, t1, t2, t3⟩ := t b9 hb9
            rw [wq_t _ _ _ _ _ (by omega) (by decide), wq_t _ _ _ _ _ (by omega) (by decide), wq_t _ _ _ _ _ (by omega) (by decide), wq_t _ _ _ _ _ (by omega) (by decide)]
            exact ⟨t0, t1, t2, t3⟩
          · rw [mb_sI_o _ _ _ _ _ _ (show 3 ≠ 1 by decide)]
            by_cases z : k = K
            · subst z
              have en : ∀ j, j < 9 → bo (wq (h.1 20 0 0) k x1 x2 x3) k j = _ := fun j hj => wq_n (h.1 20 0 0) k x1 x2 x3 hj
              have s3 : bo (wq (h.1 20 0 0) k x1 x2 x3) k 3 = 0 := by rw [en 3 (by decide)]; rfl
              rw [s3, en 0 (by decide), en 1 (by decide), en 2 (by decide), en 4 (by decide), en 7 (by decide), en 8 (by decide)]
              refine ⟨?_, fun z => absurd z (by decide)⟩
              simp [mb_sI]
            · have hk : k < K := by omega
              have bk := b k hk
              have zk : ∀ j, (mb_sI (mb_sI (mb_sI (mb_sI (mb_sI (mb_sI (mb_sI g 3 0 K 0 x1) 3 0 K 1 x2) 3 0 K 2 x3) 3 0 K 6 0) 3 0 K 3 0) 3 0 K 4 (-1)) 3 0 K 5 (-1)).1 3 0 k j = g.1 3 0 k j := fun j => by simp [mb_sI, z]
              simp only [zk, wq_b _ _ _ _ _ hk (show 0 < 9 by decide), wq_b _ _ _ _ _ hk (show 1 < 9 by decide), wq_b _ _ _ _ _ hk (show 2 < 9 by decide), wq_b _ _ _ _ _ hk (show 3 < 9 by decide), wq_b _ _ _ _ _ hk (show 4 < 9 by decide), wq_b _ _ _ _ _ hk (show 5 < 9 by decide), wq_b _ _ _ _ _ hk (show 6 < 9 by decide), wq_b _ _ _ _ _ hk (show 7 < 9 by decide), wq_b _ _ _ _ _ hk (show 8 < 9 by decide), el 4 (by decide) (by decide)]
              exact bk
      · obtain ⟨g2, p1, p2, p3, p4⟩ := m6_ab_loop q2 x1 x2 x3 9 0 mb_fu (mb_sI g1 20 0 0 7 (nI (K + 1))) (by decide) (by unfold mb_fu; omega)
        refine ⟨mb_sI (mb_sI (mb_sI (mb_sI (mb_sI g2 20 0 0 (90 + 9 * K + 0) x1) 20 0 0 (90 + 9 * K + 1) x2) 20 0 0 (90 + 9 * K + 2) x3) 20 0 0 (90 + 9 * K + 4) (-1)) 20 0 0 (90 + 9 * K + 7) (-1), ?_, fun i hi => by rw [mb_sI_o _ _ _ _ _ _ hi, mb_sI_o _ _ _ _ _ _ hi, mb_sI_o _ _ _ _ _ _ hi, mb_sI_o _ _ _ _ _ _ hi, mb_sI_o _ _ _ _ _ _ hi, p2 i hi, mb_sI_o _ _ _ _ _ _ hi], ?_, fun j hj => ?_⟩
        · rw [h6 g9 z9, if_pos q1, if_pos q2]
          unfold B_X6_addBoat_68
          rw [m6_refused0]
          simp only [px_cI, px_cIx, px_cV, px_cVx, px_cL, px_cLx, px_cR0, px_cR1, px_cRx, px_lI, px_lL, px_up, px_gZ0, px_gZ1, px_gZb, px_g0, px_g1, px_g2, px_g3, px_g4, px_g5, px_g6, px_g7, px_g8, px_g9, px_g10, px_g11, px_g12, px_g13, px_g14, px_c0, px_c1, px_c2, px_c3, px_c4, px_c5, px_c6, px_c7, px_c8, px_c9, px_c10, px_c11, px_c12, px_c13, px_c14, if_true]
          rw [f1]
          simp only [px_cI, px_cIx, px_cV, px_cVx, px_cL, px_cLx, px_cR0, px_cR1, px_cRx, px_lI, px_lL, px_up, px_gZ0, px_gZ1, px_gZb, px_g0, px_g1, px_g2, px_g3, px_g4, px_g5, px_g6, px_g7, px_g8, px_g9, px_g10, px_g11, px_g12, px_g13, px_g14, px_c0, px_c1, px_c2, px_c3, px_c4, px_c5, px_c6, px_c7, px_c8, px_c9, px_c10, px_c11, px_c12, px_c13, px_c14]
          rw [z1, hw.w7, nI_1]
          exact p1
        · exact p3
        · simp only [m6_wr]
          unfold wq wr
          simp only [p4]
          by_cases t7 : j = 7
          · subst t7
            rw [if_neg (by omega), if_neg (by omega), if_neg (by omega), if_neg (by omega), if_neg (by omega), if_neg (by omega), if_pos rfl, mb_sI_s]
          · rw [if_neg t7, mb_sI_j _ _ _ _ _ _ t7, z1]
            rfl
    · rw [if_pos q1, if_neg q2] at h5
      refine q_thr (j := 1) (b := 0) (E := "java/lang/IllegalStateException") hS rfl h5 ?_
      rw [h6 h rfl, if_pos q1, if_neg q2]
      unfold B_X6_addBoat_68
      rw [m6_refused1 2 (by decide)]; rfl
  · rw [if_neg q1] at h5
    refine q_thr (j := 0) (b := 0) (E := "java/lang/IllegalArgumentException") hS rfl h5 ?_
    rw [h6 h rfl, if_neg q1]
    unfold B_X6_addBoat_68
    rw [m6_refused1 1 (by decide)]; rfl
end
