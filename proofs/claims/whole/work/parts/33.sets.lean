/-! ===== pure: setRate, set, change ===== -/
section
variable {h g : mb_AH} {w v : Nat → Int32} {B K T D U n o : Nat}
theorem m6_isRate (x : Int32) (h : mb_AH) : F_X6_isRate x h = mb_rI (mb_b (decide (0 ≤ x) && decide (x ≤ 9999999))) h := by
  unfold F_X6_isRate
  rw [m6_within]
  simp only [px_cI, px_cIx, px_cV, px_cVx, px_cL, px_cLx, px_cR0, px_cR1, px_cRx, px_lI, px_lL, px_up, px_gZ0, px_gZ1, px_gZb, px_g0, px_g1, px_g2, px_g3, px_g4, px_g5, px_g6, px_g7, px_g8, px_g9, px_g10, px_g11, px_g12, px_g13, px_g14, px_c0, px_c1, px_c2, px_c3, px_c4, px_c5, px_c6, px_c7, px_c8, px_c9, px_c10, px_c11, px_c12, px_c13, px_c14]
theorem c5_isRate (x : Int32) (h : mb_AH) : F_X5_isRate x h = mb_rI (mb_b (decide (0 ≤ x) && decide (x ≤ 9999999))) h := by
  unfold F_X5_isRate
  rw [c5_isWithin]
  simp only [px_cI, px_cIx, px_cV, px_cVx, px_cL, px_cLx, px_cR0, px_cR1, px_cRx, px_lI, px_lL, px_up, px_gZ0, px_gZ1, px_gZb, px_g0, px_g1, px_g2, px_g3, px_g4, px_g5, px_g6, px_g7, px_g8, px_g9, px_g10, px_g11, px_g12, px_g13, px_g14, px_c0, px_c1, px_c2, px_c3, px_c4, px_c5, px_c6, px_c7, px_c8, px_c9, px_c10, px_c11, px_c12, px_c13, px_c14]
theorem c5_isDay (x : Int32) (h : mb_AH) : F_X5_isDayOfYear x h = mb_rI (mb_b (decide (0 ≤ x) && decide (x ≤ 359))) h := by
  unfold F_X5_isDayOfYear
  rw [c5_isWithin]
  simp only [px_cI, px_cIx, px_cV, px_cVx, px_cL, px_cLx, px_cR0, px_cR1, px_cRx, px_lI, px_lL, px_up, px_gZ0, px_gZ1, px_gZb, px_g0, px_g1, px_g2, px_g3, px_g4, px_g5, px_g6, px_g7, px_g8, px_g9, px_g10, px_g11, px_g12, px_g13, px_g14, px_c0, px_c1, px_c2, px_c3, px_c4, px_c5, px_c6, px_c7, px_c8, px_c9, px_c10, px_c11, px_c12, px_c13, px_c14]
theorem px_w9 {x : Int32} {l u : Nat} (hu : u < 2 ^ 31) (q : (decide (nI l ≤ x) && decide (x ≤ nI u)) = true) (hl : l < 2 ^ 31) : ∃ a : Nat, x = nI a ∧ l ≤ a ∧ a ≤ u := by
  rw [Bool.and_eq_true, decide_eq_true_iff, decide_eq_true_iff] at q
  obtain ⟨q1, q2⟩ := q
  rw [Int32.le_iff_toInt_le, nI_toInt hu] at q2
  rw [Int32.le_iff_toInt_le, nI_toInt hl] at q1
  obtain ⟨a, ha, rfl⟩ := nI_of (x := x) (by rw [Int32.lt_iff_toInt_lt, Int32.toInt_zero]; omega)
  rw [nI_toInt ha] at q1 q2
  exact ⟨a, rfl, by omega, by omega⟩
theorem s_setRate (hS : mb_S n h) (x y : Int32) : mb_PI ["java/lang/IndexOutOfBoundsException", "java/lang/IllegalArgumentException"] (F_X5_setRate x y h) (F_X6_setRate x y) (mb_S (n + 1)) := by
  obtain ⟨-, -, B, K, T, D, U, hw, r, lD, lU, ⟨p, ep, lp⟩, hH⟩ := id hS
  have hK := hw.K20; have hB := hw.B16
  rcases px_ix x (N := B) (by omega) with q | ⟨b, hb, rfl⟩
  · refine q_thr (j := 0) (b := 0) (E := "java/lang/IndexOutOfBoundsException") hS rfl ?_ ?_
    · unfold F_X5_setRate
      rw [c5_checkBerth r hw, q, if_neg (by decide)]; rfl
    · unfold F_X6_setRate B_X6_setRate_25
      rw [m6_isBerth hw.z, q]
      simp only [px_cI, px_cIx, px_cV, px_cVx, px_cL, px_cLx, px_cR0, px_cR1, px_cRx, px_lI, px_lL, px_up, px_gZ0, px_gZ1, px_gZb, px_g0, px_g1, px_g2, px_g3, px_g4, px_g5, px_g6, px_g7, px_g8, px_g9, px_g10, px_g11, px_g12, px_g13, px_g14, px_c0, px_c1, px_c2, px_c3, px_c4, px_c5, px_c6, px_c7, px_c8, px_c9, px_c10, px_c11, px_c12, px_c13, px_c14]
      rw [if_pos (by rfl), m6_refused1 1 (by decide)]; rfl
  · have hb16 : b < 16 := by omega
    have h6 : ∀ g : mb_AH, g.1 20 = h.1 20 → F_X6_setRate (nI b) y g = if (decide (0 ≤ y) && decide (y ≤ 9999999)) = true then B_X6_setRate_25 (nI b) y 0 g else B_X6_setRate_25 (nI b) y 2 g := by
      intro g hg
      have hzg : mb_W0 (g.1 20 0 0) B K T := by rw [hg]; exact hw.z
      unfold F_X6_setRate
      rw [m6_isBerth hzg, px_ixt hb (by omega)]
      simp only [px_cI, px_cIx, px_cV, px_cVx, px_cL, px_cLx, px_cR0, px_cR1, px_cRx, px_lI, px_lL, px_up, px_gZ0, px_gZ1, px_gZb, px_g0, px_g1, px_g2, px_g3, px_g4, px_g5, px_g6, px_g7, px_g8, px_g9, px_g10, px_g11, px_g12, px_g13, px_g14, px_c0, px_c1, px_c2, px_c3, px_c4, px_c5, px_c6, px_c7, px_c8, px_c9, px_c10, px_c11, px_c12, px_c13, px_c14, m6_isRate]
      rw [if_neg (by decide)]
      cases hq : (decide ((0 : Int32) ≤ y) && decide (y ≤ 9999999)) with
      | false => rw [if_pos (by rfl), if_neg (by decide)]
      | true => rw [if_neg (by decide), if_pos rfl]
    by_cases q : (decide ((0 : Int32) ≤ y) && decide (y ≤ 9999999)) = true
    · obtain ⟨a, rfl, -, la⟩ := px_w9 (l := 0) (u := 9999999) (by decide) q (by decide)
      have ev : ∀ j, j ≠ 26 + 4 * b + 3 → wr (h.1 20 0 0) (26 + 4 * b + 3) (nI a) j = h.1 20 0 0 j := fun j hj => wr_o _ _ _ hj
      have et : ∀ b2 j, b2 < B → j < 4 → bt (wr (h.1 20 0 0) (26 + 4 * b + 3) (nI a)) b2 j = if b2 = b ∧ j = 3 then nI a else bt (h.1 20 0 0) b2 j := fun b2 j hb2 hj => by
        unfold bt wr
        by_cases z : b2 = b ∧ j = 3
        · rw [if_pos z, if_pos (by omega)]
        · rw [if_neg z, if_neg (by omega)]
      refine s_mut (v := bt (h.1 20 0 0) b 3) (w2 := wr (h.1 20 0 0) (26 + 4 * b + 3) (nI a)) (B2 := B) (K2 := K) (T2 := T) (D2 := D) (U2 := U) hS r (fun g e1 rg fx => ?_) ?_ (by omega) (by omega) ⟨p, by rw [ev _ (by omega)]; exact ep, by omega⟩ (fun k2 hk2 => (hH k2 hk2).cg (hw.boat hk2).1 hB (ev 5 (by omega)) (fun b2 hb2 => by rw [et b2 1 hb2 (by decide), if_neg (by omega)]) (fun j hj => ev _ (by omega))) (fun g9 g1 z9 z1 f1 => ?_)
      · refine ⟨mb_sI g 2 0 b 3 (nI a), ?_, mb_Fr.wI (k := 2) g b 3 _ (by decide), ?_⟩
        · unfold F_X5_setRate
          rw [c5_checkBerth r hw, px_ixt hb (by omega), if_pos rfl]
          simp only [px_cI, px_cIx, px_cV, px_cVx, px_cL, px_cLx, px_cR0, px_cR1, px_cRx, px_lI, px_lL, px_up, px_gZ0, px_gZ1, px_gZb, px_g0, px_g1, px_g2, px_g3, px_g4, px_g5, px_g6, px_g7, px_g8, px_g9, px_g10, px_g11, px_g12, px_g13, px_g14, px_c0, px_c1, px_c2, px_c3, px_c4, px_c5, px_c6, px_c7, px_c8, px_c9, px_c10, px_c11, px_c12, px_c13, px_c14, c5_isRate]
          rw [q, if_neg (by decide), e1]
          simp only [px_cI, px_cIx, px_cV, px_cVx, px_cL, px_cLx, px_cR0, px_cR1, px_cRx, px_lI, px_lL, px_up, px_gZ0, px_gZ1, px_gZb, px_g0, px_g1, px_g2, px_g3, px_g4, px_g5, px_g6, px_g7, px_g8, px_g9, px_g10, px_g11, px_g12, px_g13, px_g14, px_c0, px_c1, px_c2, px_c3, px_c4, px_c5, px_c6, px_c7, px_c8, px_c9, px_c10, px_c11, px_c12, px_c13, px_c14]
          rw [px_gB hb16 (by decide), px_gB hb16 (by decide), nI_clamp (by omega), (rg.t hb).2.2.2]
        · refine rg.lo hw.T1 hw.T14 (fun j h1 h2 => ev j (by omega)) (fun j h1 h2 => ev j (by omega)) (fun j h1 => ev j (by omega)) (fun j _ => by rw [mb_sI_o _ _ _ _ _ _ (by decide)]) ?_ ?_ ?_ ?_ ?_ (fun b2 hb2 => ?_) (by rw [mb_sI_o _ _ _ _ _ _ (by decide)]) (by rw [mb_sI_o _ _ _ _ _ _ (by decide)])
          · rw [mb_sI_o _ _ _ _ _ _ (by decide), ev 0 (by omega)]; exact rg.f0
          · rw [mb_sI_o _ _ _ _ _ _ (by decide), ev 1 (by omega)]; exact rg.f1
          · rw [mb_sI_o _ _ _ _ _ _ (by decide), ev 2 (by omega)]; exact rg.f2
          · rw [mb_sI_o _ _ _ _ _ _ (by decide), ev 3 (by omega)]; exact rg.f3
          · have := rg.paid
            unfold sp_paid at this ⊢
            rw [ev 10 (by omega), ev 11 (by omega)]
            exact this
          · obtain ⟨t0, t1, t2, t3⟩ := rg.t hb2
            unfold cp_t
            rw [et b2 0 hb2 (by decide), et b2 1 hb2 (by decide), et b2 2 hb2 (by decide), et b2 3 hb2 (by decide), if_neg (by omega), if_neg (by omega), if_neg (by omega), mb_sI_j _ _ _ _ _ _ (by decide), mb_sI_j _ _ _ _ _ _ (by decide), mb_sI_j _ _ _ _ _ _ (by decide)]
            refine ⟨t0, t1, t2, ?_⟩
            by_cases z : b2 = b
            · subst z
              rw [mb_sI_s, if_pos ⟨rfl, rfl⟩]
            · rw [if_neg (fun z2 => z z2.1)]
              rw [← t3]
              simp [mb_sI, z]
      · refine hw.lo (fun j h1 h2 => ev j (by omega)) (fun j h1 h2 => ev j (by omega)) (fun j h1 => ev j (by omega)) (fun b2 hb2 => ?_) ?_ ?_
        · have := hw.berth hb2
          unfold mb_nb9 at this ⊢
          rw [et b2 0 hb2 (by decide), et b2 1 hb2 (by decide), et b2 2 hb2 (by decide), et b2 3 hb2 (by decide), if_neg (by omega), if_neg (by omega), if_neg (by omega)]
          obtain ⟨x0, y0, z0, q1, q2, q3, q4, q5, q6, q7, q8, q9⟩ := this
          by_cases z : b2 = b ∧ 3 = 3
          · rw [if_pos z]
            exact ⟨x0, y0, a, q1, q2, q3, q4, q5, q6, q7, rfl, la⟩
          · rw [if_neg z]
            exact ⟨x0, y0, z0, q1, q2, q3, q4, q5, q6, q7, q8, q9⟩
        · rw [ev 0 (by omega), ev 1 (by omega), ev 2 (by omega), ev 3 (by omega)]
          exact hw.2.2.2.2.2.2.2.2.1
        · rw [ev 10 (by omega), ev 11 (by omega)]
          exact hw.2.2.2.2.2.2.2.2.2.2
      · refine ⟨mb_sI g1 20 0 0 (26 + 4 * b + 3) (nI a), ?_, fun i hi => mb_sI_o _ _ _ _ _ _ hi, rfl, fun j _ => by rw [m6_wr, z1]⟩
        rw [h6 g9 z9, if_pos q]
        unfold B_X6_setRate_25
        rw [m6_refused0]
        simp only [px_cI, px_cIx, px_cV, px_cVx, px_cL, px_cLx, px_cR0, px_cR1, px_cRx, px_lI, px_lL, px_up, px_gZ0, px_gZ1, px_gZb, px_g0, px_g1, px_g2, px_g3, px_g4, px_g5, px_g6, px_g7, px_g8, px_g9, px_g10, px_g11, px_g12, px_g13, px_g14, px_c0, px_c1, px_c2, px_c3, px_c4, px_c5, px_c6, px_c7, px_c8, px_c9, px_c10, px_c11, px_c12, px_c13, px_c14, if_true, m6_oT hb16 (j := 3) (by decide) (y := 3) rfl]
        rw [f1, px_s20, z9]
        simp only [px_cI, px_cIx, px_cV, px_cVx, px_cL, px_cLx, px_cR0, px_cR1, px_cRx, px_lI, px_lL, px_up, px_gZ0, px_gZ1, px_gZb, px_g0, px_g1, px_g2, px_g3, px_g4, px_g5, px_g6, px_g7, px_g8, px_g9, px_g10, px_g11, px_g12, px_g13, px_g14, px_c0, px_c1, px_c2, px_c3, px_c4, px_c5, px_c6, px_c7, px_c8, px_c9, px_c10, px_c11, px_c12, px_c13, px_c14]
        rw [show ((26 : Int32) + ((4 : Int32) * nI b)) + 3 = nI (26 + 4 * b + 3) from px_i26 b 3, px_gB (by omega) (by decide), nI_clamp (by omega)]
    · have hf : (decide ((0 : Int32) ≤ y) && decide (y ≤ 9999999)) = false := Bool.eq_false_iff.mpr q
      refine q_thr (j := 1) (b := 0) (E := "java/lang/IllegalArgumentException") hS rfl ?_ ?_
      · unfold F_X5_setRate
        rw [c5_checkBerth r hw, px_ixt hb (by omega), if_pos rfl]
        simp only [px_cI, px_cIx, px_cV, px_cVx, px_cL, px_cLx, px_cR0, px_cR1, px_cRx, px_lI, px_lL, px_up, px_gZ0, px_gZ1, px_gZb, px_g0, px_g1, px_g2, px_g3, px_g4, px_g5, px_g6, px_g7, px_g8, px_g9, px_g10, px_g11, px_g12, px_g13, px_g14, px_c0, px_c1, px_c2, px_c3, px_c4, px_c5, px_c6, px_c7, px_c8, px_c9, px_c10, px_c11, px_c12, px_c13, px_c14, c5_isRate]
        rw [hf, if_pos (by rfl)]
      · rw [h6 h rfl, if_neg q]
        unfold B_X6_setRate_25
        rw [m6_refused1 2 (by decide)]; rfl
def sp_can (w : Nat → Int32) (x y : Int32) : Bool := if x = 0 then (decide (0 ≤ y) && decide (y ≤ 100)) else if x = 1 then (decide (0 ≤ y) && decide (y ≤ 9999999)) else if x = 2 then ((decide (0 ≤ y) && decide (y ≤ 359)) && !decide (y = w 3)) else if x = 3 then ((decide (0 ≤ y) && decide (y ≤ 359)) && !decide (y = w 2)) else false
theorem px_ifb (p : Bool) (x y : Int32) (h : mb_AH) : (if mb_b p = 0 then mb_rI 0 h else if x = y then mb_rI 0 h else mb_rI 1 h) = mb_rI (mb_b (p && !decide (x = y))) h := by
  cases p with
  | false => rfl
  | true =>
    rw [if_neg (by decide)]
    by_cases q : x = y
    · rw [if_pos q, decide_eq_true q]; rfl
    · rw [if_neg q, decide_eq_false q]; rfl
theorem m6_canSet (x y : Int32) (h : mb_AH) : F_X6_canSet x y h = mb_rI (mb_b (sp_can (h.1 20 0 0) x y)) h := by
  unfold F_X6_canSet sp_can
  simp only [m6_within, m6_isRate, px_cI, px_cIx, px_cV, px_cVx, px_cL, px_cLx, px_cR0, px_cR1, px_cRx, px_lI, px_lL, px_up, px_gZ0, px_gZ1, px_gZb, px_g0, px_g1, px_g2, px_g3, px_g4, px_g5, px_g6, px_g7, px_g8, px_g9, px_g10, px_g11, px_g12, px_g13, px_g14, px_c0, px_c1, px_c2, px_c3, px_c4, px_c5, px_c6, px_c7, px_c8, px_c9, px_c10, px_c11, px_c12, px_c13, px_c14, px_ifb]
  by_cases q0 : x = 0
  · rw [if_pos q0, if_pos q0]
  · rw [if_neg q0, if_neg q0]
    by_cases q1 : x = 1
    · rw [if_pos q1, if_pos q1]
    · rw [if_neg q1, if_neg q1]
      by_cases q2 : x = 2
      · rw [if_pos q2, if_pos q2]
      · rw [if_neg q2, if_neg q2]
        by_cases q3 : x = 3
        · rw [if_pos q3, if_pos q3]
        · rw [if_neg q3, if_neg q3]; rfl
theorem c5_maySet (r : mb_RM h 0 w B K T) (x y : Int32) : F_X5_maySet x y h = mb_rI (mb_b (sp_can w x y)) h := by
  unfold F_X5_maySet sp_can
  simp only [c5_isWithin, c5_isRate, c5_isDay, r.f2, r.f3, px_cI, px_cIx, px_cV, px_cVx, px_cL, px_cLx, px_cR0, px_cR1, px_cRx, px_lI, px_lL, px_up, px_gZ0, px_gZ1, px_gZb, px_g0, px_g1, px_g2, px_g3, px_g4, px_g5, px_g6, px_g7, px_g8, px_g9, px_g10, px_g11, px_g12, px_g13, px_g14, px_c0, px_c1, px_c2, px_c3, px_c4, px_c5, px_c6, px_c7, px_c8, px_c9, px_c10, px_c11, px_c12, px_c13, px_c14, px_ifb]
  by_cases q0 : x = 0
  · rw [if_pos q0, if_pos q0]
  · rw [if_neg q0, if_neg q0]
    by_cases q1 : x = 1
    · rw [if_pos q1, if_pos q1]
    · rw [if_neg q1, if_neg q1]
      by_cases q2 : x = 2
      · rw [if_pos q2, if_pos q2]
      · rw [if_neg q2, if_neg q2]
        by_cases q3 : x = 3
        · rw [if_pos q3, if_pos q3]
        · rw [if_neg q3, if_neg q3]; rfl
theorem sp_can_ix {w : Nat → Int32} {x y : Int32} (q : sp_can w x y = true) : ∃ j : Nat, j < 4 ∧ x = nI j := by
  unfold sp_can at q
  by_cases q0 : x = 0
  · exact ⟨0, by decide, q0⟩
  · by_cases q1 : x = 1
    · exact ⟨1, by decide, q1⟩
    · by_cases q2 : x = 2
      · exact ⟨2, by decide, q2⟩
      · by_cases q3 : x = 3
        · exact ⟨3, by decide, q3⟩
        · rw [if_neg q0, if_neg q1, if_neg q2, if_neg q3] at q
          cases q
theorem set_hg (hw : mb_W w B K T D U) {j : Nat} (hj : j < 4) {y : Int32} (q : sp_can w (nI j) y = true) : ∃ c r x z : Nat, wr w j y 0 = nI c ∧ c ≤ 100 ∧ wr w j y 1 = nI r ∧ r ≤ 9999999 ∧ wr w j y 2 = nI x ∧ x < 360 ∧ wr w j y 3 = nI z ∧ z < 360 ∧ x ≠ z := by
  obtain ⟨c, r, x, z, h1, h2, h3, h4, h5, h6, h7, h8, h9⟩ := hw.2.2.2.2.2.2.2.2.1
  rcases (show j = 0 ∨ j = 1 ∨ j = 2 ∨ j = 3 by omega) with rfl | rfl | rfl | rfl
  · obtain ⟨a, rfl, -, la⟩ := px_w9 (l := 0) (u := 100) (by decide) (show (decide ((0 : Int32) ≤ y) && decide (y ≤ 100)) = true from q) (by decide)
    exact ⟨a, r, x, z, wr_s _ _ _, la, by rw [wr_o _ _ _ (by decide)]; exact h3, h4, by rw [wr_o _ _ _ (by decide)]; exact h5, h6, by rw [wr_o _ _ _ (by decide)]; exact h7, h8, h9⟩
  · obtain ⟨a, rfl, -, la⟩ := px_w9 (l := 0) (u := 9999999) (by decide) (show (decide ((0 : Int32) ≤ y) && decide (y ≤ 9999999)) = true from q) (by decide)
    exact ⟨c, a, x, z, by rw [wr_o _ _ _ (by decide)]; exact h1, h2, wr_s _ _ _, la, by rw [wr_o _ _ _ (by decide)]; exact h5, h6, by rw [wr_o _ _ _ (by decide)]; exact h7, h8, h9⟩
  · have q : ((decide ((0 : Int32) ≤ y) && decide (y ≤ 359)) && !decide (y = w 3)) = true := q
    rw [Bool.and_eq_true, Bool.not_eq_true', decide_eq_false_iff_not] at q
    obtain ⟨a, rfl, -, la⟩ := px_w9 (l := 0) (u := 359) (by decide) q.1 (by decide)
    refine ⟨c, r, a, z, by rw [wr_o _ _ _ (by decide)]; exact h1, h2, by rw [wr_o _ _ _ (by decide)]; exact h3, h4, wr_s _ _ _, by omega, by rw [wr_o _ _ _ (by decide)]; exact h7, h8, fun e => q.2 ?_⟩
    rw [h7, e]
  · have q : ((decide ((0 : Int32) ≤ y) && decide (y ≤ 359)) && !decide (y = w 2)) = true := q
    rw [Bool.and_eq_true, Bool.not_eq_true', decide_eq_false_iff_not] at q
    obtain ⟨a, rfl, -, la⟩ := px_w9 (l := 0) (u := 359) (by decide) q.1 (by decide)
    refine ⟨c, r, x, a, by rw [wr_o _ _ _ (by decide)]; exact h1, h2, by rw [wr_o _ _ _ (by decide)]; exact h3, h4, by rw [wr_o _ _ _ (by decide)]; exact h5, h6, wr_s _ _ _, by omega, fun e => q.2 ?_⟩
    rw [h5, e]
theorem s_set (hS : mb_S n h) (x y : Int32) : mb_PI ["java/lang/IllegalArgumentException"] (F_X5_set x y h) (F_X6_set x y) (mb_S (n + 1)) := by
  obtain ⟨-, -, B, K, T, D, U, hw, r, lD, lU, ⟨p, ep, lp⟩, hH⟩ := id hS
  have hK := hw.K20; have hB := hw.B16
  by_cases q : sp_can (h.1 20 0 0) x y = true
  · obtain ⟨j, hj, rfl⟩ := sp_can_ix q
    have ev : ∀ i, i ≠ j → wr (h.1 20 0 0) j y i = h.1 20 0 0 i := fun i hi => wr_o _ _ _ hi
    refine s_mut (v := h.1 20 0 0 j) (w2 := wr (h.1 20 0 0) j y) (B2 := B) (K2 := K) (T2 := T) (D2 := D) (U2 := U) hS r (fun g e1 rg fx => ?_) ?_ (by omega) (by omega) ⟨p, by rw [ev _ (by omega)]; exact ep, by omega⟩ (fun k2 hk2 => (hH k2 hk2).cg (hw.boat hk2).1 hB (ev 5 (by omega)) (fun b2 hb2 => ev _ (by omega)) (fun i hi => ev _ (by omega))) (fun g9 g1 z9 z1 f1 => ?_)
    · refine ⟨mb_sI g 1 0 0 (7 + j) y, ?_, mb_Fr.wI (k := 1) g 0 (7 + j) _ (by decide), ?_⟩
      · unfold F_X5_set
        rw [c5_maySet r, q]
        simp only [px_cI, px_cIx, px_cV, px_cVx, px_cL, px_cLx, px_cR0, px_cR1, px_cRx, px_lI, px_lL, px_up, px_gZ0, px_gZ1, px_gZb, px_g0, px_g1, px_g2, px_g3, px_g4, px_g5, px_g6, px_g7, px_g8, px_g9, px_g10, px_g11, px_g12, px_g13, px_g14, px_c0, px_c1, px_c2, px_c3, px_c4, px_c5, px_c6, px_c7, px_c8, px_c9, px_c10, px_c11, px_c12, px_c13, px_c14]
        rw [if_neg (by decide), c5_info r hw (show j < 14 by omega)]
        simp only [px_cI, px_cIx, px_cV, px_cVx, px_cL, px_cLx, px_cR0, px_cR1, px_cRx, px_lI, px_lL, px_up, px_gZ0, px_gZ1, px_gZb, px_g0, px_g1, px_g2, px_g3, px_g4, px_g5, px_g6, px_g7, px_g8, px_g9, px_g10, px_g11, px_g12, px_g13, px_g14, px_c0, px_c1, px_c2, px_c3, px_c4, px_c5, px_c6, px_c7, px_c8, px_c9, px_c10, px_c11, px_c12, px_c13, px_c14]
        rw [e1]
        simp only [px_cI, px_cIx, px_cV, px_cVx, px_cL, px_cLx, px_cR0, px_cR1, px_cRx, px_lI, px_lL, px_up, px_gZ0, px_gZ1, px_gZb, px_g0, px_g1, px_g2, px_g3, px_g4, px_g5, px_g6, px_g7, px_g8, px_g9, px_g10, px_g11, px_g12, px_g13, px_g14, px_c0, px_c1, px_c2, px_c3, px_c4, px_c5, px_c6, px_c7, px_c8, px_c9, px_c10, px_c11, px_c12, px_c13, px_c14]
        rcases (show j = 0 ∨ j = 1 ∨ j = 2 ∨ j = 3 by omega) with rfl | rfl | rfl | rfl
        · rw [if_pos (by rfl)]; rfl
        · rw [if_neg (by decide), if_pos (by rfl)]; rfl
        · rw [if_neg (by decide), if_neg (by decide), if_pos (by rfl)]; rfl
        · rw [if_neg (by decide), if_neg (by decide), if_neg (by decide)]; rfl
      · refine rg.lo hw.T1 hw.T14 (fun i h1 h2 => ev i (by omega)) (fun i h1 h2 => ev i (by omega)) (fun i h1 => ev i (by omega)) (fun i hi => mb_sI_j _ _ _ _ _ _ (by omega) _ _ _) ?_ ?_ ?_ ?_ ?_ (fun b2 hb2 => ?_) (by rw [mb_sI_o _ _ _ _ _ _ (by decide)]) (by rw [mb_sI_o _ _ _ _ _ _ (by decide)])
        · by_cases z : j = 0
          · subst z; rw [wr_s]; exact mb_sI_s _ _ _ _ _ _
          · rw [mb_sI_j _ _ _ _ _ _ (by omega), ev 0 (by omega)]; exact rg.f0
        · by_cases z : j = 1
          · subst z; rw [wr_s]; exact mb_sI_s _ _ _ _ _ _
          · rw [mb_sI_j _ _ _ _ _ _ (by omega), ev 1 (by omega)]; exact rg.f1
        · by_cases z : j = 2
          · subst z; rw [wr_s]; exact mb_sI_s _ _ _ _ _ _
          · rw [mb_sI_j _ _ _ _ _ _ (by omega), ev 2 (by omega)]; exact rg.f2
        · by_cases z : j = 3
          · subst z; rw [wr_s]; exact mb_sI_s _ _ _ _ _ _
          · rw [mb_sI_j _ _ _ _ _ _ (by omega), ev 3 (by omega)]; exact rg.f3
        · have := rg.paid
          unfold sp_paid at this ⊢
          rw [ev 10 (by omega), ev 11 (by omega)]
          exact this
        · have := rg.t hb2
          unfold cp_t bt
          rw [ev _ (by omega), ev _ (by omega), ev _ (by omega), ev _ (by omega), mb_sI_o _ _ _ _ _ _ (by decide)]
          exact this
    · refine hw.lo (fun i h1 h2 => ev i (by omega)) (fun i h1 h2 => ev i (by omega)) (fun i h1 => ev i (by omega)) (fun b2 hb2 => ?_) (set_hg hw hj q) ?_
      · have := hw.berth hb2
        unfold mb_nb9 bt at this ⊢
        rw [ev _ (by omega), ev _ (by omega), ev _ (by omega), ev _ (by omega)]
        exact this
      · rw [ev 10 (by omega), ev 11 (by omega)]
        exact hw.2.2.2.2.2.2.2.2.2.2
    · refine ⟨mb_sI g1 20 0 0 j y, ?_, fun i hi => mb_sI_o _ _ _ _ _ _ hi, rfl, fun i _ => by rw [m6_wr, z1]⟩
      unfold F_X6_set B_X6_set_15
      rw [m6_canSet, z9, q]
      simp only [px_cI, px_cIx, px_cV, px_cVx, px_cL, px_cLx, px_cR0, px_cR1, px_cRx, px_lI, px_lL, px_up, px_gZ0, px_gZ1, px_gZb, px_g0, px_g1, px_g2, px_g3, px_g4, px_g5, px_g6, px_g7, px_g8, px_g9, px_g10, px_g11, px_g12, px_g13, px_g14, px_c0, px_c1, px_c2, px_c3, px_c4, px_c5, px_c6, px_c7, px_c8, px_c9, px_c10, px_c11, px_c12, px_c13, px_c14]
      rw [if_neg (by decide), m6_refused0]
      simp only [px_cI, px_cIx, px_cV, px_cVx, px_cL, px_cLx, px_cR0, px_cR1, px_cRx, px_lI, px_lL, px_up, px_gZ0, px_gZ1, px_gZb, px_g0, px_g1, px_g2, px_g3, px_g4, px_g5, px_g6, px_g7, px_g8, px_g9, px_g10, px_g11, px_g12, px_g13, px_g14, px_c0, px_c1, px_c2, px_c3, px_c4, px_c5, px_c6, px_c7, px_c8, px_c9, px_c10, px_c11, px_c12, px_c13, px_c14, if_true]
      rw [px_gB (show j < 270 by omega) (by decide), nI_clamp (by omega), f1, px_s20, z9]
      simp only [px_cI, px_cIx, px_cV, px_cVx, px_cL, px_cLx, px_cR0, px_cR1, px_cRx, px_lI, px_lL, px_up, px_gZ0, px_gZ1, px_gZb, px_g0, px_g1, px_g2, px_g3, px_g4, px_g5, px_g6, px_g7, px_g8, px_g9, px_g10, px_g11, px_g12, px_g13, px_g14, px_c0, px_c1, px_c2, px_c3, px_c4, px_c5, px_c6, px_c7, px_c8, px_c9, px_c10, px_c11, px_c12, px_c13, px_c14]
      rw [px_gB (show j < 270 by omega) (by decide)]
  · have hf : sp_can (h.1 20 0 0) x y = false := Bool.eq_false_iff.mpr q
    refine q_thr (j := 0) (b := 0) (E := "java/lang/IllegalArgumentException") hS rfl ?_ ?_
    · unfold F_X5_set
      rw [c5_maySet r, hf]
      simp only [px_cI, px_cIx, px_cV, px_cVx, px_cL, px_cLx, px_cR0, px_cR1, px_cRx, px_lI, px_lL, px_up, px_gZ0, px_gZ1, px_gZb, px_g0, px_g1, px_g2, px_g3, px_g4, px_g5, px_g6, px_g7, px_g8, px_g9, px_g10, px_g11, px_g12, px_g13, px_g14, px_c0, px_c1, px_c2, px_c3, px_c4, px_c5, px_c6, px_c7, px_c8, px_c9, px_c10, px_c11, px_c12, px_c13, px_c14]
      rw [if_pos (by rfl)]
    · unfold F_X6_set B_X6_set_15
      rw [m6_canSet, hf]
      simp only [px_cI, px_cIx, px_cV, px_cVx, px_cL, px_cLx, px_cR0, px_cR1, px_cRx, px_lI, px_lL, px_up, px_gZ0, px_gZ1, px_gZb, px_g0, px_g1, px_g2, px_g3, px_g4, px_g5, px_g6, px_g7, px_g8, px_g9, px_g10, px_g11, px_g12, px_g13, px_g14, px_c0, px_c1, px_c2, px_c3, px_c4, px_c5, px_c6, px_c7, px_c8, px_c9, px_c10, px_c11, px_c12, px_c13, px_c14]
      rw [if_pos (by rfl), m6_refused1 1 (by decide)]; rfl
end
