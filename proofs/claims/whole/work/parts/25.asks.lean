/-! ===== pure: the calls that only ask ===== -/
section
variable {h g : mb_AH} {w : Nat → Int32} {B K T D U n : Nat}
theorem px_w (hg : g.1 = h.1) (x : Int32) : (mb_sI g 6 0 0 4 x).1 20 0 0 = h.1 20 0 0 := by rw [px_s20, hg]
theorem s_low (hS : mb_S n h) (x : Int32) : mb_PI ["java/lang/IllegalArgumentException"] (F_X5_low x h) (F_X6_low x) (mb_S (n + 1)) := by
  obtain ⟨-, -, B, K, T, D, U, hw, r, -⟩ := id hS
  by_cases q : 0 ≤ x
  · obtain ⟨d, hd, rfl⟩ := nI_of (Int32.not_lt.mpr q)
    refine q_ret (v := sp_lw (h.1 20 0 0) T d) hS ?_ (fun g hg => ?_)
    · unfold F_X5_low
      rw [if_pos q, c2_lowWater r hw hd]; rfl
    · unfold F_X6_low B_X6_low_10
      rw [if_pos q, m6_refused0]
      have e := px_w hg 0
      simp only [px_cI, px_cIx, px_cV, px_cVx, px_cL, px_cLx, px_cR0, px_cR1, px_cRx, px_lI, px_lL, px_up, px_gZ0, px_gZ1, px_gZb, px_g0, px_g1, px_g2, px_g3, px_g4, px_g5, px_g6, px_g7, px_g8, px_g9, px_g10, px_g11, px_g12, px_g13, px_g14, px_c0, px_c1, px_c2, px_c3, px_c4, px_c5, px_c6, px_c7, px_c8, px_c9, px_c10, px_c11, px_c12, px_c13, px_c14, m6_lowOn (h := mb_sI g 6 0 0 4 0) (B := B) (K := K) (T := T) (by rw [e]; exact hw.z) hd]
      rw [e]; rfl
  · refine q_thr (j := 0) (b := 0) (E := "java/lang/IllegalArgumentException") hS rfl ?_ ?_
    · unfold F_X5_low
      rw [if_neg q]
    · unfold F_X6_low B_X6_low_10
      rw [if_neg q, m6_refused1 1 (by decide)]; rfl
theorem s_info (hS : mb_S n h) (x : Int32) : mb_PI ["java/lang/IllegalArgumentException"] (F_X5_info x h) (F_X6_info x) (mb_S (n + 1)) := by
  obtain ⟨-, -, B, K, T, D, U, hw, r, -⟩ := id hS
  have e13 : (decide (0 ≤ x) && decide (x ≤ 13)) = mb_ix x 14 := px_ixw x 14 (by decide)
  rcases px_ix x (N := 14) (by decide) with q | ⟨c, hc, rfl⟩
  · refine q_thr (j := 0) (b := 0) (E := "java/lang/IllegalArgumentException") hS rfl (c5_infox x q h) ?_
    unfold F_X6_info B_X6_info_16
    rw [m6_within, e13, q]
    simp only [px_cI, px_cIx, px_cV, px_cVx, px_cL, px_cLx, px_cR0, px_cR1, px_cRx, px_lI, px_lL, px_up, px_gZ0, px_gZ1, px_gZb, px_g0, px_g1, px_g2, px_g3, px_g4, px_g5, px_g6, px_g7, px_g8, px_g9, px_g10, px_g11, px_g12, px_g13, px_g14, px_c0, px_c1, px_c2, px_c3, px_c4, px_c5, px_c6, px_c7, px_c8, px_c9, px_c10, px_c11, px_c12, px_c13, px_c14]
    rw [if_pos (by rfl), m6_refused1 1 (by decide)]; rfl
  · refine q_ret (v := sp_info (h.1 20 0 0) B K T D c) hS (c5_info r hw hc) (fun g hg => ?_)
    unfold F_X6_info B_X6_info_16
    rw [m6_within, e13, px_ixt hc (by decide)]
    have e := px_w hg 0
    simp only [px_cI, px_cIx, px_cV, px_cVx, px_cL, px_cLx, px_cR0, px_cR1, px_cRx, px_lI, px_lL, px_up, px_gZ0, px_gZ1, px_gZb, px_g0, px_g1, px_g2, px_g3, px_g4, px_g5, px_g6, px_g7, px_g8, px_g9, px_g10, px_g11, px_g12, px_g13, px_g14, px_c0, px_c1, px_c2, px_c3, px_c4, px_c5, px_c6, px_c7, px_c8, px_c9, px_c10, px_c11, px_c12, px_c13, px_c14]
    rw [if_neg (by decide), m6_refused0]
    simp only [px_cI, px_cIx, px_cV, px_cVx, px_cL, px_cLx, px_cR0, px_cR1, px_cRx, px_lI, px_lL, px_up, px_gZ0, px_gZ1, px_gZb, px_g0, px_g1, px_g2, px_g3, px_g4, px_g5, px_g6, px_g7, px_g8, px_g9, px_g10, px_g11, px_g12, px_g13, px_g14, px_c0, px_c1, px_c2, px_c3, px_c4, px_c5, px_c6, px_c7, px_c8, px_c9, px_c10, px_c11, px_c12, px_c13, px_c14, m6_infoTold (h := mb_sI g 6 0 0 4 0) (B := B) (K := K) (T := T) (D := D) (U := U) (by rw [e]; exact hw) hc]
    rw [e]; rfl
theorem s_berth (hS : mb_S n h) (x y : Int32) : mb_PI ["java/lang/IndexOutOfBoundsException", "java/lang/IllegalArgumentException"] (F_X5_berth x y h) (F_X6_berth x y) (mb_S (n + 1)) := by
  obtain ⟨-, -, B, K, T, D, U, hw, r, -⟩ := id hS
  have hB := hw.B16
  have e6 : (decide (0 ≤ y) && decide (y ≤ 6)) = mb_ix y 7 := px_ixw y 7 (by decide)
  rcases px_ix x (N := B) (by omega) with q | ⟨b, hb, rfl⟩
  · refine q_thr (j := 0) (b := 0) (E := "java/lang/IndexOutOfBoundsException") hS rfl ?_ ?_
    · unfold F_X5_berth
      rw [c5_checkBerth r hw, q, if_neg (by decide)]; rfl
    · unfold F_X6_berth B_X6_berth_28
      rw [m6_isBerth hw.z, q]
      simp only [px_cI, px_cIx, px_cV, px_cVx, px_cL, px_cLx, px_cR0, px_cR1, px_cRx, px_lI, px_lL, px_up, px_gZ0, px_gZ1, px_gZb, px_g0, px_g1, px_g2, px_g3, px_g4, px_g5, px_g6, px_g7, px_g8, px_g9, px_g10, px_g11, px_g12, px_g13, px_g14, px_c0, px_c1, px_c2, px_c3, px_c4, px_c5, px_c6, px_c7, px_c8, px_c9, px_c10, px_c11, px_c12, px_c13, px_c14]
      rw [if_pos (by rfl), m6_refused1 1 (by decide)]; rfl
  · rcases px_ix y (N := 7) (by decide) with q | ⟨c, hc, rfl⟩
    · refine q_thr (j := 1) (b := 0) (E := "java/lang/IllegalArgumentException") hS rfl (c5_berthx r hw hb y q) ?_
      unfold F_X6_berth B_X6_berth_28
      rw [m6_isBerth hw.z, px_ixt hb (by omega)]
      simp only [px_cI, px_cIx, px_cV, px_cVx, px_cL, px_cLx, px_cR0, px_cR1, px_cRx, px_lI, px_lL, px_up, px_gZ0, px_gZ1, px_gZb, px_g0, px_g1, px_g2, px_g3, px_g4, px_g5, px_g6, px_g7, px_g8, px_g9, px_g10, px_g11, px_g12, px_g13, px_g14, px_c0, px_c1, px_c2, px_c3, px_c4, px_c5, px_c6, px_c7, px_c8, px_c9, px_c10, px_c11, px_c12, px_c13, px_c14, m6_within]
      rw [if_neg (by decide), e6, q, if_pos (by rfl), m6_refused1 2 (by decide)]; rfl
    · refine q_ret (v := sp_berth (h.1 20 0 0) K T b c) hS (c5_berth r hw hb hc) (fun g hg => ?_)
      unfold F_X6_berth B_X6_berth_28
      have e := px_w hg 0
      rw [m6_isBerth (h := g) (B := B) (K := K) (T := T) (by rw [hg]; exact hw.z), px_ixt hb (by omega)]
      simp only [px_cI, px_cIx, px_cV, px_cVx, px_cL, px_cLx, px_cR0, px_cR1, px_cRx, px_lI, px_lL, px_up, px_gZ0, px_gZ1, px_gZb, px_g0, px_g1, px_g2, px_g3, px_g4, px_g5, px_g6, px_g7, px_g8, px_g9, px_g10, px_g11, px_g12, px_g13, px_g14, px_c0, px_c1, px_c2, px_c3, px_c4, px_c5, px_c6, px_c7, px_c8, px_c9, px_c10, px_c11, px_c12, px_c13, px_c14, m6_within]
      rw [if_neg (by decide), e6, px_ixt hc (by decide), if_neg (by decide), m6_refused0]
      simp only [px_cI, px_cIx, px_cV, px_cVx, px_cL, px_cLx, px_cR0, px_cR1, px_cRx, px_lI, px_lL, px_up, px_gZ0, px_gZ1, px_gZb, px_g0, px_g1, px_g2, px_g3, px_g4, px_g5, px_g6, px_g7, px_g8, px_g9, px_g10, px_g11, px_g12, px_g13, px_g14, px_c0, px_c1, px_c2, px_c3, px_c4, px_c5, px_c6, px_c7, px_c8, px_c9, px_c10, px_c11, px_c12, px_c13, px_c14, m6_berthTold (h := mb_sI g 6 0 0 4 0) (B := B) (K := K) (T := T) (by rw [e]; exact hw.z) (show b < 16 by omega) hc]
      rw [e]; rfl
theorem s_boat (hS : mb_S n h) (x y : Int32) : mb_PI ["java/lang/IndexOutOfBoundsException", "java/lang/IllegalArgumentException"] (F_X5_boat x y h) (F_X6_boat x y) (mb_S (n + 1)) := by
  obtain ⟨-, -, B, K, T, D, U, hw, r, -⟩ := id hS
  have hK := hw.K20
  have e6 : (decide (0 ≤ y) && decide (y ≤ 9)) = mb_ix y 10 := px_ixw y 10 (by decide)
  rcases px_ix x (N := K) (by omega) with q | ⟨b, hb, rfl⟩
  · refine q_thr (j := 0) (b := 0) (E := "java/lang/IndexOutOfBoundsException") hS rfl ?_ ?_
    · unfold F_X5_boat
      rw [c5_checkBoat r hw, q, if_neg (by decide)]; rfl
    · unfold F_X6_boat B_X6_boat_28
      rw [m6_isBoat hw.z, q]
      simp only [px_cI, px_cIx, px_cV, px_cVx, px_cL, px_cLx, px_cR0, px_cR1, px_cRx, px_lI, px_lL, px_up, px_gZ0, px_gZ1, px_gZb, px_g0, px_g1, px_g2, px_g3, px_g4, px_g5, px_g6, px_g7, px_g8, px_g9, px_g10, px_g11, px_g12, px_g13, px_g14, px_c0, px_c1, px_c2, px_c3, px_c4, px_c5, px_c6, px_c7, px_c8, px_c9, px_c10, px_c11, px_c12, px_c13, px_c14]
      rw [if_pos (by rfl), m6_refused1 1 (by decide)]; rfl
  · rcases px_ix y (N := 10) (by decide) with q | ⟨c, hc, rfl⟩
    · refine q_thr (j := 1) (b := 0) (E := "java/lang/IllegalArgumentException") hS rfl (c5_boatx r hw hb y q) ?_
      unfold F_X6_boat B_X6_boat_28
      rw [m6_isBoat hw.z, px_ixt hb (by omega)]
      simp only [px_cI, px_cIx, px_cV, px_cVx, px_cL, px_cLx, px_cR0, px_cR1, px_cRx, px_lI, px_lL, px_up, px_gZ0, px_gZ1, px_gZb, px_g0, px_g1, px_g2, px_g3, px_g4, px_g5, px_g6, px_g7, px_g8, px_g9, px_g10, px_g11, px_g12, px_g13, px_g14, px_c0, px_c1, px_c2, px_c3, px_c4, px_c5, px_c6, px_c7, px_c8, px_c9, px_c10, px_c11, px_c12, px_c13, px_c14, m6_within]
      rw [if_neg (by decide), e6, q, if_pos (by rfl), m6_refused1 2 (by decide)]; rfl
    · refine q_ret (v := sp_boat (h.1 20 0 0) T D b c) hS (c5_boat r hw hb hc) (fun g hg => ?_)
      unfold F_X6_boat B_X6_boat_28
      have e := px_w hg 0
      rw [m6_isBoat (h := g) (B := B) (K := K) (T := T) (by rw [hg]; exact hw.z), px_ixt hb (by omega)]
      simp only [px_cI, px_cIx, px_cV, px_cVx, px_cL, px_cLx, px_cR0, px_cR1, px_cRx, px_lI, px_lL, px_up, px_gZ0, px_gZ1, px_gZb, px_g0, px_g1, px_g2, px_g3, px_g4, px_g5, px_g6, px_g7, px_g8, px_g9, px_g10, px_g11, px_g12, px_g13, px_g14, px_c0, px_c1, px_c2, px_c3, px_c4, px_c5, px_c6, px_c7, px_c8, px_c9, px_c10, px_c11, px_c12, px_c13, px_c14, m6_within]
      rw [if_neg (by decide), e6, px_ixt hc (by decide), if_neg (by decide), m6_refused0]
      simp only [px_cI, px_cIx, px_cV, px_cVx, px_cL, px_cLx, px_cR0, px_cR1, px_cRx, px_lI, px_lL, px_up, px_gZ0, px_gZ1, px_gZb, px_g0, px_g1, px_g2, px_g3, px_g4, px_g5, px_g6, px_g7, px_g8, px_g9, px_g10, px_g11, px_g12, px_g13, px_g14, px_c0, px_c1, px_c2, px_c3, px_c4, px_c5, px_c6, px_c7, px_c8, px_c9, px_c10, px_c11, px_c12, px_c13, px_c14, m6_boatTold (h := mb_sI g 6 0 0 4 0) (B := B) (K := K) (T := T) (D := D) (U := U) (by rw [e]; exact hw) hb hc]
      rw [e]; rfl
theorem s_waiting (hS : mb_S n h) (x : Int32) : mb_PP (F_X5_waiting x h) (F_X6_waiting x) (mb_S (n + 1)) := by
  obtain ⟨-, -, B, K, T, D, U, hw, r, -⟩ := id hS
  have hK := hw.K20
  have e := px_w (g := h) (h := h) rfl 0
  by_cases q : 0 ≤ x
  · refine q_pp (v := mb_oi (sp_wa (h.1 20 0 0) K x)) hS ?_ ?_
    · unfold F_X5_waiting
      rw [c2_waitingAt r hw]; rfl
    · unfold F_X6_waiting
      simp only [px_cI, px_cIx, px_cV, px_cVx, px_cL, px_cLx, px_cR0, px_cR1, px_cRx, px_lI, px_lL, px_up, px_gZ0, px_gZ1, px_gZb, px_g0, px_g1, px_g2, px_g3, px_g4, px_g5, px_g6, px_g7, px_g8, px_g9, px_g10, px_g11, px_g12, px_g13, px_g14, px_c0, px_c1, px_c2, px_c3, px_c4, px_c5, px_c6, px_c7, px_c8, px_c9, px_c10, px_c11, px_c12, px_c13, px_c14]
      rw [if_pos q, m6_waitingAt (h := mb_sI h 6 0 0 4 0) (B := B) (K := K) (T := T) (by rw [e]; exact hw.z), e]; rfl
  · have hnone : sp_wa (h.1 20 0 0) K x = none := by
      cases hk : sp_wa (h.1 20 0 0) K x with
      | none => rfl
      | some k =>
        have h3 := (sp_find_some hk).2.2
        rw [Bool.and_eq_true, decide_eq_true_iff, decide_eq_true_iff] at h3
        have hle := sp_cnt_le (fun i => (decide (bo (h.1 20 0 0) i 3 = 2) && !decide (i = k)) && sp_bf (h.1 20 0 0) i k) K 0
        have : nI (sp_ah (h.1 20 0 0) K k) = x := h3.2
        exact absurd (by rw [← this]; exact nI_pos' (by unfold sp_ah; omega)) q
    refine q_pp (v := -1) hS ?_ ?_
    · unfold F_X5_waiting
      rw [c2_waitingAt r hw, hnone]; rfl
    · unfold F_X6_waiting
      simp only [px_cI, px_cIx, px_cV, px_cVx, px_cL, px_cLx, px_cR0, px_cR1, px_cRx, px_lI, px_lL, px_up, px_gZ0, px_gZ1, px_gZb, px_g0, px_g1, px_g2, px_g3, px_g4, px_g5, px_g6, px_g7, px_g8, px_g9, px_g10, px_g11, px_g12, px_g13, px_g14, px_c0, px_c1, px_c2, px_c3, px_c4, px_c5, px_c6, px_c7, px_c8, px_c9, px_c10, px_c11, px_c12, px_c13, px_c14]
      rw [if_neg q]
theorem s_owed (hS : mb_S n h) : mb_PL (F_X5_owed h) F_X6_owed (mb_S (n + 1)) := by
  obtain ⟨-, -, B, K, T, D, U, hw, r, -⟩ := id hS
  have e := px_w (g := h) (h := h) rfl 0
  refine q_pl (v := sp_owed (h.1 20 0 0) K) hS ?_ ?_
  · unfold F_X5_owed
    rw [c2_owedInAll r hw]; rfl
  · unfold F_X6_owed
    simp only [px_cI, px_cIx, px_cV, px_cVx, px_cL, px_cLx, px_cR0, px_cR1, px_cRx, px_lI, px_lL, px_up, px_gZ0, px_gZ1, px_gZb, px_g0, px_g1, px_g2, px_g3, px_g4, px_g5, px_g6, px_g7, px_g8, px_g9, px_g10, px_g11, px_g12, px_g13, px_g14, px_c0, px_c1, px_c2, px_c3, px_c4, px_c5, px_c6, px_c7, px_c8, px_c9, px_c10, px_c11, px_c12, px_c13, px_c14]
    rw [m6_owedNow (h := mb_sI h 6 0 0 4 0) (B := B) (K := K) (T := T) (by rw [e]; exact hw.z), e]; rfl
theorem s_paid (hS : mb_S n h) : mb_PL (F_X5_paid h) F_X6_paid (mb_S (n + 1)) := by
  obtain ⟨-, -, B, K, T, D, U, hw, r, -⟩ := id hS
  have e := px_w (g := h) (h := h) rfl 0
  refine q_pl (v := sp_paid (h.1 20 0 0)) hS ?_ ?_
  · unfold F_X5_paid
    rw [r.paid]
  · unfold F_X6_paid
    simp only [px_cI, px_cIx, px_cV, px_cVx, px_cL, px_cLx, px_cR0, px_cR1, px_cRx, px_lI, px_lL, px_up, px_gZ0, px_gZ1, px_gZb, px_g0, px_g1, px_g2, px_g3, px_g4, px_g5, px_g6, px_g7, px_g8, px_g9, px_g10, px_g11, px_g12, px_g13, px_g14, px_c0, px_c1, px_c2, px_c3, px_c4, px_c5, px_c6, px_c7, px_c8, px_c9, px_c10, px_c11, px_c12, px_c13, px_c14]
    rw [m6_paidNow, e]; rfl
theorem s_bestBerth (hS : mb_S n h) (x : Int32) : mb_PI ["java/lang/IndexOutOfBoundsException"] (F_X5_bestBerth x h) (F_X6_bestBerth x) (mb_S (n + 1)) := by
  obtain ⟨-, -, B, K, T, D, U, hw, r, -⟩ := id hS
  have hK := hw.K20
  rcases px_ix x (N := K) (by omega) with q | ⟨b, hb, rfl⟩
  · refine q_thr (j := 0) (b := 0) (E := "java/lang/IndexOutOfBoundsException") hS rfl ?_ ?_
    · unfold F_X5_bestBerth
      rw [c5_checkBoat r hw, q, if_neg (by decide)]; rfl
    · unfold F_X6_bestBerth B_X6_bestBerth_14
      rw [m6_isBoat hw.z, q]
      simp only [px_cI, px_cIx, px_cV, px_cVx, px_cL, px_cLx, px_cR0, px_cR1, px_cRx, px_lI, px_lL, px_up, px_gZ0, px_gZ1, px_gZb, px_g0, px_g1, px_g2, px_g3, px_g4, px_g5, px_g6, px_g7, px_g8, px_g9, px_g10, px_g11, px_g12, px_g13, px_g14, px_c0, px_c1, px_c2, px_c3, px_c4, px_c5, px_c6, px_c7, px_c8, px_c9, px_c10, px_c11, px_c12, px_c13, px_c14]
      rw [if_pos (by rfl), m6_refused1 1 (by decide)]; rfl
  · refine q_ret (v := mb_oi (sp_best (h.1 20 0 0) B K T b)) hS ?_ (fun g hg => ?_)
    · unfold F_X5_bestBerth
      rw [c5_checkBoat r hw, px_ixt hb (by omega), if_pos rfl]
      simp only [px_cI, px_cIx, px_cV, px_cVx, px_cL, px_cLx, px_cR0, px_cR1, px_cRx, px_lI, px_lL, px_up, px_gZ0, px_gZ1, px_gZb, px_g0, px_g1, px_g2, px_g3, px_g4, px_g5, px_g6, px_g7, px_g8, px_g9, px_g10, px_g11, px_g12, px_g13, px_g14, px_c0, px_c1, px_c2, px_c3, px_c4, px_c5, px_c6, px_c7, px_c8, px_c9, px_c10, px_c11, px_c12, px_c13, px_c14]
      rw [px_gB (show b < 20 by omega) (by decide), nI_clamp (by omega), c2_bestBerthFor r hw hb]; rfl
    · unfold F_X6_bestBerth B_X6_bestBerth_14
      have e := px_w hg 0
      rw [m6_isBoat (h := g) (B := B) (K := K) (T := T) (by rw [hg]; exact hw.z), px_ixt hb (by omega)]
      simp only [px_cI, px_cIx, px_cV, px_cVx, px_cL, px_cLx, px_cR0, px_cR1, px_cRx, px_lI, px_lL, px_up, px_gZ0, px_gZ1, px_gZb, px_g0, px_g1, px_g2, px_g3, px_g4, px_g5, px_g6, px_g7, px_g8, px_g9, px_g10, px_g11, px_g12, px_g13, px_g14, px_c0, px_c1, px_c2, px_c3, px_c4, px_c5, px_c6, px_c7, px_c8, px_c9, px_c10, px_c11, px_c12, px_c13, px_c14]
      rw [if_neg (by decide), m6_refused0]
      simp only [px_cI, px_cIx, px_cV, px_cVx, px_cL, px_cLx, px_cR0, px_cR1, px_cRx, px_lI, px_lL, px_up, px_gZ0, px_gZ1, px_gZb, px_g0, px_g1, px_g2, px_g3, px_g4, px_g5, px_g6, px_g7, px_g8, px_g9, px_g10, px_g11, px_g12, px_g13, px_g14, px_c0, px_c1, px_c2, px_c3, px_c4, px_c5, px_c6, px_c7, px_c8, px_c9, px_c10, px_c11, px_c12, px_c13, px_c14, m6_bestOf (h := mb_sI g 6 0 0 4 0) (B := B) (K := K) (T := T) (D := D) (U := U) (by rw [e]; exact hw) hb]
      rw [e]; rfl
theorem s_groundsIn (hS : mb_S n h) (x : Int32) : mb_PI ["java/lang/IndexOutOfBoundsException"] (F_X5_groundsIn x h) (F_X6_groundsIn x) (mb_S (n + 1)) := by
  obtain ⟨-, -, B, K, T, D, U, hw, r, -⟩ := id hS
  have hK := hw.K20
  rcases px_ix x (N := K) (by omega) with q | ⟨b, hb, rfl⟩
  · refine q_thr (j := 0) (b := 0) (E := "java/lang/IndexOutOfBoundsException") hS rfl ?_ ?_
    · unfold F_X5_groundsIn
      rw [c5_checkBoat r hw, q, if_neg (by decide)]; rfl
    · unfold F_X6_groundsIn B_X6_groundsIn_14
      rw [m6_isBoat hw.z, q]
      simp only [px_cI, px_cIx, px_cV, px_cVx, px_cL, px_cLx, px_cR0, px_cR1, px_cRx, px_lI, px_lL, px_up, px_gZ0, px_gZ1, px_gZb, px_g0, px_g1, px_g2, px_g3, px_g4, px_g5, px_g6, px_g7, px_g8, px_g9, px_g10, px_g11, px_g12, px_g13, px_g14, px_c0, px_c1, px_c2, px_c3, px_c4, px_c5, px_c6, px_c7, px_c8, px_c9, px_c10, px_c11, px_c12, px_c13, px_c14]
      rw [if_pos (by rfl), m6_refused1 1 (by decide)]; rfl
  · refine q_ret (v := mb_oi (sp_gr (h.1 20 0 0) T D b)) hS ?_ (fun g hg => ?_)
    · unfold F_X5_groundsIn
      rw [c5_checkBoat r hw, px_ixt hb (by omega), if_pos rfl]
      simp only [px_cI, px_cIx, px_cV, px_cVx, px_cL, px_cLx, px_cR0, px_cR1, px_cRx, px_lI, px_lL, px_up, px_gZ0, px_gZ1, px_gZb, px_g0, px_g1, px_g2, px_g3, px_g4, px_g5, px_g6, px_g7, px_g8, px_g9, px_g10, px_g11, px_g12, px_g13, px_g14, px_c0, px_c1, px_c2, px_c3, px_c4, px_c5, px_c6, px_c7, px_c8, px_c9, px_c10, px_c11, px_c12, px_c13, px_c14]
      rw [px_gB (show b < 20 by omega) (by decide), nI_clamp (by omega), c2_daysUntilAground r hw hb]; rfl
    · unfold F_X6_groundsIn B_X6_groundsIn_14
      have e := px_w hg 0
      rw [m6_isBoat (h := g) (B := B) (K := K) (T := T) (by rw [hg]; exact hw.z), px_ixt hb (by omega)]
      simp only [px_cI, px_cIx, px_cV, px_cVx, px_cL, px_cLx, px_cR0, px_cR1, px_cRx, px_lI, px_lL, px_up, px_gZ0, px_gZ1, px_gZb, px_g0, px_g1, px_g2, px_g3, px_g4, px_g5, px_g6, px_g7, px_g8, px_g9, px_g10, px_g11, px_g12, px_g13, px_g14, px_c0, px_c1, px_c2, px_c3, px_c4, px_c5, px_c6, px_c7, px_c8, px_c9, px_c10, px_c11, px_c12, px_c13, px_c14]
      rw [if_neg (by decide), m6_refused0]
      simp only [px_cI, px_cIx, px_cV, px_cVx, px_cL, px_cLx, px_cR0, px_cR1, px_cRx, px_lI, px_lL, px_up, px_gZ0, px_gZ1, px_gZb, px_g0, px_g1, px_g2, px_g3, px_g4, px_g5, px_g6, px_g7, px_g8, px_g9, px_g10, px_g11, px_g12, px_g13, px_g14, px_c0, px_c1, px_c2, px_c3, px_c4, px_c5, px_c6, px_c7, px_c8, px_c9, px_c10, px_c11, px_c12, px_c13, px_c14, m6_grounds (h := mb_sI g 6 0 0 4 0) (B := B) (K := K) (T := T) (D := D) (U := U) (by rw [e]; exact hw) hb]
      rw [e]; rfl
theorem c5_both (r : mb_RM h 0 w B K T) (hw : mb_W w B K T D U) (x y : Int32) (K9 : mb_AH → Option mb_RS) : mb_cV (F_X5_checkBoat x h) (fun h1 => mb_cV (F_X5_checkBerth y h1) K9) = if (mb_ix x K && mb_ix y B) = true then K9 h else mb_rX "java/lang/IndexOutOfBoundsException" h := by
  rw [c5_checkBoat r hw]
  cases mb_ix x K with
  | false => rfl
  | true =>
    rw [if_pos rfl, px_cV, c5_checkBerth r hw]
    cases mb_ix y B <;> rfl
theorem px_both {x y : Int32} {K B : Nat} (hK : K < 2 ^ 31) (hB : B < 2 ^ 31) : (mb_ix x K && mb_ix y B) = false ∨ ∃ k b, k < K ∧ b < B ∧ x = nI k ∧ y = nI b := by
  rcases px_ix x hK with q | ⟨k, hk, e⟩
  · left; rw [q]; rfl
  · rcases px_ix y hB with q | ⟨b, hb, e2⟩
    · left; rw [q, Bool.and_false]
    · exact Or.inr ⟨k, b, hk, hb, e, e2⟩
theorem s_fits (hS : mb_S n h) (x y : Int32) : mb_PZ ["java/lang/IndexOutOfBoundsException"] (F_X5_fits x y h) (F_X6_fits x y) (mb_S (n + 1)) := by
  obtain ⟨-, -, B, K, T, D, U, hw, r, -⟩ := id hS
  have hK := hw.K20
  have hB := hw.B16
  rcases px_both (x := x) (y := y) (K := K) (B := B) (by omega) (by omega) with q | ⟨k, b, hk, hb, rfl, rfl⟩
  · refine Or.inr (Or.inr ⟨0, "java/lang/IndexOutOfBoundsException", h, 0, mb_sI h 6 0 0 4 1, rfl, ?_, ?_, mb_sI_s _ _ _ _ _ _, (hS.up (Nat.le_succ n)).ref _⟩)
    · unfold F_X5_fits
      rw [c5_both r hw, q, if_neg (by decide)]
    · unfold F_X6_fits B_X6_fits_15
      rw [m6_areBoth hw.z, q]
      simp only [px_cI, px_cIx, px_cV, px_cVx, px_cL, px_cLx, px_cR0, px_cR1, px_cRx, px_lI, px_lL, px_up, px_gZ0, px_gZ1, px_gZb, px_g0, px_g1, px_g2, px_g3, px_g4, px_g5, px_g6, px_g7, px_g8, px_g9, px_g10, px_g11, px_g12, px_g13, px_g14, px_c0, px_c1, px_c2, px_c3, px_c4, px_c5, px_c6, px_c7, px_c8, px_c9, px_c10, px_c11, px_c12, px_c13, px_c14]
      rw [if_pos (by rfl), m6_refused1 1 (by decide)]; rfl
  · have h5 : F_X5_fits (nI k) (nI b) h = mb_rI (mb_b (sp_fit (h.1 20 0 0) T k b)) h := by
      unfold F_X5_fits
      rw [c5_both r hw, px_ixt hk (by omega), px_ixt hb (by omega), if_pos (by rfl), px_gB (show k < 20 by omega) (by decide), px_gB (show b < 16 by omega) (by decide), nI_clamp (by omega), nI_clamp (by omega), c2_suits r hk hb]
      simp only [px_cI, px_cIx, px_cV, px_cVx, px_cL, px_cLx, px_cR0, px_cR1, px_cRx, px_lI, px_lL, px_up, px_gZ0, px_gZ1, px_gZb, px_g0, px_g1, px_g2, px_g3, px_g4, px_g5, px_g6, px_g7, px_g8, px_g9, px_g10, px_g11, px_g12, px_g13, px_g14, px_c0, px_c1, px_c2, px_c3, px_c4, px_c5, px_c6, px_c7, px_c8, px_c9, px_c10, px_c11, px_c12, px_c13, px_c14]
    have h6 : ∀ g : mb_AH, g.1 = h.1 → F_X6_fits (nI k) (nI b) g = mb_rI (mb_b (sp_fit (h.1 20 0 0) T k b)) (mb_sI g 6 0 0 4 0) := by
      intro g hg
      unfold F_X6_fits B_X6_fits_15
      have e := px_w hg 0
      rw [m6_areBoth (h := g) (B := B) (K := K) (T := T) (by rw [hg]; exact hw.z), px_ixt hk (by omega), px_ixt hb (by omega)]
      simp only [px_cI, px_cIx, px_cV, px_cVx, px_cL, px_cLx, px_cR0, px_cR1, px_cRx, px_lI, px_lL, px_up, px_gZ0, px_gZ1, px_gZb, px_g0, px_g1, px_g2, px_g3, px_g4, px_g5, px_g6, px_g7, px_g8, px_g9, px_g10, px_g11, px_g12, px_g13, px_g14, px_c0, px_c1, px_c2, px_c3, px_c4, px_c5, px_c6, px_c7, px_c8, px_c9, px_c10, px_c11, px_c12, px_c13, px_c14]
      rw [if_neg (by decide), m6_refused0]
      simp only [px_cI, px_cIx, px_cV, px_cVx, px_cL, px_cLx, px_cR0, px_cR1, px_cRx, px_lI, px_lL, px_up, px_gZ0, px_gZ1, px_gZb, px_g0, px_g1, px_g2, px_g3, px_g4, px_g5, px_g6, px_g7, px_g8, px_g9, px_g10, px_g11, px_g12, px_g13, px_g14, px_c0, px_c1, px_c2, px_c3, px_c4, px_c5, px_c6, px_c7, px_c8, px_c9, px_c10, px_c11, px_c12, px_c13, px_c14, m6_isFit (h := mb_sI g 6 0 0 4 0) (B := B) (K := K) (T := T) (by rw [e]; exact hw.z) (show k < 20 by omega) (show b < 16 by omega)]
      rw [e]
      cases sp_fit (h.1 20 0 0) T k b <;> rfl
    cases hq : sp_fit (h.1 20 0 0) T k b with
    | false =>
      rw [hq] at h5 h6
      exact Or.inl ⟨h, mb_sI (mb_sL h 30 0 0 0 0) 6 0 0 4 0, h5, h6 _ rfl, mb_sI_s _ _ _ _ _ _, by simp [mb_sI, mb_sL], ((hS.up (Nat.le_succ n)).out _).ref _⟩
    | true =>
      rw [hq] at h5 h6
      exact Or.inr (Or.inl ⟨h, mb_sI (mb_sL h 30 0 0 0 1) 6 0 0 4 0, h5, h6 _ rfl, mb_sI_s _ _ _ _ _ _, by simp [mb_sI, mb_sL], ((hS.up (Nat.le_succ n)).out _).ref _⟩)
theorem s_missingDepth (hS : mb_S n h) (x y : Int32) : mb_PI ["java/lang/IndexOutOfBoundsException"] (F_X5_missingDepth x y h) (F_X6_missingDepth x y) (mb_S (n + 1)) := by
  obtain ⟨-, -, B, K, T, D, U, hw, r, -⟩ := id hS
  have hK := hw.K20
  have hB := hw.B16
  rcases px_both (x := x) (y := y) (K := K) (B := B) (by omega) (by omega) with q | ⟨k, b, hk, hb, rfl, rfl⟩
  · refine q_thr (j := 0) (b := 0) (E := "java/lang/IndexOutOfBoundsException") hS rfl ?_ ?_
    · unfold F_X5_missingDepth
      rw [c5_both r hw, q, if_neg (by decide)]
    · unfold F_X6_missingDepth B_X6_missingDepth_15
      rw [m6_areBoth hw.z, q]
      simp only [px_cI, px_cIx, px_cV, px_cVx, px_cL, px_cLx, px_cR0, px_cR1, px_cRx, px_lI, px_lL, px_up, px_gZ0, px_gZ1, px_gZb, px_g0, px_g1, px_g2, px_g3, px_g4, px_g5, px_g6, px_g7, px_g8, px_g9, px_g10, px_g11, px_g12, px_g13, px_g14, px_c0, px_c1, px_c2, px_c3, px_c4, px_c5, px_c6, px_c7, px_c8, px_c9, px_c10, px_c11, px_c12, px_c13, px_c14]
      rw [if_pos (by rfl), m6_refused1 1 (by decide)]; rfl
  · refine q_ret (v := if bo (h.1 20 0 0) k 0 ≤ bt (h.1 20 0 0) b 1 then (if bo (h.1 20 0 0) k 1 + h.1 20 0 0 0 - bt (h.1 20 0 0) b 0 - sp_low (h.1 20 0 0) (T - 1) ≤ 0 then 0 else bo (h.1 20 0 0) k 1 + h.1 20 0 0 0 - bt (h.1 20 0 0) b 0 - sp_low (h.1 20 0 0) (T - 1)) else -1) hS ?_ (fun g hg => ?_)
    · unfold F_X5_missingDepth F_X2_lackOfWater
      rw [c5_both r hw, px_ixt hk (by omega), px_ixt hb (by omega), if_pos (by rfl), px_gB (show k < 20 by omega) (by decide), px_gB (show b < 16 by omega) (by decide), nI_clamp (by omega), nI_clamp (by omega), (r.q hk).1, (r.q hk).2.1, (r.t hb).1, (r.t hb).2.1, r.f0, r.low, px_sub3]
      simp only [px_cI, px_cIx, px_cV, px_cVx, px_cL, px_cLx, px_cR0, px_cR1, px_cRx, px_lI, px_lL, px_up, px_gZ0, px_gZ1, px_gZb, px_g0, px_g1, px_g2, px_g3, px_g4, px_g5, px_g6, px_g7, px_g8, px_g9, px_g10, px_g11, px_g12, px_g13, px_g14, px_c0, px_c1, px_c2, px_c3, px_c4, px_c5, px_c6, px_c7, px_c8, px_c9, px_c10, px_c11, px_c12, px_c13, px_c14]
      by_cases q : bo (h.1 20 0 0) k 0 ≤ bt (h.1 20 0 0) b 1
      · rw [if_pos q, if_pos q]
        by_cases q2 : bo (h.1 20 0 0) k 1 + h.1 20 0 0 0 - bt (h.1 20 0 0) b 0 - sp_low (h.1 20 0 0) (T - 1) ≤ 0
        · rw [if_pos q2, if_neg (Int32.not_lt.mpr q2)]
        · rw [if_neg q2, if_pos (Int32.not_le.mp q2)]
      · rw [if_neg q, if_neg q]
    · unfold F_X6_missingDepth B_X6_missingDepth_15
      have e := px_w hg 0
      rw [m6_areBoth (h := g) (B := B) (K := K) (T := T) (by rw [hg]; exact hw.z), px_ixt hk (by omega), px_ixt hb (by omega)]
      simp only [px_cI, px_cIx, px_cV, px_cVx, px_cL, px_cLx, px_cR0, px_cR1, px_cRx, px_lI, px_lL, px_up, px_gZ0, px_gZ1, px_gZb, px_g0, px_g1, px_g2, px_g3, px_g4, px_g5, px_g6, px_g7, px_g8, px_g9, px_g10, px_g11, px_g12, px_g13, px_g14, px_c0, px_c1, px_c2, px_c3, px_c4, px_c5, px_c6, px_c7, px_c8, px_c9, px_c10, px_c11, px_c12, px_c13, px_c14]
      rw [if_neg (by decide), m6_refused0]
      simp only [px_cI, px_cIx, px_cV, px_cVx, px_cL, px_cLx, px_cR0, px_cR1, px_cRx, px_lI, px_lL, px_up, px_gZ0, px_gZ1, px_gZb, px_g0, px_g1, px_g2, px_g3, px_g4, px_g5, px_g6, px_g7, px_g8, px_g9, px_g10, px_g11, px_g12, px_g13, px_g14, px_c0, px_c1, px_c2, px_c3, px_c4, px_c5, px_c6, px_c7, px_c8, px_c9, px_c10, px_c11, px_c12, px_c13, px_c14, m6_isLong (show k < 20 by omega) (show b < 16 by omega), m6_missing (h := mb_sI g 6 0 0 4 0) (B := B) (K := K) (T := T) (by rw [e]; exact hw.z) (show k < 20 by omega) (show b < 16 by omega)]
      rw [e]
      by_cases q : bo (h.1 20 0 0) k 0 ≤ bt (h.1 20 0 0) b 1
      · rw [if_pos q, decide_eq_true q]; rfl
      · rw [if_neg q, decide_eq_false q]; rfl
end
