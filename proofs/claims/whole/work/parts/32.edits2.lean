/-! ===== pure: pay, change, setRate, set ===== -/
section
variable {h g : mb_AH} {w v : Nat → Int32} {B K T D U n o : Nat}
theorem px_of32 (x : Int32) : x.toInt64.toInt = x.toInt := Int32.toInt_toInt64 x
theorem px_add64 {x y : Int64} (h1 : -2 ^ 63 ≤ x.toInt + y.toInt) (h2 : x.toInt + y.toInt < 2 ^ 63) : (x + y).toInt = x.toInt + y.toInt := by
  rw [Int64.toInt_add, Int.bmod_eq_of_le (by omega) (by omega)]
theorem px_sub64 {x y : Int64} (h1 : -2 ^ 63 ≤ x.toInt - y.toInt) (h2 : x.toInt - y.toInt < 2 ^ 63) : (x - y).toInt = x.toInt - y.toInt := by
  rw [Int64.toInt_sub, Int.bmod_eq_of_le (by omega) (by omega)]
theorem px_mul64 {x y : Int64} (h1 : -2 ^ 63 ≤ x.toInt * y.toInt) (h2 : x.toInt * y.toInt < 2 ^ 63) : (x * y).toInt = x.toInt * y.toInt := by
  rw [Int64.toInt_mul, Int.bmod_eq_of_le (by omega) (by omega)]
theorem px_i32 {x : Int64} {m : Nat} (hx : x.toInt = m) (hm : m < 2 ^ 31) : x.toInt32 = nI m := by
  rw [← Int32.toInt_inj, nI_toInt hm, ← px_of32, lg_i2l_l2i (by omega) (by omega), hx]
theorem pay_num {p q a : Nat} (hp : p ≤ 100000) (hq : q < 1000000000) (ha : a < 2 ^ 31) :
    ((((nI p).toInt64 * 1000000000 + (nI q).toInt64) + (nI a).toInt64) / 1000000000).toInt32 = nI (p + (q + a) / 1000000000) ∧
    ((((nI p).toInt64 * 1000000000 + (nI q).toInt64) + (nI a).toInt64) - (((nI p).toInt64 * 1000000000 + (nI q).toInt64) + (nI a).toInt64) / 1000000000 * 1000000000).toInt32 = nI ((q + a) % 1000000000) ∧
    ((nI p).toInt64 * 1000000000 + (nI q).toInt64) + (nI a).toInt64 = (nI (p + (q + a) / 1000000000)).toInt64 * 1000000000 + (nI ((q + a) % 1000000000)).toInt64 := by
  have c9 : (1000000000 : Int64).toInt = 1000000000 := by decide
  have f : ∀ p2 q2 : Nat, p2 ≤ 100010 → q2 < 2 ^ 31 → ((nI p2).toInt64 * 1000000000 + (nI q2).toInt64).toInt = (p2 : Int) * 1000000000 + q2 := by
    intro p2 q2 h1 h2
    have m1 : ((nI p2).toInt64 * 1000000000).toInt = (p2 : Int) * 1000000000 := by
      rw [px_mul64, px_of32, nI_toInt (by omega), c9]
      · rw [px_of32, nI_toInt (by omega), c9]; omega
      · rw [px_of32, nI_toInt (by omega), c9]; omega
    rw [px_add64, m1, px_of32, nI_toInt h2]
    · rw [m1, px_of32, nI_toInt h2]; omega
    · rw [m1, px_of32, nI_toInt h2]; omega
  have s : (((nI p).toInt64 * 1000000000 + (nI q).toInt64) + (nI a).toInt64).toInt = ((p * 1000000000 + q + a : Nat) : Int) := by
    rw [px_add64, f p q (by omega) (by omega), px_of32, nI_toInt ha]
    · omega
    · rw [f p q (by omega) (by omega), px_of32, nI_toInt ha]; omega
    · rw [f p q (by omega) (by omega), px_of32, nI_toInt ha]; omega
  refine ⟨px_i32 ?_ (by omega), px_i32 ?_ (by omega), ?_⟩
  · rw [lg_ldiv_nonneg (by rw [s]; omega) (by rw [c9]; omega), s, c9]
    omega
  · have d : (((nI p).toInt64 * 1000000000 + (nI q).toInt64 + (nI a).toInt64) / 1000000000).toInt = ((p * 1000000000 + q + a : Nat) : Int) / 1000000000 := by rw [lg_ldiv_nonneg (by rw [s]; omega) (by rw [c9]; omega), s, c9]
    have m9 : (((nI p).toInt64 * 1000000000 + (nI q).toInt64 + (nI a).toInt64) / 1000000000 * 1000000000).toInt = ((p * 1000000000 + q + a : Nat) : Int) / 1000000000 * 1000000000 := by
      rw [px_mul64, d, c9]
      · rw [d, c9]; omega
      · rw [d, c9]; omega
    rw [px_sub64, m9, s]
    · omega
    · rw [m9, s]; omega
    · rw [m9, s]; omega
  · rw [← Int64.toInt_inj, s, f _ _ (by omega) (by omega)]
    omega
theorem px_in1 {y : Int32} {o9 : Nat} (ho : o9 < 2 ^ 31) (q : (decide ((1 : Int32) ≤ y) && decide (y ≤ nI o9)) = true) : ∃ a : Nat, y = nI a ∧ 1 ≤ a ∧ a ≤ o9 := by
  rw [Bool.and_eq_true, decide_eq_true_iff, decide_eq_true_iff] at q
  obtain ⟨q1, q2⟩ := q
  rw [Int32.le_iff_toInt_le, nI_toInt ho] at q2
  rw [Int32.le_iff_toInt_le, show (1 : Int32).toInt = 1 by decide] at q1
  obtain ⟨a, ha, rfl⟩ := nI_of (x := y) (by rw [Int32.lt_iff_toInt_lt, Int32.toInt_zero]; omega)
  rw [nI_toInt ha] at q1 q2
  exact ⟨a, rfl, by omega, by omega⟩
theorem px_sb {a b : Nat} (h : b ≤ a) : nI a - nI b = nI (a - b) := by
  obtain ⟨c, rfl⟩ : ∃ c, a = c + b := ⟨a - b, by omega⟩
  rw [show c + b - b = c by omega, ← nI_add]
  exact Int32.add_sub_cancel _ _
theorem s_pay (hn : n < 512) (hS : mb_S n h) (x y : Int32) : mb_PI ["java/lang/IndexOutOfBoundsException", "java/lang/IllegalArgumentException"] (F_X5_pay x y h) (F_X6_pay x y) (mb_S (n + 1)) := by
  obtain ⟨-, -, B, K, T, D, U, hw, r, lD, lU, ⟨p, ep, lp⟩, hH⟩ := id hS
  have hK := hw.K20; have hB := hw.B16
  rcases px_ix x (N := K) (by omega) with q | ⟨k, hk, rfl⟩
  · refine q_thr (j := 0) (b := 0) (E := "java/lang/IndexOutOfBoundsException") hS rfl ?_ ?_
    · unfold F_X5_pay
      rw [c5_checkBoat r hw, q, if_neg (by decide)]; rfl
    · unfold F_X6_pay B_X6_pay_33
      rw [m6_isBoat hw.z, q]
      simp only [px_cI, px_cIx, px_cV, px_cVx, px_cL, px_cLx, px_cR0, px_cR1, px_cRx, px_lI, px_lL, px_up, px_gZ0, px_gZ1, px_gZb, px_g0, px_g1, px_g2, px_g3, px_g4, px_g5, px_g6, px_g7, px_g8, px_g9, px_g10, px_g11, px_g12, px_g13, px_g14, px_c0, px_c1, px_c2, px_c3, px_c4, px_c5, px_c6, px_c7, px_c8, px_c9, px_c10, px_c11, px_c12, px_c13, px_c14]
      rw [if_pos (by rfl), m6_refused1 1 (by decide)]; rfl
  · have hk20 : k < 20 := by omega
    obtain ⟨a8, e8, l8⟩ := hw.ow hk
    obtain ⟨q9, e11, l11⟩ : ∃ q : Nat, h.1 20 0 0 11 = nI q ∧ q < 1000000000 := by
      obtain ⟨-, -, -, -, -, -, -, -, -, -, _, q, -, -, z1, z2⟩ := hw
      exact ⟨q, z1, z2⟩
    have h5 : F_X5_pay (nI k) y h = if (decide ((1 : Int32) ≤ y) && decide (y ≤ nI a8)) = true then mb_cV (F_X5_remember h) (fun h104 => mb_up (mb_sI h104 3 0 k 6 (h104.1 3 0 k 6 - y)) fun h105 => mb_up (mb_sL h105 1 0 0 13 (h105.2.1 1 0 0 13 + y.toInt64)) fun h106 => mb_rI (h106.1 3 0 k 6) h106) else mb_rX "java/lang/IllegalArgumentException" h := by
      unfold F_X5_pay
      rw [c5_checkBoat r hw, px_ixt hk (by omega), if_pos (by rfl)]
      simp only [px_cI, px_cIx, px_cV, px_cVx, px_cL, px_cLx, px_cR0, px_cR1, px_cRx, px_lI, px_lL, px_up, px_gZ0, px_gZ1, px_gZb, px_g0, px_g1, px_g2, px_g3, px_g4, px_g5, px_g6, px_g7, px_g8, px_g9, px_g10, px_g11, px_g12, px_g13, px_g14, px_c0, px_c1, px_c2, px_c3, px_c4, px_c5, px_c6, px_c7, px_c8, px_c9, px_c10, px_c11, px_c12, px_c13, px_c14]
      rw [px_gB hk20 (by decide), nI_clamp (by omega), (r.q hk).2.2.2.2.2.2, e8, c5_isWithin]
      simp only [px_cI, px_cIx, px_cV, px_cVx, px_cL, px_cLx, px_cR0, px_cR1, px_cRx, px_lI, px_lL, px_up, px_gZ0, px_gZ1, px_gZb, px_g0, px_g1, px_g2, px_g3, px_g4, px_g5, px_g6, px_g7, px_g8, px_g9, px_g10, px_g11, px_g12, px_g13, px_g14, px_c0, px_c1, px_c2, px_c3, px_c4, px_c5, px_c6, px_c7, px_c8, px_c9, px_c10, px_c11, px_c12, px_c13, px_c14]
      cases hq : (decide ((1 : Int32) ≤ y) && decide (y ≤ nI a8)) with
      | false => rw [if_pos (by rfl), if_neg (by decide)]
      | true => rw [if_neg (by decide), if_pos rfl]
    have h6 : ∀ g : mb_AH, g.1 20 = h.1 20 → F_X6_pay (nI k) y g = if (decide ((1 : Int32) ≤ y) && decide (y ≤ nI a8)) = true then B_X6_pay_33 (nI k) y 0 g else B_X6_pay_33 (nI k) y 2 g := by
      intro g hg
      have e : g.1 20 0 0 = h.1 20 0 0 := by rw [hg]
      have hzg : mb_W0 (g.1 20 0 0) B K T := by rw [e]; exact hw.z
      unfold F_X6_pay
      rw [m6_isBoat hzg, px_ixt hk (by omega)]
      simp only [px_cI, px_cIx, px_cV, px_cVx, px_cL, px_cLx, px_cR0, px_cR1, px_cRx, px_lI, px_lL, px_up, px_gZ0, px_gZ1, px_gZb, px_g0, px_g1, px_g2, px_g3, px_g4, px_g5, px_g6, px_g7, px_g8, px_g9, px_g10, px_g11, px_g12, px_g13, px_g14, px_c0, px_c1, px_c2, px_c3, px_c4, px_c5, px_c6, px_c7, px_c8, px_c9, px_c10, px_c11, px_c12, px_c13, px_c14, m6_oB hk20 (j := 8) (by decide) (y := 8) rfl]
      rw [if_neg (by decide), e, e8, m6_within]
      simp only [px_cI, px_cIx, px_cV, px_cVx, px_cL, px_cLx, px_cR0, px_cR1, px_cRx, px_lI, px_lL, px_up, px_gZ0, px_gZ1, px_gZb, px_g0, px_g1, px_g2, px_g3, px_g4, px_g5, px_g6, px_g7, px_g8, px_g9, px_g10, px_g11, px_g12, px_g13, px_g14, px_c0, px_c1, px_c2, px_c3, px_c4, px_c5, px_c6, px_c7, px_c8, px_c9, px_c10, px_c11, px_c12, px_c13, px_c14]
      cases hq : (decide ((1 : Int32) ≤ y) && decide (y ≤ nI a8)) with
      | false => rw [if_pos (by rfl), if_neg (by decide)]
      | true => rw [if_neg (by decide), if_pos rfl]
    by_cases q : (decide ((1 : Int32) ≤ y) && decide (y ≤ nI a8)) = true
    · rw [if_pos q] at h5
      obtain ⟨a, rfl, la1, la2⟩ := px_in1 l8 q
      obtain ⟨pn1, pn2, pn3⟩ := pay_num (p := p) (q := q9) (a := a) (by omega) l11 (by omega)
      have W1 := w8_W hw hk (a := a8 - a) (by omega)
      have H1 := w8_H hw hH k (nI (a8 - a))
      have ev : ∀ j, j ≠ 10 → j ≠ 11 → wr (wr (wb (h.1 20 0 0) k 8 (nI (a8 - a))) 10 (nI (p + (q9 + a) / 1000000000))) 11 (nI ((q9 + a) % 1000000000)) j = wb (h.1 20 0 0) k 8 (nI (a8 - a)) j := fun j h1 h2 => by rw [wr_o _ _ _ h2, wr_o _ _ _ h1]
      have ev10 : wr (wr (wb (h.1 20 0 0) k 8 (nI (a8 - a))) 10 (nI (p + (q9 + a) / 1000000000))) 11 (nI ((q9 + a) % 1000000000)) 10 = nI (p + (q9 + a) / 1000000000) := by rw [wr_o _ _ _ (by decide), wr_s]
      have ev11 : wr (wr (wb (h.1 20 0 0) k 8 (nI (a8 - a))) 10 (nI (p + (q9 + a) / 1000000000))) 11 (nI ((q9 + a) % 1000000000)) 11 = nI ((q9 + a) % 1000000000) := wr_s _ _ _
      have hvt : ∀ b j, b < B → j < 4 → bt (wr (wr (wb (h.1 20 0 0) k 8 (nI (a8 - a))) 10 (nI (p + (q9 + a) / 1000000000))) 11 (nI ((q9 + a) % 1000000000))) b j = bt (wb (h.1 20 0 0) k 8 (nI (a8 - a))) b j := fun b j hb hj => ev _ (by omega) (by omega)
      have W2 : mb_W (wr (wr (wb (h.1 20 0 0) k 8 (nI (a8 - a))) 10 (nI (p + (q9 + a) / 1000000000))) 11 (nI ((q9 + a) % 1000000000))) B K T D U := by
        refine W1.lo (fun j h1 h2 => ev j (by omega) (by omega)) (fun j h1 h2 => ev j (by omega) (by omega)) (fun j h1 => ev j (by omega) (by omega)) (fun b hb => ?_) ?_ ⟨_, _, ev10, by omega, ev11, by omega⟩
        · have := W1.berth hb
          unfold mb_nb9 at this ⊢
          rw [hvt b 0 hb (by decide), hvt b 1 hb (by decide), hvt b 2 hb (by decide), hvt b 3 hb (by decide)]
          exact this
        · rw [ev 0 (by decide) (by decide), ev 1 (by decide) (by decide), ev 2 (by decide) (by decide), ev 3 (by decide) (by decide)]
          exact W1.2.2.2.2.2.2.2.2.1
      refine s_mut (v := nI (a8 - a)) (w2 := _) hS r (fun g e1 rg fx => ?_) W2 (by omega) (by omega) ⟨_, ev10, by omega⟩ (fun k2 hk2 => (H1 k2 hk2).cg (W1.boat hk2).1 hB (ev 5 (by decide) (by decide)) (fun b hb => hvt b 1 hb (by decide)) (fun j hj => ev _ (by omega) (by omega))) (fun g9 g1 z9 z1 f1 => ?_)
      · have r1 := w8_RM rg hB hw.T14 hk (nI (a8 - a))
        have frA : mb_Fr 0 g (mb_sI g 3 0 k 6 (nI (a8 - a))) := mb_Fr.wI (k := 3) g k 6 _ (by decide)
        refine ⟨mb_sL (mb_sI g 3 0 k 6 (nI (a8 - a))) 1 0 0 13 (sp_paid (h.1 20 0 0) + (nI a).toInt64), ?_, frA.tr (mb_Fr.wL _ 0 13 _), ?_⟩
        · rw [h5, e1]
          simp only [px_cI, px_cIx, px_cV, px_cVx, px_cL, px_cLx, px_cR0, px_cR1, px_cRx, px_lI, px_lL, px_up, px_gZ0, px_gZ1, px_gZb, px_g0, px_g1, px_g2, px_g3, px_g4, px_g5, px_g6, px_g7, px_g8, px_g9, px_g10, px_g11, px_g12, px_g13, px_g14, px_c0, px_c1, px_c2, px_c3, px_c4, px_c5, px_c6, px_c7, px_c8, px_c9, px_c10, px_c11, px_c12, px_c13, px_c14]
          rw [(rg.q hk).2.2.2.2.2.2, e8, px_sb la2]
          rw [show (mb_sI g 3 0 k 6 (nI (a8 - a))).2.1 1 0 0 13 = g.2.1 1 0 0 13 from rfl, rg.paid]
          rw [show (mb_sL (mb_sI g 3 0 k 6 (nI (a8 - a))) 1 0 0 13 (sp_paid (h.1 20 0 0) + (nI a).toInt64)).1 3 0 k 6 = (mb_sI g 3 0 k 6 (nI (a8 - a))).1 3 0 k 6 from rfl, mb_sI_s]
        · refine r1.lo (g := mb_sL (mb_sI g 3 0 k 6 (nI (a8 - a))) 1 0 0 13 (sp_paid (h.1 20 0 0) + (nI a).toInt64)) hw.T1 hw.T14 (fun j h1 h2 => ev j (by omega) (by omega)) (fun j h1 h2 => ev j (by omega) (by omega)) (fun j h1 => ev j (by omega) (by omega)) (fun j _ => rfl) ?_ ?_ ?_ ?_ ?_ (fun b hb => ?_) rfl rfl
          · rw [ev 0 (by decide) (by decide)]; exact r1.f0
          · rw [ev 1 (by decide) (by decide)]; exact r1.f1
          · rw [ev 2 (by decide) (by decide)]; exact r1.f2
          · rw [ev 3 (by decide) (by decide)]; exact r1.f3
          · unfold sp_paid
            rw [ev10, ev11, ep, e11, ← pn3]
            simp [mb_sL]
          · unfold cp_t
            rw [hvt b 0 hb (by decide), hvt b 1 hb (by decide), hvt b 2 hb (by decide), hvt b 3 hb (by decide)]
            exact r1.t hb
      · refine ⟨mb_sI (mb_sI (mb_sI g1 20 0 0 (90 + 9 * k + 8) (nI (a8 - a))) 20 0 0 10 (nI (p + (q9 + a) / 1000000000))) 20 0 0 11 (nI ((q9 + a) % 1000000000)), ?_, fun i hi => by rw [mb_sI_o _ _ _ _ _ _ hi, mb_sI_o _ _ _ _ _ _ hi, mb_sI_o _ _ _ _ _ _ hi], rfl, fun j _ => by rw [m6_wr, m6_wr, m6_wr, z1]; rfl⟩
        rw [h6 g9 z9, if_pos q]
        unfold B_X6_pay_33
        rw [m6_refused0]
        simp only [px_cI, px_cIx, px_cV, px_cVx, px_cL, px_cLx, px_cR0, px_cR1, px_cRx, px_lI, px_lL, px_up, px_gZ0, px_gZ1, px_gZb, px_g0, px_g1, px_g2, px_g3, px_g4, px_g5, px_g6, px_g7, px_g8, px_g9, px_g10, px_g11, px_g12, px_g13, px_g14, px_c0, px_c1, px_c2, px_c3, px_c4, px_c5, px_c6, px_c7, px_c8, px_c9, px_c10, px_c11, px_c12, px_c13, px_c14, if_true]
        rw [f1]
        simp only [px_cI, px_cIx, px_cV, px_cVx, px_cL, px_cLx, px_cR0, px_cR1, px_cRx, px_lI, px_lL, px_up, px_gZ0, px_gZ1, px_gZb, px_g0, px_g1, px_g2, px_g3, px_g4, px_g5, px_g6, px_g7, px_g8, px_g9, px_g10, px_g11, px_g12, px_g13, px_g14, px_c0, px_c1, px_c2, px_c3, px_c4, px_c5, px_c6, px_c7, px_c8, px_c9, px_c10, px_c11, px_c12, px_c13, px_c14, m6_oB hk20 (j := 8) (by decide) (y := 8) rfl]
        rw [z1, e8, px_sb la2, (m6_setsw hk20 (j := 8) (y := 8) (by decide) rfl _ _).1]
        simp only [px_cI, px_cIx, px_cV, px_cVx, px_cL, px_cLx, px_cR0, px_cR1, px_cRx, px_lI, px_lL, px_up, px_gZ0, px_gZ1, px_gZb, px_g0, px_g1, px_g2, px_g3, px_g4, px_g5, px_g6, px_g7, px_g8, px_g9, px_g10, px_g11, px_g12, px_g13, px_g14, px_c0, px_c1, px_c2, px_c3, px_c4, px_c5, px_c6, px_c7, px_c8, px_c9, px_c10, px_c11, px_c12, px_c13, px_c14, m6_paidNow]
        rw [show sp_paid ((mb_sI g1 20 0 0 (90 + 9 * k + 8) (nI (a8 - a))).1 20 0 0) = (nI p).toInt64 * 1000000000 + (nI q9).toInt64 by unfold sp_paid; rw [mb_sI_j _ _ _ _ _ _ (by omega), mb_sI_j _ _ _ _ _ _ (by omega), z1, ep, e11], pn1, pn2]
        unfold mb_gL
        rw [if_neg (by decide), if_neg (by decide)]
        unfold bo
        rw [mb_sI_j _ _ _ _ _ _ (by omega), mb_sI_j _ _ _ _ _ _ (by omega), mb_sI_s]
    · rw [if_neg q] at h5
      refine q_thr (j := 1) (b := 0) (E := "java/lang/IllegalArgumentException") hS rfl h5 ?_
      rw [h6 h rfl, if_neg q]
      unfold B_X6_pay_33
      rw [m6_refused1 2 (by decide)]; rfl
end
