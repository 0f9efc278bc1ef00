/-! ===== pure: charge, pay, change, setRate, set, addBerth, addBoat ===== -/
def wr (w : Nat → Int32) (i : Nat) (x : Int32) : Nat → Int32 := fun j => if j = i then x else w j
theorem wr_s (w : Nat → Int32) (i : Nat) (x : Int32) : wr w i x i = x := if_pos rfl
theorem wr_o (w : Nat → Int32) (i : Nat) (x : Int32) {j : Nat} (hj : j ≠ i) : wr w i x j = w j := if_neg hj
theorem m6_wr (g : mb_AH) (i : Nat) (x : Int32) : (mb_sI g 20 0 0 i x).1 20 0 0 = wr (g.1 20 0 0) i x := by
  funext j
  simp [mb_sI, wr]
theorem wb_wr (w : Nat → Int32) (k j : Nat) (x : Int32) : wb w k j x = wr w (90 + 9 * k + j) x := rfl
section
variable {h g : mb_AH} {w v : Nat → Int32} {B K T D U n o : Nat}
/-- the cells before the boats are new, the sizes, the day, the winter, the table are not -/
theorem mb_W.lo (h : mb_W w B K T D U) (e : ∀ j, 4 ≤ j → j < 10 → v j = w j) (el : ∀ j, 12 ≤ j → j < 26 → v j = w j) (eb : ∀ j, 90 ≤ j → v j = w j) (hb : ∀ b, b < B → mb_nb9 v b) (hg : ∃ c r x y : Nat, v 0 = nI c ∧ c ≤ 100 ∧ v 1 = nI r ∧ r ≤ 9999999 ∧ v 2 = nI x ∧ x < 360 ∧ v 3 = nI y ∧ y < 360 ∧ x ≠ y) (hp : ∃ p q : Nat, v 10 = nI p ∧ p ≤ 100000 ∧ v 11 = nI q ∧ q < 1000000000) : mb_W v B K T D U := by
  have hT := h.T14
  have eo : ∀ k j, bo v k j = bo w k j := fun k j => eb _ (by omega)
  obtain ⟨z, ⟨d1, d2⟩, ⟨u1, u2⟩, a, b, c1, c2, l, -, wi, -⟩ := h
  refine ⟨?_, ⟨by rw [e 4 (by decide) (by decide)]; exact d1, d2⟩, ⟨by rw [e 9 (by decide) (by decide)]; exact u1, u2⟩, fun k hk => ?_, hb, fun k j hk hj => ?_, fun k j hk hj => ?_, fun k hk => ?_, hg, by rw [e 5 (by decide) (by decide)]; exact wi, hp⟩
  · unfold mb_W0 at z ⊢
    rw [e 6 (by decide) (by decide), e 7 (by decide) (by decide), e 8 (by decide) (by decide)]
    exact z
  · have := a k hk
    unfold mb_at9 mb_hm9 mb_wt9 mb_nu9 at this ⊢
    simp only [eo]
    exact this
  · simp only [eo]
    exact c1 k j hk hj
  · simp only [eo]
    exact c2 k j hk hj
  · rw [el _ (by omega) (by omega)]
    exact l k hk
theorem mb_RM.lo (r : mb_RM h o w B K T) (hT1 : 1 ≤ T) (hT : T ≤ 14) (e : ∀ j, 4 ≤ j → j < 10 → v j = w j) (el : ∀ j, 12 ≤ j → j < 26 → v j = w j) (eb : ∀ j, 90 ≤ j → v j = w j) (f : ∀ j, j < 7 ∨ 11 ≤ j → g.1 1 o 0 j = h.1 1 o 0 j) (f0 : g.1 1 o 0 7 = v 0) (f1 : g.1 1 o 0 8 = v 1) (f2 : g.1 1 o 0 9 = v 2) (f3 : g.1 1 o 0 10 = v 3) (fp : g.2.1 1 o 0 13 = sp_paid v) (ft : ∀ b, b < B → cp_t g o v b) (f4 : g.1 3 o = h.1 3 o) (f5 : g.1 12 o = h.1 12 o) : mb_RM g o v B K T := by
  obtain ⟨⟨c0, c1, c2, c3, c4, c5, c6, c7, c8, c9⟩, p, lo, l, t, b⟩ := r
  have eo : ∀ k j, bo v k j = bo w k j := fun k j => eb _ (by omega)
  have elow : ∀ m, m < 14 → sp_low v m = sp_low w m := by
    intro m
    induction m with
    | zero => intro _; exact el 12 (by decide) (by decide)
    | succ m ih =>
      intro hm
      show (if v (12 + (m + 1)) < sp_low v m then v (12 + (m + 1)) else sp_low v m) = (if w (12 + (m + 1)) < sp_low w m then w (12 + (m + 1)) else sp_low w m)
      rw [el _ (by omega) (by omega), ih (by omega)]
  refine ⟨⟨f0, f1, f2, f3, ?_, ?_, ?_, ?_, ?_, ?_⟩, fp, ?_, fun k hk => ?_, ft, fun k hk => ?_⟩
  · rw [f _ (by decide), e _ (by decide) (by decide)]; exact c4
  · rw [f _ (by decide), e _ (by decide) (by decide)]; exact c5
  · rw [f _ (by decide), e _ (by decide) (by decide)]; exact c6
  · rw [f _ (by decide), e _ (by decide) (by decide)]; exact c7
  · rw [f _ (by decide), e _ (by decide) (by decide)]; exact c8
  · rw [f _ (by decide), e _ (by decide) (by decide)]; exact c9
  · rw [f _ (by decide), elow _ (by omega)]; exact lo
  · rw [f5, el _ (by omega) (by omega)]; exact l k hk
  · rw [f4]
    simp only [eo, e 4 (by decide) (by decide)]
    exact b k hk
/-- what a boat owes is new -/
theorem w8_bo (w : Nat → Int32) (k : Nat) (x : Int32) {k2 j2 : Nat} (hj2 : j2 < 9) : bo (wb w k 8 x) k2 j2 = if k2 = k ∧ j2 = 8 then x else bo w k2 j2 := wb_bo w k 8 x (by decide) hj2
theorem w8_W (hw : mb_W w B K T D U) {k : Nat} (hk : k < K) {a : Nat} (ha : a < 2 ^ 31) : mb_W (wb w k 8 (nI a)) B K T D U := by
  have hK := hw.K20
  have e : ∀ j, j < 8 → bo (wb w k 8 (nI a)) k j = bo w k j := fun j hj => by rw [w8_bo _ _ _ (by omega), if_neg (by omega)]
  obtain ⟨q1, q2, q3, q4⟩ := hw.boat hk
  refine hw.boat1 (k0 := k) (fun j hj _ => wb_lo _ _ _ _ hj) (by rw [wb_lo _ _ _ _ (by decide)]; exact hw.2.2.1.1) hw.2.2.1.2 (Nat.le_refl _) (fun k2 _ hne j hj => wb_other _ _ _ _ (by decide) hne hj) ⟨?_, ?_, ?_, ?_⟩ (fun k2 hk2 hne e1 e2 => ?_) (fun k2 hk2 hne e1 e2 => ?_)
  · unfold mb_at9 at q1 ⊢
    rw [e 3 (by decide), e 4 (by decide)]; exact q1
  · unfold mb_hm9 at q2 ⊢
    rw [e 7 (by decide)]; exact q2
  · unfold mb_wt9 at q3 ⊢
    rw [e 3 (by decide), e 5 (by decide), e 6 (by decide)]; exact q3
  · unfold mb_nu9 at q4 ⊢
    obtain ⟨a0, b0, c0, o0, x1, x2, x3, x4, x5, x6, x7, x8, -, -⟩ := q4
    rw [e 0 (by decide), e 1 (by decide), e 2 (by decide)]
    exact ⟨a0, b0, c0, a, x1, x2, x3, x4, x5, x6, x7, x8, by rw [w8_bo _ _ _ (by decide), if_pos ⟨rfl, rfl⟩], ha⟩
  · rw [e 3 (by decide)] at e2
    rw [e 4 (by decide)]
    exact fun z => hne (hw.2.2.2.2.2.1 k2 k hk2 hk e1 e2 z)
  · rw [e 3 (by decide)] at e2
    rw [e 6 (by decide)]
    exact fun z => hne (hw.2.2.2.2.2.2.1 k2 k hk2 hk e1 e2 z)
theorem w8_H (hw : mb_W w B K T D U) (hH : mb_H w K) (k : Nat) (x : Int32) : mb_H (wb w k 8 x) K := by
  have hB := hw.B16
  intro k2 hk2
  have e : ∀ j, j < 8 → bo (wb w k 8 x) k2 j = bo w k2 j := fun j hj => by rw [w8_bo _ _ _ (by omega), if_neg (by omega)]
  have := hH k2 hk2
  unfold mb_h9 at this ⊢
  rw [e 7 (by decide), e 3 (by decide), e 0 (by decide), e 4 (by decide), wb_lo _ _ _ _ (by decide)]
  refine ⟨this.1, this.2.1, fun q => ?_⟩
  have t := this.2.2 q
  rcases (hw.boat hk2).1 with ⟨h3, b, hb, h4⟩ | ⟨h3, h4⟩
  · rw [h4, nI_clamp (by omega)] at t ⊢
    unfold bt at t ⊢
    rw [wb_lo _ _ _ _ (by omega)]
    exact t
  · exact absurd q (sp_ne1 h3)
theorem w8_RM (r : mb_RM g o w B K T) (hB : B ≤ 16) (hT : T ≤ 14) {k : Nat} (hk : k < K) (x : Int32) : mb_RM (mb_sI g 3 o k 6 x) o (wb w k 8 x) B K T := by
  have e : ∀ j, j < 8 → bo (wb w k 8 x) k j = bo w k j := fun j hj => by rw [w8_bo _ _ _ (by omega), if_neg (by omega)]
  refine r.boat1 (k0 := k) hB hT (fun j hj _ => wb_lo _ _ _ _ hj) (by rw [mb_sI_o _ _ _ _ _ _ (by decide), wb_lo _ _ _ _ (by decide)]; exact r.f9) (fun k2 _ hne j hj => wb_other _ _ _ _ (by decide) hne hj) (fun j _ => by rw [mb_sI_o _ _ _ _ _ _ (by decide)]) (by rw [mb_sI_o _ _ _ _ _ _ (by decide)]) (fun k2 hne => by funext j; simp [mb_sI, hne]) (by rw [mb_sI_o _ _ _ _ _ _ (by decide)]) rfl ?_
  obtain ⟨a0, a1, a2, a3, a4, a5, a6⟩ := r.q hk
  have a7 := fun q => r.ow hk q
  have zz : ∀ j, j ≠ 6 → (mb_sI g 3 o k 6 x).1 3 o k j = g.1 3 o k j := fun j hj => mb_sI_j _ _ _ _ _ _ hj _ _ _
  unfold cp_b
  rw [e 0 (by decide), e 1 (by decide), e 2 (by decide), e 3 (by decide), e 4 (by decide), e 5 (by decide), e 6 (by decide), e 7 (by decide), wb_lo _ _ _ _ (by decide), zz 0 (by decide), zz 1 (by decide), zz 2 (by decide), zz 3 (by decide), zz 4 (by decide), zz 5 (by decide), zz 7 (by decide), zz 8 (by decide), mb_sI_s, w8_bo _ _ _ (by decide), if_pos ⟨rfl, rfl⟩]
  exact ⟨⟨a0, a1, a2, a3, a4, a5, rfl⟩, a7⟩
theorem px_more {o a : Nat} (ho : o < 2 ^ 31) (ha : a < 2 ^ 31) : ((0 : Int32) < lg_cmp ((nI o).toInt64 + (nI a).toInt64) 2147483647 ↔ ¬ o + a < 2 ^ 31) ∧ (nI a ≤ (2147483647 : Int32) - nI o ↔ o + a < 2 ^ 31) := by
  constructor
  · rw [lg_cmp_gt, Int64.lt_iff_toInt_lt, lg_i2l_add, nI_toInt ho, nI_toInt ha, show (2147483647 : Int64).toInt = 2147483647 by decide]
    omega
  · rw [Int32.le_iff_toInt_le, Int32.toInt_sub, nI_toInt ho, nI_toInt ha, show (2147483647 : Int32).toInt = 2147483647 by decide, Int.bmod_eq_of_le (by omega) (by omega)]
    omega
theorem mb_W.ow (hw : mb_W w B K T D U) {k : Nat} (hk : k < K) : ∃ a : Nat, bo w k 8 = nI a ∧ a < 2 ^ 31 := by
  obtain ⟨-, -, -, a, b, c, o9, -, -, -, -, -, -, -, -, e, l⟩ := hw.boat hk
  exact ⟨o9, e, l⟩
theorem s_charge (hn : n < 512) (hS : mb_S n h) (x y : Int32) : mb_PI ["java/lang/IndexOutOfBoundsException", "java/lang/IllegalArgumentException", "java/lang/IllegalStateException"] (F_X5_charge x y h) (F_X6_charge x y) (mb_S (n + 1)) := by
  obtain ⟨-, -, B, K, T, D, U, hw, r, lD, lU, ⟨p, ep, lp⟩, hH⟩ := id hS
  have hK := hw.K20; have hB := hw.B16
  rcases px_ix x (N := K) (by omega) with q | ⟨k, hk, rfl⟩
  · refine q_thr (j := 0) (b := 0) (E := "java/lang/IndexOutOfBoundsException") hS rfl ?_ ?_
    · unfold F_X5_charge
      rw [c5_checkBoat r hw, q, if_neg (by decide)]; rfl
    · unfold F_X6_charge B_X6_charge_40
      rw [m6_isBoat hw.z, q]
      simp only [px_cI, px_cIx, px_cV, px_cVx, px_cL, px_cLx, px_cR0, px_cR1, px_cRx, px_lI, px_lL, px_up, px_gZ0, px_gZ1, px_gZb, px_g0, px_g1, px_g2, px_g3, px_g4, px_g5, px_g6, px_g7, px_g8, px_g9, px_g10, px_g11, px_g12, px_g13, px_g14, px_c0, px_c1, px_c2, px_c3, px_c4, px_c5, px_c6, px_c7, px_c8, px_c9, px_c10, px_c11, px_c12, px_c13, px_c14]
      rw [if_pos (by rfl), m6_refused1 1 (by decide)]; rfl
  · have hk20 : k < 20 := by omega
    obtain ⟨a8, e8, l8⟩ := hw.ow hk
    by_cases q0 : 0 ≤ y
    · obtain ⟨a, ha, rfl⟩ := nI_of (Int32.not_lt.mpr q0)
      have pm := px_more l8 ha
      have h5 : F_X5_charge (nI k) (nI a) h = if a8 + a < 2 ^ 31 then mb_cV (F_X5_remember h) (fun h104 => mb_up (mb_sI h104 3 0 k 6 (h104.1 3 0 k 6 + nI a)) fun h105 => mb_rI (h105.1 3 0 k 6) h105) else mb_rX "java/lang/IllegalStateException" h := by
        unfold F_X5_charge F_X1_canOweMore
        rw [c5_checkBoat r hw, px_ixt hk (by omega), if_pos (by rfl)]
        simp only [px_cI, px_cIx, px_cV, px_cVx, px_cL, px_cLx, px_cR0, px_cR1, px_cRx, px_lI, px_lL, px_up, px_gZ0, px_gZ1, px_gZb, px_g0, px_g1, px_g2, px_g3, px_g4, px_g5, px_g6, px_g7, px_g8, px_g9, px_g10, px_g11, px_g12, px_g13, px_g14, px_c0, px_c1, px_c2, px_c3, px_c4, px_c5, px_c6, px_c7, px_c8, px_c9, px_c10, px_c11, px_c12, px_c13, px_c14]
        rw [if_pos q0, px_gB hk20 (by decide), nI_clamp (by omega), (r.q hk).2.2.2.2.2.2, e8]
        by_cases q : a8 + a < 2 ^ 31
        · rw [if_neg (fun z => pm.1.mp z q), if_pos q]
          simp only [px_cI, px_cIx, px_cV, px_cVx, px_cL, px_cLx, px_cR0, px_cR1, px_cRx, px_lI, px_lL, px_up, px_gZ0, px_gZ1, px_gZb, px_g0, px_g1, px_g2, px_g3, px_g4, px_g5, px_g6, px_g7, px_g8, px_g9, px_g10, px_g11, px_g12, px_g13, px_g14, px_c0, px_c1, px_c2, px_c3, px_c4, px_c5, px_c6, px_c7, px_c8, px_c9, px_c10, px_c11, px_c12, px_c13, px_c14]
          rw [if_neg (by decide)]
        · rw [if_pos (pm.1.mpr q), if_neg q]
          simp only [px_cI, px_cIx, px_cV, px_cVx, px_cL, px_cLx, px_cR0, px_cR1, px_cRx, px_lI, px_lL, px_up, px_gZ0, px_gZ1, px_gZb, px_g0, px_g1, px_g2, px_g3, px_g4, px_g5, px_g6, px_g7, px_g8, px_g9, px_g10, px_g11, px_g12, px_g13, px_g14, px_c0, px_c1, px_c2, px_c3, px_c4, px_c5, px_c6, px_c7, px_c8, px_c9, px_c10, px_c11, px_c12, px_c13, px_c14]
          rw [if_pos trivial]
      have h6 : ∀ g : mb_AH, g.1 20 = h.1 20 → F_X6_charge (nI k) (nI a) g = if a8 + a < 2 ^ 31 then B_X6_charge_40 (nI k) (nI a) 0 g else B_X6_charge_40 (nI k) (nI a) 3 g := by
        intro g hg
        have e : g.1 20 0 0 = h.1 20 0 0 := by rw [hg]
        have hzg : mb_W0 (g.1 20 0 0) B K T := by rw [e]; exact hw.z
        unfold F_X6_charge
        rw [m6_isBoat hzg, px_ixt hk (by omega)]
        simp only [px_cI, px_cIx, px_cV, px_cVx, px_cL, px_cLx, px_cR0, px_cR1, px_cRx, px_lI, px_lL, px_up, px_gZ0, px_gZ1, px_gZb, px_g0, px_g1, px_g2, px_g3, px_g4, px_g5, px_g6, px_g7, px_g8, px_g9, px_g10, px_g11, px_g12, px_g13, px_g14, px_c0, px_c1, px_c2, px_c3, px_c4, px_c5, px_c6, px_c7, px_c8, px_c9, px_c10, px_c11, px_c12, px_c13, px_c14, m6_oB hk20 (j := 8) (by decide) (y := 8) rfl]
        rw [if_neg (by decide), if_pos q0, e, e8]
        by_cases q : a8 + a < 2 ^ 31
        · rw [if_pos (pm.2.mpr q), if_pos q]
        · rw [if_neg (fun z => q (pm.2.mp z)), if_neg q]
      by_cases q : a8 + a < 2 ^ 31
      · rw [if_pos q] at h5
        refine s_mut (v := nI (a8 + a)) (w2 := wb (h.1 20 0 0) k 8 (nI (a8 + a))) hS r (fun g e1 rg fx => ?_) (w8_W hw hk q) (by omega) (by omega) ⟨p, by rw [wb_lo _ _ _ _ (by decide)]; exact ep, by omega⟩ (w8_H hw hH k _) (fun g9 g1 z9 z1 f1 => ?_)
        · refine ⟨mb_sI g 3 0 k 6 (nI (a8 + a)), ?_, mb_Fr.wI (k := 3) g k 6 _ (by decide), w8_RM rg hB hw.T14 hk _⟩
          rw [h5, e1]
          simp only [px_cI, px_cIx, px_cV, px_cVx, px_cL, px_cLx, px_cR0, px_cR1, px_cRx, px_lI, px_lL, px_up, px_gZ0, px_gZ1, px_gZb, px_g0, px_g1, px_g2, px_g3, px_g4, px_g5, px_g6, px_g7, px_g8, px_g9, px_g10, px_g11, px_g12, px_g13, px_g14, px_c0, px_c1, px_c2, px_c3, px_c4, px_c5, px_c6, px_c7, px_c8, px_c9, px_c10, px_c11, px_c12, px_c13, px_c14]
          rw [(rg.q hk).2.2.2.2.2.2, e8, nI_add, mb_sI_s]
        · refine ⟨mb_sI g1 20 0 0 (90 + 9 * k + 8) (nI (a8 + a)), ?_, fun i hi => mb_sI_o _ _ _ _ _ _ hi, rfl, fun j _ => by rw [m6_wr, z1]; rfl⟩
          rw [h6 g9 z9, if_pos q]
          unfold B_X6_charge_40
          rw [m6_refused0]
          simp only [px_cI, px_cIx, px_cV, px_cVx, px_cL, px_cLx, px_cR0, px_cR1, px_cRx, px_lI, px_lL, px_up, px_gZ0, px_gZ1, px_gZb, px_g0, px_g1, px_g2, px_g3, px_g4, px_g5, px_g6, px_g7, px_g8, px_g9, px_g10, px_g11, px_g12, px_g13, px_g14, px_c0, px_c1, px_c2, px_c3, px_c4, px_c5, px_c6, px_c7, px_c8, px_c9, px_c10, px_c11, px_c12, px_c13, px_c14, if_true]
          rw [f1]
          simp only [px_cI, px_cIx, px_cV, px_cVx, px_cL, px_cLx, px_cR0, px_cR1, px_cRx, px_lI, px_lL, px_up, px_gZ0, px_gZ1, px_gZb, px_g0, px_g1, px_g2, px_g3, px_g4, px_g5, px_g6, px_g7, px_g8, px_g9, px_g10, px_g11, px_g12, px_g13, px_g14, px_c0, px_c1, px_c2, px_c3, px_c4, px_c5, px_c6, px_c7, px_c8, px_c9, px_c10, px_c11, px_c12, px_c13, px_c14, m6_oB hk20 (j := 8) (by decide) (y := 8) rfl]
          rw [z1, e8, nI_add, (m6_setsw hk20 (j := 8) (y := 8) (by decide) rfl _ _).1]
          simp only [px_cI, px_cIx, px_cV, px_cVx, px_cL, px_cLx, px_cR0, px_cR1, px_cRx, px_lI, px_lL, px_up, px_gZ0, px_gZ1, px_gZb, px_g0, px_g1, px_g2, px_g3, px_g4, px_g5, px_g6, px_g7, px_g8, px_g9, px_g10, px_g11, px_g12, px_g13, px_g14, px_c0, px_c1, px_c2, px_c3, px_c4, px_c5, px_c6, px_c7, px_c8, px_c9, px_c10, px_c11, px_c12, px_c13, px_c14, m6_oB hk20 (j := 8) (by decide) (y := 8) rfl]
          unfold bo
          rw [mb_sI_s]
      · rw [if_neg q] at h5
        refine q_thr (j := 2) (b := 0) (E := "java/lang/IllegalStateException") hS rfl h5 ?_
        rw [h6 h rfl, if_neg q]
        unfold B_X6_charge_40
        rw [m6_refused1 3 (by decide)]; rfl
    · refine q_thr (j := 1) (b := 0) (E := "java/lang/IllegalArgumentException") hS rfl ?_ ?_
      · unfold F_X5_charge
        rw [c5_checkBoat r hw, px_ixt hk (by omega), if_pos (by rfl)]
        simp only [px_cI, px_cIx, px_cV, px_cVx, px_cL, px_cLx, px_cR0, px_cR1, px_cRx, px_lI, px_lL, px_up, px_gZ0, px_gZ1, px_gZb, px_g0, px_g1, px_g2, px_g3, px_g4, px_g5, px_g6, px_g7, px_g8, px_g9, px_g10, px_g11, px_g12, px_g13, px_g14, px_c0, px_c1, px_c2, px_c3, px_c4, px_c5, px_c6, px_c7, px_c8, px_c9, px_c10, px_c11, px_c12, px_c13, px_c14]
        rw [if_neg q0]
      · unfold F_X6_charge B_X6_charge_40
        rw [m6_isBoat hw.z, px_ixt hk (by omega)]
        simp only [px_cI, px_cIx, px_cV, px_cVx, px_cL, px_cLx, px_cR0, px_cR1, px_cRx, px_lI, px_lL, px_up, px_gZ0, px_gZ1, px_gZb, px_g0, px_g1, px_g2, px_g3, px_g4, px_g5, px_g6, px_g7, px_g8, px_g9, px_g10, px_g11, px_g12, px_g13, px_g14, px_c0, px_c1, px_c2, px_c3, px_c4, px_c5, px_c6, px_c7, px_c8, px_c9, px_c10, px_c11, px_c12, px_c13, px_c14]
        rw [if_neg (by decide), if_neg q0, m6_refused1 2 (by decide)]; rfl
end
