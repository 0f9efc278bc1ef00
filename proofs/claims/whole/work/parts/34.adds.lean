/-! ===== pure: change, addBerth, addBoat ===== -/
section
variable {h g : mb_AH} {w v : Nat → Int32} {B K T D U n o : Nat}
def sp_cc (w : Nat → Int32) (T i j : Nat) : Bool := (decide (bo w j 3 = 1) && sp_fit w T i (bo w j 4).toNatClampNeg) && (decide (bo w i 3 = 1) && sp_fit w T j (bo w i 4).toNatClampNeg)
theorem m6_canChange (hw : mb_W (h.1 20 0 0) B K T D U) {i j : Nat} (hi : i < K) (hj : j < K) : F_X6_canChange (nI i) (nI j) h = mb_rI (mb_b (sp_cc (h.1 20 0 0) T i j)) h := by
  have hK := hw.K20; have hB := hw.B16
  unfold F_X6_canChange B_X6_canChange_24 B_X6_canChange_25 sp_cc
  simp only [px_cI, px_cIx, px_cV, px_cVx, px_cL, px_cLx, px_cR0, px_cR1, px_cRx, px_lI, px_lL, px_up, px_gZ0, px_gZ1, px_gZb, px_g0, px_g1, px_g2, px_g3, px_g4, px_g5, px_g6, px_g7, px_g8, px_g9, px_g10, px_g11, px_g12, px_g13, px_g14, px_c0, px_c1, px_c2, px_c3, px_c4, px_c5, px_c6, px_c7, px_c8, px_c9, px_c10, px_c11, px_c12, px_c13, px_c14, m6_oB (show i < 20 by omega) (j := 3) (by decide) (y := 3) rfl, m6_oB (show j < 20 by omega) (j := 3) (by decide) (y := 3) rfl, m6_oB (show i < 20 by omega) (j := 4) (by decide) (y := 4) rfl, m6_oB (show j < 20 by omega) (j := 4) (by decide) (y := 4) rfl]
  rcases (hw.boat hi).1 with ⟨h3, b, hb, h4⟩ | ⟨h3, h4⟩
  · rw [if_pos h3, decide_eq_true h3]
    rcases (hw.boat hj).1 with ⟨g3, b2, hb2, g4⟩ | ⟨g3, g4⟩
    · rw [if_pos g3, decide_eq_true g3, h4, g4, if_neg (by decide), m6_isFit hw.z (by omega) (by omega), nI_clamp (by omega), nI_clamp (by omega)]
      simp only [px_cI, px_cIx, px_cV, px_cVx, px_cL, px_cLx, px_cR0, px_cR1, px_cRx, px_lI, px_lL, px_up, px_gZ0, px_gZ1, px_gZb, px_g0, px_g1, px_g2, px_g3, px_g4, px_g5, px_g6, px_g7, px_g8, px_g9, px_g10, px_g11, px_g12, px_g13, px_g14, px_c0, px_c1, px_c2, px_c3, px_c4, px_c5, px_c6, px_c7, px_c8, px_c9, px_c10, px_c11, px_c12, px_c13, px_c14]
      cases sp_fit (h.1 20 0 0) T i b2 with
      | false => rfl
      | true =>
        rw [if_neg (by decide), h4, m6_isFit hw.z (by omega) (by omega)]
        simp only [px_cI, px_cIx, px_cV, px_cVx, px_cL, px_cLx, px_cR0, px_cR1, px_cRx, px_lI, px_lL, px_up, px_gZ0, px_gZ1, px_gZb, px_g0, px_g1, px_g2, px_g3, px_g4, px_g5, px_g6, px_g7, px_g8, px_g9, px_g10, px_g11, px_g12, px_g13, px_g14, px_c0, px_c1, px_c2, px_c3, px_c4, px_c5, px_c6, px_c7, px_c8, px_c9, px_c10, px_c11, px_c12, px_c13, px_c14]
        cases sp_fit (h.1 20 0 0) T j b <;> rfl
    · rw [if_neg (sp_ne1 g3), decide_eq_false (sp_ne1 g3), if_pos trivial]; rfl
  · rw [if_neg (sp_ne1 h3), decide_eq_false (sp_ne1 h3), if_pos trivial, Bool.false_and, Bool.and_false]; rfl
/-- two boats change their berths -/
def wc (w : Nat → Int32) (i j : Nat) : Nat → Int32 := vm (vm w i 1 (bo w j 4)) j 1 (bo w i 4)
theorem wc_lo (w : Nat → Int32) (i j : Nat) {x : Nat} (hx : x < 90) : wc w i j x = w x := by
  unfold wc
  rw [vm_lo _ _ _ _ hx, vm_lo _ _ _ _ hx]
theorem wc_bo (w : Nat → Int32) (i j : Nat) (hij : i ≠ j) {k j2 : Nat} (hj2 : j2 < 9) : bo (wc w i j) k j2 = if k = j ∨ k = i then (if j2 = 3 then 1 else if j2 = 4 then bo w (if k = j then i else j) 4 else if j2 = 5 then 0 else if j2 = 7 then -1 else bo w k j2) else bo w k j2 := by
  unfold wc
  rw [vm_bo _ _ _ _ hj2, vm_bo _ _ _ _ hj2]
  by_cases q : k = j
  · subst q
    rw [if_pos rfl, if_pos (Or.inl rfl), if_pos rfl, if_neg (Ne.symm hij)]
  · rw [if_neg q, if_neg q]
    by_cases q2 : k = i
    · rw [if_pos q2, if_pos (Or.inr q2)]
    · rw [if_neg q2, if_neg (fun z => z.elim q q2)]
theorem wc_j (w : Nat → Int32) (i j : Nat) (hij : i ≠ j) {k j2 : Nat} (hj : j2 = 0 ∨ j2 = 1 ∨ j2 = 2 ∨ j2 = 6 ∨ j2 = 8) : bo (wc w i j) k j2 = bo w k j2 := by
  rw [wc_bo w i j hij (by omega)]
  split
  · rcases hj with rfl | rfl | rfl | rfl | rfl <;> rfl
  · rfl
theorem wc_W (hw : mb_W w B K T D U) {i j : Nat} (hij : i ≠ j) (hi : i < K) (hj : j < K) (hc : sp_cc w T i j = true) : mb_W (wc w i j) B K T D U := by
  have hK := hw.K20
  have c : bo w j 3 = 1 ∧ bo w i 3 = 1 := by
    unfold sp_cc at hc
    simp only [Bool.and_eq_true, decide_eq_true_iff] at hc
    exact ⟨hc.1.1, hc.2.1⟩
  have e3 : ∀ k, bo (wc w i j) k 3 = if k = j ∨ k = i then 1 else bo w k 3 := fun k => by rw [wc_bo w i j hij (by decide)]; rfl
  have e4 : ∀ k, bo (wc w i j) k 4 = if k = j ∨ k = i then bo w (if k = j then i else j) 4 else bo w k 4 := fun k => by rw [wc_bo w i j hij (by decide)]; rfl
  have e5 : ∀ k, bo (wc w i j) k 5 = if k = j ∨ k = i then 0 else bo w k 5 := fun k => by rw [wc_bo w i j hij (by decide)]; rfl
  have e3s : ∀ k, bo (wc w i j) k 3 = bo w k 3 := fun k => by
    rw [e3 k]
    split
    · rename_i z
      rcases z with z | z
      · rw [z, c.1]
      · rw [z, c.2]
    · rfl
  refine hw.boats (fun x hx _ => wc_lo w i j hx) (by rw [wc_lo w i j (by decide)]; exact hw.2.2.1.1) hw.2.2.1.2 (fun k hk => ?_) (fun k k2 hk hk2 h1 h2 q => ?_) (fun k k2 hk hk2 h1 h2 q => ?_)
  · obtain ⟨q1, q2, q3, q4⟩ := hw.boat hk
    refine ⟨?_, ?_, ?_, ?_⟩
    · unfold mb_at9 at q1 ⊢
      rw [e3 k, e4 k]
      by_cases z : k = j ∨ k = i
      · rw [if_pos z, if_pos z]
        left
        refine ⟨rfl, ?_⟩
        by_cases z2 : k = j
        · rw [if_pos z2]
          rcases (hw.boat hi).1 with ⟨-, z3⟩ | ⟨z3, -⟩
          · exact z3
          · exact absurd c.2 (sp_ne1 z3)
        · rw [if_neg z2]
          rcases (hw.boat hj).1 with ⟨-, z3⟩ | ⟨z3, -⟩
          · exact z3
          · exact absurd c.1 (sp_ne1 z3)
      · rw [if_neg z, if_neg z]; exact q1
    · unfold mb_hm9 at q2 ⊢
      rw [wc_bo w i j hij (by decide)]
      split
      · exact Or.inl rfl
      · exact q2
    · unfold mb_wt9 at q3 ⊢
      rw [e3s k, wc_j w i j hij (j2 := 6) (by decide), e5 k]
      by_cases z : k = j ∨ k = i
      · have : bo w k 3 = 1 := by
          rcases z with z | z
          · rw [z, c.1]
          · rw [z, c.2]
        rw [this, if_pos z]
        exact ⟨fun z => absurd z (by decide), fun _ => rfl⟩
      · rw [if_neg z]; exact q3
    · unfold mb_nu9 at q4 ⊢
      rw [wc_j w i j hij (by decide), wc_j w i j hij (by decide), wc_j w i j hij (by decide), wc_j w i j hij (by decide)]
      exact q4
  · rw [e3s] at h1 h2
    rw [e4, e4] at q
    have u := fun a b ha hb x y z => hw.2.2.2.2.2.1 a b ha hb x y z
    by_cases z1 : k = j
    · subst z1
      rw [if_pos (Or.inl rfl), if_pos rfl] at q
      by_cases z2 : k2 = k
      · exact z2.symm
      · by_cases z3 : k2 = i
        · subst z3
          rw [if_pos (Or.inr rfl), if_neg z2] at q
          exact (u _ _ hi hj c.2 c.1 q).symm
        · rw [if_neg (fun z => z.elim z2 z3)] at q
          exact absurd (u _ _ hi hk2 c.2 h2 q).symm z3
    · by_cases z2 : k = i
      · subst z2
        rw [if_pos (Or.inr rfl), if_neg z1] at q
        by_cases z3 : k2 = j
        · subst z3
          rw [if_pos (Or.inl rfl), if_pos rfl] at q
          exact (u _ _ hj hi c.1 c.2 q).symm
        · by_cases z4 : k2 = k
          · exact z4.symm
          · rw [if_neg (fun z => z.elim z3 z4)] at q
            exact absurd (u _ _ hj hk2 c.1 h2 q).symm z3
      · rw [if_neg (fun z => z.elim z1 z2)] at q
        by_cases z3 : k2 = j
        · subst z3
          rw [if_pos (Or.inl rfl), if_pos rfl] at q
          exact absurd (u _ _ hk hi h1 c.2 q) z2
        · by_cases z4 : k2 = i
          · subst z4
            rw [if_pos (Or.inr rfl), if_neg z3] at q
            exact absurd (u _ _ hk hj h1 c.1 q) z1
          · rw [if_neg (fun z => z.elim z3 z4)] at q
            exact u _ _ hk hk2 h1 h2 q
  · rw [e3s] at h1 h2
    rw [wc_j w i j hij (by decide), wc_j w i j hij (by decide)] at q
    exact hw.2.2.2.2.2.2.1 _ _ hk hk2 h1 h2 q
theorem wc_H (hw : mb_W w B K T D U) (hH : mb_H w K) {i j : Nat} (hij : i ≠ j) (hi : i < K) (hj : j < K) (hc : sp_cc w T i j = true) : mb_H (wc w i j) K := by
  have hB := hw.B16
  have c : (bo w j 3 = 1 ∧ sp_fit w T i (bo w j 4).toNatClampNeg = true) ∧ (bo w i 3 = 1 ∧ sp_fit w T j (bo w i 4).toNatClampNeg = true) := by
    unfold sp_cc at hc
    simp only [Bool.and_eq_true, decide_eq_true_iff] at hc
    exact hc
  have lt : ∀ k, k < K → bo w k 3 = 1 → (bo w k 4).toNatClampNeg < B := fun k hk q => by
    rcases (hw.boat hk).1 with ⟨-, b, hb, z⟩ | ⟨z3, -⟩
    · rw [z, nI_clamp (by omega)]; exact hb
    · exact absurd q (sp_ne1 z3)
  intro k hk
  by_cases z : k = j ∨ k = i
  · unfold mb_h9
    have e3 : bo (wc w i j) k 3 = 1 := by rw [wc_bo w i j hij (by decide), if_pos z]; rfl
    have e7 : bo (wc w i j) k 7 = -1 := by rw [wc_bo w i j hij (by decide), if_pos z]; rfl
    have e4 : bo (wc w i j) k 4 = bo w (if k = j then i else j) 4 := by rw [wc_bo w i j hij (by decide), if_pos z]; rfl
    rw [e3, e7, e4, wc_j w i j hij (j2 := 0) (by decide)]
    refine ⟨fun z => absurd rfl z, fun z => absurd z (by decide), fun _ => ?_⟩
    by_cases z1 : k = j
    · rw [if_pos z1, z1]
      have := lt i hi c.2.1
      unfold bt
      rw [wc_lo w i j (by omega)]
      exact sp_fit_len c.2.2
    · rw [if_neg z1, z.resolve_left z1]
      have := lt j hj c.1.1
      unfold bt
      rw [wc_lo w i j (by omega)]
      exact sp_fit_len c.1.2
  · exact (hH k hk).cg (hw.boat hk).1 hB (wc_lo w i j (by decide)) (fun b hb => wc_lo w i j (by omega)) (fun j2 hj2 => by rw [wc_bo w i j hij hj2, if_neg z])
theorem s_change (hS : mb_S n h) (x y : Int32) : mb_PI ["java/lang/IndexOutOfBoundsException", "java/lang/IllegalArgumentException", "java/lang/IllegalStateException"] (F_X5_change x y h) (F_X6_change x y) (mb_S (n + 1)) := by
  obtain ⟨-, -, B, K, T, D, U, hw, r, lD, lU, ⟨p, ep, lp⟩, hH⟩ := id hS
  have hK := hw.K20; have hB := hw.B16
  have r1 : ∀ g : mb_AH, B_X6_change_44 x y 1 g = mb_rI 0 (mb_sI g 6 0 0 4 1) := fun g => by
    unfold B_X6_change_44
    rw [m6_refused1 1 (by decide)]; rfl
  rcases px_ix x (N := K) (by omega) with q | ⟨i, hi, rfl⟩
  · refine q_thr (j := 0) (b := 0) (E := "java/lang/IndexOutOfBoundsException") hS rfl ?_ ?_
    · unfold F_X5_change
      rw [c5_checkBoat r hw, q, if_neg (by decide)]; rfl
    · unfold F_X6_change B_X6_change_17
      rw [m6_isBoat hw.z, q]
      simp only [px_cI, px_cIx, px_cV, px_cVx, px_cL, px_cLx, px_cR0, px_cR1, px_cRx, px_lI, px_lL, px_up, px_gZ0, px_gZ1, px_gZb, px_g0, px_g1, px_g2, px_g3, px_g4, px_g5, px_g6, px_g7, px_g8, px_g9, px_g10, px_g11, px_g12, px_g13, px_g14, px_c0, px_c1, px_c2, px_c3, px_c4, px_c5, px_c6, px_c7, px_c8, px_c9, px_c10, px_c11, px_c12, px_c13, px_c14]
      rw [if_pos (by rfl), r1]; rfl
  · rcases px_ix y (N := K) (by omega) with q | ⟨j, hj, rfl⟩
    · refine q_thr (j := 0) (b := 0) (E := "java/lang/IndexOutOfBoundsException") hS rfl ?_ ?_
      · unfold F_X5_change
        rw [c5_checkBoat r hw, px_ixt hi (by omega), if_pos rfl]
        simp only [px_cI, px_cIx, px_cV, px_cVx, px_cL, px_cLx, px_cR0, px_cR1, px_cRx, px_lI, px_lL, px_up, px_gZ0, px_gZ1, px_gZb, px_g0, px_g1, px_g2, px_g3, px_g4, px_g5, px_g6, px_g7, px_g8, px_g9, px_g10, px_g11, px_g12, px_g13, px_g14, px_c0, px_c1, px_c2, px_c3, px_c4, px_c5, px_c6, px_c7, px_c8, px_c9, px_c10, px_c11, px_c12, px_c13, px_c14]
        rw [c5_checkBoat r hw, q, if_neg (by decide)]; rfl
      · unfold F_X6_change B_X6_change_17
        rw [m6_isBoat hw.z, px_ixt hi (by omega)]
        simp only [px_cI, px_cIx, px_cV, px_cVx, px_cL, px_cLx, px_cR0, px_cR1, px_cRx, px_lI, px_lL, px_up, px_gZ0, px_gZ1, px_gZb, px_g0, px_g1, px_g2, px_g3, px_g4, px_g5, px_g6, px_g7, px_g8, px_g9, px_g10, px_g11, px_g12, px_g13, px_g14, px_c0, px_c1, px_c2, px_c3, px_c4, px_c5, px_c6, px_c7, px_c8, px_c9, px_c10, px_c11, px_c12, px_c13, px_c14]
        rw [if_neg (by decide), m6_isBoat hw.z, q]
        simp only [px_cI, px_cIx, px_cV, px_cVx, px_cL, px_cLx, px_cR0, px_cR1, px_cRx, px_lI, px_lL, px_up, px_gZ0, px_gZ1, px_gZb, px_g0, px_g1, px_g2, px_g3, px_g4, px_g5, px_g6, px_g7, px_g8, px_g9, px_g10, px_g11, px_g12, px_g13, px_g14, px_c0, px_c1, px_c2, px_c3, px_c4, px_c5, px_c6, px_c7, px_c8, px_c9, px_c10, px_c11, px_c12, px_c13, px_c14]
        rw [if_pos (by rfl), r1]; rfl
    · by_cases hij : i = j
      · subst hij
        refine q_thr (j := 1) (b := 0) (E := "java/lang/IllegalArgumentException") hS rfl ?_ ?_
        · unfold F_X5_change
          rw [c5_checkBoat r hw, px_ixt hi (by omega), if_pos rfl]
          simp only [px_cI, px_cIx, px_cV, px_cVx, px_cL, px_cLx, px_cR0, px_cR1, px_cRx, px_lI, px_lL, px_up, px_gZ0, px_gZ1, px_gZb, px_g0, px_g1, px_g2, px_g3, px_g4, px_g5, px_g6, px_g7, px_g8, px_g9, px_g10, px_g11, px_g12, px_g13, px_g14, px_c0, px_c1, px_c2, px_c3, px_c4, px_c5, px_c6, px_c7, px_c8, px_c9, px_c10, px_c11, px_c12, px_c13, px_c14]
          rw [c5_checkBoat r hw, px_ixt hi (by omega), if_pos rfl]
          simp only [px_cI, px_cIx, px_cV, px_cVx, px_cL, px_cLx, px_cR0, px_cR1, px_cRx, px_lI, px_lL, px_up, px_gZ0, px_gZ1, px_gZb, px_g0, px_g1, px_g2, px_g3, px_g4, px_g5, px_g6, px_g7, px_g8, px_g9, px_g10, px_g11, px_g12, px_g13, px_g14, px_c0, px_c1, px_c2, px_c3, px_c4, px_c5, px_c6, px_c7, px_c8, px_c9, px_c10, px_c11, px_c12, px_c13, px_c14]
          rw [if_pos trivial]
        · unfold F_X6_change
          rw [m6_isBoat hw.z, px_ixt hi (by omega)]
          simp only [px_cI, px_cIx, px_cV, px_cVx, px_cL, px_cLx, px_cR0, px_cR1, px_cRx, px_lI, px_lL, px_up, px_gZ0, px_gZ1, px_gZb, px_g0, px_g1, px_g2, px_g3, px_g4, px_g5, px_g6, px_g7, px_g8, px_g9, px_g10, px_g11, px_g12, px_g13, px_g14, px_c0, px_c1, px_c2, px_c3, px_c4, px_c5, px_c6, px_c7, px_c8, px_c9, px_c10, px_c11, px_c12, px_c13, px_c14]
          rw [if_neg (by decide), m6_isBoat hw.z, px_ixt hi (by omega)]
          simp only [px_cI, px_cIx, px_cV, px_cVx, px_cL, px_cLx, px_cR0, px_cR1, px_cRx, px_lI, px_lL, px_up, px_gZ0, px_gZ1, px_gZb, px_g0, px_g1, px_g2, px_g3, px_g4, px_g5, px_g6, px_g7, px_g8, px_g9, px_g10, px_g11, px_g12, px_g13, px_g14, px_c0, px_c1, px_c2, px_c3, px_c4, px_c5, px_c6, px_c7, px_c8, px_c9, px_c10, px_c11, px_c12, px_c13, px_c14]
          rw [if_neg (by decide), if_pos trivial]
          unfold B_X6_change_44
          rw [m6_refused1 2 (by decide)]; rfl
      · have hne : ¬ nI i = nI j := px_ne (by omega) (by omega) hij
        have hi20 : i < 20 := by omega
        have hj20 : j < 20 := by omega
        have h5 : F_X5_change (nI i) (nI j) h = if sp_cc (h.1 20 0 0) T i j = true then mb_cV (F_X5_remember h) (fun h107 => mb_lI (h107.1 3 0 i 4) fun y108 => mb_cV (F_X1_moveForGood 0 i 1 (h107.1 3 0 j 4) h107) fun h109 => mb_cV (F_X1_moveForGood 0 j 1 y108 h109) fun h110 => mb_rI (h110.1 3 0 i 4) h110) else mb_rX "java/lang/IllegalStateException" h := by
          unfold F_X5_change sp_cc
          rw [c5_checkBoat r hw, px_ixt hi (by omega), if_pos rfl]
          simp only [px_cI, px_cIx, px_cV, px_cVx, px_cL, px_cLx, px_cR0, px_cR1, px_cRx, px_lI, px_lL, px_up, px_gZ0, px_gZ1, px_gZb, px_g0, px_g1, px_g2, px_g3, px_g4, px_g5, px_g6, px_g7, px_g8, px_g9, px_g10, px_g11, px_g12, px_g13, px_g14, px_c0, px_c1, px_c2, px_c3, px_c4, px_c5, px_c6, px_c7, px_c8, px_c9, px_c10, px_c11, px_c12, px_c13, px_c14]
          rw [c5_checkBoat r hw, px_ixt hj (by omega), if_pos rfl]
          simp only [px_cI, px_cIx, px_cV, px_cVx, px_cL, px_cLx, px_cR0, px_cR1, px_cRx, px_lI, px_lL, px_up, px_gZ0, px_gZ1, px_gZb, px_g0, px_g1, px_g2, px_g3, px_g4, px_g5, px_g6, px_g7, px_g8, px_g9, px_g10, px_g11, px_g12, px_g13, px_g14, px_c0, px_c1, px_c2, px_c3, px_c4, px_c5, px_c6, px_c7, px_c8, px_c9, px_c10, px_c11, px_c12, px_c13, px_c14]
          rw [if_neg hne, px_gB hi20 (by decide), px_gB hj20 (by decide), nI_clamp (by omega), nI_clamp (by omega), c2_suitsBerthOf r hw hi hj]
          simp only [px_cI, px_cIx, px_cV, px_cVx, px_cL, px_cLx, px_cR0, px_cR1, px_cRx, px_lI, px_lL, px_up, px_gZ0, px_gZ1, px_gZb, px_g0, px_g1, px_g2, px_g3, px_g4, px_g5, px_g6, px_g7, px_g8, px_g9, px_g10, px_g11, px_g12, px_g13, px_g14, px_c0, px_c1, px_c2, px_c3, px_c4, px_c5, px_c6, px_c7, px_c8, px_c9, px_c10, px_c11, px_c12, px_c13, px_c14]
          rw [c2_suitsBerthOf r hw hj hi]
          simp only [px_cI, px_cIx, px_cV, px_cVx, px_cL, px_cLx, px_cR0, px_cR1, px_cRx, px_lI, px_lL, px_up, px_gZ0, px_gZ1, px_gZb, px_g0, px_g1, px_g2, px_g3, px_g4, px_g5, px_g6, px_g7, px_g8, px_g9, px_g10, px_g11, px_g12, px_g13, px_g14, px_c0, px_c1, px_c2, px_c3, px_c4, px_c5, px_c6, px_c7, px_c8, px_c9, px_c10, px_c11, px_c12, px_c13, px_c14]
          cases (decide (bo (h.1 20 0 0) j 3 = 1) && sp_fit (h.1 20 0 0) T i (bo (h.1 20 0 0) j 4).toNatClampNeg) with
          | false => rw [if_pos (by rfl), Bool.false_and, if_neg (by decide)]
          | true =>
            rw [if_neg (by decide)]
            cases (decide (bo (h.1 20 0 0) i 3 = 1) && sp_fit (h.1 20 0 0) T j (bo (h.1 20 0 0) i 4).toNatClampNeg) with
            | false => rw [if_pos (by rfl), if_neg (by decide)]
            | true => rw [if_neg (by decide), if_pos (by rfl)]
        have h6 : ∀ g : mb_AH, g.1 20 = h.1 20 → F_X6_change (nI i) (nI j) g = if sp_cc (h.1 20 0 0) T i j = true then B_X6_change_44 (nI i) (nI j) 0 g else B_X6_change_44 (nI i) (nI j) 3 g := by
          intro g hg
          have e : g.1 20 0 0 = h.1 20 0 0 := by rw [hg]
          have hwg : mb_W (g.1 20 0 0) B K T D U := by rw [e]; exact hw
          unfold F_X6_change
          rw [m6_isBoat hwg.z, px_ixt hi (by omega)]
          simp only [px_cI, px_cIx, px_cV, px_cVx, px_cL, px_cLx, px_cR0, px_cR1, px_cRx, px_lI, px_lL, px_up, px_gZ0, px_gZ1, px_gZb, px_g0, px_g1, px_g2, px_g3, px_g4, px_g5, px_g6, px_g7, px_g8, px_g9, px_g10, px_g11, px_g12, px_g13, px_g14, px_c0, px_c1, px_c2, px_c3, px_c4, px_c5, px_c6, px_c7, px_c8, px_c9, px_c10, px_c11, px_c12, px_c13, px_c14]
          rw [if_neg (by decide), m6_isBoat hwg.z, px_ixt hj (by omega)]
          simp only [px_cI, px_cIx, px_cV, px_cVx, px_cL, px_cLx, px_cR0, px_cR1, px_cRx, px_lI, px_lL, px_up, px_gZ0, px_gZ1, px_gZb, px_g0, px_g1, px_g2, px_g3, px_g4, px_g5, px_g6, px_g7, px_g8, px_g9, px_g10, px_g11, px_g12, px_g13, px_g14, px_c0, px_c1, px_c2, px_c3, px_c4, px_c5, px_c6, px_c7, px_c8, px_c9, px_c10, px_c11, px_c12, px_c13, px_c14]
          rw [if_neg (by decide), if_neg hne, m6_canChange hwg hi hj, e]
          simp only [px_cI, px_cIx, px_cV, px_cVx, px_cL, px_cLx, px_cR0, px_cR1, px_cRx, px_lI, px_lL, px_up, px_gZ0, px_gZ1, px_gZb, px_g0, px_g1, px_g2, px_g3, px_g4, px_g5, px_g6, px_g7, px_g8, px_g9, px_g10, px_g11, px_g12, px_g13, px_g14, px_c0, px_c1, px_c2, px_c3, px_c4, px_c5, px_c6, px_c7, px_c8, px_c9, px_c10, px_c11, px_c12, px_c13, px_c14]
          cases sp_cc (h.1 20 0 0) T i j with
          | false => rw [if_pos (by rfl), if_neg (by decide)]
          | true => rw [if_neg (by decide), if_pos rfl]
        by_cases q : sp_cc (h.1 20 0 0) T i j = true
        · rw [if_pos q] at h5
          refine s_mut (v := bo (h.1 20 0 0) j 4) (w2 := wc (h.1 20 0 0) i j) hS r (fun g e1 rg fx => ?_) (wc_W hw hij hi hj q) (by omega) (by omega) ⟨p, by rw [wc_lo _ _ _ (by decide)]; exact ep, by omega⟩ (wc_H hw hH hij hi hj q) (fun g9 g1 z9 z1 f1 => ?_)
          · obtain ⟨gA, eA, frA, A3, A2, A1⟩ := c1_move 0 i 1 (bo (h.1 20 0 0) j 4) g
            obtain ⟨gB, eB, frB, B3, B2, B1⟩ := c1_move 0 j 1 (bo (h.1 20 0 0) i 4) gA
            have rA := mv_RM rg hB hw.T14 hi (s := 1) (a := bo (h.1 20 0 0) j 4) (by decide) A3 A2 A1
            have rB := mv_RM rA hB hw.T14 hj (s := 1) (a := bo (h.1 20 0 0) i 4) (by decide) B3 B2 B1
            refine ⟨gB, ?_, frA.tr frB, rB⟩
            rw [h5, e1]
            simp only [px_cI, px_cIx, px_cV, px_cVx, px_cL, px_cLx, px_cR0, px_cR1, px_cRx, px_lI, px_lL, px_up, px_gZ0, px_gZ1, px_gZb, px_g0, px_g1, px_g2, px_g3, px_g4, px_g5, px_g6, px_g7, px_g8, px_g9, px_g10, px_g11, px_g12, px_g13, px_g14, px_c0, px_c1, px_c2, px_c3, px_c4, px_c5, px_c6, px_c7, px_c8, px_c9, px_c10, px_c11, px_c12, px_c13, px_c14]
            rw [(rg.q hi).2.2.2.2.1, (rg.q hj).2.2.2.2.1, eA]
            simp only [px_cI, px_cIx, px_cV, px_cVx, px_cL, px_cLx, px_cR0, px_cR1, px_cRx, px_lI, px_lL, px_up, px_gZ0, px_gZ1, px_gZb, px_g0, px_g1, px_g2, px_g3, px_g4, px_g5, px_g6, px_g7, px_g8, px_g9, px_g10, px_g11, px_g12, px_g13, px_g14, px_c0, px_c1, px_c2, px_c3, px_c4, px_c5, px_c6, px_c7, px_c8, px_c9, px_c10, px_c11, px_c12, px_c13, px_c14]
            rw [eB]
            simp only [px_cI, px_cIx, px_cV, px_cVx, px_cL, px_cLx, px_cR0, px_cR1, px_cRx, px_lI, px_lL, px_up, px_gZ0, px_gZ1, px_gZb, px_g0, px_g1, px_g2, px_g3, px_g4, px_g5, px_g6, px_g7, px_g8, px_g9, px_g10, px_g11, px_g12, px_g13, px_g14, px_c0, px_c1, px_c2, px_c3, px_c4, px_c5, px_c6, px_c7, px_c8, px_c9, px_c10, px_c11, px_c12, px_c13, px_c14]
            rw [B1, if_neg hij, A1, if_pos rfl]
            rfl
          · have f7 : ∀ (k : Nat) (hk : k < 20) (g2 : mb_AH) (x : Int32), F_X6_sets (nI k) 7 x g2 = mb_rV (mb_sI g2 20 0 0 (90 + 9 * k + 7) x) := fun k hk g2 x => (m6_setsw hk (j := 7) (y := 7) (by decide) rfl x g2).1
            have fp : ∀ (k : Nat) (hk : k < 20) (g2 : mb_AH) (x : Int32), F_X6_puts (nI k) 1 x g2 = mb_rV (mb_sI (mb_sI (mb_sI g2 20 0 0 (90 + 9 * k + 3) 1) 20 0 0 (90 + 9 * k + 4) x) 20 0 0 (90 + 9 * k + 5) 0) := fun k hk g2 x => by
              obtain ⟨-, z, -⟩ := m6_move hk 1 x g2
              exact z
            refine ⟨mb_sI (mb_sI (mb_sI (mb_sI (mb_sI (mb_sI (mb_sI (mb_sI g1 20 0 0 (90 + 9 * i + 3) 1) 20 0 0 (90 + 9 * i + 4) (bo (h.1 20 0 0) j 4)) 20 0 0 (90 + 9 * i + 5) 0) 20 0 0 (90 + 9 * j + 3) 1) 20 0 0 (90 + 9 * j + 4) (bo (h.1 20 0 0) i 4)) 20 0 0 (90 + 9 * j + 5) 0) 20 0 0 (90 + 9 * i + 7) (-1)) 20 0 0 (90 + 9 * j + 7) (-1), ?_, fun k hk => ?_, rfl, fun x _ => ?_⟩
            · rw [h6 g9 z9, if_pos q]
              unfold B_X6_change_44
              rw [m6_refused0]
              simp only [px_cI, px_cIx, px_cV, px_cVx, px_cL, px_cLx, px_cR0, px_cR1, px_cRx, px_lI, px_lL, px_up, px_gZ0, px_gZ1, px_gZb, px_g0, px_g1, px_g2, px_g3, px_g4, px_g5, px_g6, px_g7, px_g8, px_g9, px_g10, px_g11, px_g12, px_g13, px_g14, px_c0, px_c1, px_c2, px_c3, px_c4, px_c5, px_c6, px_c7, px_c8, px_c9, px_c10, px_c11, px_c12, px_c13, px_c14, if_true, m6_oB hi20 (j := 4) (by decide) (y := 4) rfl, m6_oB hj20 (j := 4) (by decide) (y := 4) rfl]
              rw [f1, px_s20, z9]
              simp only [px_cI, px_cIx, px_cV, px_cVx, px_cL, px_cLx, px_cR0, px_cR1, px_cRx, px_lI, px_lL, px_up, px_gZ0, px_gZ1, px_gZb, px_g0, px_g1, px_g2, px_g3, px_g4, px_g5, px_g6, px_g7, px_g8, px_g9, px_g10, px_g11, px_g12, px_g13, px_g14, px_c0, px_c1, px_c2, px_c3, px_c4, px_c5, px_c6, px_c7, px_c8, px_c9, px_c10, px_c11, px_c12, px_c13, px_c14, fp i hi20, fp j hj20, f7 i hi20, f7 j hj20]
            · simp only [mb_sI_o _ _ _ _ _ _ hk]
            · simp only [m6_wr, z1]
              unfold wc vm
              simp only [wb_wr, wr]
              by_cases t1 : x = 90 + 9 * i + 7
              · rw [if_neg (by omega), if_pos t1, if_neg (by omega), if_neg (by omega), if_neg (by omega), if_neg (by omega), if_pos t1]
              · rw [if_neg t1, if_neg t1]
        · rw [if_neg q] at h5
          refine q_thr (j := 2) (b := 0) (E := "java/lang/IllegalStateException") hS rfl h5 ?_
          rw [h6 h rfl, if_neg q]
          unfold B_X6_change_44
          rw [m6_refused1 3 (by decide)]; rfl
end
