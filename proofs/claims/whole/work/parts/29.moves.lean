/-! ===== pure: moves of boats: place, leave, await, charge ===== -/
def vm (w : Nat → Int32) (k : Nat) (s a : Int32) : Nat → Int32 := wb (wb (wb (wb w k 3 s) k 4 a) k 5 0) k 7 (-1)
theorem vm_lo (w : Nat → Int32) (k : Nat) (s a : Int32) {i : Nat} (hi : i < 90) : vm w k s a i = w i := by
  unfold vm
  rw [wb_lo _ _ _ _ hi, wb_lo _ _ _ _ hi, wb_lo _ _ _ _ hi, wb_lo _ _ _ _ hi]
theorem vm_bo (w : Nat → Int32) (k : Nat) (s a : Int32) {k2 j2 : Nat} (hj2 : j2 < 9) : bo (vm w k s a) k2 j2 = if k2 = k then (if j2 = 3 then s else if j2 = 4 then a else if j2 = 5 then 0 else if j2 = 7 then -1 else bo w k2 j2) else bo w k2 j2 := by
  unfold vm
  rw [wb_bo _ _ _ _ (by decide) hj2, wb_bo _ _ _ _ (by decide) hj2, wb_bo _ _ _ _ (by decide) hj2, wb_bo _ _ _ _ (by decide) hj2]
  by_cases q : k2 = k
  · subst q
    simp only [true_and, if_true]
    rcases (show j2 = 0 ∨ j2 = 1 ∨ j2 = 2 ∨ j2 = 3 ∨ j2 = 4 ∨ j2 = 5 ∨ j2 = 6 ∨ j2 = 7 ∨ j2 = 8 by omega) with rfl | rfl | rfl | rfl | rfl | rfl | rfl | rfl | rfl <;> rfl
  · simp only [q, false_and, if_false]
theorem vm_j (w : Nat → Int32) (k : Nat) (s a : Int32) {j : Nat} (hj : j = 0 ∨ j = 1 ∨ j = 2 ∨ j = 6 ∨ j = 8) : bo (vm w k s a) k j = bo w k j := by
  rw [vm_bo w k s a (by omega), if_pos rfl]
  rcases hj with rfl | rfl | rfl | rfl | rfl <;> rfl
theorem vm_3 (w : Nat → Int32) (k : Nat) (s a : Int32) : bo (vm w k s a) k 3 = s := by rw [vm_bo w k s a (by decide), if_pos rfl]; rfl
theorem vm_4 (w : Nat → Int32) (k : Nat) (s a : Int32) : bo (vm w k s a) k 4 = a := by rw [vm_bo w k s a (by decide), if_pos rfl]; rfl
theorem vm_5 (w : Nat → Int32) (k : Nat) (s a : Int32) : bo (vm w k s a) k 5 = 0 := by rw [vm_bo w k s a (by decide), if_pos rfl]; rfl
theorem vm_7 (w : Nat → Int32) (k : Nat) (s a : Int32) : bo (vm w k s a) k 7 = -1 := by rw [vm_bo w k s a (by decide), if_pos rfl]; rfl
section
variable {h g : mb_AH} {w : Nat → Int32} {B K T D U n rc : Nat} {ws : Nat → Nat → Int32}
/-- the sizes are the row's own -/
theorem mb_W.same {B2 K2 T2 D2 U2 : Nat} (a : mb_W w B K T D U) (b : mb_W w B2 K2 T2 D2 U2) : B2 = B ∧ K2 = K ∧ T2 = T ∧ D2 = D ∧ U2 = U := by
  have h1 := a.B16; have h2 := b.B16; have h3 := a.K20; have h4 := b.K20; have h5 := a.T14; have h6 := b.T14; have h7 := a.dl; have h8 := b.dl
  have h9 := a.2.2.1.2; have h10 := b.2.2.1.2
  refine ⟨?_, ?_, ?_, ?_, ?_⟩
  · exact (nI_eq (by omega) (by omega)).mp (b.w6.symm.trans a.w6)
  · exact (nI_eq (by omega) (by omega)).mp (b.w7.symm.trans a.w7)
  · exact (nI_eq (by omega) (by omega)).mp (b.w8.symm.trans a.w8)
  · exact (nI_eq (by omega) (by omega)).mp (b.dy.symm.trans a.dy)
  · exact (nI_eq (by omega) (by omega)).mp (b.2.2.1.1.symm.trans a.2.2.1.1)
theorem mb_RM.fx (r : mb_RM h 0 w B K T) (f : mb_Fx h g) : mb_RM g 0 w B K T := r.cg (f.2.2.1 1 (by decide)) (f.2.2.1 2 (by decide)) (f.2.2.1 3 (by decide)) (f.2.2.1 12 (by decide)) f.2.2.2.1
theorem c1_move (o k : Nat) (s a : Int32) (g : mb_AH) : ∃ g5 : mb_AH, F_X1_moveForGood o k s a g = mb_rV g5 ∧ mb_Fr o g g5 ∧ (∀ i, i ≠ 3 → g5.1 i = g.1 i) ∧ g5.2 = g.2 ∧ ∀ k2 j, g5.1 3 o k2 j = if k2 = k then (if j = 3 then s else if j = 4 then a else if j = 5 then -1 else g.1 3 o k2 j) else g.1 3 o k2 j := by
  refine ⟨mb_sI (mb_sI (mb_sI g 3 o k 3 s) 3 o k 4 a) 3 o k 5 (-1), rfl, ((mb_Fr.wI (k := 3) g k 3 s (by decide)).tr (mb_Fr.wI (k := 3) _ k 4 a (by decide))).tr (mb_Fr.wI (k := 3) _ k 5 (-1) (by decide)), fun i hi => by rw [mb_sI_o _ _ _ _ _ _ hi, mb_sI_o _ _ _ _ _ _ hi, mb_sI_o _ _ _ _ _ _ hi], rfl, fun k2 j => ?_⟩
  simp only [mb_sI, true_and]
  by_cases q : k2 = k
  · subst q
    simp only [true_and, if_true]
    by_cases q5 : j = 5
    · subst q5; rfl
    · by_cases q4 : j = 4
      · subst q4; rfl
      · by_cases q3 : j = 3
        · subst q3; rfl
        · simp only [q5, q4, q3, if_false]
  · simp only [q, false_and, if_false]
/-- a boat that is moved for good -/
theorem mv_W (hw : mb_W w B K T D U) {k : Nat} (hk : k < K) {s a : Int32} (ok : (s = 1 ∧ ∃ b, b < B ∧ a = nI b ∧ sp_in w K (nI b) = none ∧ bo w k 0 ≤ bt w b 1) ∨ (s = 0 ∧ a = -1)) : mb_W (vm w k s a) B K T D U := by
  have hK := hw.K20
  have s2 : s ≠ 2 := by rcases ok with ⟨e, -⟩ | ⟨e, -⟩ <;> rw [e] <;> decide
  obtain ⟨-, -, -, nu⟩ := hw.boat hk
  refine hw.boat1 (k0 := k) (fun j hj _ => vm_lo w k s a hj) (by rw [vm_lo w k s a (by decide)]; exact hw.2.2.1.1) hw.2.2.1.2 (Nat.le_refl _) (fun k2 _ hne j hj => by rw [vm_bo w k s a hj, if_neg hne]) ⟨?_, ?_, ?_, ?_⟩ (fun k2 hk2 hne e1 e2 => ?_) (fun k2 hk2 hne e1 e2 => ?_)
  · unfold mb_at9
    rw [vm_3, vm_4]
    rcases ok with ⟨e, b, hb, ea, -, -⟩ | ⟨e, ea⟩
    · exact Or.inl ⟨e, b, hb, ea⟩
    · exact Or.inr ⟨Or.inl e, ea⟩
  · unfold mb_hm9
    rw [vm_7]
    exact Or.inl rfl
  · unfold mb_wt9
    rw [vm_3, vm_5]
    exact ⟨fun e => absurd e s2, fun _ => rfl⟩
  · unfold mb_nu9 at nu ⊢
    rw [vm_j w k s a (by decide), vm_j w k s a (by decide), vm_j w k s a (by decide), vm_j w k s a (by decide)]
    exact nu
  · rw [vm_3] at e2
    rw [vm_4]
    intro q
    rcases ok with ⟨-, b, hb, ea, hn, -⟩ | ⟨e, -⟩
    · have := sp_find_none hn k2 (Nat.zero_le _) (by omega)
      rw [e1, q, ea] at this
      simp at this
    · rw [e] at e2; exact absurd e2 (by decide)
  · rw [vm_3] at e2
    exact absurd e2 s2
theorem mv_RM {o : Nat} (r : mb_RM g o w B K T) (hB : B ≤ 16) (hT : T ≤ 14) {k : Nat} (hk : k < K) {s a : Int32} (s2 : s ≠ 2) {g5 : mb_AH} (o3 : ∀ i, i ≠ 3 → g5.1 i = g.1 i) (o2 : g5.2 = g.2) (o1 : ∀ k2 j, g5.1 3 o k2 j = if k2 = k then (if j = 3 then s else if j = 4 then a else if j = 5 then -1 else g.1 3 o k2 j) else g.1 3 o k2 j) : mb_RM g5 o (vm w k s a) B K T := by
  refine r.boat1 (k0 := k) hB hT (fun j hj _ => vm_lo w k s a hj) (by rw [o3 1 (by decide), vm_lo w k s a (by decide)]; exact r.f9) (fun k2 _ hne j hj => by rw [vm_bo w k s a hj, if_neg hne]) (fun j _ => by rw [o3 1 (by decide)]) (by rw [o3 2 (by decide)]) (fun k2 hne => by funext j; rw [o1 k2 j, if_neg hne]) (by rw [o3 12 (by decide)]) (by rw [o2]) ?_
  obtain ⟨a0, a1, a2, a3, a4, a5, a6⟩ := r.q hk
  unfold cp_b
  rw [vm_3, vm_4, vm_5, vm_7, vm_j w k s a (j := 0) (by decide), vm_j w k s a (j := 1) (by decide), vm_j w k s a (j := 2) (by decide), vm_j w k s a (j := 6) (by decide), vm_j w k s a (j := 8) (by decide)]
  have z : ∀ j, g5.1 3 o k j = if j = 3 then s else if j = 4 then a else if j = 5 then -1 else g.1 3 o k j := fun j => by rw [o1, if_pos rfl]
  rw [z 0, z 1, z 2, z 3, z 4, z 5, z 6]
  exact ⟨⟨a0, a1, a2, rfl, rfl, rfl, a6⟩, fun e => absurd e s2⟩
theorem mv_H (hw : mb_W w B K T D U) (hH : mb_H w K) {k : Nat} {s a : Int32} (ok : (s = 1 ∧ ∃ b, b < B ∧ a = nI b ∧ bo w k 0 ≤ bt w b 1) ∨ (s ≠ 1 ∧ s ≠ 3)) : mb_H (vm w k s a) K := by
  have hB := hw.B16
  intro k2 hk2
  by_cases q : k2 = k
  · subst q
    unfold mb_h9
    rw [vm_7, vm_3, vm_4, vm_j w k2 s a (by decide)]
    refine ⟨fun z => absurd rfl z, fun z => ?_, fun z => ?_⟩
    · rcases ok with ⟨e, -⟩ | ⟨-, e⟩
      · rw [e] at z; exact absurd z (by decide)
      · exact absurd z e
    · rcases ok with ⟨-, b, hb, e, l⟩ | ⟨e, -⟩
      · rw [e, nI_clamp (by omega)]
        unfold bt at l ⊢
        rw [vm_lo w k2 s _ (by omega)]
        exact l
      · exact absurd z e
  · exact (hH k2 hk2).cg (hw.boat hk2).1 hB (vm_lo w k s a (by decide)) (fun b hb => vm_lo w k s a (by omega)) (fun j hj => by rw [vm_bo w k s a hj, if_neg q])
theorem m6_move {k : Nat} (hk : k < 20) (s a : Int32) (g1 : mb_AH) : ∃ g6 : mb_AH, F_X6_puts (nI k) s a g1 = mb_rV (mb_sI (mb_sI (mb_sI g1 20 0 0 (90 + 9 * k + 3) s) 20 0 0 (90 + 9 * k + 4) a) 20 0 0 (90 + 9 * k + 5) 0) ∧ F_X6_sets (nI k) 7 (-1) (mb_sI (mb_sI (mb_sI g1 20 0 0 (90 + 9 * k + 3) s) 20 0 0 (90 + 9 * k + 4) a) 20 0 0 (90 + 9 * k + 5) 0) = mb_rV g6 ∧ (∀ i, i ≠ 20 → g6.1 i = g1.1 i) ∧ g6.2 = g1.2 ∧ g6.1 20 0 0 = vm (g1.1 20 0 0) k s a := by
  refine ⟨_, ?_, (m6_setsw hk (j := 7) (y := 7) (by decide) rfl (-1) _).1, fun i hi => by rw [mb_sI_o _ _ _ _ _ _ hi, mb_sI_o _ _ _ _ _ _ hi, mb_sI_o _ _ _ _ _ _ hi, mb_sI_o _ _ _ _ _ _ hi], rfl, ?_⟩
  · unfold F_X6_puts
    rw [(m6_setsw hk (j := 3) (y := 3) (by decide) rfl s g1).1]
    simp only [px_cI, px_cIx, px_cV, px_cVx, px_cL, px_cLx, px_cR0, px_cR1, px_cRx, px_lI, px_lL, px_up, px_gZ0, px_gZ1, px_gZb, px_g0, px_g1, px_g2, px_g3, px_g4, px_g5, px_g6, px_g7, px_g8, px_g9, px_g10, px_g11, px_g12, px_g13, px_g14, px_c0, px_c1, px_c2, px_c3, px_c4, px_c5, px_c6, px_c7, px_c8, px_c9, px_c10, px_c11, px_c12, px_c13, px_c14]
    rw [(m6_setsw hk (j := 4) (y := 4) (by decide) rfl a _).1]
    simp only [px_cI, px_cIx, px_cV, px_cVx, px_cL, px_cLx, px_cR0, px_cR1, px_cRx, px_lI, px_lL, px_up, px_gZ0, px_gZ1, px_gZb, px_g0, px_g1, px_g2, px_g3, px_g4, px_g5, px_g6, px_g7, px_g8, px_g9, px_g10, px_g11, px_g12, px_g13, px_g14, px_c0, px_c1, px_c2, px_c3, px_c4, px_c5, px_c6, px_c7, px_c8, px_c9, px_c10, px_c11, px_c12, px_c13, px_c14]
    rw [(m6_setsw hk (j := 5) (y := 5) (by decide) rfl 0 _).1]
    rfl
  · rw [(m6_setsw hk (j := 7) (y := 7) (by decide) rfl (-1) _).2, (m6_setsw hk (j := 5) (y := 5) (by decide) rfl 0 _).2, (m6_setsw hk (j := 4) (y := 4) (by decide) rfl a _).2, (m6_setsw hk (j := 3) (y := 3) (by decide) rfl s g1).2]
    rfl
/-- the class's part of a move: remembered, moved -/
theorem mv_C (c : mb_C n h rc ws w) (hw : mb_W w B K T D U) (r : mb_RM h 0 w B K T) (lD : D ≤ 400 * n) (lU : U ≤ 8000 * n) (lp : (∃ p : Nat, w 10 = nI p ∧ p ≤ 3 * n) ∧ mb_H w K) {k : Nat} (hk : k < K) {s a : Int32} (ok : (s = 1 ∧ ∃ b, b < B ∧ a = nI b ∧ sp_in w K (nI b) = none ∧ bo w k 0 ≤ bt w b 1) ∨ (s = 0 ∧ a = -1)) :
    ∃ g g5 : mb_AH, F_X5_remember h = mb_rV g ∧ F_X1_moveForGood 0 k s a g = mb_rV g5 ∧ mb_RM g 0 w B K T ∧ mb_C (n + 1) g5 (rc_n rc) (ws_n rc ws w) (vm w k s a) ∧ mb_Fz h g5 := by
  obtain ⟨g, e1, cg, fx⟩ := c5_remember c
  obtain ⟨g5, e2, fr, o3, o2, o1⟩ := c1_move 0 k s a g
  have s2 : s ≠ 2 := by rcases ok with ⟨e, -⟩ | ⟨e, -⟩ <;> rw [e] <;> decide
  have rg := r.fx fx
  obtain ⟨⟨p, ep, lp⟩, hH⟩ := lp
  exact ⟨g, g5, e1, e2, rg, cg.wr fr ⟨B, K, T, D, U, mv_W hw hk ok, mv_RM rg hw.B16 hw.T14 hk s2 o3 o2 o1, by omega, by omega, ⟨p, by rw [vm_lo w k s a (by decide)]; exact ep, by omega⟩, mv_H hw hH (by rcases ok with ⟨e, b, hb, ea, -, l⟩ | ⟨e, -⟩; exact Or.inl ⟨e, b, hb, ea, l⟩; exact Or.inr (by rw [e]; decide))⟩ (Nat.le_succ n), mb_Fz.of fx fr⟩
theorem sp_open_in {b : Nat} (h : sp_open w K b = true) : sp_in w K (nI b) = none := by
  unfold sp_open at h
  rw [Bool.and_eq_true] at h
  exact Option.isNone_iff_eq_none.mp h.1
theorem sp_fit_len {k b : Nat} (h : sp_fit w T k b = true) : bo w k 0 ≤ bt w b 1 := by
  unfold sp_fit at h
  rw [Bool.and_eq_true, decide_eq_true_iff] at h
  exact h.1
theorem s_place (hS : mb_S n h) (x y : Int32) : mb_PI ["java/lang/IndexOutOfBoundsException", "java/lang/IllegalStateException"] (F_X5_place x y h) (F_X6_place x y) (mb_S (n + 1)) := by
  obtain ⟨rc, c, c6⟩ := hS.C
  obtain ⟨-, -, B, K, T, D, U, hw, r, lD, lU, lp⟩ := id hS
  have hK := hw.K20; have hB := hw.B16
  rcases px_both (x := x) (y := y) (K := K) (B := B) (by omega) (by omega) with q | ⟨k, b, hk, hb, rfl, rfl⟩
  · refine q_thr (j := 0) (b := 0) (E := "java/lang/IndexOutOfBoundsException") hS rfl ?_ ?_
    · unfold F_X5_place
      rw [c5_both r hw, q, if_neg (by decide)]
    · unfold F_X6_place B_X6_place_36
      rw [m6_areBoth hw.z, q]
      simp only [px_cI, px_cIx, px_cV, px_cVx, px_cL, px_cLx, px_cR0, px_cR1, px_cRx, px_lI, px_lL, px_up, px_gZ0, px_gZ1, px_gZb, px_g0, px_g1, px_g2, px_g3, px_g4, px_g5, px_g6, px_g7, px_g8, px_g9, px_g10, px_g11, px_g12, px_g13, px_g14, px_c0, px_c1, px_c2, px_c3, px_c4, px_c5, px_c6, px_c7, px_c8, px_c9, px_c10, px_c11, px_c12, px_c13, px_c14]
      rw [if_pos (by rfl), m6_refused1 1 (by decide)]; rfl
  · have h5 : F_X5_place (nI k) (nI b) h = if sp_open (h.1 20 0 0) K b = true ∧ sp_fit (h.1 20 0 0) T k b = true then mb_cV (F_X5_remember h) (fun h107 => mb_lI (h107.1 3 0 k 4) fun y108 => mb_cV (F_X1_moveForGood 0 k 1 (nI b) h107) fun h109 => mb_rI y108 h109) else mb_rX "java/lang/IllegalStateException" h := by
      unfold F_X5_place
      rw [c5_both r hw, px_ixt hk (by omega), px_ixt hb (by omega), if_pos (by rfl), px_gB (show k < 20 by omega) (by decide), c2_isOpen r hw hb]
      simp only [px_cI, px_cIx, px_cV, px_cVx, px_cL, px_cLx, px_cR0, px_cR1, px_cRx, px_lI, px_lL, px_up, px_gZ0, px_gZ1, px_gZb, px_g0, px_g1, px_g2, px_g3, px_g4, px_g5, px_g6, px_g7, px_g8, px_g9, px_g10, px_g11, px_g12, px_g13, px_g14, px_c0, px_c1, px_c2, px_c3, px_c4, px_c5, px_c6, px_c7, px_c8, px_c9, px_c10, px_c11, px_c12, px_c13, px_c14]
      rw [px_gB (show b < 16 by omega) (by decide), nI_clamp (by omega), nI_clamp (by omega), c2_suits r hk hb]
      simp only [px_cI, px_cIx, px_cV, px_cVx, px_cL, px_cLx, px_cR0, px_cR1, px_cRx, px_lI, px_lL, px_up, px_gZ0, px_gZ1, px_gZb, px_g0, px_g1, px_g2, px_g3, px_g4, px_g5, px_g6, px_g7, px_g8, px_g9, px_g10, px_g11, px_g12, px_g13, px_g14, px_c0, px_c1, px_c2, px_c3, px_c4, px_c5, px_c6, px_c7, px_c8, px_c9, px_c10, px_c11, px_c12, px_c13, px_c14]
      cases sp_open (h.1 20 0 0) K b with
      | false => rfl
      | true => cases sp_fit (h.1 20 0 0) T k b <;> rfl
    have h6 : ∀ g : mb_AH, g.1 20 = h.1 20 → F_X6_place (nI k) (nI b) g = if sp_open (h.1 20 0 0) K b = true ∧ sp_fit (h.1 20 0 0) T k b = true then B_X6_place_36 (nI k) (nI b) 0 g else B_X6_place_36 (nI k) (nI b) 2 g := by
      intro g hg
      have e : g.1 20 0 0 = h.1 20 0 0 := by rw [hg]
      have hzg : mb_W0 (g.1 20 0 0) B K T := by rw [e]; exact hw.z
      unfold F_X6_place B_X6_place_31
      rw [m6_areBoth hzg, px_ixt hk (by omega), px_ixt hb (by omega)]
      simp only [px_cI, px_cIx, px_cV, px_cVx, px_cL, px_cLx, px_cR0, px_cR1, px_cRx, px_lI, px_lL, px_up, px_gZ0, px_gZ1, px_gZb, px_g0, px_g1, px_g2, px_g3, px_g4, px_g5, px_g6, px_g7, px_g8, px_g9, px_g10, px_g11, px_g12, px_g13, px_g14, px_c0, px_c1, px_c2, px_c3, px_c4, px_c5, px_c6, px_c7, px_c8, px_c9, px_c10, px_c11, px_c12, px_c13, px_c14, m6_isOpen hzg (show b < 16 by omega), m6_isFit hzg (show k < 20 by omega) (show b < 16 by omega)]
      rw [e]
      cases sp_open (h.1 20 0 0) K b with
      | false => rfl
      | true => cases sp_fit (h.1 20 0 0) T k b <;> rfl
    by_cases q : sp_open (h.1 20 0 0) K b = true ∧ sp_fit (h.1 20 0 0) T k b = true
    · rw [if_pos q] at h5
      obtain ⟨g, g5, e1, e2, rg, cc, fz⟩ := mv_C c hw r lD lU lp hk (s := 1) (a := nI b) (Or.inl ⟨rfl, b, hb, rfl, sp_open_in q.1, sp_fit_len q.2⟩)
      refine mut_ok (v := bo (h.1 20 0 0) k 4) hS (g5 := g5) ?_ cc fz (fun g9 hg9 => ?_)
      · rw [h5, e1]
        simp only [px_cI, px_cIx, px_cV, px_cVx, px_cL, px_cLx, px_cR0, px_cR1, px_cRx, px_lI, px_lL, px_up, px_gZ0, px_gZ1, px_gZb, px_g0, px_g1, px_g2, px_g3, px_g4, px_g5, px_g6, px_g7, px_g8, px_g9, px_g10, px_g11, px_g12, px_g13, px_g14, px_c0, px_c1, px_c2, px_c3, px_c4, px_c5, px_c6, px_c7, px_c8, px_c9, px_c10, px_c11, px_c12, px_c13, px_c14]
        rw [e2, (rg.q hk).2.2.2.2.1]
        simp only [px_cI, px_cIx, px_cV, px_cVx, px_cL, px_cLx, px_cR0, px_cR1, px_cRx, px_lI, px_lL, px_up, px_gZ0, px_gZ1, px_gZb, px_g0, px_g1, px_g2, px_g3, px_g4, px_g5, px_g6, px_g7, px_g8, px_g9, px_g10, px_g11, px_g12, px_g13, px_g14, px_c0, px_c1, px_c2, px_c3, px_c4, px_c5, px_c6, px_c7, px_c8, px_c9, px_c10, px_c11, px_c12, px_c13, px_c14]
      · have z20 : g9.1 20 = h.1 20 := by rw [hg9]; exact fz 20 (by decide)
        have z21 : g9.1 21 = h.1 21 := by rw [hg9]; exact fz 21 (by decide)
        have z6 : g9.1 6 = h.1 6 := by rw [hg9]; exact fz 6 (by decide)
        obtain ⟨g1, f1, f2, f3⟩ := m6_begin (g := g9) c.1 (by rw [z6]; exact c6)
        obtain ⟨g6, p1, p2, p3, p4, p5⟩ := m6_move (k := k) (by omega) 1 (nI b) g1
        refine ⟨g6, ?_, ?_⟩
        · rw [h6 g9 z20, if_pos q]
          unfold B_X6_place_36
          rw [m6_refused0]
          simp only [px_cI, px_cIx, px_cV, px_cVx, px_cL, px_cLx, px_cR0, px_cR1, px_cRx, px_lI, px_lL, px_up, px_gZ0, px_gZ1, px_gZb, px_g0, px_g1, px_g2, px_g3, px_g4, px_g5, px_g6, px_g7, px_g8, px_g9, px_g10, px_g11, px_g12, px_g13, px_g14, px_c0, px_c1, px_c2, px_c3, px_c4, px_c5, px_c6, px_c7, px_c8, px_c9, px_c10, px_c11, px_c12, px_c13, px_c14, m6_oB (show k < 20 by omega) (j := 4) (by decide) (y := 4) rfl]
          simp only [if_true]
          rw [f1, px_s20, z20]
          simp only [px_cI, px_cIx, px_cV, px_cVx, px_cL, px_cLx, px_cR0, px_cR1, px_cRx, px_lI, px_lL, px_up, px_gZ0, px_gZ1, px_gZb, px_g0, px_g1, px_g2, px_g3, px_g4, px_g5, px_g6, px_g7, px_g8, px_g9, px_g10, px_g11, px_g12, px_g13, px_g14, px_c0, px_c1, px_c2, px_c3, px_c4, px_c5, px_c6, px_c7, px_c8, px_c9, px_c10, px_c11, px_c12, px_c13, px_c14]
          rw [p1]
          simp only [px_cI, px_cIx, px_cV, px_cVx, px_cL, px_cLx, px_cR0, px_cR1, px_cRx, px_lI, px_lL, px_up, px_gZ0, px_gZ1, px_gZb, px_g0, px_g1, px_g2, px_g3, px_g4, px_g5, px_g6, px_g7, px_g8, px_g9, px_g10, px_g11, px_g12, px_g13, px_g14, px_c0, px_c1, px_c2, px_c3, px_c4, px_c5, px_c6, px_c7, px_c8, px_c9, px_c10, px_c11, px_c12, px_c13, px_c14]
          rw [p2]
          rfl
        · have := f3 g6 _ p3 p4 p5
          rw [f2, z20, z21] at this
          exact this
    · rw [if_neg q] at h5
      refine q_thr (j := 1) (b := 0) (E := "java/lang/IllegalStateException") hS rfl h5 ?_
      rw [h6 h rfl, if_neg q]
      unfold B_X6_place_36
      rw [m6_refused1 2 (by decide)]; rfl
theorem s_leave (hS : mb_S n h) (x : Int32) : mb_PI ["java/lang/IndexOutOfBoundsException", "java/lang/IllegalStateException"] (F_X5_leave x h) (F_X6_leave x) (mb_S (n + 1)) := by
  obtain ⟨rc, c, c6⟩ := hS.C
  obtain ⟨-, -, B, K, T, D, U, hw, r, lD, lU, lp⟩ := id hS
  have hK := hw.K20; have hB := hw.B16
  rcases px_ix x (N := K) (by omega) with q | ⟨k, hk, rfl⟩
  · refine q_thr (j := 0) (b := 0) (E := "java/lang/IndexOutOfBoundsException") hS rfl ?_ ?_
    · unfold F_X5_leave
      rw [c5_checkBoat r hw, q, if_neg (by decide)]; rfl
    · unfold F_X6_leave B_X6_leave_37
      rw [m6_isBoat hw.z, q]
      simp only [px_cI, px_cIx, px_cV, px_cVx, px_cL, px_cLx, px_cR0, px_cR1, px_cRx, px_lI, px_lL, px_up, px_gZ0, px_gZ1, px_gZb, px_g0, px_g1, px_g2, px_g3, px_g4, px_g5, px_g6, px_g7, px_g8, px_g9, px_g10, px_g11, px_g12, px_g13, px_g14, px_c0, px_c1, px_c2, px_c3, px_c4, px_c5, px_c6, px_c7, px_c8, px_c9, px_c10, px_c11, px_c12, px_c13, px_c14]
      rw [if_pos (by rfl), m6_refused1 1 (by decide)]; rfl
  · have h5 : F_X5_leave (nI k) h = if bo (h.1 20 0 0) k 3 ≠ 0 ∧ bo (h.1 20 0 0) k 8 ≤ 0 then mb_cV (F_X5_remember h) (fun h102 => mb_lI (h102.1 3 0 k 3) fun y103 => mb_cV (F_X1_moveForGood 0 k 0 (-1) h102) fun h104 => mb_rI y103 h104) else mb_rX "java/lang/IllegalStateException" h := by
      unfold F_X5_leave
      rw [c5_checkBoat r hw, px_ixt hk (by omega), if_pos (by rfl)]
      simp only [px_cI, px_cIx, px_cV, px_cVx, px_cL, px_cLx, px_cR0, px_cR1, px_cRx, px_lI, px_lL, px_up, px_gZ0, px_gZ1, px_gZb, px_g0, px_g1, px_g2, px_g3, px_g4, px_g5, px_g6, px_g7, px_g8, px_g9, px_g10, px_g11, px_g12, px_g13, px_g14, px_c0, px_c1, px_c2, px_c3, px_c4, px_c5, px_c6, px_c7, px_c8, px_c9, px_c10, px_c11, px_c12, px_c13, px_c14]
      rw [px_gB (show k < 20 by omega) (by decide), nI_clamp (by omega), (r.q hk).2.2.2.1, (r.q hk).2.2.2.2.2.2]
      by_cases q1 : bo (h.1 20 0 0) k 3 = 0
      · rw [if_pos q1, if_neg (fun z => z.1 q1)]
      · rw [if_neg q1]
        by_cases q2 : bo (h.1 20 0 0) k 8 ≤ 0
        · rw [if_pos q2, if_pos ⟨q1, q2⟩]
        · rw [if_neg q2, if_neg (fun z => q2 z.2)]
    have h6 : ∀ g : mb_AH, g.1 20 = h.1 20 → F_X6_leave (nI k) g = if bo (h.1 20 0 0) k 3 ≠ 0 ∧ bo (h.1 20 0 0) k 8 ≤ 0 then B_X6_leave_37 (nI k) 0 g else B_X6_leave_37 (nI k) 2 g := by
      intro g hg
      have e : g.1 20 0 0 = h.1 20 0 0 := by rw [hg]
      have hzg : mb_W0 (g.1 20 0 0) B K T := by rw [e]; exact hw.z
      unfold F_X6_leave B_X6_leave_32
      rw [m6_isBoat hzg, px_ixt hk (by omega)]
      simp only [px_cI, px_cIx, px_cV, px_cVx, px_cL, px_cLx, px_cR0, px_cR1, px_cRx, px_lI, px_lL, px_up, px_gZ0, px_gZ1, px_gZb, px_g0, px_g1, px_g2, px_g3, px_g4, px_g5, px_g6, px_g7, px_g8, px_g9, px_g10, px_g11, px_g12, px_g13, px_g14, px_c0, px_c1, px_c2, px_c3, px_c4, px_c5, px_c6, px_c7, px_c8, px_c9, px_c10, px_c11, px_c12, px_c13, px_c14, m6_oB (show k < 20 by omega) (j := 3) (by decide) (y := 3) rfl, m6_oB (show k < 20 by omega) (j := 8) (by decide) (y := 8) rfl]
      rw [if_neg (by decide), e]
      by_cases q1 : bo (h.1 20 0 0) k 3 = 0
      · rw [if_pos q1, if_neg (fun z => z.1 q1)]
      · rw [if_neg q1]
        by_cases q2 : bo (h.1 20 0 0) k 8 ≤ 0
        · rw [if_pos q2, if_pos ⟨q1, q2⟩]
        · rw [if_neg q2, if_neg (fun z => q2 z.2)]
    by_cases q : bo (h.1 20 0 0) k 3 ≠ 0 ∧ bo (h.1 20 0 0) k 8 ≤ 0
    · rw [if_pos q] at h5
      obtain ⟨g, g5, e1, e2, rg, cc, fz⟩ := mv_C c hw r lD lU lp hk (s := 0) (a := -1) (Or.inr ⟨rfl, rfl⟩)
      refine mut_ok (v := bo (h.1 20 0 0) k 3) hS (g5 := g5) ?_ cc fz (fun g9 hg9 => ?_)
      · rw [h5, e1]
        simp only [px_cI, px_cIx, px_cV, px_cVx, px_cL, px_cLx, px_cR0, px_cR1, px_cRx, px_lI, px_lL, px_up, px_gZ0, px_gZ1, px_gZb, px_g0, px_g1, px_g2, px_g3, px_g4, px_g5, px_g6, px_g7, px_g8, px_g9, px_g10, px_g11, px_g12, px_g13, px_g14, px_c0, px_c1, px_c2, px_c3, px_c4, px_c5, px_c6, px_c7, px_c8, px_c9, px_c10, px_c11, px_c12, px_c13, px_c14]
        rw [e2, (rg.q hk).2.2.2.1]
        simp only [px_cI, px_cIx, px_cV, px_cVx, px_cL, px_cLx, px_cR0, px_cR1, px_cRx, px_lI, px_lL, px_up, px_gZ0, px_gZ1, px_gZb, px_g0, px_g1, px_g2, px_g3, px_g4, px_g5, px_g6, px_g7, px_g8, px_g9, px_g10, px_g11, px_g12, px_g13, px_g14, px_c0, px_c1, px_c2, px_c3, px_c4, px_c5, px_c6, px_c7, px_c8, px_c9, px_c10, px_c11, px_c12, px_c13, px_c14]
      · have z20 : g9.1 20 = h.1 20 := by rw [hg9]; exact fz 20 (by decide)
        have z21 : g9.1 21 = h.1 21 := by rw [hg9]; exact fz 21 (by decide)
        have z6 : g9.1 6 = h.1 6 := by rw [hg9]; exact fz 6 (by decide)
        obtain ⟨g1, f1, f2, f3⟩ := m6_begin (g := g9) c.1 (by rw [z6]; exact c6)
        obtain ⟨g6, p1, p2, p3, p4, p5⟩ := m6_move (k := k) (by omega) 0 (-1) g1
        refine ⟨g6, ?_, ?_⟩
        · rw [h6 g9 z20, if_pos q]
          unfold B_X6_leave_37
          rw [m6_refused0]
          simp only [px_cI, px_cIx, px_cV, px_cVx, px_cL, px_cLx, px_cR0, px_cR1, px_cRx, px_lI, px_lL, px_up, px_gZ0, px_gZ1, px_gZb, px_g0, px_g1, px_g2, px_g3, px_g4, px_g5, px_g6, px_g7, px_g8, px_g9, px_g10, px_g11, px_g12, px_g13, px_g14, px_c0, px_c1, px_c2, px_c3, px_c4, px_c5, px_c6, px_c7, px_c8, px_c9, px_c10, px_c11, px_c12, px_c13, px_c14, m6_oB (show k < 20 by omega) (j := 3) (by decide) (y := 3) rfl]
          simp only [if_true]
          rw [f1, px_s20, z20]
          simp only [px_cI, px_cIx, px_cV, px_cVx, px_cL, px_cLx, px_cR0, px_cR1, px_cRx, px_lI, px_lL, px_up, px_gZ0, px_gZ1, px_gZb, px_g0, px_g1, px_g2, px_g3, px_g4, px_g5, px_g6, px_g7, px_g8, px_g9, px_g10, px_g11, px_g12, px_g13, px_g14, px_c0, px_c1, px_c2, px_c3, px_c4, px_c5, px_c6, px_c7, px_c8, px_c9, px_c10, px_c11, px_c12, px_c13, px_c14]
          rw [p1]
          simp only [px_cI, px_cIx, px_cV, px_cVx, px_cL, px_cLx, px_cR0, px_cR1, px_cRx, px_lI, px_lL, px_up, px_gZ0, px_gZ1, px_gZb, px_g0, px_g1, px_g2, px_g3, px_g4, px_g5, px_g6, px_g7, px_g8, px_g9, px_g10, px_g11, px_g12, px_g13, px_g14, px_c0, px_c1, px_c2, px_c3, px_c4, px_c5, px_c6, px_c7, px_c8, px_c9, px_c10, px_c11, px_c12, px_c13, px_c14]
          rw [p2]
          rfl
        · have := f3 g6 _ p3 p4 p5
          rw [f2, z20, z21] at this
          exact this
    · rw [if_neg q] at h5
      refine q_thr (j := 1) (b := 0) (E := "java/lang/IllegalStateException") hS rfl h5 ?_
      rw [h6 h rfl, if_neg q]
      unfold B_X6_leave_37
      rw [m6_refused1 2 (by decide)]; rfl
end
