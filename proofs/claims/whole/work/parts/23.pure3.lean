/-! ===== pure: the class's questions, of the marina o that stands for the row w ===== -/
def mb_RM (h : mb_AH) (o : Nat) (w : Nat → Int32) (B K T : Nat) : Prop :=
  (h.1 1 o 0 7 = w 0 ∧ h.1 1 o 0 8 = w 1 ∧ h.1 1 o 0 9 = w 2 ∧ h.1 1 o 0 10 = w 3 ∧ h.1 1 o 0 11 = w 4 ∧ h.1 1 o 0 12 = w 5 ∧ h.1 1 o 0 1 = w 6 ∧ h.1 1 o 0 3 = w 7 ∧ h.1 1 o 0 5 = w 8 ∧ h.1 1 o 0 14 = w 9) ∧
  h.2.1 1 o 0 13 = sp_paid w ∧ h.1 1 o 0 6 = sp_low w (T - 1) ∧ (∀ k, k < T → h.1 12 o 0 k = w (12 + k)) ∧
  (∀ b, b < B → h.1 2 o b 0 = bt w b 0 ∧ h.1 2 o b 1 = bt w b 1 ∧ h.1 2 o b 2 = bt w b 2 ∧ h.1 2 o b 3 = bt w b 3) ∧
  (∀ k, k < K → (h.1 3 o k 0 = bo w k 0 ∧ h.1 3 o k 1 = bo w k 1 ∧ h.1 3 o k 2 = bo w k 2 ∧ h.1 3 o k 3 = bo w k 3 ∧ h.1 3 o k 4 = bo w k 4 ∧ h.1 3 o k 5 = bo w k 7 ∧ h.1 3 o k 6 = bo w k 8) ∧ (bo w k 3 = 2 → h.1 3 o k 7 = w 4 - bo w k 5 ∧ h.1 3 o k 8 = bo w k 6))
theorem px_sub3 (a b c : Int32) : a - (b + c) = a - b - c := by grind
theorem px_sub4 (a b : Int32) : a - (a - b) = b := by grind
section
variable {h : mb_AH} {o : Nat} {w : Nat → Int32} {B K T D U : Nat}
theorem mb_RM.f0 (r : mb_RM h o w B K T) : h.1 1 o 0 7 = w 0 := r.1.1
theorem mb_RM.f1 (r : mb_RM h o w B K T) : h.1 1 o 0 8 = w 1 := r.1.2.1
theorem mb_RM.f2 (r : mb_RM h o w B K T) : h.1 1 o 0 9 = w 2 := r.1.2.2.1
theorem mb_RM.f3 (r : mb_RM h o w B K T) : h.1 1 o 0 10 = w 3 := r.1.2.2.2.1
theorem mb_RM.f4 (r : mb_RM h o w B K T) : h.1 1 o 0 11 = w 4 := r.1.2.2.2.2.1
theorem mb_RM.f5 (r : mb_RM h o w B K T) : h.1 1 o 0 12 = w 5 := r.1.2.2.2.2.2.1
theorem mb_RM.f6 (r : mb_RM h o w B K T) : h.1 1 o 0 1 = w 6 := r.1.2.2.2.2.2.2.1
theorem mb_RM.f7 (r : mb_RM h o w B K T) : h.1 1 o 0 3 = w 7 := r.1.2.2.2.2.2.2.2.1
theorem mb_RM.f8 (r : mb_RM h o w B K T) : h.1 1 o 0 5 = w 8 := r.1.2.2.2.2.2.2.2.2.1
theorem mb_RM.f9 (r : mb_RM h o w B K T) : h.1 1 o 0 14 = w 9 := r.1.2.2.2.2.2.2.2.2.2
theorem mb_RM.paid (r : mb_RM h o w B K T) : h.2.1 1 o 0 13 = sp_paid w := r.2.1
theorem mb_RM.low (r : mb_RM h o w B K T) : h.1 1 o 0 6 = sp_low w (T - 1) := r.2.2.1
theorem mb_RM.lows (r : mb_RM h o w B K T) {k : Nat} (hk : k < T) : h.1 12 o 0 k = w (12 + k) := r.2.2.2.1 k hk
theorem mb_RM.t (r : mb_RM h o w B K T) {b : Nat} (hb : b < B) : h.1 2 o b 0 = bt w b 0 ∧ h.1 2 o b 1 = bt w b 1 ∧ h.1 2 o b 2 = bt w b 2 ∧ h.1 2 o b 3 = bt w b 3 := r.2.2.2.2.1 b hb
theorem mb_RM.q (r : mb_RM h o w B K T) {k : Nat} (hk : k < K) : h.1 3 o k 0 = bo w k 0 ∧ h.1 3 o k 1 = bo w k 1 ∧ h.1 3 o k 2 = bo w k 2 ∧ h.1 3 o k 3 = bo w k 3 ∧ h.1 3 o k 4 = bo w k 4 ∧ h.1 3 o k 5 = bo w k 7 ∧ h.1 3 o k 6 = bo w k 8 := (r.2.2.2.2.2 k hk).1
theorem mb_RM.ow (r : mb_RM h o w B K T) {k : Nat} (hk : k < K) (h2 : bo w k 3 = 2) : h.1 3 o k 7 = w 4 - bo w k 5 ∧ h.1 3 o k 8 = bo w k 6 := (r.2.2.2.2.2 k hk).2 h2
theorem c2_lowWater (r : mb_RM h o w B K T) (hw : mb_W w B K T D U) {d : Nat} (hd : d < 2 ^ 31) : F_X2_lowWater o (nI d) h = mb_rI (sp_lw w T d) h := by
  have hT1 := hw.T1; have hT2 := hw.T14
  have hm : d % T < T := Nat.mod_lt _ (by omega)
  unfold F_X2_lowWater
  rw [r.f8, hw.w8, if_neg (nI_pos hd), if_pos (show (1 : Int32) ≤ nI T from nI_le (a := 1) (by omega) (by omega)), pk_rem hd (by omega) (by omega), px_gB (by omega) (by omega), nI_clamp (by omega), r.lows hm]
  unfold mb_g0
  rw [if_neg (nI_ne0 (by omega) (by omega))]
  rfl
theorem c2_suits (r : mb_RM h o w B K T) {k b : Nat} (hk : k < K) (hb : b < B) : F_X2_suits o o k o b h = mb_rI (mb_b (sp_fit w T k b)) h := by
  obtain ⟨a0, a1, -⟩ := r.q hk
  obtain ⟨b0, b1, -⟩ := r.t hb
  unfold F_X2_suits F_X2_lackOfWater sp_fit
  simp only [px_cI, px_cIx, px_cV, px_cVx, px_cL, px_cLx, px_cR0, px_cR1, px_cRx, px_lI, px_lL, px_up, px_gZ0, px_gZ1, px_gZb, px_g0, px_g1, px_g2, px_g3, px_g4, px_g5, px_g6, px_g7, px_g8, px_g9, px_g10, px_g11, px_g12, px_g13, px_g14, px_c0, px_c1, px_c2, px_c3, px_c4, px_c5, px_c6, px_c7, px_c8, px_c9, px_c10, px_c11, px_c12, px_c13, px_c14]
  rw [a0, a1, b0, b1, r.f0, r.low, px_sub3]
  by_cases q : bt w b 1 < bo w k 0
  · rw [if_pos q, decide_eq_false (Int32.not_le.mpr q)]; rfl
  · rw [if_neg q, decide_eq_true (Int32.not_lt.mp q)]
    by_cases q2 : 0 < bo w k 1 + w 0 - bt w b 0 - sp_low w (T - 1)
    · rw [if_pos q2, decide_eq_false (Int32.not_le.mpr q2)]; rfl
    · rw [if_neg q2, decide_eq_true (Int32.not_lt.mp q2)]; rfl
theorem c2_berthOf1 (r : mb_RM h o w B K T) (hw : mb_W w B K T D U) {k b : Nat} (hk : k < K) (hb : b < B) (h4 : bo w k 4 = nI b) : F_X2_berthOf o o k h = some (.inl (some (mb_F 2 o b)), h) := by
  have := hw.B16
  unfold F_X2_berthOf
  rw [(r.q hk).2.2.2.2.1, h4, r.f6, hw.w6, if_neg (nI_pos (by omega)), if_pos (nI_lt hb (by omega)), px_gB (by omega) (by omega), nI_clamp (by omega)]
theorem c2_berthOf0 (r : mb_RM h o w B K T) {k : Nat} (hk : k < K) (h4 : bo w k 4 = -1) : F_X2_berthOf o o k h = some (.inl (some mb_N), h) := by
  unfold F_X2_berthOf
  rw [(r.q hk).2.2.2.2.1, h4, if_pos (by decide)]
theorem sp_ne1 {w : Nat → Int32} {k : Nat} (h3 : bo w k 3 = 0 ∨ bo w k 3 = 2 ∨ bo w k 3 = 3) : ¬ bo w k 3 = 1 := by rcases h3 with e | e | e <;> rw [e] <;> decide
theorem c2_isWhereItFits (r : mb_RM h o w B K T) (hw : mb_W w B K T D U) {k : Nat} (hk : k < K) : F_X2_isWhereItFits o o k h = mb_rI (mb_b (sp_here w T k)) h := by
  unfold F_X2_isWhereItFits sp_here
  rcases (hw.boat hk).1 with ⟨h3, b, hb, h4⟩ | ⟨h3, h4⟩
  · have := hw.B16
    rw [c2_berthOf1 r hw hk hb h4, decide_eq_true h3, h4, nI_clamp (by omega)]
    simp only [px_cI, px_cIx, px_cV, px_cVx, px_cL, px_cLx, px_cR0, px_cR1, px_cRx, px_lI, px_lL, px_up, px_gZ0, px_gZ1, px_gZb, px_g0, px_g1, px_g2, px_g3, px_g4, px_g5, px_g6, px_g7, px_g8, px_g9, px_g10, px_g11, px_g12, px_g13, px_g14, px_c0, px_c1, px_c2, px_c3, px_c4, px_c5, px_c6, px_c7, px_c8, px_c9, px_c10, px_c11, px_c12, px_c13, px_c14, c2_suits r hk hb]
    cases sp_fit w T k b <;> rfl
  · rw [c2_berthOf0 r hk h4, decide_eq_false (sp_ne1 h3)]; rfl
theorem c2_suitsBerthOf (r : mb_RM h o w B K T) (hw : mb_W w B K T D U) {k j : Nat} (hk : k < K) (hj : j < K) : F_X2_suitsBerthOf o o k o j h = mb_rI (mb_b (decide (bo w j 3 = 1) && sp_fit w T k (bo w j 4).toNatClampNeg)) h := by
  unfold F_X2_suitsBerthOf
  rcases (hw.boat hj).1 with ⟨h3, b, hb, h4⟩ | ⟨h3, h4⟩
  · have := hw.B16
    rw [c2_berthOf1 r hw hj hb h4, decide_eq_true h3, h4, nI_clamp (by omega)]
    simp only [px_cI, px_cIx, px_cV, px_cVx, px_cL, px_cLx, px_cR0, px_cR1, px_cRx, px_lI, px_lL, px_up, px_gZ0, px_gZ1, px_gZb, px_g0, px_g1, px_g2, px_g3, px_g4, px_g5, px_g6, px_g7, px_g8, px_g9, px_g10, px_g11, px_g12, px_g13, px_g14, px_c0, px_c1, px_c2, px_c3, px_c4, px_c5, px_c6, px_c7, px_c8, px_c9, px_c10, px_c11, px_c12, px_c13, px_c14, c2_suits r hk hb]
    cases sp_fit w T k b <;> rfl
  · rw [c2_berthOf0 r hj h4, decide_eq_false (sp_ne1 h3)]; rfl
theorem c2_boatIn_loop (r : mb_RM h o w B K T) (hw : mb_W w B K T D U) {b : Nat} (hb : b < 2 ^ 31) : ∀ (m j f : Nat), j + m = K → m < f → B_X2_boatIn_2 f o (nI b) (nI j) h = mb_rI (mb_oi (sp_find (fun k => decide (bo w k 3 = 1) && decide (bo w k 4 = nI b)) j m)) h := by
  have h7 := hw.w7; have hK := hw.K20
  intro m
  induction m with
  | zero =>
    intro j f hj hf
    obtain ⟨f, rfl⟩ : ∃ g, f = g + 1 := ⟨f - 1, by omega⟩
    rw [B_X2_boatIn_2, r.f7, h7, if_pos (nI_le (by omega) (by omega))]
    rfl
  | succ m ih =>
    intro j f hj hf
    obtain ⟨f, rfl⟩ : ∃ g, f = g + 1 := ⟨f - 1, by omega⟩
    have hjK : j < K := by omega
    rw [B_X2_boatIn_2, r.f7, h7, if_neg (nI_ge (by omega) (by omega)), px_gB (show j < 20 by omega) (by decide), nI_clamp (by omega), (r.q hjK).2.2.2.2.1]
    simp only [px_cI, px_cIx, px_cV, px_cVx, px_cL, px_cLx, px_cR0, px_cR1, px_cRx, px_lI, px_lL, px_up, px_gZ0, px_gZ1, px_gZb, px_g0, px_g1, px_g2, px_g3, px_g4, px_g5, px_g6, px_g7, px_g8, px_g9, px_g10, px_g11, px_g12, px_g13, px_g14, px_c0, px_c1, px_c2, px_c3, px_c4, px_c5, px_c6, px_c7, px_c8, px_c9, px_c10, px_c11, px_c12, px_c13, px_c14, nI_1]
    rw [ih (j + 1) f (by omega) (by omega), sp_find]
    rcases (hw.boat hjK).1 with ⟨h3, b9, hb9, h4⟩ | ⟨h3, h4⟩
    · rw [decide_eq_true h3]
      by_cases q : bo w j 4 = nI b
      · rw [if_pos q, decide_eq_true q]; rfl
      · rw [if_neg q, decide_eq_false q]; rfl
    · rw [decide_eq_false (sp_ne1 h3), h4, if_neg (fun e => by have := (px_oi (some b) (fun z hz => by cases hz; omega)).mp e.symm; cases this)]; rfl
theorem c2_boatIn (r : mb_RM h o w B K T) (hw : mb_W w B K T D U) {b : Nat} (hb : b < 2 ^ 31) : F_X2_boatIn o (nI b) h = mb_rI (mb_oi (sp_in w K (nI b))) h := by
  unfold F_X2_boatIn
  have := hw.K20
  exact c2_boatIn_loop r hw hb K 0 mb_fu (by omega) (by unfold mb_fu; omega)
theorem mb_W.wi (hw : mb_W w B K T D U) : w 5 = 0 ∨ w 5 = 1 := hw.2.2.2.2.2.2.2.2.2.1
theorem mb_W.ex (hw : mb_W w B K T D U) {b : Nat} (hb : b < B) : bt w b 2 = 0 ∨ bt w b 2 = 1 := by
  obtain ⟨x, y, z, -, -, -, -, -, -, e, -⟩ := hw.berth hb
  exact e
theorem c2_isOpen (r : mb_RM h o w B K T) (hw : mb_W w B K T D U) {b : Nat} (hb : b < B) : F_X2_isOpen o (nI b) h = mb_rI (mb_b (sp_open w K b)) h := by
  have hB := hw.B16
  unfold F_X2_isOpen sp_open
  rw [c2_boatIn r hw (by omega)]
  simp only [px_cI, px_cIx, px_cV, px_cVx, px_cL, px_cLx, px_cR0, px_cR1, px_cRx, px_lI, px_lL, px_up, px_gZ0, px_gZ1, px_gZb, px_g0, px_g1, px_g2, px_g3, px_g4, px_g5, px_g6, px_g7, px_g8, px_g9, px_g10, px_g11, px_g12, px_g13, px_g14, px_c0, px_c1, px_c2, px_c3, px_c4, px_c5, px_c6, px_c7, px_c8, px_c9, px_c10, px_c11, px_c12, px_c13, px_c14]
  rw [px_gB (show b < 16 by omega) (by decide), nI_clamp (by omega), (r.t hb).2.2.1, r.f5]
  have e := px_oi (sp_in w K (nI b)) (sp_in_lt hw.K20)
  by_cases q : mb_oi (sp_in w K (nI b)) = -1
  · rw [if_pos q, e.mp q]
    rcases hw.wi with e5 | e5 <;> rcases hw.ex hb with e2 | e2 <;> rw [e5, e2] <;> rfl
  · rw [if_neg q]
    have : (sp_in w K (nI b)).isNone = false := by
      cases hq : (sp_in w K (nI b)).isNone
      · rfl
      · exact absurd (e.mpr hq) q
    rw [this]; rfl
theorem c2_fc_loop (r : mb_RM h o w B K T) (hw : mb_W w B K T D U) {b : Nat} (hb : b < B) : ∀ (m j f : Nat) (a : Int32), j + m = K → m < f → B_X2_countFitting_4 f o o b a (nI j) h = mb_rI (a + nI (sp_cnt (fun k => sp_fit w T k b) j m)) h := by
  have h7 := hw.w7; have hK := hw.K20
  intro m
  induction m with
  | zero =>
    intro j f a hj hf
    obtain ⟨f, rfl⟩ : ∃ g, f = g + 1 := ⟨f - 1, by omega⟩
    rw [B_X2_countFitting_4, r.f7, h7, if_pos (nI_le (by omega) (by omega)), sp_cnt, nI_0, px_a0]
  | succ m ih =>
    intro j f a hj hf
    obtain ⟨f, rfl⟩ : ∃ g, f = g + 1 := ⟨f - 1, by omega⟩
    rw [B_X2_countFitting_4, r.f7, h7, if_neg (nI_ge (by omega) (by omega)), px_gB (show j < 20 by omega) (by decide), nI_clamp (by omega), c2_suits r (show j < K by omega) hb, sp_cnt]
    simp only [px_cI, px_cIx, px_cV, px_cVx, px_cL, px_cLx, px_cR0, px_cR1, px_cRx, px_lI, px_lL, px_up, px_gZ0, px_gZ1, px_gZb, px_g0, px_g1, px_g2, px_g3, px_g4, px_g5, px_g6, px_g7, px_g8, px_g9, px_g10, px_g11, px_g12, px_g13, px_g14, px_c0, px_c1, px_c2, px_c3, px_c4, px_c5, px_c6, px_c7, px_c8, px_c9, px_c10, px_c11, px_c12, px_c13, px_c14, nI_1]
    cases q : sp_fit w T j b with
    | true => rw [if_neg (by decide), ih (j + 1) f _ (by omega) (by omega), px_an]; rfl
    | false =>
      rw [if_pos (by rfl), ih (j + 1) f _ (by omega) (by omega)]
      show _ = mb_rI (a + nI (0 + _)) h
      rw [Nat.zero_add]
theorem c2_countFitting (r : mb_RM h o w B K T) (hw : mb_W w B K T D U) {b : Nat} (hb : b < B) : F_X2_countFitting o o b h = mb_rI (nI (sp_fc w K T b)) h := by
  unfold F_X2_countFitting
  have := hw.K20
  rw [show B_X2_countFitting_4 mb_fu o o b 0 0 h = B_X2_countFitting_4 mb_fu o o b (nI 0) (nI 0) h from rfl, c2_fc_loop r hw hb K 0 mb_fu _ (by omega) (by unfold mb_fu; omega), nI_add, Nat.zero_add]
  rfl
theorem c2_countIn_loop (r : mb_RM h o w B K T) (hw : mb_W w B K T D U) (s : Int32) : ∀ (m j f : Nat) (a : Int32), j + m = K → m < f → B_X2_countIn_4 f o s a (nI j) h = mb_rI (a + nI (sp_cnt (fun k => decide (bo w k 3 = s)) j m)) h := by
  have h7 := hw.w7; have hK := hw.K20
  intro m
  induction m with
  | zero =>
    intro j f a hj hf
    obtain ⟨f, rfl⟩ : ∃ g, f = g + 1 := ⟨f - 1, by omega⟩
    rw [B_X2_countIn_4, r.f7, h7, if_pos (nI_le (by omega) (by omega)), sp_cnt, nI_0, px_a0]
  | succ m ih =>
    intro j f a hj hf
    obtain ⟨f, rfl⟩ : ∃ g, f = g + 1 := ⟨f - 1, by omega⟩
    rw [B_X2_countIn_4, r.f7, h7, if_neg (nI_ge (by omega) (by omega)), px_gB (show j < 20 by omega) (by decide), nI_clamp (by omega), (r.q (show j < K by omega)).2.2.2.1, sp_cnt]
    simp only [px_cI, px_cIx, px_cV, px_cVx, px_cL, px_cLx, px_cR0, px_cR1, px_cRx, px_lI, px_lL, px_up, px_gZ0, px_gZ1, px_gZb, px_g0, px_g1, px_g2, px_g3, px_g4, px_g5, px_g6, px_g7, px_g8, px_g9, px_g10, px_g11, px_g12, px_g13, px_g14, px_c0, px_c1, px_c2, px_c3, px_c4, px_c5, px_c6, px_c7, px_c8, px_c9, px_c10, px_c11, px_c12, px_c13, px_c14, nI_1]
    by_cases q : bo w j 3 = s
    · rw [if_pos q, decide_eq_true q, ih (j + 1) f _ (by omega) (by omega), px_an]; rfl
    · rw [if_neg q, decide_eq_false q, ih (j + 1) f _ (by omega) (by omega)]
      show _ = mb_rI (a + nI (0 + _)) h
      rw [Nat.zero_add]
theorem c2_countIn (r : mb_RM h o w B K T) (hw : mb_W w B K T D U) (s : Int32) : F_X2_countIn o s h = mb_rI (nI (sp_st w K s)) h := by
  unfold F_X2_countIn
  have := hw.K20
  rw [show B_X2_countIn_4 mb_fu o s 0 0 h = B_X2_countIn_4 mb_fu o s (nI 0) (nI 0) h from rfl, c2_countIn_loop r hw s K 0 mb_fu _ (by omega) (by unfold mb_fu; omega), nI_add, Nat.zero_add]
  rfl
theorem c2_isAgroundOn (r : mb_RM h o w B K T) (hw : mb_W w B K T D U) {k d : Nat} (hk : k < K) (hd : d < 2 ^ 31) : F_X2_isAgroundOn o o k (nI d) h = mb_rI (mb_b (sp_ag w T d k)) h := by
  unfold F_X2_isAgroundOn sp_ag
  rcases (hw.boat hk).1 with ⟨h3, b, hb, h4⟩ | ⟨h3, h4⟩
  · have := hw.B16
    rw [c2_berthOf1 r hw hk hb h4, decide_eq_true h3, h4, nI_clamp (by omega)]
    simp only [px_cI, px_cIx, px_cV, px_cVx, px_cL, px_cLx, px_cR0, px_cR1, px_cRx, px_lI, px_lL, px_up, px_gZ0, px_gZ1, px_gZb, px_g0, px_g1, px_g2, px_g3, px_g4, px_g5, px_g6, px_g7, px_g8, px_g9, px_g10, px_g11, px_g12, px_g13, px_g14, px_c0, px_c1, px_c2, px_c3, px_c4, px_c5, px_c6, px_c7, px_c8, px_c9, px_c10, px_c11, px_c12, px_c13, px_c14, c2_lowWater r hw hd]
    rw [(r.q hk).2.1, (r.t hb).1]
    by_cases q : bo w k 1 ≤ bt w b 0 + sp_lw w T d
    · rw [if_pos q, decide_eq_false (Int32.not_lt.mpr q)]; rfl
    · rw [if_neg q, decide_eq_true (Int32.not_le.mp q)]; rfl
  · rw [c2_berthOf0 r hk h4, decide_eq_false (sp_ne1 h3)]; rfl
theorem c2_isAground (r : mb_RM h o w B K T) (hw : mb_W w B K T D U) {k : Nat} (hk : k < K) : F_X2_isAground o o k h = mb_rI (mb_b (sp_ag w T D k)) h := by
  have := hw.dl
  unfold F_X2_isAground
  rw [r.f4, hw.dy, c2_isAgroundOn r hw hk (by omega)]
  simp only [px_cI, px_cIx, px_cV, px_cVx, px_cL, px_cLx, px_cR0, px_cR1, px_cRx, px_lI, px_lL, px_up, px_gZ0, px_gZ1, px_gZb, px_g0, px_g1, px_g2, px_g3, px_g4, px_g5, px_g6, px_g7, px_g8, px_g9, px_g10, px_g11, px_g12, px_g13, px_g14, px_c0, px_c1, px_c2, px_c3, px_c4, px_c5, px_c6, px_c7, px_c8, px_c9, px_c10, px_c11, px_c12, px_c13, px_c14]
theorem c2_ga_loop (r : mb_RM h o w B K T) (hw : mb_W w B K T D U) : ∀ (m j f : Nat) (a : Int32), j + m = K → m < f → B_X2_countAground_4 f o a (nI j) h = mb_rI (a + nI (sp_cnt (fun k => sp_ag w T D k) j m)) h := by
  have h7 := hw.w7; have hK := hw.K20
  intro m
  induction m with
  | zero =>
    intro j f a hj hf
    obtain ⟨f, rfl⟩ : ∃ g, f = g + 1 := ⟨f - 1, by omega⟩
    rw [B_X2_countAground_4, r.f7, h7, if_pos (nI_le (by omega) (by omega)), sp_cnt, nI_0, px_a0]
  | succ m ih =>
    intro j f a hj hf
    obtain ⟨f, rfl⟩ : ∃ g, f = g + 1 := ⟨f - 1, by omega⟩
    rw [B_X2_countAground_4, r.f7, h7, if_neg (nI_ge (by omega) (by omega)), px_gB (show j < 20 by omega) (by decide), nI_clamp (by omega), c2_isAground r hw (show j < K by omega), sp_cnt]
    simp only [px_cI, px_cIx, px_cV, px_cVx, px_cL, px_cLx, px_cR0, px_cR1, px_cRx, px_lI, px_lL, px_up, px_gZ0, px_gZ1, px_gZb, px_g0, px_g1, px_g2, px_g3, px_g4, px_g5, px_g6, px_g7, px_g8, px_g9, px_g10, px_g11, px_g12, px_g13, px_g14, px_c0, px_c1, px_c2, px_c3, px_c4, px_c5, px_c6, px_c7, px_c8, px_c9, px_c10, px_c11, px_c12, px_c13, px_c14, nI_1]
    cases q : sp_ag w T D j with
    | true => rw [if_neg (by decide), ih (j + 1) f _ (by omega) (by omega), px_an]; rfl
    | false =>
      rw [if_pos (by rfl), ih (j + 1) f _ (by omega) (by omega)]
      show _ = mb_rI (a + nI (0 + _)) h
      rw [Nat.zero_add]
theorem c2_countAground (r : mb_RM h o w B K T) (hw : mb_W w B K T D U) : F_X2_countAground o h = mb_rI (nI (sp_ga w K T D)) h := by
  unfold F_X2_countAground
  have := hw.K20
  rw [show B_X2_countAground_4 mb_fu o 0 0 h = B_X2_countAground_4 mb_fu o (nI 0) (nI 0) h from rfl, c2_ga_loop r hw K 0 mb_fu _ (by omega) (by unfold mb_fu; omega), nI_add, Nat.zero_add]
  rfl
theorem c2_gr_loop (r : mb_RM h o w B K T) (hw : mb_W w B K T D U) {k : Nat} (hk : k < K) : ∀ (m j f : Nat), j + m = T → m < f → B_X2_daysUntilAground_2 f o o k (nI j) h = mb_rI (mb_oi (sp_find (fun i => sp_ag w T (D + i) k) j m)) h := by
  have h8 := hw.w8; have hT := hw.T14; have hD := hw.dl
  intro m
  induction m with
  | zero =>
    intro j f hj hf
    obtain ⟨f, rfl⟩ : ∃ g, f = g + 1 := ⟨f - 1, by omega⟩
    rw [B_X2_daysUntilAground_2, r.f8, h8, if_pos (nI_le (by omega) (by omega))]
    rfl
  | succ m ih =>
    intro j f hj hf
    obtain ⟨f, rfl⟩ : ∃ g, f = g + 1 := ⟨f - 1, by omega⟩
    rw [B_X2_daysUntilAground_2, r.f8, h8, if_neg (nI_ge (by omega) (by omega)), sp_find, r.f4, hw.dy, nI_add, c2_isAgroundOn r hw hk (by omega)]
    simp only [px_cI, px_cIx, px_cV, px_cVx, px_cL, px_cLx, px_cR0, px_cR1, px_cRx, px_lI, px_lL, px_up, px_gZ0, px_gZ1, px_gZb, px_g0, px_g1, px_g2, px_g3, px_g4, px_g5, px_g6, px_g7, px_g8, px_g9, px_g10, px_g11, px_g12, px_g13, px_g14, px_c0, px_c1, px_c2, px_c3, px_c4, px_c5, px_c6, px_c7, px_c8, px_c9, px_c10, px_c11, px_c12, px_c13, px_c14, nI_1]
    cases q : sp_ag w T (D + j) k with
    | true => rw [if_neg (by decide)]; rfl
    | false => rw [if_pos (by rfl), ih (j + 1) f (by omega) (by omega)]; rfl
theorem c2_daysUntilAground (r : mb_RM h o w B K T) (hw : mb_W w B K T D U) {k : Nat} (hk : k < K) : F_X2_daysUntilAground o o k h = mb_rI (mb_oi (sp_gr w T D k)) h := by
  unfold F_X2_daysUntilAground
  have := hw.T14
  exact c2_gr_loop r hw hk T 0 mb_fu (by omega) (by unfold mb_fu; omega)
theorem c2_points (r : mb_RM h o w B K T) {k : Nat} (hk : k < K) (h2 : bo w k 3 = 2) : F_X2_points o o k h = mb_rI (sp_pt w k) h := by
  unfold F_X2_points sp_pt
  rw [r.f4, (r.ow hk h2).1, (r.q hk).2.2.1, px_sub4]
theorem sp_pt_nI (hw : mb_W w B K T D U) {k : Nat} (hk : k < K) (h2 : bo w k 3 = 2) : ∃ a : Nat, a < 2 ^ 30 ∧ sp_pt w k = nI a := by
  obtain ⟨-, -, ⟨g, -⟩, a1, b1, c1, o1, -, -, -, -, -, -, e2, l2, -⟩ := hw.boat hk
  obtain ⟨a, s, e5, la, -⟩ := g h2
  have := hw.dl
  exact ⟨a + c1, by omega, by unfold sp_pt; rw [e5, e2, nI_add]⟩
theorem px_sub1 {a b : Nat} (ha : a < 2 ^ 30) (hb : b < 2 ^ 30) : (0 < nI a - nI b ↔ nI b < nI a) := by
  rw [Int32.lt_iff_toInt_lt, Int32.lt_iff_toInt_lt, pk_sub_toInt ha hb, nI_toInt (by omega), nI_toInt (by omega), Int32.toInt_zero]; omega
theorem px_ahead {x y s t : Int32} (h : mb_AH) (e1 : 0 < x - y ↔ y < x) (e2 : x - y = 0 ↔ x = y) : (if 0 < x - y then mb_rI 1 h else if x - y = 0 then (if t ≤ s then mb_rI 0 h else mb_rI 1 h) else mb_rI 0 h) = mb_rI (mb_b (decide (y < x) || (decide (x = y) && decide (s < t)))) h := by
  by_cases p1 : y < x
  · rw [if_pos (e1.mpr p1), decide_eq_true p1, Bool.true_or]; rfl
  · rw [if_neg (fun e => p1 (e1.mp e)), decide_eq_false p1, Bool.false_or]
    by_cases p2 : x = y
    · rw [if_pos (e2.mpr p2), decide_eq_true p2, Bool.true_and]
      by_cases p3 : t ≤ s
      · rw [if_pos p3, decide_eq_false (Int32.not_lt.mpr p3)]; rfl
      · rw [if_neg p3, decide_eq_true (Int32.not_le.mp p3)]; rfl
    · rw [if_neg (fun e => p2 (e2.mp e)), decide_eq_false p2, Bool.false_and]; rfl
theorem c2_isAhead (r : mb_RM h o w B K T) (hw : mb_W w B K T D U) {k j : Nat} (hk : k < K) (hj : j < K) (h2 : bo w k 3 = 2) (g2 : bo w j 3 = 2) : F_X2_isAhead o o k o j h = mb_rI (mb_b (sp_bf w k j)) h := by
  obtain ⟨a, la, ea⟩ := sp_pt_nI hw hk h2
  obtain ⟨b, lb, eb⟩ := sp_pt_nI hw hj g2
  have e1 := px_sub1 la lb
  have e2 := (px_sub0 la lb).2
  rw [← ea, ← eb] at e1 e2
  unfold F_X2_isAhead
  rw [c2_points r hk h2, px_cI, c2_points r hj g2, px_cI, px_lI, (r.ow hk h2).2, (r.ow hj g2).2]
  exact px_ahead h e1 e2
theorem sp_bf_self (w : Nat → Int32) (k : Nat) : sp_bf w k k = false := by
  unfold sp_bf
  rw [decide_eq_false (Int32.lt_irrefl), decide_eq_false (Int32.lt_irrefl)]
  simp
theorem c2_ah_loop (r : mb_RM h o w B K T) (hw : mb_W w B K T D U) {x : Nat} (hx : x < K) (hx2 : bo w x 3 = 2) : ∀ (m j f : Nat) (a : Int32), j + m = K → m < f → B_X2_countAheadOf_4 f o o x a (nI j) h = mb_rI (a + nI (sp_cnt (fun k => (decide (bo w k 3 = 2) && !decide (k = x)) && sp_bf w k x) j m)) h := by
  have h7 := hw.w7; have hK := hw.K20
  intro m
  induction m with
  | zero =>
    intro j f a hj hf
    obtain ⟨f, rfl⟩ : ∃ g, f = g + 1 := ⟨f - 1, by omega⟩
    rw [B_X2_countAheadOf_4, r.f7, h7, if_pos (nI_le (by omega) (by omega)), sp_cnt, nI_0, px_a0]
  | succ m ih =>
    intro j f a hj hf
    obtain ⟨f, rfl⟩ : ∃ g, f = g + 1 := ⟨f - 1, by omega⟩
    have hjK : j < K := by omega
    rw [B_X2_countAheadOf_4, r.f7, h7, if_neg (nI_ge (by omega) (by omega)), px_gB (show j < 20 by omega) (by decide), nI_clamp (by omega), (r.q hjK).2.2.2.1, px_gB (show j < 20 by omega) (by decide), sp_cnt]
    simp only [px_cI, px_cIx, px_cV, px_cVx, px_cL, px_cLx, px_cR0, px_cR1, px_cRx, px_lI, px_lL, px_up, px_gZ0, px_gZ1, px_gZb, px_g0, px_g1, px_g2, px_g3, px_g4, px_g5, px_g6, px_g7, px_g8, px_g9, px_g10, px_g11, px_g12, px_g13, px_g14, px_c0, px_c1, px_c2, px_c3, px_c4, px_c5, px_c6, px_c7, px_c8, px_c9, px_c10, px_c11, px_c12, px_c13, px_c14, nI_1]
    have hno : ∀ (P : Bool), P = false → mb_rI (a + nI (sp_cnt (fun k => (decide (bo w k 3 = 2) && !decide (k = x)) && sp_bf w k x) (j + 1) m)) h = mb_rI (a + nI ((cond P 1 0) + sp_cnt (fun k => (decide (bo w k 3 = 2) && !decide (k = x)) && sp_bf w k x) (j + 1) m)) h := by
      intro P hP
      rw [hP]
      show _ = mb_rI (a + nI (0 + _)) h
      rw [Nat.zero_add]
    by_cases q : bo w j 3 = 2
    · rw [if_pos q, decide_eq_true q, c2_isAhead r hw hjK hx q hx2]
      simp only [px_cI, px_cIx, px_cV, px_cVx, px_cL, px_cLx, px_cR0, px_cR1, px_cRx, px_lI, px_lL, px_up, px_gZ0, px_gZ1, px_gZb, px_g0, px_g1, px_g2, px_g3, px_g4, px_g5, px_g6, px_g7, px_g8, px_g9, px_g10, px_g11, px_g12, px_g13, px_g14, px_c0, px_c1, px_c2, px_c3, px_c4, px_c5, px_c6, px_c7, px_c8, px_c9, px_c10, px_c11, px_c12, px_c13, px_c14]
      by_cases qx : j = x
      · subst qx
        rw [sp_bf_self, if_pos (by rfl), ih (j + 1) f _ (by omega) (by omega)]
        exact hno _ (by simp)
      · rw [decide_eq_false qx]
        cases p : sp_bf w j x with
        | true => rw [if_neg (by decide), ih (j + 1) f _ (by omega) (by omega), px_an]; rfl
        | false =>
          rw [if_pos (by rfl), ih (j + 1) f _ (by omega) (by omega)]
          exact hno _ (by rfl)
    · rw [if_neg q, decide_eq_false q, ih (j + 1) f _ (by omega) (by omega)]
      exact hno _ (by rfl)
theorem c2_countAheadOf (r : mb_RM h o w B K T) (hw : mb_W w B K T D U) {x : Nat} (hx : x < K) (hx2 : bo w x 3 = 2) : F_X2_countAheadOf o o x h = mb_rI (nI (sp_ah w K x)) h := by
  unfold F_X2_countAheadOf
  have := hw.K20
  rw [show B_X2_countAheadOf_4 mb_fu o o x 0 0 h = B_X2_countAheadOf_4 mb_fu o o x (nI 0) (nI 0) h from rfl, c2_ah_loop r hw hx hx2 K 0 mb_fu _ (by omega) (by unfold mb_fu; omega), nI_add, Nat.zero_add]
  rfl
theorem c2_wa_loop (r : mb_RM h o w B K T) (hw : mb_W w B K T D U) (x : Int32) : ∀ (m j f : Nat), j + m = K → m < f → B_X2_waitingAt_2 f o x (nI j) h = mb_rI (mb_oi (sp_find (fun k => decide (bo w k 3 = 2) && decide (nI (sp_ah w K k) = x)) j m)) h := by
  have h7 := hw.w7; have hK := hw.K20
  intro m
  induction m with
  | zero =>
    intro j f hj hf
    obtain ⟨f, rfl⟩ : ∃ g, f = g + 1 := ⟨f - 1, by omega⟩
    rw [B_X2_waitingAt_2, r.f7, h7, if_pos (nI_le (by omega) (by omega))]
    rfl
  | succ m ih =>
    intro j f hj hf
    obtain ⟨f, rfl⟩ : ∃ g, f = g + 1 := ⟨f - 1, by omega⟩
    have hjK : j < K := by omega
    rw [B_X2_waitingAt_2, r.f7, h7, if_neg (nI_ge (by omega) (by omega)), px_gB (show j < 20 by omega) (by decide), nI_clamp (by omega), (r.q hjK).2.2.2.1, px_gB (show j < 20 by omega) (by decide), sp_find]
    simp only [px_cI, px_cIx, px_cV, px_cVx, px_cL, px_cLx, px_cR0, px_cR1, px_cRx, px_lI, px_lL, px_up, px_gZ0, px_gZ1, px_gZb, px_g0, px_g1, px_g2, px_g3, px_g4, px_g5, px_g6, px_g7, px_g8, px_g9, px_g10, px_g11, px_g12, px_g13, px_g14, px_c0, px_c1, px_c2, px_c3, px_c4, px_c5, px_c6, px_c7, px_c8, px_c9, px_c10, px_c11, px_c12, px_c13, px_c14, nI_1]
    rw [ih (j + 1) f (by omega) (by omega)]
    by_cases q : bo w j 3 = 2
    · rw [if_pos q, decide_eq_true q, c2_countAheadOf r hw hjK q]
      simp only [px_cI, px_cIx, px_cV, px_cVx, px_cL, px_cLx, px_cR0, px_cR1, px_cRx, px_lI, px_lL, px_up, px_gZ0, px_gZ1, px_gZb, px_g0, px_g1, px_g2, px_g3, px_g4, px_g5, px_g6, px_g7, px_g8, px_g9, px_g10, px_g11, px_g12, px_g13, px_g14, px_c0, px_c1, px_c2, px_c3, px_c4, px_c5, px_c6, px_c7, px_c8, px_c9, px_c10, px_c11, px_c12, px_c13, px_c14]
      rw [ih (j + 1) f (by omega) (by omega)]
      by_cases q2 : nI (sp_ah w K j) = x
      · rw [if_pos q2, decide_eq_true q2]; rfl
      · rw [if_neg q2, decide_eq_false q2]; rfl
    · rw [if_neg q, decide_eq_false q]; rfl
theorem c2_waitingAt (r : mb_RM h o w B K T) (hw : mb_W w B K T D U) (x : Int32) : F_X2_waitingAt o x h = mb_rI (mb_oi (sp_wa w K x)) h := by
  unfold F_X2_waitingAt
  have := hw.K20
  exact c2_wa_loop r hw x K 0 mb_fu (by omega) (by unfold mb_fu; omega)
theorem c2_owed_loop (r : mb_RM h o w B K T) (hw : mb_W w B K T D U) : ∀ (m j f : Nat) (a : Int64), j + m = K → m < f → B_X2_owedInAll_4 f o a (nI j) h = mb_rL (a + sp_sum (fun k => (bo w k 8).toInt64) j m) h := by
  have h7 := hw.w7; have hK := hw.K20
  intro m
  induction m with
  | zero =>
    intro j f a hj hf
    obtain ⟨f, rfl⟩ : ∃ g, f = g + 1 := ⟨f - 1, by omega⟩
    rw [B_X2_owedInAll_4, r.f7, h7, if_pos (nI_le (by omega) (by omega)), sp_sum, Int64.add_zero]
  | succ m ih =>
    intro j f a hj hf
    obtain ⟨f, rfl⟩ : ∃ g, f = g + 1 := ⟨f - 1, by omega⟩
    rw [B_X2_owedInAll_4, r.f7, h7, if_neg (nI_ge (by omega) (by omega)), px_gB (show j < 20 by omega) (by decide), nI_clamp (by omega), (r.q (show j < K by omega)).2.2.2.2.2.2]
    simp only [px_cI, px_cIx, px_cV, px_cVx, px_cL, px_cLx, px_cR0, px_cR1, px_cRx, px_lI, px_lL, px_up, px_gZ0, px_gZ1, px_gZb, px_g0, px_g1, px_g2, px_g3, px_g4, px_g5, px_g6, px_g7, px_g8, px_g9, px_g10, px_g11, px_g12, px_g13, px_g14, px_c0, px_c1, px_c2, px_c3, px_c4, px_c5, px_c6, px_c7, px_c8, px_c9, px_c10, px_c11, px_c12, px_c13, px_c14, nI_1]
    rw [sp_sum, ih (j + 1) f _ (by omega) (by omega), Int64.add_assoc]
theorem c2_owedInAll (r : mb_RM h o w B K T) (hw : mb_W w B K T D U) : F_X2_owedInAll o h = mb_rL (sp_owed w K) h := by
  unfold F_X2_owedInAll
  have := hw.K20
  rw [show B_X2_owedInAll_4 mb_fu o 0 0 h = B_X2_owedInAll_4 mb_fu o 0 (nI 0) h from rfl, c2_owed_loop r hw K 0 mb_fu _ (by omega) (by unfold mb_fu; omega), Int64.zero_add]
  rfl
theorem c0_tighter (r : mb_RM h o w B K T) {b i : Nat} (hb : b < B) (hi : i < B) : F_X0_isTighterThan o b o i h = mb_rI (mb_b (sp_tt w b i)) h := by
  unfold F_X0_isTighterThan sp_tt
  rw [(r.t hb).1, (r.t hb).2.1, (r.t hi).1, (r.t hi).2.1]
  by_cases p1 : bt w b 1 < bt w i 1
  · rw [if_pos p1, decide_eq_true p1]; rfl
  · rw [if_neg p1, decide_eq_false p1]
    by_cases p2 : bt w b 1 = bt w i 1
    · rw [if_pos p2, decide_eq_true p2]
      by_cases p3 : bt w i 0 ≤ bt w b 0
      · rw [if_pos p3, decide_eq_false (Int32.not_lt.mpr p3)]; rfl
      · rw [if_neg p3, decide_eq_true (Int32.not_le.mp p3)]; rfl
    · rw [if_neg p2, decide_eq_false p2]; rfl
theorem c2_best_loop (r : mb_RM h o w B K T) (hw : mb_W w B K T D U) {k : Nat} (hk : k < K) : ∀ (m j f : Nat) (b9 : Option Nat), (∀ i, b9 = some i → i < j) → j + m = B → m < f → B_X2_bestBerthFor_4 f o o k (mb_oi b9) (nI j) h = mb_rI (mb_oi (sp_bst (fun b => sp_open w K b && sp_fit w T k b) (sp_tt w) b9 j m)) h := by
  have h6 := hw.w6; have hB := hw.B16
  intro m
  induction m with
  | zero =>
    intro j f b9 ho hj hf
    obtain ⟨f, rfl⟩ : ∃ g, f = g + 1 := ⟨f - 1, by omega⟩
    rw [B_X2_bestBerthFor_4, r.f6, h6, if_pos (nI_le (by omega) (by omega))]
    rfl
  | succ m ih =>
    intro j f b9 ho hj hf
    obtain ⟨f, rfl⟩ : ∃ g, f = g + 1 := ⟨f - 1, by omega⟩
    have hjB : j < B := by omega
    have hskip := ih (j + 1) f b9 (fun i hi => by have := ho i hi; omega) (by omega) (by omega)
    have htake : B_X2_bestBerthFor_4 f o o k (nI j) (nI (j + 1)) h = _ := ih (j + 1) f (some j) (fun i hi => by cases hi; omega) (by omega) (by omega)
    rw [B_X2_bestBerthFor_4, r.f6, h6, if_neg (nI_ge (by omega) (by omega)), c2_isOpen r hw hjB, sp_bst_s]
    simp only [px_cI, px_cIx, px_cV, px_cVx, px_cL, px_cLx, px_cR0, px_cR1, px_cRx, px_lI, px_lL, px_up, px_gZ0, px_gZ1, px_gZb, px_g0, px_g1, px_g2, px_g3, px_g4, px_g5, px_g6, px_g7, px_g8, px_g9, px_g10, px_g11, px_g12, px_g13, px_g14, px_c0, px_c1, px_c2, px_c3, px_c4, px_c5, px_c6, px_c7, px_c8, px_c9, px_c10, px_c11, px_c12, px_c13, px_c14, nI_1]
    cases q1 : sp_open w K j with
    | false => rw [if_pos (by rfl)]; exact hskip
    | true =>
      rw [if_neg (by decide), px_gB (show j < 16 by omega) (by decide), nI_clamp (by omega), c2_suits r hk hjB]
      simp only [px_cI, px_cIx, px_cV, px_cVx, px_cL, px_cLx, px_cR0, px_cR1, px_cRx, px_lI, px_lL, px_up, px_gZ0, px_gZ1, px_gZb, px_g0, px_g1, px_g2, px_g3, px_g4, px_g5, px_g6, px_g7, px_g8, px_g9, px_g10, px_g11, px_g12, px_g13, px_g14, px_c0, px_c1, px_c2, px_c3, px_c4, px_c5, px_c6, px_c7, px_c8, px_c9, px_c10, px_c11, px_c12, px_c13, px_c14]
      cases q2 : sp_fit w T k j with
      | false => rw [if_pos (by rfl)]; exact hskip
      | true =>
        rw [if_neg (by decide)]
        cases b9 with
        | none => rw [show mb_oi none = -1 from rfl, if_pos rfl]; exact htake
        | some i =>
          have hi := ho i rfl
          rw [show mb_oi (some i) = nI i from rfl, if_neg (fun e => by have := (px_oi (some i) (fun z hz => by cases hz; omega)).mp e; cases this), px_gB (show j < 16 by omega) (by decide), px_gB (show i < 16 by omega) (by decide), nI_clamp (show i < 2 ^ 31 by omega), c0_tighter r hjB (show i < B by omega)]
          simp only [px_cI, px_cIx, px_cV, px_cVx, px_cL, px_cLx, px_cR0, px_cR1, px_cRx, px_lI, px_lL, px_up, px_gZ0, px_gZ1, px_gZb, px_g0, px_g1, px_g2, px_g3, px_g4, px_g5, px_g6, px_g7, px_g8, px_g9, px_g10, px_g11, px_g12, px_g13, px_g14, px_c0, px_c1, px_c2, px_c3, px_c4, px_c5, px_c6, px_c7, px_c8, px_c9, px_c10, px_c11, px_c12, px_c13, px_c14]
          show _ = mb_rI (mb_oi (sp_bst _ _ (cond (sp_tt w j i) (some j) (some i)) (j + 1) m)) h
          cases sp_tt w j i with
          | false => rw [if_pos (by rfl)]; exact hskip
          | true => rw [if_neg (by decide)]; exact htake
theorem c2_bestBerthFor (r : mb_RM h o w B K T) (hw : mb_W w B K T D U) {k : Nat} (hk : k < K) : F_X2_bestBerthFor o o k h = mb_rI (mb_oi (sp_best w B K T k)) h := by
  unfold F_X2_bestBerthFor
  have := hw.B16
  exact c2_best_loop r hw hk B 0 mb_fu none (fun i hi => by cases hi) (by omega) (by unfold mb_fu; omega)
end
