/-! ===== pure: the reference's questions, the larger ones ===== -/
def sp_ga (w : Nat → Int32) (K T D : Nat) : Nat := sp_cnt (fun k => sp_ag w T D k) 0 K
def sp_fc (w : Nat → Int32) (K T b : Nat) : Nat := sp_cnt (fun k => sp_fit w T k b) 0 K
def sp_info (w : Nat → Int32) (B K T D c : Nat) : Int32 := if c = 8 then nI B - nI (sp_st w K 1) else if c = 9 then nI (sp_st w K 2) else if c = 10 then nI (sp_st w K 3) else if c = 11 then nI (sp_ga w K T D) else if c = 12 then sp_low w (T - 1) else if c = 13 then w 8 else w c
def sp_berth (w : Nat → Int32) (K T b c : Nat) : Int32 := if c = 4 then mb_oi (sp_in w K (nI b)) else if c = 5 then bt w b 0 + sp_low w (T - 1) else if c = 6 then nI (sp_fc w K T b) else bt w b c
def sp_here (w : Nat → Int32) (T k : Nat) : Bool := !decide (bo w k 3 = 1) || sp_fit w T k (bo w k 4).toNatClampNeg
def sp_boat (w : Nat → Int32) (T D k c : Nat) : Int32 := if c = 5 then (if bo w k 3 = 2 then sp_pt w k else -1) else if c = 6 then bo w k 7 else if c = 7 then bo w k 8 else if c = 8 then mb_b (sp_ag w T D k) else if c = 9 then mb_b (sp_here w T k) else bo w k c
def sp_win (lt : Nat → Nat → Bool) (o : Option Nat) (j : Nat) : Bool := match o with
  | none => true
  | some i => lt j i
def sp_bst (ok : Nat → Bool) (lt : Nat → Nat → Bool) : Option Nat → Nat → Nat → Option Nat
  | o, _, 0 => o
  | o, j, m + 1 => sp_bst ok lt (cond (ok j && sp_win lt o j) (some j) o) (j + 1) m
theorem sp_bst_s (ok : Nat → Bool) (lt : Nat → Nat → Bool) (o : Option Nat) (j m : Nat) : sp_bst ok lt o j (m + 1) = sp_bst ok lt (cond (ok j && sp_win lt o j) (some j) o) (j + 1) m := rfl
def sp_tt (w : Nat → Int32) (b i : Nat) : Bool := decide (bt w b 1 < bt w i 1) || (decide (bt w b 1 = bt w i 1) && decide (bt w b 0 < bt w i 0))
def sp_best (w : Nat → Int32) (B K T k : Nat) : Option Nat := sp_bst (fun b => sp_open w K b && sp_fit w T k b) (sp_tt w) none 0 B
def sp_gr (w : Nat → Int32) (T D k : Nat) : Option Nat := sp_find (fun i => sp_ag w T (D + i) k) 0 T
def sp_owed (w : Nat → Int32) (K : Nat) : Int64 := sp_sum (fun k => (bo w k 8).toInt64) 0 K
def sp_paid (w : Nat → Int32) : Int64 := (w 10).toInt64 * 1000000000 + (w 11).toInt64
theorem sp_bst_lt {ok : Nat → Bool} {lt : Nat → Nat → Bool} : ∀ (m j : Nat) (o : Option Nat), (∀ i, o = some i → i < j) → ∀ i, sp_bst ok lt o j m = some i → i < j + m := by
  intro m
  induction m with
  | zero => intro j o ho i hi; have := ho i hi; omega
  | succ m ih =>
    intro j o ho i hi
    have := ih (j + 1) _ (fun i2 h2 => by
      cases hc : (ok j && sp_win lt o j) with
      | true => rw [hc] at h2; cases h2; omega
      | false => rw [hc] at h2; have := ho i2 h2; omega) i hi
    omega
section
variable {h : mb_AH} {B K T D U : Nat}
theorem m6_areBoth (hz : mb_W0 (h.1 20 0 0) B K T) (x y : Int32) : F_X6_areBoth x y h = mb_rI (mb_b (mb_ix x K && mb_ix y B)) h := by
  unfold F_X6_areBoth
  simp only [px_cI, px_cIx, px_cV, px_cVx, px_cL, px_cLx, px_cR0, px_cR1, px_cRx, px_lI, px_lL, px_up, px_gZ0, px_gZ1, px_gZb, px_g0, px_g1, px_g2, px_g3, px_g4, px_g5, px_g6, px_g7, px_g8, px_g9, px_g10, px_g11, px_g12, px_g13, px_g14, px_c0, px_c1, px_c2, px_c3, px_c4, px_c5, px_c6, px_c7, px_c8, px_c9, px_c10, px_c11, px_c12, px_c13, px_c14, m6_isBoat hz, m6_isBerth hz]
  cases mb_ix x K <;> cases mb_ix y B <;> rfl
theorem m6_free (hz : mb_W0 (h.1 20 0 0) B K T) : F_X6_free h = mb_rI (nI B - nI (sp_st (h.1 20 0 0) K 1)) h := by
  unfold F_X6_free
  simp only [px_cI, px_cIx, px_cV, px_cVx, px_cL, px_cLx, px_cR0, px_cR1, px_cRx, px_lI, px_lL, px_up, px_gZ0, px_gZ1, px_gZb, px_g0, px_g1, px_g2, px_g3, px_g4, px_g5, px_g6, px_g7, px_g8, px_g9, px_g10, px_g11, px_g12, px_g13, px_g14, px_c0, px_c1, px_c2, px_c3, px_c4, px_c5, px_c6, px_c7, px_c8, px_c9, px_c10, px_c11, px_c12, px_c13, px_c14, m6_countIn hz]
  rw [hz.1]
theorem m6_aground_loop (hw : mb_W (h.1 20 0 0) B K T D U) : ∀ (m j f : Nat) (a : Int32), j + m = K → m < f → B_X6_aground_4 f a (nI j) h = mb_rI (a + nI (sp_cnt (fun k => sp_ag (h.1 20 0 0) T D k) j m)) h := by
  have h7 := hw.w7; have hK := hw.K20; have h4 := hw.dy; have hD := hw.dl
  intro m
  induction m with
  | zero =>
    intro j f a hj hf
    obtain ⟨f, rfl⟩ : ∃ g, f = g + 1 := ⟨f - 1, by omega⟩
    rw [B_X6_aground_4]
    simp only [px_cI, px_cIx, px_cV, px_cVx, px_cL, px_cLx, px_cR0, px_cR1, px_cRx, px_lI, px_lL, px_up, px_gZ0, px_gZ1, px_gZb, px_g0, px_g1, px_g2, px_g3, px_g4, px_g5, px_g6, px_g7, px_g8, px_g9, px_g10, px_g11, px_g12, px_g13, px_g14, px_c0, px_c1, px_c2, px_c3, px_c4, px_c5, px_c6, px_c7, px_c8, px_c9, px_c10, px_c11, px_c12, px_c13, px_c14]
    rw [h7, if_pos (nI_le (by omega) (by omega)), sp_cnt, nI_0, px_a0]
  | succ m ih =>
    intro j f a hj hf
    obtain ⟨f, rfl⟩ : ∃ g, f = g + 1 := ⟨f - 1, by omega⟩
    rw [B_X6_aground_4]
    simp only [px_cI, px_cIx, px_cV, px_cVx, px_cL, px_cLx, px_cR0, px_cR1, px_cRx, px_lI, px_lL, px_up, px_gZ0, px_gZ1, px_gZb, px_g0, px_g1, px_g2, px_g3, px_g4, px_g5, px_g6, px_g7, px_g8, px_g9, px_g10, px_g11, px_g12, px_g13, px_g14, px_c0, px_c1, px_c2, px_c3, px_c4, px_c5, px_c6, px_c7, px_c8, px_c9, px_c10, px_c11, px_c12, px_c13, px_c14]
    rw [h7, if_neg (nI_ge (by omega) (by omega)), sp_cnt, h4, m6_isAground hw.z (by omega) (hw.boat (show j < K by omega)).1 (by omega)]
    simp only [px_cI, px_cIx, px_cV, px_cVx, px_cL, px_cLx, px_cR0, px_cR1, px_cRx, px_lI, px_lL, px_up, px_gZ0, px_gZ1, px_gZb, px_g0, px_g1, px_g2, px_g3, px_g4, px_g5, px_g6, px_g7, px_g8, px_g9, px_g10, px_g11, px_g12, px_g13, px_g14, px_c0, px_c1, px_c2, px_c3, px_c4, px_c5, px_c6, px_c7, px_c8, px_c9, px_c10, px_c11, px_c12, px_c13, px_c14, nI_1, px_a0]
    cases q : sp_ag (h.1 20 0 0) T D j with
    | true => rw [if_neg (by decide), ih (j + 1) f _ (by omega) (by omega), px_an]; rfl
    | false =>
      rw [if_pos (by rfl), ih (j + 1) f _ (by omega) (by omega)]
      show _ = mb_rI (a + nI (0 + _)) h
      rw [Nat.zero_add]
theorem m6_aground (hw : mb_W (h.1 20 0 0) B K T D U) : F_X6_aground h = mb_rI (nI (sp_ga (h.1 20 0 0) K T D)) h := by
  unfold F_X6_aground
  have := hw.K20
  rw [show B_X6_aground_4 mb_fu 0 0 h = B_X6_aground_4 mb_fu (nI 0) (nI 0) h from rfl, m6_aground_loop hw K 0 mb_fu _ (by omega) (by unfold mb_fu; omega), nI_add, Nat.zero_add]
  rfl
theorem px_ne {a b : Nat} (ha : a < 2 ^ 31) (hb : b < 2 ^ 31) (h : a ≠ b) : ¬ nI a = nI b := fun e => h ((nI_eq ha hb).mp e)
theorem m6_infoTold (hw : mb_W (h.1 20 0 0) B K T D U) {c : Nat} (hc : c < 14) : F_X6_infoTold (nI c) h = mb_rI (sp_info (h.1 20 0 0) B K T D c) h := by
  unfold F_X6_infoTold sp_info
  simp only [px_cI, px_cIx, px_cV, px_cVx, px_cL, px_cLx, px_cR0, px_cR1, px_cRx, px_lI, px_lL, px_up, px_gZ0, px_gZ1, px_gZb, px_g0, px_g1, px_g2, px_g3, px_g4, px_g5, px_g6, px_g7, px_g8, px_g9, px_g10, px_g11, px_g12, px_g13, px_g14, px_c0, px_c1, px_c2, px_c3, px_c4, px_c5, px_c6, px_c7, px_c8, px_c9, px_c10, px_c11, px_c12, px_c13, px_c14, m6_free hw.z, m6_countIn hw.z, m6_aground hw, m6_lowest hw.z]
  rw [show (8 : Int32) = nI 8 from rfl, show (9 : Int32) = nI 9 from rfl, show (10 : Int32) = nI 10 from rfl, show (11 : Int32) = nI 11 from rfl, show (12 : Int32) = nI 12 from rfl, show (13 : Int32) = nI 13 from rfl]
  simp only [nI_eq (show c < 2 ^ 31 by omega) (show 8 < 2 ^ 31 by decide), nI_eq (show c < 2 ^ 31 by omega) (show 9 < 2 ^ 31 by decide), nI_eq (show c < 2 ^ 31 by omega) (show 10 < 2 ^ 31 by decide), nI_eq (show c < 2 ^ 31 by omega) (show 11 < 2 ^ 31 by decide), nI_eq (show c < 2 ^ 31 by omega) (show 12 < 2 ^ 31 by decide), nI_eq (show c < 2 ^ 31 by omega) (show 13 < 2 ^ 31 by decide)]
  rw [px_gB (show c < 270 by omega) (by decide), nI_clamp (by omega)]
  repeat' split
  all_goals rfl
theorem m6_fc_loop (hz : mb_W0 (h.1 20 0 0) B K T) {b : Nat} (hb : b < 16) : ∀ (m j f : Nat) (a : Int32), j + m = K → m < f → B_X6_berthTold_48 f (nI b) a (nI j) h = mb_rI (a + nI (sp_cnt (fun k => sp_fit (h.1 20 0 0) T k b) j m)) h := by
  have h7 := hz.2.2.1; have hK := hz.2.2.2.1
  intro m
  induction m with
  | zero =>
    intro j f a hj hf
    obtain ⟨f, rfl⟩ : ∃ g, f = g + 1 := ⟨f - 1, by omega⟩
    rw [B_X6_berthTold_48]
    simp only [px_cI, px_cIx, px_cV, px_cVx, px_cL, px_cLx, px_cR0, px_cR1, px_cRx, px_lI, px_lL, px_up, px_gZ0, px_gZ1, px_gZb, px_g0, px_g1, px_g2, px_g3, px_g4, px_g5, px_g6, px_g7, px_g8, px_g9, px_g10, px_g11, px_g12, px_g13, px_g14, px_c0, px_c1, px_c2, px_c3, px_c4, px_c5, px_c6, px_c7, px_c8, px_c9, px_c10, px_c11, px_c12, px_c13, px_c14]
    rw [h7, if_pos (nI_le (by omega) (by omega)), sp_cnt, nI_0, px_a0]
  | succ m ih =>
    intro j f a hj hf
    obtain ⟨f, rfl⟩ : ∃ g, f = g + 1 := ⟨f - 1, by omega⟩
    rw [B_X6_berthTold_48]
    simp only [px_cI, px_cIx, px_cV, px_cVx, px_cL, px_cLx, px_cR0, px_cR1, px_cRx, px_lI, px_lL, px_up, px_gZ0, px_gZ1, px_gZb, px_g0, px_g1, px_g2, px_g3, px_g4, px_g5, px_g6, px_g7, px_g8, px_g9, px_g10, px_g11, px_g12, px_g13, px_g14, px_c0, px_c1, px_c2, px_c3, px_c4, px_c5, px_c6, px_c7, px_c8, px_c9, px_c10, px_c11, px_c12, px_c13, px_c14, m6_isFit hz (show j < 20 by omega) hb, nI_1, px_a0]
    rw [h7, if_neg (nI_ge (by omega) (by omega)), sp_cnt]
    cases q : sp_fit (h.1 20 0 0) T j b with
    | true => rw [if_neg (by decide), ih (j + 1) f _ (by omega) (by omega), px_an]; rfl
    | false =>
      rw [if_pos (by rfl), ih (j + 1) f _ (by omega) (by omega)]
      show _ = mb_rI (a + nI (0 + _)) h
      rw [Nat.zero_add]
theorem m6_berthTold (hz : mb_W0 (h.1 20 0 0) B K T) {b c : Nat} (hb : b < 16) (hc : c < 7) : F_X6_berthTold (nI b) (nI c) h = mb_rI (sp_berth (h.1 20 0 0) K T b c) h := by
  have hK := hz.2.2.2.1
  have hfc : B_X6_berthTold_48 mb_fu (nI b) 0 0 h = mb_rI (nI (sp_fc (h.1 20 0 0) K T b)) h := by
    rw [show B_X6_berthTold_48 mb_fu (nI b) 0 0 h = B_X6_berthTold_48 mb_fu (nI b) (nI 0) (nI 0) h from rfl, m6_fc_loop hz hb K 0 mb_fu _ (by omega) (by unfold mb_fu; omega), nI_add, Nat.zero_add]
    rfl
  unfold F_X6_berthTold sp_berth
  simp only [px_cI, px_cIx, px_cV, px_cVx, px_cL, px_cLx, px_cR0, px_cR1, px_cRx, px_lI, px_lL, px_up, px_gZ0, px_gZ1, px_gZb, px_g0, px_g1, px_g2, px_g3, px_g4, px_g5, px_g6, px_g7, px_g8, px_g9, px_g10, px_g11, px_g12, px_g13, px_g14, px_c0, px_c1, px_c2, px_c3, px_c4, px_c5, px_c6, px_c7, px_c8, px_c9, px_c10, px_c11, px_c12, px_c13, px_c14, hfc, m6_boatIn hz, m6_oT hb (j := 0) (by decide) (y := 0) rfl, m6_lowest hz]
  rw [show (4 : Int32) = nI 4 from rfl, show (6 : Int32) = nI 6 from rfl]
  simp only [nI_leI (show 4 < 2 ^ 31 by decide) (show c < 2 ^ 31 by omega), nI_leI (show 6 < 2 ^ 31 by decide) (show c < 2 ^ 31 by omega), nI_eq (show c < 2 ^ 31 by omega) (show 4 < 2 ^ 31 by decide)]
  rcases (show c = 0 ∨ c = 1 ∨ c = 2 ∨ c = 3 ∨ c = 4 ∨ c = 5 ∨ c = 6 by omega) with rfl | rfl | rfl | rfl | rfl | rfl | rfl
  · rw [if_neg (by decide), m6_oT hb (j := 0) (by decide) rfl]; rfl
  · rw [if_neg (by decide), m6_oT hb (j := 1) (by decide) rfl]; rfl
  · rw [if_neg (by decide), m6_oT hb (j := 2) (by decide) rfl]; rfl
  · rw [if_neg (by decide), m6_oT hb (j := 3) (by decide) rfl]; rfl
  · rfl
  · rfl
  · rfl
theorem m6_boatTold (hw : mb_W (h.1 20 0 0) B K T D U) {k c : Nat} (hk : k < K) (hc : c < 10) : F_X6_boatTold (nI k) (nI c) h = mb_rI (sp_boat (h.1 20 0 0) T D k c) h := by
  have hk20 : k < 20 := by have := hw.K20; omega
  have hB := hw.B16
  have h4 := hw.dy; have hD := hw.dl
  have hat := (hw.boat hk).1
  unfold F_X6_boatTold sp_boat
  simp only [px_cI, px_cIx, px_cV, px_cVx, px_cL, px_cLx, px_cR0, px_cR1, px_cRx, px_lI, px_lL, px_up, px_gZ0, px_gZ1, px_gZb, px_g0, px_g1, px_g2, px_g3, px_g4, px_g5, px_g6, px_g7, px_g8, px_g9, px_g10, px_g11, px_g12, px_g13, px_g14, px_c0, px_c1, px_c2, px_c3, px_c4, px_c5, px_c6, px_c7, px_c8, px_c9, px_c10, px_c11, px_c12, px_c13, px_c14, m6_oB hk20 (j := 3) (by decide) (y := 3) rfl, m6_oB hk20 (j := 7) (by decide) (y := 7) rfl, m6_oB hk20 (j := 8) (by decide) (y := 8) rfl, m6_oB hk20 (j := 4) (by decide) (y := 4) rfl, m6_points hk20]
  rw [h4, m6_isAground hw.z hk20 hat (by omega)]
  simp only [px_cI, px_cIx, px_cV, px_cVx, px_cL, px_cLx, px_cR0, px_cR1, px_cRx, px_lI, px_lL, px_up, px_gZ0, px_gZ1, px_gZb, px_g0, px_g1, px_g2, px_g3, px_g4, px_g5, px_g6, px_g7, px_g8, px_g9, px_g10, px_g11, px_g12, px_g13, px_g14, px_c0, px_c1, px_c2, px_c3, px_c4, px_c5, px_c6, px_c7, px_c8, px_c9, px_c10, px_c11, px_c12, px_c13, px_c14]
  have hhere : (if bo (h.1 20 0 0) k 3 = 1 then mb_cI (F_X6_isFit (nI k) (bo (h.1 20 0 0) k 4) h) fun y116 h115 => if y116 = 0 then mb_rI 0 h115 else mb_rI 1 h115 else mb_rI 1 h) = mb_rI (mb_b (sp_here (h.1 20 0 0) T k)) h := by
    unfold sp_here
    rcases hat with ⟨h3, b, hb, h4⟩ | ⟨h3, h4⟩
    · rw [if_pos h3, decide_eq_true h3, h4, m6_isFit hw.z hk20 (by omega), nI_clamp (by omega)]
      simp only [px_cI, px_cIx, px_cV, px_cVx, px_cL, px_cLx, px_cR0, px_cR1, px_cRx, px_lI, px_lL, px_up, px_gZ0, px_gZ1, px_gZb, px_g0, px_g1, px_g2, px_g3, px_g4, px_g5, px_g6, px_g7, px_g8, px_g9, px_g10, px_g11, px_g12, px_g13, px_g14, px_c0, px_c1, px_c2, px_c3, px_c4, px_c5, px_c6, px_c7, px_c8, px_c9, px_c10, px_c11, px_c12, px_c13, px_c14]
      cases sp_fit (h.1 20 0 0) T k b <;> rfl
    · have : ¬ bo (h.1 20 0 0) k 3 = 1 := by rcases h3 with e | e | e <;> rw [e] <;> decide
      rw [if_neg this, decide_eq_false this]; rfl
  rw [hhere]
  have hag : (if mb_b (sp_ag (h.1 20 0 0) T D k) = 0 then mb_rI 0 h else mb_rI 1 h) = mb_rI (mb_b (sp_ag (h.1 20 0 0) T D k)) h := by cases sp_ag (h.1 20 0 0) T D k <;> rfl
  rw [hag]
  have h5 : (if bo (h.1 20 0 0) k 3 = 2 then mb_rI (sp_pt (h.1 20 0 0) k) h else mb_rI (-1) h) = mb_rI (if bo (h.1 20 0 0) k 3 = 2 then sp_pt (h.1 20 0 0) k else -1) h := by split <;> rfl
  rw [h5]
  rcases (show c = 0 ∨ c = 1 ∨ c = 2 ∨ c = 3 ∨ c = 4 ∨ c = 5 ∨ c = 6 ∨ c = 7 ∨ c = 8 ∨ c = 9 by omega) with rfl | rfl | rfl | rfl | rfl | rfl | rfl | rfl | rfl | rfl
  · rw [if_neg (by decide), if_neg (by decide), if_neg (by decide), if_neg (by decide), if_neg (by decide), m6_oB hk20 (j := 0) (by decide) rfl]; rfl
  · rw [if_neg (by decide), if_neg (by decide), if_neg (by decide), if_neg (by decide), if_neg (by decide), m6_oB hk20 (j := 1) (by decide) rfl]; rfl
  · rw [if_neg (by decide), if_neg (by decide), if_neg (by decide), if_neg (by decide), if_neg (by decide), m6_oB hk20 (j := 2) (by decide) rfl]; rfl
  · rw [if_neg (by decide), if_neg (by decide), if_neg (by decide), if_neg (by decide), if_neg (by decide), m6_oB hk20 (j := 3) (by decide) rfl]; rfl
  · rw [if_neg (by decide), if_neg (by decide), if_neg (by decide), if_neg (by decide), if_neg (by decide), m6_oB hk20 (j := 4) (by decide) rfl]; rfl
  · rw [if_pos (by decide)]; rfl
  · rw [if_neg (by decide), if_pos (by decide)]; rfl
  · rw [if_neg (by decide), if_neg (by decide), if_pos (by decide)]; rfl
  · rw [if_neg (by decide), if_neg (by decide), if_neg (by decide), if_pos (by decide)]; rfl
  · rw [if_neg (by decide), if_neg (by decide), if_neg (by decide), if_neg (by decide), if_pos (by decide)]; rfl
theorem px_sub0 {a b : Nat} (ha : a < 2 ^ 30) (hb : b < 2 ^ 30) : (nI a - nI b < 0 ↔ nI a < nI b) ∧ (nI a - nI b = 0 ↔ nI a = nI b) := by
  constructor
  · rw [Int32.lt_iff_toInt_lt, Int32.lt_iff_toInt_lt, pk_sub_toInt ha hb, nI_toInt (by omega), nI_toInt (by omega), Int32.toInt_zero]; omega
  · rw [← Int32.toInt_inj, ← Int32.toInt_inj, pk_sub_toInt ha hb, nI_toInt (by omega), nI_toInt (by omega), Int32.toInt_zero]; omega
theorem m6_best_loop (hw : mb_W (h.1 20 0 0) B K T D U) {k : Nat} (hk : k < K) : ∀ (m j f : Nat) (o : Option Nat), (∀ i, o = some i → i < j) → j + m = B → m < f → B_X6_bestOf_4 f (nI k) (mb_oi o) (nI j) h = mb_rI (mb_oi (sp_bst (fun b => sp_open (h.1 20 0 0) K b && sp_fit (h.1 20 0 0) T k b) (sp_tt (h.1 20 0 0)) o j m)) h := by
  have h6 := hw.w6; have hB := hw.B16
  have hk20 : k < 20 := by have := hw.K20; omega
  intro m
  induction m with
  | zero =>
    intro j f o ho hj hf
    obtain ⟨f, rfl⟩ : ∃ g, f = g + 1 := ⟨f - 1, by omega⟩
    rw [B_X6_bestOf_4]
    simp only [px_cI, px_cIx, px_cV, px_cVx, px_cL, px_cLx, px_cR0, px_cR1, px_cRx, px_lI, px_lL, px_up, px_gZ0, px_gZ1, px_gZb, px_g0, px_g1, px_g2, px_g3, px_g4, px_g5, px_g6, px_g7, px_g8, px_g9, px_g10, px_g11, px_g12, px_g13, px_g14, px_c0, px_c1, px_c2, px_c3, px_c4, px_c5, px_c6, px_c7, px_c8, px_c9, px_c10, px_c11, px_c12, px_c13, px_c14]
    rw [h6, if_pos (nI_le (by omega) (by omega))]
    rfl
  | succ m ih =>
    intro j f o ho hj hf
    obtain ⟨f, rfl⟩ : ∃ g, f = g + 1 := ⟨f - 1, by omega⟩
    have hj16 : j < 16 := by omega
    rw [B_X6_bestOf_4]
    simp only [px_cI, px_cIx, px_cV, px_cVx, px_cL, px_cLx, px_cR0, px_cR1, px_cRx, px_lI, px_lL, px_up, px_gZ0, px_gZ1, px_gZb, px_g0, px_g1, px_g2, px_g3, px_g4, px_g5, px_g6, px_g7, px_g8, px_g9, px_g10, px_g11, px_g12, px_g13, px_g14, px_c0, px_c1, px_c2, px_c3, px_c4, px_c5, px_c6, px_c7, px_c8, px_c9, px_c10, px_c11, px_c12, px_c13, px_c14, m6_isOpen hw.z hj16, m6_isFit hw.z hk20 hj16, nI_1, m6_oT hj16 (j := 1) (by decide) (y := 1) rfl]
    rw [h6, if_neg (nI_ge (by omega) (by omega)), sp_bst_s]
    have hskip := ih (j + 1) f o (fun i hi => by have := ho i hi; omega) (by omega) (by omega)
    have htake : B_X6_bestOf_4 f (nI k) (nI j) (nI (j + 1)) h = _ := ih (j + 1) f (some j) (fun i hi => by cases hi; omega) (by omega) (by omega)
    cases q1 : sp_open (h.1 20 0 0) K j with
    | false => rw [if_pos (by rfl)]; exact hskip
    | true =>
      rw [if_neg (by decide)]
      cases q2 : sp_fit (h.1 20 0 0) T k j with
      | false => rw [if_pos (by rfl)]; exact hskip
      | true =>
        rw [if_neg (by decide)]
        cases o with
        | none =>
          rw [show mb_oi none = -1 from rfl, if_pos rfl]
          unfold B_X6_bestOf_54 B_X6_bestOf_81 B_X6_bestOf_86
          rw [if_pos (by decide), if_neg (by decide)]
          simp only [px_cI, px_cIx, px_cV, px_cVx, px_cL, px_cLx, px_cR0, px_cR1, px_cRx, px_lI, px_lL, px_up, px_gZ0, px_gZ1, px_gZb, px_g0, px_g1, px_g2, px_g3, px_g4, px_g5, px_g6, px_g7, px_g8, px_g9, px_g10, px_g11, px_g12, px_g13, px_g14, px_c0, px_c1, px_c2, px_c3, px_c4, px_c5, px_c6, px_c7, px_c8, px_c9, px_c10, px_c11, px_c12, px_c13, px_c14, nI_1]
          exact htake
        | some i =>
          have hi := ho i rfl
          have hi16 : i < 16 := by omega
          rw [show mb_oi (some i) = nI i from rfl, if_neg (fun e => by have := (px_oi (some i) (fun z hz => by cases hz; omega)).mp e; cases this)]
          rw [m6_oT hi16 (j := 1) (by decide) (y := 1) rfl]
          simp only [px_cI, px_cIx, px_cV, px_cVx, px_cL, px_cLx, px_cR0, px_cR1, px_cRx, px_lI, px_lL, px_up, px_gZ0, px_gZ1, px_gZb, px_g0, px_g1, px_g2, px_g3, px_g4, px_g5, px_g6, px_g7, px_g8, px_g9, px_g10, px_g11, px_g12, px_g13, px_g14, px_c0, px_c1, px_c2, px_c3, px_c4, px_c5, px_c6, px_c7, px_c8, px_c9, px_c10, px_c11, px_c12, px_c13, px_c14]
          obtain ⟨x1, y1, z1, hx1, hx2, hx3, hy1, hy2, hy3, -⟩ := hw.berth (show j < B by omega)
          obtain ⟨x2, y2, z2, gx1, gx2, gx3, gy1, gy2, gy3, -⟩ := hw.berth (show i < B by omega)
          have hs := px_sub0 (a := y1) (b := y2) (by omega) (by omega)
          rw [← hy1, ← gy1] at hs
          unfold B_X6_bestOf_54 B_X6_bestOf_81 B_X6_bestOf_85 B_X6_bestOf_86
          simp only [px_cI, px_cIx, px_cV, px_cVx, px_cL, px_cLx, px_cR0, px_cR1, px_cRx, px_lI, px_lL, px_up, px_gZ0, px_gZ1, px_gZb, px_g0, px_g1, px_g2, px_g3, px_g4, px_g5, px_g6, px_g7, px_g8, px_g9, px_g10, px_g11, px_g12, px_g13, px_g14, px_c0, px_c1, px_c2, px_c3, px_c4, px_c5, px_c6, px_c7, px_c8, px_c9, px_c10, px_c11, px_c12, px_c13, px_c14, nI_1, m6_oT hj16 (j := 0) (by decide) (y := 0) rfl, m6_oT hi16 (j := 0) (by decide) (y := 0) rfl]
          simp only [if_true, if_neg (show ¬ (1 : Int32) = 0 by decide)]
          show _ = mb_rI (mb_oi (sp_bst _ _ (cond (sp_tt (h.1 20 0 0) j i) (some j) (some i)) (j + 1) m)) h
          unfold sp_tt
          by_cases p1 : bt (h.1 20 0 0) j 1 < bt (h.1 20 0 0) i 1
          · rw [if_pos (hs.1.mpr p1), decide_eq_true p1]; exact htake
          · rw [if_neg (fun e => p1 (hs.1.mp e)), decide_eq_false p1]
            by_cases p2 : bt (h.1 20 0 0) j 1 = bt (h.1 20 0 0) i 1
            · rw [if_pos (hs.2.mpr p2), decide_eq_true p2]
              by_cases p3 : bt (h.1 20 0 0) i 0 ≤ bt (h.1 20 0 0) j 0
              · rw [if_pos p3, decide_eq_false (Int32.not_lt.mpr p3)]; exact hskip
              · rw [if_neg p3, decide_eq_true (Int32.not_le.mp p3)]; exact htake
            · rw [if_neg (fun e => p2 (hs.2.mp e)), decide_eq_false p2]; exact hskip
theorem m6_bestOf (hw : mb_W (h.1 20 0 0) B K T D U) {k : Nat} (hk : k < K) : F_X6_bestOf (nI k) h = mb_rI (mb_oi (sp_best (h.1 20 0 0) B K T k)) h := by
  unfold F_X6_bestOf
  have := hw.B16
  exact m6_best_loop hw hk B 0 mb_fu none (fun i hi => by cases hi) (by omega) (by unfold mb_fu; omega)
theorem m6_grounds_loop (hw : mb_W (h.1 20 0 0) B K T D U) {k : Nat} (hk : k < K) : ∀ (m j f : Nat), j + m = T → m < f → B_X6_grounds_2 f (nI k) (nI j) h = mb_rI (mb_oi (sp_find (fun i => sp_ag (h.1 20 0 0) T (D + i) k) j m)) h := by
  have h8 := hw.w8; have hT := hw.T14; have h4 := hw.dy; have hD := hw.dl
  intro m
  induction m with
  | zero =>
    intro j f hj hf
    obtain ⟨f, rfl⟩ : ∃ g, f = g + 1 := ⟨f - 1, by omega⟩
    rw [B_X6_grounds_2]
    simp only [px_cI, px_cIx, px_cV, px_cVx, px_cL, px_cLx, px_cR0, px_cR1, px_cRx, px_lI, px_lL, px_up, px_gZ0, px_gZ1, px_gZb, px_g0, px_g1, px_g2, px_g3, px_g4, px_g5, px_g6, px_g7, px_g8, px_g9, px_g10, px_g11, px_g12, px_g13, px_g14, px_c0, px_c1, px_c2, px_c3, px_c4, px_c5, px_c6, px_c7, px_c8, px_c9, px_c10, px_c11, px_c12, px_c13, px_c14]
    rw [h8, if_pos (nI_le (by omega) (by omega))]
    rfl
  | succ m ih =>
    intro j f hj hf
    obtain ⟨f, rfl⟩ : ∃ g, f = g + 1 := ⟨f - 1, by omega⟩
    rw [B_X6_grounds_2]
    simp only [px_cI, px_cIx, px_cV, px_cVx, px_cL, px_cLx, px_cR0, px_cR1, px_cRx, px_lI, px_lL, px_up, px_gZ0, px_gZ1, px_gZb, px_g0, px_g1, px_g2, px_g3, px_g4, px_g5, px_g6, px_g7, px_g8, px_g9, px_g10, px_g11, px_g12, px_g13, px_g14, px_c0, px_c1, px_c2, px_c3, px_c4, px_c5, px_c6, px_c7, px_c8, px_c9, px_c10, px_c11, px_c12, px_c13, px_c14]
    rw [h8, if_neg (nI_ge (by omega) (by omega)), sp_find, h4, nI_add, m6_isAground hw.z (by have := hw.K20; omega) (hw.boat hk).1 (by omega)]
    simp only [px_cI, px_cIx, px_cV, px_cVx, px_cL, px_cLx, px_cR0, px_cR1, px_cRx, px_lI, px_lL, px_up, px_gZ0, px_gZ1, px_gZb, px_g0, px_g1, px_g2, px_g3, px_g4, px_g5, px_g6, px_g7, px_g8, px_g9, px_g10, px_g11, px_g12, px_g13, px_g14, px_c0, px_c1, px_c2, px_c3, px_c4, px_c5, px_c6, px_c7, px_c8, px_c9, px_c10, px_c11, px_c12, px_c13, px_c14, nI_1]
    cases q : sp_ag (h.1 20 0 0) T (D + j) k with
    | true => rw [if_neg (by decide)]; rfl
    | false => rw [if_pos (by rfl), ih (j + 1) f (by omega) (by omega)]; rfl
theorem m6_grounds (hw : mb_W (h.1 20 0 0) B K T D U) {k : Nat} (hk : k < K) : F_X6_grounds (nI k) h = mb_rI (mb_oi (sp_gr (h.1 20 0 0) T D k)) h := by
  unfold F_X6_grounds
  have := hw.T14
  exact m6_grounds_loop hw hk T 0 mb_fu (by omega) (by unfold mb_fu; omega)
theorem m6_owed_loop (hz : mb_W0 (h.1 20 0 0) B K T) : ∀ (m j f : Nat) (a : Int64), j + m = K → m < f → B_X6_owedNow_4 f a (nI j) h = mb_rL (a + sp_sum (fun k => (bo (h.1 20 0 0) k 8).toInt64) j m) h := by
  have h7 := hz.2.2.1; have hK := hz.2.2.2.1
  intro m
  induction m with
  | zero =>
    intro j f a hj hf
    obtain ⟨f, rfl⟩ : ∃ g, f = g + 1 := ⟨f - 1, by omega⟩
    rw [B_X6_owedNow_4]
    simp only [px_cI, px_cIx, px_cV, px_cVx, px_cL, px_cLx, px_cR0, px_cR1, px_cRx, px_lI, px_lL, px_up, px_gZ0, px_gZ1, px_gZb, px_g0, px_g1, px_g2, px_g3, px_g4, px_g5, px_g6, px_g7, px_g8, px_g9, px_g10, px_g11, px_g12, px_g13, px_g14, px_c0, px_c1, px_c2, px_c3, px_c4, px_c5, px_c6, px_c7, px_c8, px_c9, px_c10, px_c11, px_c12, px_c13, px_c14]
    rw [h7, if_pos (nI_le (by omega) (by omega)), sp_sum, Int64.add_zero]
  | succ m ih =>
    intro j f a hj hf
    obtain ⟨f, rfl⟩ : ∃ g, f = g + 1 := ⟨f - 1, by omega⟩
    rw [B_X6_owedNow_4]
    simp only [px_cI, px_cIx, px_cV, px_cVx, px_cL, px_cLx, px_cR0, px_cR1, px_cRx, px_lI, px_lL, px_up, px_gZ0, px_gZ1, px_gZb, px_g0, px_g1, px_g2, px_g3, px_g4, px_g5, px_g6, px_g7, px_g8, px_g9, px_g10, px_g11, px_g12, px_g13, px_g14, px_c0, px_c1, px_c2, px_c3, px_c4, px_c5, px_c6, px_c7, px_c8, px_c9, px_c10, px_c11, px_c12, px_c13, px_c14, m6_oB (show j < 20 by omega) (j := 8) (by decide) (y := 8) rfl, nI_1]
    rw [h7, if_neg (nI_ge (by omega) (by omega)), sp_sum, ih (j + 1) f _ (by omega) (by omega), Int64.add_assoc]
theorem m6_owedNow (hz : mb_W0 (h.1 20 0 0) B K T) : F_X6_owedNow h = mb_rL (sp_owed (h.1 20 0 0) K) h := by
  unfold F_X6_owedNow
  have := hz.2.2.2.1
  rw [show B_X6_owedNow_4 mb_fu 0 0 h = B_X6_owedNow_4 mb_fu 0 (nI 0) h from rfl, m6_owed_loop hz K 0 mb_fu _ (by omega) (by unfold mb_fu; omega), Int64.zero_add]
  rfl
theorem m6_paidNow (h : mb_AH) : F_X6_paidNow h = mb_rL (sp_paid (h.1 20 0 0)) h := by
  unfold F_X6_paidNow
  simp only [px_cI, px_cIx, px_cV, px_cVx, px_cL, px_cLx, px_cR0, px_cR1, px_cRx, px_lI, px_lL, px_up, px_gZ0, px_gZ1, px_gZb, px_g0, px_g1, px_g2, px_g3, px_g4, px_g5, px_g6, px_g7, px_g8, px_g9, px_g10, px_g11, px_g12, px_g13, px_g14, px_c0, px_c1, px_c2, px_c3, px_c4, px_c5, px_c6, px_c7, px_c8, px_c9, px_c10, px_c11, px_c12, px_c13, px_c14]
  rfl
end
