/-! ===== pure: a day passes, both sides ===== -/
def sp_fee (w : Nat → Int32) (k : Nat) : Nat := if bo w k 3 = 1 then ((bo w k 0).toNatClampNeg * (bt w (bo w k 4).toNatClampNeg 3).toNatClampNeg) / 10 else if bo w k 3 = 3 then ((bo w k 0).toNatClampNeg * (w 1).toNatClampNeg) / 10 else 0
def sp_ow (w : Nat → Int32) (k : Nat) : Nat := (bo w k 8).toNatClampNeg
def sp_ok (w : Nat → Int32) (k : Nat) : Bool := decide (sp_ow w k + sp_fee w k < 2 ^ 31)
theorem px_fee {a z : Nat} (ha : a ≤ 400) (hz : z ≤ 9999999) : ((nI a).toInt64 * (nI z).toInt64) / 10 = lN (a * z / 10) ∧ a * z / 10 < 2 ^ 29 := by
  have h1 : a * z ≤ 400 * 9999999 := Nat.mul_le_mul ha hz
  rw [nI_l (by omega), nI_l (by omega), lN_mul, show (10 : Int64) = lN 10 from rfl, pk_lDiv (by omega) (by decide) (by decide)]
  exact ⟨rfl, by omega⟩
theorem px_moreL {o a : Nat} (ho : o < 2 ^ 31) (ha : a < 2 ^ 31) : (0 : Int32) < lg_cmp ((nI o).toInt64 + lN a) 2147483647 ↔ ¬ o + a < 2 ^ 31 := by
  have := (px_more ho ha).1
  rw [nI_l ha] at this
  exact this
/-- the boats before n are charged -/
def wf (w : Nat → Int32) : Nat → Nat → Int32
  | 0 => w
  | n + 1 => wb (wf w n) n 8 (nI (sp_ow w n + sp_fee w n))
theorem wf_lo (w : Nat → Int32) : ∀ (n i : Nat), i < 90 → wf w n i = w i := by
  intro n
  induction n with
  | zero => intro i _; rfl
  | succ n ih => intro i hi; rw [wf, wb_lo _ _ _ _ hi, ih i hi]
theorem wf_bo (w : Nat → Int32) : ∀ (n k j : Nat), j < 9 → bo (wf w n) k j = if k < n ∧ j = 8 then nI (sp_ow w k + sp_fee w k) else bo w k j := by
  intro n
  induction n with
  | zero => intro k j _; rw [if_neg (by omega)]; rfl
  | succ n ih =>
    intro k j hj
    rw [wf, wb_bo _ _ _ _ (by decide) hj, ih k j hj]
    by_cases q : k = n ∧ j = 8
    · rw [if_pos q, if_pos (show k < n + 1 ∧ j = 8 by omega), q.1]
    · rw [if_neg q]
      by_cases q2 : k < n ∧ j = 8
      · rw [if_pos q2, if_pos (show k < n + 1 ∧ j = 8 by omega)]
      · rw [if_neg q2, if_neg (show ¬ (k < n + 1 ∧ j = 8) by omega)]
theorem wf_o (w : Nat → Int32) (n k j : Nat) (hj : j < 8) : bo (wf w n) k j = bo w k j := by rw [wf_bo w n k j (by omega), if_neg (by omega)]
def wg (u : Nat → Int32) : Nat → Nat → Int32
  | 0 => u
  | n + 1 => wb (wg u n) n 5 (bo u n 5 + (if bo u n 3 = 2 then 1 else 0))
theorem wg_lo (w : Nat → Int32) : ∀ (n i : Nat), i < 90 → wg w n i = w i := by
  intro n
  induction n with
  | zero => intro i _; rfl
  | succ n ih => intro i hi; rw [wg, wb_lo _ _ _ _ hi, ih i hi]
theorem wg_bo (w : Nat → Int32) : ∀ (n k j : Nat), j < 9 → bo (wg w n) k j = if k < n ∧ j = 5 then bo w k 5 + (if bo w k 3 = 2 then 1 else 0) else bo w k j := by
  intro n
  induction n with
  | zero => intro k j _; rw [if_neg (by omega)]; rfl
  | succ n ih =>
    intro k j hj
    rw [wg, wb_bo _ _ _ _ (by decide) hj, ih k j hj]
    by_cases q : k = n ∧ j = 5
    · rw [if_pos q, if_pos (show k < n + 1 ∧ j = 5 by omega), q.1]
    · rw [if_neg q]
      by_cases q2 : k < n ∧ j = 5
      · rw [if_pos q2, if_pos (show k < n + 1 ∧ j = 5 by omega)]
      · rw [if_neg q2, if_neg (show ¬ (k < n + 1 ∧ j = 5) by omega)]
def wday (w : Nat → Int32) (K : Nat) : Nat → Int32 := wg (wr (wf w K) 4 (w 4 + 1)) K
theorem wday_lo (w : Nat → Int32) (K : Nat) {i : Nat} (hi : i < 90) : wday w K i = if i = 4 then w 4 + 1 else w i := by
  unfold wday
  rw [wg_lo _ _ _ hi]
  by_cases q : i = 4
  · rw [if_pos q, q, wr_s]
  · rw [if_neg q, wr_o _ _ _ q, wf_lo _ _ _ hi]
theorem wday_bo (w : Nat → Int32) (K : Nat) {k j : Nat} (hj : j < 9) : bo (wday w K) k j = if k < K ∧ j = 5 then bo w k 5 + (if bo w k 3 = 2 then 1 else 0) else if k < K ∧ j = 8 then nI (sp_ow w k + sp_fee w k) else bo w k j := by
  unfold wday
  have e : ∀ x y, bo (wr (wf w K) 4 (w 4 + 1)) x y = bo (wf w K) x y := fun x y => wr_o _ _ _ (by omega)
  rw [wg_bo _ _ _ _ hj, e, e, e, wf_o w K k 5 (by decide), wf_o w K k 3 (by decide), wf_bo w K k j hj]
section
variable {h g : mb_AH} {w v : Nat → Int32} {B K T D U n o : Nat}
theorem fee_at (hw : mb_W w B K T D U) {k : Nat} (hk : k < K) : ∃ a z c : Nat, bo w k 0 = nI a ∧ a ≤ 400 ∧ w 1 = nI z ∧ z ≤ 9999999 ∧ bo w k 8 = nI c ∧ c < 2 ^ 31 ∧ sp_ow w k = c ∧ sp_fee w k < 2 ^ 29 ∧ (bo w k 3 = 1 → ∃ b r, b < B ∧ bo w k 4 = nI b ∧ bt w b 3 = nI r ∧ r ≤ 9999999 ∧ sp_fee w k = a * r / 10) ∧ (bo w k 3 = 3 → sp_fee w k = a * z / 10) ∧ (bo w k 3 ≠ 1 → bo w k 3 ≠ 3 → sp_fee w k = 0) := by
  have hB := hw.B16
  obtain ⟨a, b9, c9, o9, e0, l0, u0, e1, l1, u1, e2, u2, e8, u8⟩ := (hw.boat hk).2.2.2
  obtain ⟨-, z, -, -, -, -, ez, uz, -⟩ := hw.2.2.2.2.2.2.2.2.1
  have c1 : bo w k 3 = 1 → ∃ b r, b < B ∧ bo w k 4 = nI b ∧ bt w b 3 = nI r ∧ r ≤ 9999999 ∧ sp_fee w k = a * r / 10 := fun h3 => by
    rcases (hw.boat hk).1 with ⟨-, b, hb, h4⟩ | ⟨h3n, -⟩
    · obtain ⟨x, y, r, -, -, -, -, -, -, -, er, ur⟩ := hw.berth hb
      refine ⟨b, r, hb, h4, er, ur, ?_⟩
      unfold sp_fee
      rw [if_pos h3, h4, nI_clamp (show b < 2 ^ 31 by omega), er, e0, nI_clamp (by omega), nI_clamp (by omega)]
    · exact absurd h3 (sp_ne1 h3n)
  have c3 : bo w k 3 = 3 → sp_fee w k = a * z / 10 := fun h3 => by
    unfold sp_fee
    rw [if_neg (by rw [h3]; decide), if_pos h3, e0, ez, nI_clamp (by omega), nI_clamp (by omega)]
  have c0 : bo w k 3 ≠ 1 → bo w k 3 ≠ 3 → sp_fee w k = 0 := fun n1 n3 => by
    unfold sp_fee
    rw [if_neg n1, if_neg n3]
  refine ⟨a, z, o9, e0, u0, ez, uz, e8, u8, by unfold sp_ow; rw [e8, nI_clamp u8], ?_, c1, c3, c0⟩
  by_cases h1 : bo w k 3 = 1
  · obtain ⟨b, r, -, -, -, ur, e⟩ := c1 h1
    rw [e]; exact (px_fee u0 ur).2
  · by_cases h3 : bo w k 3 = 3
    · rw [c3 h3]; exact (px_fee u0 uz).2
    · rw [c0 h1 h3]; decide
theorem c2_fee (r : mb_RM h o w B K T) (hw : mb_W w B K T D U) {k : Nat} (hk : k < K) : F_X2_feeOfDay o o k h = mb_rL (lN (sp_fee w k)) h := by
  obtain ⟨a, z, c, e0, u0, ez, uz, e8, u8, -, -, c1, c3, c0⟩ := fee_at hw hk
  unfold F_X2_feeOfDay
  rcases (hw.boat hk).1 with ⟨h3, b, hb, h4⟩ | ⟨h3, h4⟩
  · obtain ⟨b2, r9, hb2, h42, er, ur, e⟩ := c1 h3
    rw [c2_berthOf1 r hw hk hb2 h42]
    simp only [px_cI, px_cIx, px_cV, px_cVx, px_cL, px_cLx, px_cR0, px_cR1, px_cRx, px_lI, px_lL, px_up, px_gZ0, px_gZ1, px_gZb, px_g0, px_g1, px_g2, px_g3, px_g4, px_g5, px_g6, px_g7, px_g8, px_g9, px_g10, px_g11, px_g12, px_g13, px_g14, px_c0, px_c1, px_c2, px_c3, px_c4, px_c5, px_c6, px_c7, px_c8, px_c9, px_c10, px_c11, px_c12, px_c13, px_c14]
    unfold mb_gL
    rw [if_neg (by decide), (r.q hk).1, (r.t hb2).2.2.2, e0, er, (px_fee u0 ur).1, e]
  · rw [c2_berthOf0 r hk h4]
    simp only [px_cI, px_cIx, px_cV, px_cVx, px_cL, px_cLx, px_cR0, px_cR1, px_cRx, px_lI, px_lL, px_up, px_gZ0, px_gZ1, px_gZb, px_g0, px_g1, px_g2, px_g3, px_g4, px_g5, px_g6, px_g7, px_g8, px_g9, px_g10, px_g11, px_g12, px_g13, px_g14, px_c0, px_c1, px_c2, px_c3, px_c4, px_c5, px_c6, px_c7, px_c8, px_c9, px_c10, px_c11, px_c12, px_c13, px_c14]
    unfold mb_gL
    rw [(r.q hk).2.2.2.1]
    by_cases q : bo w k 3 = 3
    · rw [if_pos q, if_neg (by decide), (r.q hk).1, r.f1, e0, ez, (px_fee u0 uz).1, c3 q]
    · rw [if_neg q, c0 (sp_ne1 h3) q]; rfl
theorem m6_fee (hw : mb_W w B K T D U) {k : Nat} (hk : k < K) (e : ∀ j, j < 8 → bo (h.1 20 0 0) k j = bo w k j) (elo : ∀ i, i < 90 → i ≠ 4 → h.1 20 0 0 i = w i) : F_X6_fee (nI k) h = mb_rI (nI (sp_fee w k)) h := by
  have hK := hw.K20; have hB := hw.B16
  have hk20 : k < 20 := by omega
  obtain ⟨a, z, c, e0, u0, ez, uz, e8, u8, -, -, c1, c3, c0⟩ := fee_at hw hk
  have ee : ∀ x : Nat, ((lN x)).toInt32 = nI x := fun x => lN_i x
  unfold F_X6_fee B_X6_fee_43 mb_gL
  simp only [px_cI, px_cIx, px_cV, px_cVx, px_cL, px_cLx, px_cR0, px_cR1, px_cRx, px_lI, px_lL, px_up, px_gZ0, px_gZ1, px_gZb, px_g0, px_g1, px_g2, px_g3, px_g4, px_g5, px_g6, px_g7, px_g8, px_g9, px_g10, px_g11, px_g12, px_g13, px_g14, px_c0, px_c1, px_c2, px_c3, px_c4, px_c5, px_c6, px_c7, px_c8, px_c9, px_c10, px_c11, px_c12, px_c13, px_c14, m6_oB hk20 (j := 3) (by decide) (y := 3) rfl, m6_oB hk20 (j := 4) (by decide) (y := 4) rfl, m6_oB hk20 (j := 0) (by decide) (y := 0) rfl]
  rw [e 3 (by decide), e 4 (by decide), e 0 (by decide), e0]
  by_cases h1 : bo w k 3 = 1
  · obtain ⟨b2, r9, hb2, h42, er, ur, ef⟩ := c1 h1
    have et : bt (h.1 20 0 0) b2 3 = nI r9 := (elo _ (by omega) (by omega)).trans er
    rw [if_pos h1, h42, m6_oT (show b2 < 16 by omega) (j := 3) (by decide) (y := 3) rfl, et]
    simp only [px_cI, px_cIx, px_cV, px_cVx, px_cL, px_cLx, px_cR0, px_cR1, px_cRx, px_lI, px_lL, px_up, px_gZ0, px_gZ1, px_gZb, px_g0, px_g1, px_g2, px_g3, px_g4, px_g5, px_g6, px_g7, px_g8, px_g9, px_g10, px_g11, px_g12, px_g13, px_g14, px_c0, px_c1, px_c2, px_c3, px_c4, px_c5, px_c6, px_c7, px_c8, px_c9, px_c10, px_c11, px_c12, px_c13, px_c14]
    rw [if_neg (by decide), e 0 (by decide), e0, (px_fee u0 ur).1, ee, ef]
  · rw [if_neg h1]
    by_cases h3 : bo w k 3 = 3
    · rw [if_pos h3, elo 1 (by decide) (by decide), ez, if_neg (by decide), (px_fee u0 uz).1, ee, c3 h3]
    · rw [if_neg h3, if_neg (by decide), c0 h1 h3]
      have := (px_fee (z := 0) u0 (by decide)).1
      have this : (nI a).toInt64 * 0 / 10 = lN (a * 0 / 10) := this
      rw [this, ee, Nat.mul_zero]
theorem wf_W (hw : mb_W w B K T D U) : ∀ n, n ≤ K → (∀ k, k < n → sp_ok w k = true) → mb_W (wf w n) B K T D U := by
  intro n
  induction n with
  | zero => intro _ _; exact hw
  | succ n ih =>
    intro hn hok
    have hv := ih (by omega) (fun k hk => hok k (by omega))
    have hnK : n < K := by omega
    have ok := hok n (by omega)
    unfold sp_ok at ok
    rw [decide_eq_true_iff] at ok
    have hb := hv.boat hnK
    have eo : ∀ j, j < 8 → bo (wb (wf w n) n 8 (nI (sp_ow w n + sp_fee w n))) n j = bo (wf w n) n j := fun j hj => by rw [wb_bo _ _ _ _ (by decide) (by omega), if_neg (by omega)]
    rw [wf]
    refine hv.boat1 (k0 := n) (fun j hj _ => wb_lo _ _ _ _ hj) (by rw [wb_lo _ _ _ _ (by decide)]; exact hv.2.2.1.1) hv.2.2.1.2 (Nat.le_refl _) (fun k _ hne j hj => wb_other _ _ _ _ (by decide) hne hj) ?_ (fun k hk hne h1 h2 e4 => ?_) (fun k hk hne h1 h2 e4 => ?_)
    · unfold mb_at9 mb_hm9 mb_wt9 mb_nu9 at hb ⊢
      rw [eo 0 (by decide), eo 1 (by decide), eo 2 (by decide), eo 3 (by decide), eo 4 (by decide), eo 5 (by decide), eo 6 (by decide), eo 7 (by decide), wb_bo _ _ _ _ (by decide) (show 8 < 9 by decide), if_pos ⟨rfl, rfl⟩]
      obtain ⟨a1, a2, a3, a, b, c, o9, x0, x1, x2, x3, x4, x5, x6, x7, x8, x9⟩ := hb
      exact ⟨a1, a2, a3, a, b, c, _, x0, x1, x2, x3, x4, x5, x6, x7, rfl, ok⟩
    · rw [eo 3 (by decide)] at h2
      rw [eo 4 (by decide)] at e4
      exact hne (hv.2.2.2.2.2.1 k n hk hnK h1 h2 e4)
    · rw [eo 3 (by decide)] at h2
      rw [eo 6 (by decide)] at e4
      exact hne (hv.2.2.2.2.2.2.1 k n hk hnK h1 h2 e4)
theorem wf_fee (w : Nat → Int32) {n k : Nat} (hb : bo w k 3 = 1 → (bo w k 4).toNatClampNeg < 16) : sp_fee (wf w n) k = sp_fee w k := by
  unfold sp_fee
  rw [wf_o w n k 3 (by decide), wf_o w n k 0 (by decide), wf_o w n k 4 (by decide), wf_lo w n 1 (by decide)]
  by_cases q : bo w k 3 = 1
  · have := hb q
    rw [if_pos q, if_pos q]
    have et : bt (wf w n) (bo w k 4).toNatClampNeg 3 = bt w (bo w k 4).toNatClampNeg 3 := wf_lo w n _ (by omega)
    rw [et]
  · rw [if_neg q, if_neg q]
theorem at_16 (hw : mb_W w B K T D U) {k : Nat} (hk : k < K) (h3 : bo w k 3 = 1) : (bo w k 4).toNatClampNeg < 16 := by
  have hB := hw.B16
  rcases (hw.boat hk).1 with ⟨-, b, hb, h4⟩ | ⟨h3n, -⟩
  · rw [h4, nI_clamp (by omega)]; omega
  · exact absurd h3 (sp_ne1 h3n)
theorem c2_ca_loop (hw : mb_W w B K T D U) : ∀ (m k f : Nat) (h : mb_AH), k + m = K → m < f → mb_RM h o (wf w k) B K T → (∀ x, x < k → sp_ok w x = true) → ∃ g, B_X2_chargeAll_2 f o (nI k) h = mb_rI (mb_b (sp_all (sp_ok w) k m)) g ∧ mb_Fr o h g ∧ (sp_all (sp_ok w) k m = true → mb_RM g o (wf w K) B K T) := by
  have hB := hw.B16; have hK := hw.K20; have hT := hw.T14
  intro m
  induction m with
  | zero =>
    intro k f h hk hf r hok
    obtain ⟨f, rfl⟩ : ∃ g, f = g + 1 := ⟨f - 1, by omega⟩
    have : k = K := by omega
    subst this
    refine ⟨h, ?_, mb_Fr.rf _ _, fun _ => r⟩
    rw [B_X2_chargeAll_2, r.f7, wf_lo w k 7 (by decide), hw.w7, if_pos (nI_le (by omega) (by omega))]
    rfl
  | succ m ih =>
    intro k f h hk hf r hok
    obtain ⟨f, rfl⟩ : ∃ g, f = g + 1 := ⟨f - 1, by omega⟩
    have hkK : k < K := by omega
    have hk20 : k < 20 := by omega
    have hv := wf_W hw k (by omega) hok
    obtain ⟨a, z, c, e0, u0, ez, uz, e8, u8, eo, uf, -⟩ := fee_at hw hkK
    have ef : sp_fee (wf w k) k = sp_fee w k := wf_fee w (fun q => at_16 hw hkK q)
    have h6 : h.1 3 o k 6 = nI c := by rw [(r.q hkK).2.2.2.2.2.2, wf_bo w k k 8 (by decide), if_neg (by omega)]; exact e8
    rw [B_X2_chargeAll_2, r.f7, wf_lo w k 7 (by decide), hw.w7, if_neg (nI_ge (by omega) (by omega)), px_gB hk20 (by decide), nI_clamp (by omega), c2_fee r hv hkK, ef]
    simp only [px_cI, px_cIx, px_cV, px_cVx, px_cL, px_cLx, px_cR0, px_cR1, px_cRx, px_lI, px_lL, px_up, px_gZ0, px_gZ1, px_gZb, px_g0, px_g1, px_g2, px_g3, px_g4, px_g5, px_g6, px_g7, px_g8, px_g9, px_g10, px_g11, px_g12, px_g13, px_g14, px_c0, px_c1, px_c2, px_c3, px_c4, px_c5, px_c6, px_c7, px_c8, px_c9, px_c10, px_c11, px_c12, px_c13, px_c14]
    rw [px_gB hk20 (by decide)]
    unfold F_X1_canOweMore
    rw [h6]
    have es : sp_all (sp_ok w) k (m + 1) = (sp_ok w k && sp_all (sp_ok w) (k + 1) m) := rfl
    rw [es]
    by_cases q : c + sp_fee w k < 2 ^ 31
    · have ok : sp_ok w k = true := by unfold sp_ok; rw [eo, decide_eq_true q]
      rw [if_neg (fun z => (px_moreL u8 (by omega)).mp z q), ok, Bool.true_and]
      simp only [px_cI, px_cIx, px_cV, px_cVx, px_cL, px_cLx, px_cR0, px_cR1, px_cRx, px_lI, px_lL, px_up, px_gZ0, px_gZ1, px_gZb, px_g0, px_g1, px_g2, px_g3, px_g4, px_g5, px_g6, px_g7, px_g8, px_g9, px_g10, px_g11, px_g12, px_g13, px_g14, px_c0, px_c1, px_c2, px_c3, px_c4, px_c5, px_c6, px_c7, px_c8, px_c9, px_c10, px_c11, px_c12, px_c13, px_c14, nI_1]
      rw [if_neg (by decide), px_gB hk20 (by decide), h6, lN_i, nI_add]
      have r2 : mb_RM (mb_sI h 3 o k 6 (nI (c + sp_fee w k))) o (wf w (k + 1)) B K T := by
        obtain ⟨a0, a1, a2, a3, a4, a5, a6⟩ := r.q hkK
        rw [wf, eo]
        refine r.boat1 (k0 := k) hB hT (fun j hj _ => wb_lo _ _ _ _ hj) ?_ (fun k2 _ hne j hj => wb_other _ _ _ _ (by decide) hne hj) (fun j _ => by rw [mb_sI_o _ _ _ _ _ _ (by decide)]) (by rw [mb_sI_o _ _ _ _ _ _ (by decide)]) (fun k2 hne => ?_) (by rw [mb_sI_o _ _ _ _ _ _ (by decide)]) rfl ?_
        · rw [mb_sI_o _ _ _ _ _ _ (by decide), r.f9, wb_lo _ _ _ _ (by decide)]
        · funext j
          simp [mb_sI, hne]
        · unfold cp_b
          have e : ∀ j, j < 8 → bo (wb (wf w k) k 8 (nI (c + sp_fee w k))) k j = bo (wf w k) k j := fun j hj => by rw [wb_bo _ _ _ _ (by decide) (by omega), if_neg (by omega)]
          rw [e 0 (by decide), e 1 (by decide), e 2 (by decide), e 3 (by decide), e 4 (by decide), e 5 (by decide), e 6 (by decide), e 7 (by decide), wb_bo _ _ _ _ (by decide) (show 8 < 9 by decide), if_pos ⟨rfl, rfl⟩, wb_lo _ _ _ _ (show 4 < 90 by decide)]
          refine ⟨?_, fun y => ?_⟩
          · simp [mb_sI, a0, a1, a2, a3, a4, a5]
          · have := r.ow hkK y
            simp [mb_sI, this.1, this.2]
      obtain ⟨g, g1, g2, g3⟩ := ih (k + 1) f _ (by omega) (by omega) r2 (fun x hx => by
        by_cases y : x = k
        · subst y; exact ok
        · exact hok x (by omega))
      exact ⟨g, g1, (mb_Fr.wI h k 6 _ (by decide)).tr g2, g3⟩
    · have ok : sp_ok w k = false := by unfold sp_ok; rw [eo, decide_eq_false q]
      rw [if_pos ((px_moreL u8 (by omega)).mpr q), ok]
      simp only [px_cI, px_cIx, px_cV, px_cVx, px_cL, px_cLx, px_cR0, px_cR1, px_cRx, px_lI, px_lL, px_up, px_gZ0, px_gZ1, px_gZb, px_g0, px_g1, px_g2, px_g3, px_g4, px_g5, px_g6, px_g7, px_g8, px_g9, px_g10, px_g11, px_g12, px_g13, px_g14, px_c0, px_c1, px_c2, px_c3, px_c4, px_c5, px_c6, px_c7, px_c8, px_c9, px_c10, px_c11, px_c12, px_c13, px_c14]
      rw [if_pos trivial]
      exact ⟨h, rfl, mb_Fr.rf _ _, fun z => by cases z⟩
theorem m6_p2 (hw : mb_W w B K T D U) (hr : h.1 20 0 0 = w) : ∀ (m k f : Nat), k + m = K → m < f → B_X6_passes_2 f (nI k) h = if sp_all (sp_ok w) k m = true then B_X6_passes_41 mb_fu 0 h else mb_rI (-1) h := by
  have hK := hw.K20
  intro m
  induction m with
  | zero =>
    intro k f hk hf
    obtain ⟨f, rfl⟩ : ∃ g, f = g + 1 := ⟨f - 1, by omega⟩
    rw [B_X6_passes_2]
    simp only [px_cI, px_cIx, px_cV, px_cVx, px_cL, px_cLx, px_cR0, px_cR1, px_cRx, px_lI, px_lL, px_up, px_gZ0, px_gZ1, px_gZb, px_g0, px_g1, px_g2, px_g3, px_g4, px_g5, px_g6, px_g7, px_g8, px_g9, px_g10, px_g11, px_g12, px_g13, px_g14, px_c0, px_c1, px_c2, px_c3, px_c4, px_c5, px_c6, px_c7, px_c8, px_c9, px_c10, px_c11, px_c12, px_c13, px_c14]
    rw [hr, hw.w7, if_pos (nI_le (by omega) (by omega)), if_pos (by rfl)]
  | succ m ih =>
    intro k f hk hf
    obtain ⟨f, rfl⟩ : ∃ g, f = g + 1 := ⟨f - 1, by omega⟩
    have hkK : k < K := by omega
    have hk20 : k < 20 := by omega
    obtain ⟨a, z, c, e0, u0, ez, uz, e8, u8, eo, uf, -⟩ := fee_at hw hkK
    rw [B_X6_passes_2]
    simp only [px_cI, px_cIx, px_cV, px_cVx, px_cL, px_cLx, px_cR0, px_cR1, px_cRx, px_lI, px_lL, px_up, px_gZ0, px_gZ1, px_gZb, px_g0, px_g1, px_g2, px_g3, px_g4, px_g5, px_g6, px_g7, px_g8, px_g9, px_g10, px_g11, px_g12, px_g13, px_g14, px_c0, px_c1, px_c2, px_c3, px_c4, px_c5, px_c6, px_c7, px_c8, px_c9, px_c10, px_c11, px_c12, px_c13, px_c14, m6_oB hk20 (j := 8) (by decide) (y := 8) rfl, m6_fee hw hkK (fun j _ => by rw [hr]) (fun i _ _ => by rw [hr]), nI_1]
    rw [hr, hw.w7, if_neg (nI_ge (by omega) (by omega)), e8]
    have es : sp_all (sp_ok w) k (m + 1) = (sp_ok w k && sp_all (sp_ok w) (k + 1) m) := rfl
    rw [es]
    by_cases q : c + sp_fee w k < 2 ^ 31
    · have ok : sp_ok w k = true := by unfold sp_ok; rw [eo, decide_eq_true q]
      rw [if_pos ((px_more u8 (by omega)).2.mpr q), ok, Bool.true_and]
      exact ih (k + 1) f (by omega) (by omega)
    · have ok : sp_ok w k = false := by unfold sp_ok; rw [eo, decide_eq_false q]
      rw [if_neg (fun z => q ((px_more u8 (by omega)).2.mp z)), ok, Bool.false_and, if_neg (by decide)]
theorem m6_p41 (hw : mb_W w B K T D U) : ∀ (m k f : Nat) (h : mb_AH), k + m = K → m < f → h.1 20 0 0 = wf w k → ∃ g, B_X6_passes_41 f (nI k) h = B_X6_passes_90 mb_fu 0 g ∧ (∀ i, i ≠ 20 → g.1 i = h.1 i) ∧ g.2 = h.2 ∧ g.1 20 0 0 = wr (wf w K) 4 (w 4 + 1) := by
  have hK := hw.K20
  intro m
  induction m with
  | zero =>
    intro k f h hk hf hr
    obtain ⟨f, rfl⟩ : ∃ g, f = g + 1 := ⟨f - 1, by omega⟩
    have : k = K := by omega
    subst this
    refine ⟨mb_sI h 20 0 0 4 (w 4 + 1), ?_, fun i hi => mb_sI_o _ _ _ _ _ _ hi, rfl, by rw [m6_wr, hr]⟩
    rw [B_X6_passes_41]
    simp only [px_cI, px_cIx, px_cV, px_cVx, px_cL, px_cLx, px_cR0, px_cR1, px_cRx, px_lI, px_lL, px_up, px_gZ0, px_gZ1, px_gZb, px_g0, px_g1, px_g2, px_g3, px_g4, px_g5, px_g6, px_g7, px_g8, px_g9, px_g10, px_g11, px_g12, px_g13, px_g14, px_c0, px_c1, px_c2, px_c3, px_c4, px_c5, px_c6, px_c7, px_c8, px_c9, px_c10, px_c11, px_c12, px_c13, px_c14]
    rw [hr, wf_lo w k 7 (by decide), hw.w7, if_pos (nI_le (by omega) (by omega)), wf_lo w k 4 (by decide)]
  | succ m ih =>
    intro k f h hk hf hr
    obtain ⟨f, rfl⟩ : ∃ g, f = g + 1 := ⟨f - 1, by omega⟩
    have hkK : k < K := by omega
    have hk20 : k < 20 := by omega
    obtain ⟨a, z, c, e0, u0, ez, uz, e8, u8, eo, uf, -⟩ := fee_at hw hkK
    obtain ⟨s1, s2⟩ := m6_setsw hk20 (j := 8) (y := 8) (by decide) rfl (nI (c + sp_fee w k)) h
    obtain ⟨g, g1, g2, g3, g4⟩ := ih (k + 1) f _ (by omega) (by omega) (by rw [s2, hr, wf, eo])
    refine ⟨g, ?_, fun i hi => by rw [g2 i hi, mb_sI_o _ _ _ _ _ _ hi], g3, g4⟩
    have h8 : bo (h.1 20 0 0) k 8 = nI c := by rw [hr, wf_bo w k k 8 (by decide), if_neg (by omega)]; exact e8
    have hfee : F_X6_fee (nI k) h = mb_rI (nI (sp_fee w k)) h := m6_fee hw hkK (fun j hj => by rw [hr]; exact wf_o w k k j hj) (fun i hi _ => by rw [hr]; exact wf_lo w k i hi)
    rw [B_X6_passes_41]
    simp only [px_cI, px_cIx, px_cV, px_cVx, px_cL, px_cLx, px_cR0, px_cR1, px_cRx, px_lI, px_lL, px_up, px_gZ0, px_gZ1, px_gZb, px_g0, px_g1, px_g2, px_g3, px_g4, px_g5, px_g6, px_g7, px_g8, px_g9, px_g10, px_g11, px_g12, px_g13, px_g14, px_c0, px_c1, px_c2, px_c3, px_c4, px_c5, px_c6, px_c7, px_c8, px_c9, px_c10, px_c11, px_c12, px_c13, px_c14, m6_oB hk20 (j := 8) (by decide) (y := 8) rfl, hfee, nI_1]
    rw [h8, nI_add, s1, hr, wf_lo w k 7 (by decide), hw.w7, if_neg (nI_ge (by omega) (by omega))]
    exact g1
/-- what the season does at the end of a day -/
def sp_sea (w : Nat → Int32) (B K T d : Nat) : (Nat → Int32) × Nat := if w 5 = 0 then (if nI d = w 2 then (winw w B K T, 1) else (w, 0)) else (if nI d = w 3 then (vs w K T K, 1) else (w, 0))
def mb_F6 (h g : mb_AH) : Prop := (∀ k, k ≠ 20 → k ≠ 24 → k ≠ 25 → k ≠ 26 → g.1 k = h.1 k) ∧ g.2 = h.2
theorem mb_F6.tr {f : mb_AH} (a : mb_F6 h g) (b : mb_F6 g f) : mb_F6 h f := ⟨fun k x y z u => (b.1 k x y z u).trans (a.1 k x y z u), b.2.trans a.2⟩
theorem m6_p90 {u : Nat → Int32} (hv : mb_W (wg u K) B K T D U) : ∀ (m k f : Nat) (h : mb_AH), k + m = K → m < f → h.1 20 0 0 = wg u k → ∃ g, B_X6_passes_90 f (nI k) h = mb_rI (nI (sp_sea (wg u K) B K T (D % 360)).2) g ∧ mb_F6 h g ∧ g.1 20 0 0 = (sp_sea (wg u K) B K T (D % 360)).1 := by
  have hK := hv.K20
  have h7 : u 7 = nI K := by have := hv.w7; rw [wg_lo _ _ _ (by decide)] at this; exact this
  intro m
  induction m with
  | zero =>
    intro k f h hk hf hr
    obtain ⟨f, rfl⟩ : ∃ g, f = g + 1 := ⟨f - 1, by omega⟩
    have : k = K := by omega
    subst this
    have hv2 : mb_W (h.1 20 0 0) B k T D U := by rw [hr]; exact hv
    have hdl := hv2.dl
    have ed : h.1 20 0 0 4 - h.1 20 0 0 4 / 360 * 360 = nI (D % 360) := by
      rw [hv2.dy, show (360 : Int32) = nI 360 from rfl, pk_rem (by omega) (by decide) (by decide)]
    rw [B_X6_passes_90]
    simp only [px_cI, px_cIx, px_cV, px_cVx, px_cL, px_cLx, px_cR0, px_cR1, px_cRx, px_lI, px_lL, px_up, px_gZ0, px_gZ1, px_gZb, px_g0, px_g1, px_g2, px_g3, px_g4, px_g5, px_g6, px_g7, px_g8, px_g9, px_g10, px_g11, px_g12, px_g13, px_g14, px_c0, px_c1, px_c2, px_c3, px_c4, px_c5, px_c6, px_c7, px_c8, px_c9, px_c10, px_c11, px_c12, px_c13, px_c14]
    unfold mb_g0 B_X6_passes_171
    simp only [px_cI, px_cIx, px_cV, px_cVx, px_cL, px_cLx, px_cR0, px_cR1, px_cRx, px_lI, px_lL, px_up, px_gZ0, px_gZ1, px_gZb, px_g0, px_g1, px_g2, px_g3, px_g4, px_g5, px_g6, px_g7, px_g8, px_g9, px_g10, px_g11, px_g12, px_g13, px_g14, px_c0, px_c1, px_c2, px_c3, px_c4, px_c5, px_c6, px_c7, px_c8, px_c9, px_c10, px_c11, px_c12, px_c13, px_c14]
    rw [if_neg (show ¬ (360 : Int32) = 0 by decide), ed, hv2.w7, if_pos (nI_le (by omega) (by omega)), ← hr]
    unfold sp_sea
    have h5 := hv2.wi
    by_cases q2 : nI (D % 360) = h.1 20 0 0 2
    · rw [if_pos q2]
      rcases h5 with h5 | h5
      · rw [if_pos h5, if_pos h5, if_pos q2]
        obtain ⟨g, e1, e2, e3, e4⟩ := m6_begins hv2
        rw [e1]
        exact ⟨g, rfl, ⟨e2, e3⟩, e4⟩
      · rw [h5, if_neg (show ¬ (1 : Int32) = 0 by decide), if_neg (show ¬ (1 : Int32) = 0 by decide)]
        by_cases q3 : nI (D % 360) = h.1 20 0 0 3
        · rw [if_pos q3, if_pos q3, if_pos rfl]
          obtain ⟨g, e1, e2, e3, e4⟩ := m6_ends hv2
          rw [e1]
          exact ⟨g, rfl, ⟨fun k a _ _ _ => e2 k a, e3⟩, e4⟩
        · rw [if_neg q3, if_neg q3]
          exact ⟨h, rfl, ⟨fun _ _ _ _ _ => rfl, rfl⟩, rfl⟩
    · rw [if_neg q2]
      rcases h5 with h5 | h5
      · rw [h5, if_pos rfl, if_neg q2, if_neg (show ¬ (0 : Int32) = 1 by decide)]
        refine ⟨h, ?_, ⟨fun _ _ _ _ _ => rfl, rfl⟩, rfl⟩
        by_cases q3 : nI (D % 360) = h.1 20 0 0 3
        · rw [if_pos q3]; rfl
        · rw [if_neg q3]; rfl
      · rw [h5, if_neg (show ¬ (1 : Int32) = 0 by decide), if_pos rfl]
        by_cases q3 : nI (D % 360) = h.1 20 0 0 3
        · rw [if_pos q3, if_pos q3]
          obtain ⟨g, e1, e2, e3, e4⟩ := m6_ends hv2
          rw [e1]
          exact ⟨g, rfl, ⟨fun k a _ _ _ => e2 k a, e3⟩, e4⟩
        · rw [if_neg q3, if_neg q3]
          exact ⟨h, rfl, ⟨fun _ _ _ _ _ => rfl, rfl⟩, rfl⟩
  | succ m ih =>
    intro k f h hk hf hr
    obtain ⟨f, rfl⟩ : ∃ g, f = g + 1 := ⟨f - 1, by omega⟩
    have hk20 : k < 20 := by omega
    have e3 : bo (h.1 20 0 0) k 3 = bo u k 3 := by rw [hr, wg_bo u k k 3 (by decide), if_neg (by omega)]
    have e5 : bo (h.1 20 0 0) k 5 = bo u k 5 := by rw [hr, wg_bo u k k 5 (by decide), if_neg (by omega)]
    obtain ⟨s1, s2⟩ := m6_setsw hk20 (j := 5) (y := 5) (by decide) rfl (bo u k 5 + (if bo u k 3 = 2 then 1 else 0)) h
    obtain ⟨g, g1, g2, g3⟩ := ih (k + 1) f _ (by omega) (by omega) (by rw [s2, hr, wg])
    refine ⟨g, ?_, ⟨fun i a b c d => by rw [g2.1 i a b c d, mb_sI_o _ _ _ _ _ _ a], g2.2⟩, g3⟩
    rw [B_X6_passes_90]
    unfold B_X6_passes_125
    simp only [px_cI, px_cIx, px_cV, px_cVx, px_cL, px_cLx, px_cR0, px_cR1, px_cRx, px_lI, px_lL, px_up, px_gZ0, px_gZ1, px_gZb, px_g0, px_g1, px_g2, px_g3, px_g4, px_g5, px_g6, px_g7, px_g8, px_g9, px_g10, px_g11, px_g12, px_g13, px_g14, px_c0, px_c1, px_c2, px_c3, px_c4, px_c5, px_c6, px_c7, px_c8, px_c9, px_c10, px_c11, px_c12, px_c13, px_c14, m6_oB hk20 (j := 5) (by decide) (y := 5) rfl, m6_oB hk20 (j := 3) (by decide) (y := 3) rfl, nI_1]
    rw [e3, e5, hr, wg_lo _ _ _ (by decide), h7, if_neg (nI_ge (by omega) (by omega))]
    by_cases q : bo u k 3 = 2
    · rw [if_pos q] at s1 g1
      rw [if_pos q, s1]
      exact g1
    · rw [if_neg q] at s1 g1
      rw [if_neg q, s1]
      exact g1
theorem wday_W (hw : mb_W w B K T D U) (lD : D + 1 ≤ 300000) (hok : ∀ k, k < K → sp_ok w k = true) : mb_W (wday w K) B K T (D + 1) U := by
  have hv := wf_W hw K (Nat.le_refl _) hok
  have e : ∀ i, i < 90 → i ≠ 4 → wday w K i = wf w K i := fun i h1 h4 => by rw [wday_lo w K h1, if_neg h4, wf_lo w K i h1]
  have eo : ∀ k j, j < 9 → j ≠ 5 → bo (wday w K) k j = bo (wf w K) k j := fun k j hj h5 => by rw [wday_bo w K hj, if_neg (by omega), wf_bo w K k j hj]
  have e5 : ∀ k, k < K → bo (wday w K) k 5 = bo (wf w K) k 5 + (if bo (wf w K) k 3 = 2 then 1 else 0) := fun k hk => by rw [wday_bo w K (by decide), if_pos ⟨hk, rfl⟩, wf_o w K k 5 (by decide), wf_o w K k 3 (by decide)]
  refine hv.gen (fun j h1 h4 _ _ => e j h1 h4) (by rw [wday_lo w K (by decide), if_pos rfl, hw.dy, nI_1]) lD (by rw [e 5 (by decide) (by decide)]; exact hv.wi) (by rw [e 9 (by decide) (by decide)]; exact hv.2.2.1.1) hv.2.2.1.2 (fun k hk => ?_) (fun x y hx hy h1 h2 e4 => ?_) (fun x y hx hy h1 h2 e4 => ?_)
  · have hb := hv.boat hk
    unfold mb_at9 mb_hm9 mb_wt9 mb_nu9 at hb ⊢
    rw [eo k 0 (by decide) (by decide), eo k 1 (by decide) (by decide), eo k 2 (by decide) (by decide), eo k 3 (by decide) (by decide), eo k 4 (by decide) (by decide), e5 k hk, eo k 6 (by decide) (by decide), eo k 7 (by decide) (by decide), eo k 8 (by decide) (by decide)]
    refine ⟨hb.1, hb.2.1, ⟨fun z => ?_, fun z => ?_⟩, hb.2.2.2⟩
    · obtain ⟨a, s, a1, a2, a3, a4⟩ := hb.2.2.1.1 z
      exact ⟨a + 1, s, by rw [if_pos z, a1, nI_1], by omega, a3, a4⟩
    · rw [if_neg z, hb.2.2.1.2 z]; rfl
  · rw [eo x 3 (by decide) (by decide)] at h1
    rw [eo y 3 (by decide) (by decide)] at h2
    rw [eo x 4 (by decide) (by decide), eo y 4 (by decide) (by decide)] at e4
    exact hv.2.2.2.2.2.1 x y hx hy h1 h2 e4
  · rw [eo x 3 (by decide) (by decide)] at h1
    rw [eo y 3 (by decide) (by decide)] at h2
    rw [eo x 6 (by decide) (by decide), eo y 6 (by decide) (by decide)] at e4
    exact hv.2.2.2.2.2.2.1 x y hx hy h1 h2 e4
theorem wday_H (hw : mb_W w B K T D U) (hH : mb_H w K) : mb_H (wday w K) K := by
  have hB := hw.B16
  intro k hk
  have hh := hH k hk
  have eo : ∀ j, j < 9 → j ≠ 5 → j ≠ 8 → bo (wday w K) k j = bo w k j := fun j hj h5 h8 => by rw [wday_bo w K hj, if_neg (by omega), if_neg (by omega)]
  unfold mb_h9 at hh ⊢
  rw [eo 7 (by decide) (by decide) (by decide), eo 3 (by decide) (by decide) (by decide), eo 0 (by decide) (by decide) (by decide), eo 4 (by decide) (by decide) (by decide), wday_lo w K (by decide), if_neg (by decide)]
  refine ⟨hh.1, hh.2.1, fun z => ?_⟩
  have h2 := hh.2.2 z
  have h16 := at_16 hw hk z
  have et : bt (wday w K) (bo w k 4).toNatClampNeg 1 = bt w (bo w k 4).toNatClampNeg 1 := by
    show wday w K (26 + 4 * (bo w k 4).toNatClampNeg + 1) = _
    rw [wday_lo w K (by omega), if_neg (by omega)]; rfl
  rw [et]
  exact h2
theorem px_day (a b : Int32) : a + 1 - (b + 1) = a - b := by grind
theorem wday_RM (r : mb_RM h o (wf w K) B K T) (hw : mb_W w B K T D U) : mb_RM (mb_sI h 1 o 0 11 (w 4 + 1)) o (wday w K) B K T := by
  refine r.gen hw.B16 hw.T14 (fun j h1 h4 _ _ => by rw [wday_lo w K h1, if_neg h4, wf_lo w K j h1]) (by rw [mb_sI_s, wday_lo w K (by decide), if_pos rfl]) (by rw [mb_sI_j _ _ _ _ _ _ (by decide), r.f5, wday_lo w K (by decide), if_neg (by decide), wf_lo w K 5 (by decide)]) (by rw [mb_sI_j _ _ _ _ _ _ (by decide), r.f9, wday_lo w K (by decide), if_neg (by decide), wf_lo w K 9 (by decide)]) (fun j h11 _ _ => mb_sI_j _ _ _ _ _ _ h11 _ _ _) (by rw [mb_sI_o _ _ _ _ _ _ (by decide)]) (by rw [mb_sI_o _ _ _ _ _ _ (by decide)]) rfl (fun k hk => ?_)
  have eo : ∀ j, j < 9 → j ≠ 5 → bo (wday w K) k j = bo (wf w K) k j := fun j hj h5 => by rw [wday_bo w K hj, if_neg (by omega), wf_bo w K k j hj]
  unfold cp_b
  rw [eo 0 (by decide) (by decide), eo 1 (by decide) (by decide), eo 2 (by decide) (by decide), eo 3 (by decide) (by decide), eo 4 (by decide) (by decide), eo 6 (by decide) (by decide), eo 7 (by decide) (by decide), eo 8 (by decide) (by decide), mb_sI_o _ _ _ _ _ _ (show 3 ≠ 1 by decide)]
  refine ⟨r.q hk, fun z => ?_⟩
  obtain ⟨a, b⟩ := r.ow hk z
  refine ⟨?_, b⟩
  rw [a, wday_lo w K (by decide), if_pos rfl, wday_bo w K (by decide), if_pos ⟨hk, rfl⟩, wf_lo w K 4 (by decide), wf_o w K k 5 (by decide)]
  rw [wf_o w K k 3 (by decide)] at z
  rw [if_pos z, px_day]
end
