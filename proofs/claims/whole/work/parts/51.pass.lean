/-! ===== pure: pass, owesAfter, winterBerth, wouldGoAshore ===== -/
def sp_days (B K T : Nat) : Nat → (Nat → Int32) → Nat → Nat → Option ((Nat → Int32) × Nat)
  | 0, w, _, c => some (w, c)
  | m + 1, w, D, c => if sp_all (sp_ok w) 0 K = true then sp_days B K T m (sp_sea (wday w K) B K T ((D + 1) % 360)).1 (D + 1) (c + (sp_sea (wday w K) B K T ((D + 1) % 360)).2) else none
section
variable {h g : mb_AH} {w v : Nat → Int32} {B K T D U n o : Nat}
theorem sea_le (w : Nat → Int32) (B K T d : Nat) : (sp_sea w B K T d).2 ≤ 1 := by
  unfold sp_sea
  split
  · split
    · exact Nat.le_refl _
    · exact Nat.zero_le _
  · split
    · exact Nat.le_refl _
    · exact Nat.zero_le _
theorem sea_W (hw : mb_W w B K T D U) (lU : U + 20 ≤ 5000000) (hH : mb_H w K) (d : Nat) : (∃ U2, U2 ≤ U + 20 ∧ mb_W (sp_sea w B K T d).1 B K T D U2) ∧ mb_H (sp_sea w B K T d).1 K ∧ (sp_sea w B K T d).1 10 = w 10 := by
  have hK := hw.K20
  unfold sp_sea
  by_cases h5 : w 5 = 0
  · rw [if_pos h5]
    by_cases q : nI d = w 2
    · rw [if_pos q]
      exact ⟨⟨U, by omega, win_W hw⟩, win_H hw hH h5, by show winw w B K T 10 = w 10; rw [win_lo w B K T (show 10 < 90 by decide), if_neg (by decide)]⟩
    · rw [if_neg q]
      exact ⟨⟨U, by omega, hw⟩, hH, rfl⟩
  · rw [if_neg h5]
    by_cases q : nI d = w 3
    · rw [if_pos q]
      obtain ⟨U2, l, hv⟩ := vs_W hw lU K (Nat.le_refl _)
      exact ⟨⟨U2, by omega, hv⟩, vs_H hw hH, by show vs w K T K 10 = w 10; rw [vs_lo w K T K 10 (by decide) (by decide), if_neg (by decide)]⟩
    · rw [if_neg q]
      exact ⟨⟨U, by omega, hw⟩, hH, rfl⟩
theorem all_ok (h : sp_all (sp_ok w) 0 K = true) : ∀ k, k < K → sp_ok w k = true := fun k hk => (sp_all_iff _ _ _).mp h k (Nat.zero_le _) (by omega)
theorem days_W : ∀ (m : Nat) (w : Nat → Int32) (D U c : Nat), mb_W w B K T D U → mb_H w K → D + m ≤ 300000 → U + 20 * m ≤ 5000000 → ∀ w2 c2, sp_days B K T m w D c = some (w2, c2) → ∃ U2, U2 ≤ U + 20 * m ∧ mb_W w2 B K T (D + m) U2 ∧ mb_H w2 K ∧ w2 10 = w 10 ∧ c2 ≤ c + m := by
  intro m
  induction m with
  | zero =>
    intro w D U c hw hH lD lU w2 c2 e
    cases e
    exact ⟨U, by omega, hw, hH, rfl, Nat.le_refl _⟩
  | succ m ih =>
    intro w D U c hw hH lD lU w2 c2 e
    rw [sp_days] at e
    by_cases q : sp_all (sp_ok w) 0 K = true
    · rw [if_pos q] at e
      have hwd := wday_W hw (by omega) (all_ok q)
      obtain ⟨⟨U1, l1, hw1⟩, hH1, e10⟩ := sea_W hwd (by omega) (wday_H hw hH) ((D + 1) % 360)
      have hl := sea_le (wday w K) B K T ((D + 1) % 360)
      obtain ⟨U2, l2, hw2, hH2, e2, lc⟩ := ih _ (D + 1) U1 _ hw1 hH1 (by omega) (by omega) w2 c2 e
      refine ⟨U2, by omega, by rw [show D + (m + 1) = D + 1 + m by omega]; exact hw2, hH2, ?_, by omega⟩
      rw [e2, e10, wday_lo w K (by decide), if_neg (by decide)]
    · rw [if_neg q] at e; cases e
theorem c2_day (hw : mb_W w B K T D U) (r : mb_RM h o w B K T) (hH : mb_H w K) (lD : D + 1 ≤ 300000) (lU : U + 20 ≤ 5000000) (N c k f : Nat) :
    (sp_all (sp_ok w) 0 K = true → ¬ nI N ≤ nI k → ∃ g, B_X2_letPass_5 (f + 1) o (nI N) (nI c) (nI k) h = B_X2_letPass_5 f o (nI N) (nI (c + (sp_sea (wday w K) B K T ((D + 1) % 360)).2)) (nI (k + 1)) g ∧ mb_Fw o h g ∧ mb_RM g o (sp_sea (wday w K) B K T ((D + 1) % 360)).1 B K T) ∧
    (¬ sp_all (sp_ok w) 0 K = true → ¬ nI N ≤ nI k → ∃ g, B_X2_letPass_5 (f + 1) o (nI N) (nI c) (nI k) h = mb_rI (-1) g ∧ mb_Fw o h g) := by
  have hK := hw.K20
  have e1 := c2_ca_loop hw K 0 mb_fu h (by omega) (by unfold mb_fu; omega) r (fun x hx => absurd hx (Nat.not_lt_zero x))
  obtain ⟨g1, e1, fr1, rf1⟩ := e1
  have e1 : F_X2_chargeAll o h = mb_rI (mb_b (sp_all (sp_ok w) 0 K)) g1 := e1
  refine ⟨fun q hn => ?_, fun q hn => ?_⟩
  · have rf := rf1 q
    have e4 : g1.1 1 o 0 11 = w 4 := by rw [rf.f4, wf_lo w K 4 (by decide)]
    have rd := wday_RM rf hw
    have hwd := wday_W hw lD (all_ok q)
    rw [B_X2_letPass_5, if_neg hn, e1, q]
    simp only [px_cI, px_cIx, px_cV, px_cVx, px_cL, px_cLx, px_cR0, px_cR1, px_cRx, px_lI, px_lL, px_up, px_gZ0, px_gZ1, px_gZb, px_g0, px_g1, px_g2, px_g3, px_g4, px_g5, px_g6, px_g7, px_g8, px_g9, px_g10, px_g11, px_g12, px_g13, px_g14, px_c0, px_c1, px_c2, px_c3, px_c4, px_c5, px_c6, px_c7, px_c8, px_c9, px_c10, px_c11, px_c12, px_c13, px_c14]
    rw [if_neg (show ¬ mb_b true = 0 by decide), e4]
    have fr2 : mb_Fr o h (mb_sI g1 1 o 0 11 (w 4 + 1)) := fr1.tr (mb_Fr.wI (k := 1) g1 0 11 _ (by decide))
    generalize mb_sI g1 1 o 0 11 (w 4 + 1) = h2 at rd fr2 ⊢
    unfold mb_g0
    rw [if_neg (show ¬ (360 : Int32) = 0 by decide), rd.f4, hwd.dy, show (360 : Int32) = nI 360 from rfl, pk_rem (by omega) (by decide) (by decide), rd.f5, rd.f2, nI_1, nI_1]
    have h67 : B_X2_letPass_67 (B_X2_letPass_5 f) o (nI N) (nI c) (nI k) (nI ((D + 1) % 360)) h2 = if wday w K 5 = 0 then B_X2_letPass_5 f o (nI N) (nI c) (nI (k + 1)) h2 else (if nI ((D + 1) % 360) = wday w K 3 then (mb_cV (F_X2_beginSpring o h2) fun h107 => B_X2_letPass_5 f o (nI N) (nI (c + 1)) (nI (k + 1)) h107) else B_X2_letPass_5 f o (nI N) (nI c) (nI (k + 1)) h2) := by
      unfold B_X2_letPass_67
      simp only [px_cI, px_cIx, px_cV, px_cVx, px_cL, px_cLx, px_cR0, px_cR1, px_cRx, px_lI, px_lL, px_up, px_gZ0, px_gZ1, px_gZb, px_g0, px_g1, px_g2, px_g3, px_g4, px_g5, px_g6, px_g7, px_g8, px_g9, px_g10, px_g11, px_g12, px_g13, px_g14, px_c0, px_c1, px_c2, px_c3, px_c4, px_c5, px_c6, px_c7, px_c8, px_c9, px_c10, px_c11, px_c12, px_c13, px_c14, nI_1]
      rw [rd.f5, rd.f3]
    rw [h67]
    unfold sp_sea
    by_cases h5 : wday w K 5 = 0
    · rw [if_pos h5, if_pos h5, if_pos h5]
      by_cases q2 : nI ((D + 1) % 360) = wday w K 2
      · rw [if_pos q2, if_pos q2]
        obtain ⟨g, a1, a2, a3⟩ := c2_beginWinter hwd rd
        rw [a1]
        simp only [px_cI, px_cIx, px_cV, px_cVx, px_cL, px_cLx, px_cR0, px_cR1, px_cRx, px_lI, px_lL, px_up, px_gZ0, px_gZ1, px_gZb, px_g0, px_g1, px_g2, px_g3, px_g4, px_g5, px_g6, px_g7, px_g8, px_g9, px_g10, px_g11, px_g12, px_g13, px_g14, px_c0, px_c1, px_c2, px_c3, px_c4, px_c5, px_c6, px_c7, px_c8, px_c9, px_c10, px_c11, px_c12, px_c13, px_c14]
        exact ⟨g, rfl, (mb_Fw.fr fr2).tr a2, a3⟩
      · rw [if_neg q2, if_neg q2]
        exact ⟨h2, rfl, mb_Fw.fr fr2, rd⟩
    · rw [if_neg h5, if_neg h5, if_neg h5]
      by_cases q3 : nI ((D + 1) % 360) = wday w K 3
      · rw [if_pos q3, if_pos q3]
        obtain ⟨g, a1, a2, a3⟩ := c2_beginSpring hwd lU rd
        rw [a1]
        simp only [px_cI, px_cIx, px_cV, px_cVx, px_cL, px_cLx, px_cR0, px_cR1, px_cRx, px_lI, px_lL, px_up, px_gZ0, px_gZ1, px_gZb, px_g0, px_g1, px_g2, px_g3, px_g4, px_g5, px_g6, px_g7, px_g8, px_g9, px_g10, px_g11, px_g12, px_g13, px_g14, px_c0, px_c1, px_c2, px_c3, px_c4, px_c5, px_c6, px_c7, px_c8, px_c9, px_c10, px_c11, px_c12, px_c13, px_c14]
        exact ⟨g, rfl, (mb_Fw.fr fr2).tr (mb_Fw.fr a2), a3⟩
      · rw [if_neg q3, if_neg q3]
        exact ⟨h2, rfl, mb_Fw.fr fr2, rd⟩
  · have qf := bf_t q
    refine ⟨g1, ?_, mb_Fw.fr fr1⟩
    rw [B_X2_letPass_5, if_neg hn, e1, qf]
    simp only [px_cI, px_cIx, px_cV, px_cVx, px_cL, px_cLx, px_cR0, px_cR1, px_cRx, px_lI, px_lL, px_up, px_gZ0, px_gZ1, px_gZb, px_g0, px_g1, px_g2, px_g3, px_g4, px_g5, px_g6, px_g7, px_g8, px_g9, px_g10, px_g11, px_g12, px_g13, px_g14, px_c0, px_c1, px_c2, px_c3, px_c4, px_c5, px_c6, px_c7, px_c8, px_c9, px_c10, px_c11, px_c12, px_c13, px_c14]
    rw [if_pos (show mb_b false = 0 by decide)]
theorem c2_lp {N : Nat} (hN : N ≤ 400) : ∀ (m k f : Nat) (h : mb_AH) (w : Nat → Int32) (D U c : Nat), k + m = N → m < f → mb_W w B K T D U → mb_RM h o w B K T → mb_H w K → D + m ≤ 300000 → U + 20 * m ≤ 5000000 →
    (sp_days B K T m w D c = none → ∃ g, B_X2_letPass_5 f o (nI N) (nI c) (nI k) h = mb_rI (-1) g ∧ mb_Fw o h g) ∧ (∀ w2 c2, sp_days B K T m w D c = some (w2, c2) → ∃ g, B_X2_letPass_5 f o (nI N) (nI c) (nI k) h = mb_rI (nI c2) g ∧ mb_Fw o h g ∧ mb_RM g o w2 B K T) := by
  intro m
  induction m with
  | zero =>
    intro k f h w D U c hk hf hw r hH lD lU
    obtain ⟨f, rfl⟩ : ∃ g, f = g + 1 := ⟨f - 1, by omega⟩
    refine ⟨(fun e => by cases e), fun w2 c2 e => ?_⟩
    cases e
    exact ⟨h, by rw [B_X2_letPass_5, if_pos (nI_le (by omega) (by omega))], mb_Fw.rf _ _, r⟩
  | succ m ih =>
    intro k f h w D U c hk hf hw r hH lD lU
    obtain ⟨f, rfl⟩ : ∃ g, f = g + 1 := ⟨f - 1, by omega⟩
    obtain ⟨d1, d2⟩ := c2_day hw r hH (by omega) (by omega) N c k f
    have hn : ¬ nI N ≤ nI k := nI_ge (by omega) (by omega)
    rw [sp_days]
    by_cases q : sp_all (sp_ok w) 0 K = true
    · rw [if_pos q]
      obtain ⟨g, e1, f1, r1⟩ := d1 q hn
      have hwd := wday_W hw (by omega) (all_ok q)
      obtain ⟨⟨U1, l1, hw1⟩, hH1, -⟩ := sea_W hwd (by omega) (wday_H hw hH) ((D + 1) % 360)
      obtain ⟨i1, i2⟩ := ih (k + 1) f g _ (D + 1) U1 (c + (sp_sea (wday w K) B K T ((D + 1) % 360)).2) (by omega) (by omega) hw1 r1 hH1 (by omega) (by omega)
      refine ⟨fun e => ?_, fun w2 c2 e => ?_⟩
      · obtain ⟨g2, a, b⟩ := i1 e
        exact ⟨g2, e1.trans a, f1.tr b⟩
      · obtain ⟨g2, a, b, c9⟩ := i2 w2 c2 e
        exact ⟨g2, e1.trans a, f1.tr b, c9⟩
    · rw [if_neg q]
      refine ⟨fun _ => d2 q hn, fun w2 c2 e => by cases e⟩
theorem m6_passes (hw : mb_W (h.1 20 0 0) B K T D U) (lD : D + 1 ≤ 300000) : (sp_all (sp_ok (h.1 20 0 0)) 0 K = true → ∃ g, F_X6_passes h = mb_rI (nI (sp_sea (wday (h.1 20 0 0) K) B K T ((D + 1) % 360)).2) g ∧ mb_F6 h g ∧ g.1 20 0 0 = (sp_sea (wday (h.1 20 0 0) K) B K T ((D + 1) % 360)).1) ∧ (¬ sp_all (sp_ok (h.1 20 0 0)) 0 K = true → F_X6_passes h = mb_rI (-1) h) := by
  have hK := hw.K20
  have e2 : F_X6_passes h = _ := m6_p2 hw rfl K 0 mb_fu (by omega) (by unfold mb_fu; omega)
  refine ⟨fun q => ?_, fun q => by rw [e2, if_neg q]⟩
  rw [e2, if_pos q]
  obtain ⟨g1, a1, a2, a3, a4⟩ := m6_p41 hw K 0 mb_fu h (by omega) (by unfold mb_fu; omega) rfl
  have a1 : B_X6_passes_41 mb_fu 0 h = _ := a1
  have hwd : mb_W (wg (wr (wf (h.1 20 0 0) K) 4 (h.1 20 0 0 4 + 1)) K) B K T (D + 1) U := wday_W hw lD (all_ok q)
  obtain ⟨g2, b1, b2, b3⟩ := m6_p90 hwd K 0 mb_fu g1 (by omega) (by unfold mb_fu; omega) a4
  have b1 : B_X6_passes_90 mb_fu 0 g1 = _ := b1
  rw [a1, b1]
  exact ⟨g2, rfl, mb_F6.tr ⟨fun k a _ _ _ => a2 k a, a3⟩ b2, b3⟩
theorem m6_ps {N : Nat} (hN : N ≤ 400) : ∀ (m k f : Nat) (h : mb_AH) (D U c : Nat), k + m = N → m < f → mb_W (h.1 20 0 0) B K T D U → mb_H (h.1 20 0 0) K → D + m ≤ 300000 → U + 20 * m ≤ 5000000 →
    (sp_days B K T m (h.1 20 0 0) D c = none → ∃ g1, B_X6_pass_33 f (nI N) (nI c) (nI k) h = (mb_cV (F_X6_returns g1) fun h116 => mb_rI 0 (mb_sI h116 6 0 0 4 2)) ∧ mb_F6 h g1) ∧ (∀ w2 c2, sp_days B K T m (h.1 20 0 0) D c = some (w2, c2) → ∃ g, B_X6_pass_33 f (nI N) (nI c) (nI k) h = B_X6_pass_74 mb_fu (nI c2) 0 g ∧ mb_F6 h g ∧ g.1 20 0 0 = w2) := by
  intro m
  induction m with
  | zero =>
    intro k f h D U c hk hf hw hH lD lU
    obtain ⟨f, rfl⟩ : ∃ g, f = g + 1 := ⟨f - 1, by omega⟩
    refine ⟨(fun e => by cases e), fun w2 c2 e => ?_⟩
    cases e
    exact ⟨h, by rw [B_X6_pass_33, if_pos (nI_le (by omega) (by omega))], ⟨fun _ _ _ _ _ => rfl, rfl⟩, rfl⟩
  | succ m ih =>
    intro k f h D U c hk hf hw hH lD lU
    obtain ⟨f, rfl⟩ : ∃ g, f = g + 1 := ⟨f - 1, by omega⟩
    have hn : ¬ nI N ≤ nI k := nI_ge (by omega) (by omega)
    obtain ⟨d1, d2⟩ := m6_passes hw (by omega)
    rw [sp_days]
    by_cases q : sp_all (sp_ok (h.1 20 0 0)) 0 K = true
    · rw [if_pos q]
      obtain ⟨g, e1, f1, r1⟩ := d1 q
      have hwd := wday_W hw (by omega) (all_ok q)
      obtain ⟨⟨U1, l1, hw1⟩, hH1, -⟩ := sea_W hwd (by omega) (wday_H hw hH) ((D + 1) % 360)
      have hl := sea_le (wday (h.1 20 0 0) K) B K T ((D + 1) % 360)
      rw [← r1] at hw1 hH1
      obtain ⟨i1, i2⟩ := ih (k + 1) f g (D + 1) U1 (c + (sp_sea (wday (h.1 20 0 0) K) B K T ((D + 1) % 360)).2) (by omega) (by omega) hw1 hH1 (by omega) (by omega)
      have es : B_X6_pass_33 (f + 1) (nI N) (nI c) (nI k) h = B_X6_pass_33 f (nI N) (nI (c + (sp_sea (wday (h.1 20 0 0) K) B K T ((D + 1) % 360)).2)) (nI (k + 1)) g := by
        rw [B_X6_pass_33, if_neg hn, e1]
        simp only [px_cI, px_cIx, px_cV, px_cVx, px_cL, px_cLx, px_cR0, px_cR1, px_cRx, px_lI, px_lL, px_up, px_gZ0, px_gZ1, px_gZb, px_g0, px_g1, px_g2, px_g3, px_g4, px_g5, px_g6, px_g7, px_g8, px_g9, px_g10, px_g11, px_g12, px_g13, px_g14, px_c0, px_c1, px_c2, px_c3, px_c4, px_c5, px_c6, px_c7, px_c8, px_c9, px_c10, px_c11, px_c12, px_c13, px_c14, nI_1]
        rw [if_neg (px_neg1 (by omega)), nI_add]
      rw [es]
      rw [r1] at i1 i2
      refine ⟨fun e => ?_, fun w2 c2 e => ?_⟩
      · obtain ⟨g2, a, b⟩ := i1 e
        exact ⟨g2, a, f1.tr b⟩
      · obtain ⟨g2, a, b, c9⟩ := i2 w2 c2 e
        exact ⟨g2, a, f1.tr b, c9⟩
    · rw [if_neg q]
      refine ⟨fun _ => ⟨h, ?_, ⟨fun _ _ _ _ _ => rfl, rfl⟩⟩, fun w2 c2 e => by cases e⟩
      rw [B_X6_pass_33, if_neg hn, d2 q]
      simp only [px_cI, px_cIx, px_cV, px_cVx, px_cL, px_cLx, px_cR0, px_cR1, px_cRx, px_lI, px_lL, px_up, px_gZ0, px_gZ1, px_gZb, px_g0, px_g1, px_g2, px_g3, px_g4, px_g5, px_g6, px_g7, px_g8, px_g9, px_g10, px_g11, px_g12, px_g13, px_g14, px_c0, px_c1, px_c2, px_c3, px_c4, px_c5, px_c6, px_c7, px_c8, px_c9, px_c10, px_c11, px_c12, px_c13, px_c14]
      rw [if_pos trivial]
theorem m6_oa {N x : Nat} (hN : N ≤ 400) (hx : x < 20) : ∀ (m k f : Nat) (h : mb_AH) (D U c : Nat) (v3 : Int32), v3 ≠ -1 → k + m = N → m + 1 < f → mb_W (h.1 20 0 0) B K T D U → mb_H (h.1 20 0 0) K → D + m ≤ 300000 → U + 20 * m ≤ 5000000 →
    (sp_days B K T m (h.1 20 0 0) D c = none → ∃ g1, B_X6_owesAfter_46 f (nI x) (nI N) v3 (nI k) h = B_X6_owesAfter_84 (-1) g1 ∧ mb_F6 h g1) ∧ (∀ w2 c2, sp_days B K T m (h.1 20 0 0) D c = some (w2, c2) → ∃ g, B_X6_owesAfter_46 f (nI x) (nI N) v3 (nI k) h = B_X6_owesAfter_84 (bo w2 x 8) g ∧ mb_F6 h g) := by
  intro m
  induction m with
  | zero =>
    intro k f h D U c v3 hv3 hk hf hw hH lD lU
    obtain ⟨f, rfl⟩ : ∃ g, f = g + 1 := ⟨f - 1, by omega⟩
    refine ⟨(fun e => by cases e), fun w2 c2 e => ?_⟩
    cases e
    refine ⟨h, ?_, ⟨fun _ _ _ _ _ => rfl, rfl⟩⟩
    rw [B_X6_owesAfter_46, if_pos (nI_le (by omega) (by omega))]
    unfold B_X6_owesAfter_68
    rw [if_neg hv3, m6_oB hx (j := 8) (by decide) (y := 8) rfl]
    simp only [px_cI, px_cIx, px_cV, px_cVx, px_cL, px_cLx, px_cR0, px_cR1, px_cRx, px_lI, px_lL, px_up, px_gZ0, px_gZ1, px_gZb, px_g0, px_g1, px_g2, px_g3, px_g4, px_g5, px_g6, px_g7, px_g8, px_g9, px_g10, px_g11, px_g12, px_g13, px_g14, px_c0, px_c1, px_c2, px_c3, px_c4, px_c5, px_c6, px_c7, px_c8, px_c9, px_c10, px_c11, px_c12, px_c13, px_c14]
  | succ m ih =>
    intro k f h D U c v3 hv3 hk hf hw hH lD lU
    obtain ⟨f, rfl⟩ : ∃ g, f = g + 1 := ⟨f - 1, by omega⟩
    have hn : ¬ nI N ≤ nI k := nI_ge (by omega) (by omega)
    obtain ⟨d1, d2⟩ := m6_passes hw (by omega)
    rw [sp_days]
    by_cases q : sp_all (sp_ok (h.1 20 0 0)) 0 K = true
    · rw [if_pos q]
      obtain ⟨g, e1, f1, r1⟩ := d1 q
      have hwd := wday_W hw (by omega) (all_ok q)
      obtain ⟨⟨U1, l1, hw1⟩, hH1, -⟩ := sea_W hwd (by omega) (wday_H hw hH) ((D + 1) % 360)
      have hl := sea_le (wday (h.1 20 0 0) K) B K T ((D + 1) % 360)
      rw [← r1] at hw1 hH1
      obtain ⟨i1, i2⟩ := ih (k + 1) f g (D + 1) U1 (c + (sp_sea (wday (h.1 20 0 0) K) B K T ((D + 1) % 360)).2) (nI (sp_sea (wday (h.1 20 0 0) K) B K T ((D + 1) % 360)).2) (px_neg1 (by omega)) (by omega) (by omega) hw1 hH1 (by omega) (by omega)
      have es : B_X6_owesAfter_46 (f + 1) (nI x) (nI N) v3 (nI k) h = B_X6_owesAfter_46 f (nI x) (nI N) (nI (sp_sea (wday (h.1 20 0 0) K) B K T ((D + 1) % 360)).2) (nI (k + 1)) g := by
        rw [B_X6_owesAfter_46, if_neg hn, if_neg hv3, e1]
        simp only [px_cI, px_cIx, px_cV, px_cVx, px_cL, px_cLx, px_cR0, px_cR1, px_cRx, px_lI, px_lL, px_up, px_gZ0, px_gZ1, px_gZb, px_g0, px_g1, px_g2, px_g3, px_g4, px_g5, px_g6, px_g7, px_g8, px_g9, px_g10, px_g11, px_g12, px_g13, px_g14, px_c0, px_c1, px_c2, px_c3, px_c4, px_c5, px_c6, px_c7, px_c8, px_c9, px_c10, px_c11, px_c12, px_c13, px_c14, nI_1]
      rw [es]
      rw [r1] at i1 i2
      refine ⟨fun e => ?_, fun w2 c2 e => ?_⟩
      · obtain ⟨g2, a, b⟩ := i1 e
        exact ⟨g2, a, f1.tr b⟩
      · obtain ⟨g2, a, b⟩ := i2 w2 c2 e
        exact ⟨g2, a, f1.tr b⟩
    · rw [if_neg q]
      refine ⟨fun _ => ⟨h, ?_, ⟨fun _ _ _ _ _ => rfl, rfl⟩⟩, fun w2 c2 e => by cases e⟩
      obtain ⟨f, rfl⟩ : ∃ g, f = g + 1 := ⟨f - 1, by omega⟩
      rw [B_X6_owesAfter_46, if_neg hn, if_neg hv3, d2 q]
      simp only [px_cI, px_cIx, px_cV, px_cVx, px_cL, px_cLx, px_cR0, px_cR1, px_cRx, px_lI, px_lL, px_up, px_gZ0, px_gZ1, px_gZb, px_g0, px_g1, px_g2, px_g3, px_g4, px_g5, px_g6, px_g7, px_g8, px_g9, px_g10, px_g11, px_g12, px_g13, px_g14, px_c0, px_c1, px_c2, px_c3, px_c4, px_c5, px_c6, px_c7, px_c8, px_c9, px_c10, px_c11, px_c12, px_c13, px_c14]
      rw [B_X6_owesAfter_46]
      have h68 : B_X6_owesAfter_68 (nI x) (-1) h = B_X6_owesAfter_84 (-1) h := by
        unfold B_X6_owesAfter_68
        rw [if_pos rfl]
      rw [h68, if_pos rfl]
      split <;> rfl
/-! keeps and returns -/
theorem m6_keeps (h : mb_AH) : ∃ g, F_X6_keeps h = mb_rV g ∧ (∀ k, k ≠ 22 → g.1 k = h.1 k) ∧ g.2 = h.2 ∧ ∀ j, j < 270 → g.1 22 0 0 j = h.1 20 0 0 j := by
  have key : ∀ (m j f : Nat) (h : mb_AH), j + m = 270 → m < f → (∀ i, i < j → h.1 22 0 0 i = h.1 20 0 0 i) → ∃ g, B_X6_keeps_2 f (nI j) h = mb_rV g ∧ (∀ k, k ≠ 22 → g.1 k = h.1 k) ∧ g.2 = h.2 ∧ ∀ j, j < 270 → g.1 22 0 0 j = h.1 20 0 0 j := by
    intro m
    induction m with
    | zero =>
      intro j f h hj hf hi
      obtain ⟨f, rfl⟩ : ∃ g, f = g + 1 := ⟨f - 1, by omega⟩
      refine ⟨h, ?_, fun _ _ => rfl, rfl, fun i h9 => hi i (by omega)⟩
      rw [B_X6_keeps_2, if_pos (show (270 : Int32) ≤ nI j from nI_le (a := 270) (by omega) (by omega))]
    | succ m ih =>
      intro j f h hj hf hi
      obtain ⟨f, rfl⟩ : ∃ g, f = g + 1 := ⟨f - 1, by omega⟩
      obtain ⟨g, e1, e2, e3, e4⟩ := ih (j + 1) f (mb_sI h 22 0 0 j (h.1 20 0 0 j)) (by omega) (by omega) (fun i h9 => by
        rw [mb_sI_o _ _ _ _ _ _ (show 20 ≠ 22 by decide)]
        by_cases q : i = j
        · subst q; exact mb_sI_s _ _ _ _ _ _
        · rw [mb_sI_j _ _ _ _ _ _ q]; exact hi i (by omega))
      refine ⟨g, ?_, fun k hk => by rw [e2 k hk, mb_sI_o _ _ _ _ _ _ hk], e3, fun i h9 => by rw [e4 i h9, mb_sI_o _ _ _ _ _ _ (by decide)]⟩
      rw [B_X6_keeps_2, if_neg (show ¬ (270 : Int32) ≤ nI j from nI_ge (b := 270) (by omega) (by decide)), px_gB (show j < 270 by omega) (by decide), px_gB (show j < 270 by omega) (by decide), nI_clamp (by omega)]
      simp only [px_cI, px_cIx, px_cV, px_cVx, px_cL, px_cLx, px_cR0, px_cR1, px_cRx, px_lI, px_lL, px_up, px_gZ0, px_gZ1, px_gZb, px_g0, px_g1, px_g2, px_g3, px_g4, px_g5, px_g6, px_g7, px_g8, px_g9, px_g10, px_g11, px_g12, px_g13, px_g14, px_c0, px_c1, px_c2, px_c3, px_c4, px_c5, px_c6, px_c7, px_c8, px_c9, px_c10, px_c11, px_c12, px_c13, px_c14, nI_1]
      exact e1
  exact key 270 0 mb_fu h rfl (by unfold mb_fu; omega) (fun i hi => absurd hi (Nat.not_lt_zero i))
theorem m6_returns (h : mb_AH) : ∃ g, F_X6_returns h = mb_rV g ∧ (∀ k, k ≠ 20 → g.1 k = h.1 k) ∧ g.2 = h.2 ∧ ∀ j, j < 270 → g.1 20 0 0 j = h.1 22 0 0 j := by
  have key : ∀ (m j f : Nat) (h : mb_AH), j + m = 270 → m < f → (∀ i, i < j → h.1 20 0 0 i = h.1 22 0 0 i) → ∃ g, B_X6_returns_2 f (nI j) h = mb_rV g ∧ (∀ k, k ≠ 20 → g.1 k = h.1 k) ∧ g.2 = h.2 ∧ ∀ j, j < 270 → g.1 20 0 0 j = h.1 22 0 0 j := by
    intro m
    induction m with
    | zero =>
      intro j f h hj hf hi
      obtain ⟨f, rfl⟩ : ∃ g, f = g + 1 := ⟨f - 1, by omega⟩
      refine ⟨h, ?_, fun _ _ => rfl, rfl, fun i h9 => hi i (by omega)⟩
      rw [B_X6_returns_2, if_pos (show (270 : Int32) ≤ nI j from nI_le (a := 270) (by omega) (by omega))]
    | succ m ih =>
      intro j f h hj hf hi
      obtain ⟨f, rfl⟩ : ∃ g, f = g + 1 := ⟨f - 1, by omega⟩
      obtain ⟨g, e1, e2, e3, e4⟩ := ih (j + 1) f (mb_sI h 20 0 0 j (h.1 22 0 0 j)) (by omega) (by omega) (fun i h9 => by
        rw [mb_sI_o _ _ _ _ _ _ (show 22 ≠ 20 by decide)]
        by_cases q : i = j
        · subst q; exact mb_sI_s _ _ _ _ _ _
        · rw [mb_sI_j _ _ _ _ _ _ q]; exact hi i (by omega))
      refine ⟨g, ?_, fun k hk => by rw [e2 k hk, mb_sI_o _ _ _ _ _ _ hk], e3, fun i h9 => by rw [e4 i h9, mb_sI_o _ _ _ _ _ _ (by decide)]⟩
      rw [B_X6_returns_2, if_neg (show ¬ (270 : Int32) ≤ nI j from nI_ge (b := 270) (by omega) (by decide)), px_gB (show j < 270 by omega) (by decide), px_gB (show j < 270 by omega) (by decide), nI_clamp (by omega)]
      simp only [px_cI, px_cIx, px_cV, px_cVx, px_cL, px_cLx, px_cR0, px_cR1, px_cRx, px_lI, px_lL, px_up, px_gZ0, px_gZ1, px_gZb, px_g0, px_g1, px_g2, px_g3, px_g4, px_g5, px_g6, px_g7, px_g8, px_g9, px_g10, px_g11, px_g12, px_g13, px_g14, px_c0, px_c1, px_c2, px_c3, px_c4, px_c5, px_c6, px_c7, px_c8, px_c9, px_c10, px_c11, px_c12, px_c13, px_c14, nI_1]
      exact e1
  exact key 270 0 mb_fu h rfl (by unfold mb_fu; omega) (fun i hi => absurd hi (Nat.not_lt_zero i))
theorem m6_swap (v2 : Int32) : ∀ (m j f : Nat) (h : mb_AH), j + m = 270 → m < f → ∃ g, B_X6_pass_74 f v2 (nI j) h = (mb_cV (F_X6_saves g) fun h106 => (mb_cV (F_X6_returns h106) fun h107 => mb_rI v2 h107)) ∧ (∀ k, k ≠ 20 → k ≠ 22 → g.1 k = h.1 k) ∧ g.2 = h.2 ∧ (∀ i, g.1 20 0 0 i = if j ≤ i ∧ i < 270 then h.1 22 0 0 i else h.1 20 0 0 i) ∧ ∀ i, g.1 22 0 0 i = if j ≤ i ∧ i < 270 then h.1 20 0 0 i else h.1 22 0 0 i := by
  intro m
  induction m with
  | zero =>
    intro j f h hj hf
    obtain ⟨f, rfl⟩ : ∃ g, f = g + 1 := ⟨f - 1, by omega⟩
    refine ⟨h, ?_, fun _ _ _ => rfl, rfl, fun i => by rw [if_neg (by omega)], fun i => by rw [if_neg (by omega)]⟩
    rw [B_X6_pass_74, if_pos (show (270 : Int32) ≤ nI j from nI_le (a := 270) (by omega) (by omega))]
  | succ m ih =>
    intro j f h hj hf
    obtain ⟨f, rfl⟩ : ∃ g, f = g + 1 := ⟨f - 1, by omega⟩
    obtain ⟨g, e1, e2, e3, e4, e5⟩ := ih (j + 1) f (mb_sI (mb_sI h 20 0 0 j (h.1 22 0 0 j)) 22 0 0 j (h.1 20 0 0 j)) (by omega) (by omega)
    refine ⟨g, ?_, fun k h20 h22 => by rw [e2 k h20 h22, mb_sI_o _ _ _ _ _ _ h22, mb_sI_o _ _ _ _ _ _ h20], e3, fun i => ?_, fun i => ?_⟩
    · rw [B_X6_pass_74, if_neg (show ¬ (270 : Int32) ≤ nI j from nI_ge (b := 270) (by omega) (by decide))]
      simp only [px_cI, px_cIx, px_cV, px_cVx, px_cL, px_cLx, px_cR0, px_cR1, px_cRx, px_lI, px_lL, px_up, px_gZ0, px_gZ1, px_gZb, px_g0, px_g1, px_g2, px_g3, px_g4, px_g5, px_g6, px_g7, px_g8, px_g9, px_g10, px_g11, px_g12, px_g13, px_g14, px_c0, px_c1, px_c2, px_c3, px_c4, px_c5, px_c6, px_c7, px_c8, px_c9, px_c10, px_c11, px_c12, px_c13, px_c14, px_gB (show j < 270 by omega) (show 270 < 2 ^ 31 by decide), nI_clamp (show j < 2 ^ 31 by omega), nI_1]
      exact e1
    · rw [e4 i, mb_sI_o _ _ _ _ _ _ (show 20 ≠ 22 by decide)]
      by_cases q : i = j
      · subst q
        rw [if_neg (show ¬ (i + 1 ≤ i ∧ i < 270) by omega), if_pos (show i ≤ i ∧ i < 270 by omega), mb_sI_s]
      · rw [mb_sI_j _ _ _ _ _ _ q, mb_sI_j _ _ _ _ _ _ q, mb_sI_j _ _ _ _ _ _ q]
        by_cases q2 : j + 1 ≤ i ∧ i < 270
        · rw [if_pos q2, if_pos (by omega)]
        · rw [if_neg q2, if_neg (by omega)]
    · rw [e5 i, mb_sI_o _ _ _ _ _ _ (show 20 ≠ 22 by decide)]
      by_cases q : i = j
      · subst q
        rw [if_neg (show ¬ (i + 1 ≤ i ∧ i < 270) by omega), if_pos (show i ≤ i ∧ i < 270 by omega), mb_sI_s]
      · rw [mb_sI_j _ _ _ _ _ _ q, mb_sI_j _ _ _ _ _ _ q, mb_sI_o _ _ _ _ _ _ (show 22 ≠ 20 by decide)]
        by_cases q2 : j + 1 ≤ i ∧ i < 270
        · rw [if_pos q2, if_pos (by omega)]
        · rw [if_neg q2, if_neg (by omega)]
end
