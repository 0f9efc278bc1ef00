/-! ===== pure: records on both sides ===== -/
section
variable {w v : Nat → Int32} {B K T D U : Nat}
theorem sp_low_cg (e : ∀ j, j < 270 → v j = w j) : ∀ m, m < 14 → sp_low v m = sp_low w m := by
  intro m
  induction m with
  | zero => intro _; exact e 12 (by decide)
  | succ m ih =>
    intro hm
    show (if v (12 + (m + 1)) < sp_low v m then v (12 + (m + 1)) else sp_low v m) = (if w (12 + (m + 1)) < sp_low w m then w (12 + (m + 1)) else sp_low w m)
    rw [e _ (by omega), ih (by omega)]
theorem mb_W.cg (h : mb_W w B K T D U) (e : ∀ j, j < 270 → v j = w j) : mb_W v B K T D U := by
  have hB := h.B16; have hK := h.K20; have hT := h.T14
  have eo : ∀ k j, k < K → j < 9 → bo v k j = bo w k j := fun k j hk hj => e _ (by omega)
  have et : ∀ b j, b < B → j < 4 → bt v b j = bt w b j := fun b j hb hj => e _ (by omega)
  obtain ⟨z, ⟨d1, d2⟩, ⟨u1, u2⟩, a, b, c1, c2, l, ⟨x1, x2, x3, x4, y1, y2, y3, y4, y5, y6, y7, y8, y9⟩, wi, p1, p2, pp1, pp2, pp3, pp4⟩ := h
  refine ⟨?_, ⟨by rw [e 4 (by decide)]; exact d1, d2⟩, ⟨by rw [e 9 (by decide)]; exact u1, u2⟩, fun k hk => ?_, fun b9 hb => ?_, fun k j hk hj => ?_, fun k j hk hj => ?_, fun k hk => ?_, ⟨x1, x2, x3, x4, by rw [e 0 (by decide)]; exact y1, y2, by rw [e 1 (by decide)]; exact y3, y4, by rw [e 2 (by decide)]; exact y5, y6, by rw [e 3 (by decide)]; exact y7, y8, y9⟩, by rw [e 5 (by decide)]; exact wi, p1, p2, by rw [e 10 (by decide)]; exact pp1, pp2, by rw [e 11 (by decide)]; exact pp3, pp4⟩
  · unfold mb_W0 at z ⊢
    rw [e 6 (by decide), e 7 (by decide), e 8 (by decide)]
    exact z
  · have := a k hk
    unfold mb_at9 mb_hm9 mb_wt9 mb_nu9 at this ⊢
    simp only [eo k 0 hk (by decide), eo k 1 hk (by decide), eo k 2 hk (by decide), eo k 3 hk (by decide), eo k 4 hk (by decide), eo k 5 hk (by decide), eo k 6 hk (by decide), eo k 7 hk (by decide), eo k 8 hk (by decide), e 5 (by decide)]
    exact this
  · have := b b9 hb
    unfold mb_nb9 at this ⊢
    simp only [et b9 0 hb (by decide), et b9 1 hb (by decide), et b9 2 hb (by decide), et b9 3 hb (by decide)]
    exact this
  · rw [eo k 3 hk (by decide), eo j 3 hj (by decide), eo k 4 hk (by decide), eo j 4 hj (by decide)]
    exact c1 k j hk hj
  · rw [eo k 3 hk (by decide), eo j 3 hj (by decide), eo k 6 hk (by decide), eo j 6 hj (by decide)]
    exact c2 k j hk hj
  · rw [e _ (by omega)]
    exact l k hk
theorem mb_RM.cgw {h : mb_AH} {o : Nat} (r : mb_RM h o w B K T) (hw : mb_W w B K T D U) (e : ∀ j, j < 270 → v j = w j) : mb_RM h o v B K T := by
  have hB := hw.B16; have hK := hw.K20; have hT := hw.T14
  have eo : ∀ k j, k < K → j < 9 → bo v k j = bo w k j := fun k j hk hj => e _ (by omega)
  have et : ∀ b j, b < B → j < 4 → bt v b j = bt w b j := fun b j hb hj => e _ (by omega)
  obtain ⟨a, b, c, d, t, q⟩ := r
  refine ⟨?_, ?_, ?_, fun k hk => ?_, fun b9 hb => ?_, fun k hk => ?_⟩
  · rw [e 0 (by decide), e 1 (by decide), e 2 (by decide), e 3 (by decide), e 4 (by decide), e 5 (by decide), e 6 (by decide), e 7 (by decide), e 8 (by decide), e 9 (by decide)]
    exact a
  · unfold sp_paid at b ⊢
    rw [e 10 (by decide), e 11 (by decide)]
    exact b
  · rw [sp_low_cg e _ (by omega)]
    exact c
  · rw [e _ (by omega)]
    exact d k hk
  · rw [et b9 0 hb (by decide), et b9 1 hb (by decide), et b9 2 hb (by decide), et b9 3 hb (by decide)]
    exact t b9 hb
  · rw [eo k 0 hk (by decide), eo k 1 hk (by decide), eo k 2 hk (by decide), eo k 3 hk (by decide), eo k 4 hk (by decide), eo k 5 hk (by decide), eo k 6 hk (by decide), eo k 7 hk (by decide), eo k 8 hk (by decide), e 4 (by decide)]
    exact q k hk
theorem mb_J.cgw {n : Nat} {h : mb_AH} {o : Nat} (r : mb_J n h o w) (e : ∀ j, j < 270 → v j = w j) : mb_J n h o v := by
  obtain ⟨B, K, T, D, U, a, b, c, d, ⟨p, q, s⟩, hH⟩ := r
  have hB := a.B16; have hK := a.K20
  exact ⟨B, K, T, D, U, a.cg e, b.cgw a e, c, d, ⟨p, by rw [e 10 (by decide)]; exact q, s⟩, fun k hk => (hH k hk).cg (a.boat hk).1 hB (e 5 (by decide)) (fun b hb => e _ (by omega)) (fun j hj => e _ (by omega))⟩
end
/-- the class's side: rc records that stand for the rows ws, and the marina that stands for w -/
def mb_C (n : Nat) (h : mb_AH) (rc : Nat) (ws : Nat → Nat → Int32) (w : Nat → Int32) : Prop :=
  rc ≤ 4 ∧ h.1 0 0 0 3 = nI rc ∧ (∀ i, i < 4 → 2 ≤ h.2.2 i ∧ h.2.2 i < 6) ∧ (∀ i j, i < 4 → j < 4 → h.2.2 i = h.2.2 j → i = j) ∧ (∀ i, i < rc → mb_J n h (h.2.2 i) (ws i)) ∧ mb_J n h 0 w
theorem mb_S.C {n : Nat} {h : mb_AH} (r : mb_S n h) : ∃ rc, mb_C n h rc (fun i j => h.1 21 0 0 (270 * i + j)) (h.1 20 0 0) ∧ h.1 6 0 0 3 = nI rc := by
  obtain ⟨-, ⟨rc, a, b, c, d, e, f⟩, j⟩ := r
  exact ⟨rc, ⟨a, b, d, e, f, j⟩, c⟩
theorem mb_S.of {n tl rc : Nat} {h : mb_AH} {ws : Nat → Nat → Int32} {w : Nat → Int32} (t : mb_tx h tl) (c : mb_C n h rc ws w) (e6 : h.1 6 0 0 3 = nI rc) (e21 : ∀ i, i < rc → ∀ j, j < 270 → h.1 21 0 0 (270 * i + j) = ws i j) (e20 : ∀ j, j < 270 → h.1 20 0 0 j = w j) : mb_S n h := by
  obtain ⟨a, b, d, e, f, j⟩ := c
  exact ⟨⟨tl, t⟩, ⟨rc, a, b, e6, d, e, fun i hi => (f i hi).cgw (e21 i hi)⟩, j.cgw e20⟩
theorem mb_C.up {n m rc : Nat} {h : mb_AH} {ws : Nat → Nat → Int32} {w : Nat → Int32} (c : mb_C n h rc ws w) (hm : n ≤ m) : mb_C m h rc ws w := ⟨c.1, c.2.1, c.2.2.1, c.2.2.2.1, fun i hi => (c.2.2.2.2.1 i hi).up hm, c.2.2.2.2.2.up hm⟩
/-- what the reference writes is none of the class's -/
theorem mb_C.cg {n rc : Nat} {h g : mb_AH} {ws : Nat → Nat → Int32} {w : Nat → Int32} (c : mb_C n h rc ws w) (e0 : g.1 0 0 0 3 = h.1 0 0 0 3) (eR : g.2.2 = h.2.2) (e1 : g.1 1 = h.1 1) (e2 : g.1 2 = h.1 2) (e3 : g.1 3 = h.1 3) (e4 : g.1 12 = h.1 12) (e5 : g.2.1 1 = h.2.1 1) : mb_C n g rc ws w := by
  obtain ⟨a, b, d, e, f, j⟩ := c
  refine ⟨a, by rw [e0]; exact b, by rw [eR]; exact d, by rw [eR]; exact e, fun i hi => ?_, j.cg (by rw [e1]) (by rw [e2]) (by rw [e3]) (by rw [e4]) (by rw [e5])⟩
  rw [eR]
  exact (f i hi).cg (by rw [e1]) (by rw [e2]) (by rw [e3]) (by rw [e4]) (by rw [e5])
def rc_n (rc : Nat) : Nat := if rc < 4 then rc + 1 else 4
def ws_n (rc : Nat) (ws : Nat → Nat → Int32) (w : Nat → Int32) : Nat → Nat → Int32 := fun i => if rc < 4 then (if i = rc then w else ws i) else (if i = 3 then w else ws (i + 1))
/-- nothing of the class but records has changed, nothing else either -/
def mb_Fx (h g : mb_AH) : Prop := (∀ k, ¬ (k = 0 ∨ k = 1 ∨ k = 2 ∨ k = 3 ∨ k = 12) → g.1 k = h.1 k) ∧ (∀ k, g.1 k 1 = h.1 k 1 ∨ k = 0) ∧ (∀ k, k ≠ 0 → g.1 k 0 = h.1 k 0) ∧ g.2.1 1 0 = h.2.1 1 0 ∧ ∀ k, k ≠ 1 → g.2.1 k = h.2.1 k
theorem c5_rem12 {n rc : Nat} {h : mb_AH} {ws : Nat → Nat → Int32} {w : Nat → Int32} (c : mb_C n h rc ws w) (hr : rc < 4) : ∃ g : mb_AH, B_X5_remember_12 h = mb_rV g ∧ mb_C n g (rc + 1) (fun i => if i = rc then w else ws i) w ∧ mb_Fx h g := by
  obtain ⟨a, b, d, e, f, j⟩ := c
  have hR := d rc hr
  obtain ⟨g, e1, fr, jg⟩ := j.cp (o := h.2.2 rc) (by omega)
  refine ⟨mb_sI g 0 0 0 3 (nI (rc + 1)), ?_, ⟨by omega, mb_sI_s _ _ _ _ _ _, ?_, ?_, fun i hi => ?_, ?_⟩, ?_⟩
  · unfold B_X5_remember_12
    rw [b, px_gB (show rc < 4 from hr) (by decide), nI_clamp (by omega), e1]
    simp only [px_cI, px_cIx, px_cV, px_cVx, px_cL, px_cLx, px_cR0, px_cR1, px_cRx, px_lI, px_lL, px_up, px_gZ0, px_gZ1, px_gZb, px_g0, px_g1, px_g2, px_g3, px_g4, px_g5, px_g6, px_g7, px_g8, px_g9, px_g10, px_g11, px_g12, px_g13, px_g14, px_c0, px_c1, px_c2, px_c3, px_c4, px_c5, px_c6, px_c7, px_c8, px_c9, px_c10, px_c11, px_c12, px_c13, px_c14]
    rw [fr.1 0 0 0 3 (fun z => absurd z.1 (by decide)), b, nI_1]
  · show ∀ i, i < 4 → 2 ≤ g.2.2 i ∧ g.2.2 i < 6
    rw [fr.2.2]; exact d
  · show ∀ i j, i < 4 → j < 4 → g.2.2 i = g.2.2 j → i = j
    rw [fr.2.2]; exact e
  · have hcg : ∀ {o : Nat} {v : Nat → Int32}, mb_J n g o v → mb_J n (mb_sI g 0 0 0 3 (nI (rc + 1))) o v := fun q => q.cg (by rw [mb_sI_o _ _ _ _ _ _ (by decide)]) (by rw [mb_sI_o _ _ _ _ _ _ (by decide)]) (by rw [mb_sI_o _ _ _ _ _ _ (by decide)]) (by rw [mb_sI_o _ _ _ _ _ _ (by decide)]) rfl
    show mb_J n _ (g.2.2 i) (if i = rc then w else ws i)
    rw [fr.2.2]
    by_cases q : i = rc
    · subst q
      rw [if_pos rfl]
      exact hcg jg
    · rw [if_neg q]
      have hne : h.2.2 i ≠ h.2.2 rc := fun z => q (e i rc (by omega) hr z)
      exact hcg ((f i (by omega)).cg (fr.fa hne 1) (fr.fa hne 2) (fr.fa hne 3) (fr.fa hne 12) (fr.fL hne 1))
  · have hne : 0 ≠ h.2.2 rc := by omega
    exact (j.cg (fr.fa hne 1) (fr.fa hne 2) (fr.fa hne 3) (fr.fa hne 12) (fr.fL hne 1)).cg (by rw [mb_sI_o _ _ _ _ _ _ (by decide)]) (by rw [mb_sI_o _ _ _ _ _ _ (by decide)]) (by rw [mb_sI_o _ _ _ _ _ _ (by decide)]) (by rw [mb_sI_o _ _ _ _ _ _ (by decide)]) rfl
  · refine ⟨fun k hk => ?_, fun k => ?_, fun k hk => ?_, ?_, fun k hk => ?_⟩
    · rw [mb_sI_o _ _ _ _ _ _ (fun z => hk (Or.inl z)), fr.fk (fun z => hk (Or.inr z))]
    · by_cases q : k = 0
      · exact Or.inr q
      · left
        rw [mb_sI_o _ _ _ _ _ _ q, fr.fa (by omega)]
    · rw [mb_sI_o _ _ _ _ _ _ hk, fr.fa (by omega)]
    · show g.2.1 1 0 = h.2.1 1 0
      rw [fr.fL (by omega)]
    · show g.2.1 k = h.2.1 k
      funext a9 b9 j9
      exact fr.2.1 k a9 b9 j9 (fun z => hk z.1)
theorem c5_remember {n rc : Nat} {h : mb_AH} {ws : Nat → Nat → Int32} {w : Nat → Int32} (c : mb_C n h rc ws w) : ∃ g : mb_AH, F_X5_remember h = mb_rV g ∧ mb_C n g (rc_n rc) (ws_n rc ws w) w ∧ mb_Fx h g := by
  unfold F_X5_remember rc_n ws_n
  by_cases hr : rc < 4
  · simp only [if_pos hr]
    rw [c.2.1, if_pos (show nI rc < 4 from nI_lt (b := 4) hr (by decide))]
    exact c5_rem12 c hr
  · simp only [if_neg hr]
    have hr4 : rc = 4 := by have := c.1; omega
    subst hr4
    obtain ⟨a, b, d, e, f, j⟩ := c
    rw [b, if_neg (show ¬ nI 4 < 4 by decide)]
    have hdrop : F_X5_dropOldestRecord h = mb_rV (mb_sI (mb_sR (mb_sR (mb_sR (mb_sR h 0 (h.2.2 1)) 1 (h.2.2 2)) 2 (h.2.2 3)) 3 (h.2.2 0)) 0 0 0 3 3) := by
      unfold F_X5_dropOldestRecord
      rw [show mb_gB 0 4 (B_X5_dropOldestRecord_9 mb_fu (h.2.2 (0 : Int32).toNatClampNeg) 1 h) = B_X5_dropOldestRecord_9 mb_fu (h.2.2 0) (nI 1) h from by rw [show (0 : Int32) = nI 0 from rfl, px_gB (by decide) (by decide), nI_clamp (by decide)]; rfl]
      rw [show mb_fu = 69996 + 1 + 1 + 1 + 1 from rfl]
      rw [B_X5_dropOldestRecord_9, if_neg (by decide), px_gB (by decide) (by decide), show nI 1 - 1 = nI 0 from rfl, px_gB (by decide) (by decide), nI_clamp (by decide), nI_clamp (by decide)]
      simp only [px_cI, px_cIx, px_cV, px_cVx, px_cL, px_cLx, px_cR0, px_cR1, px_cRx, px_lI, px_lL, px_up, px_gZ0, px_gZ1, px_gZb, px_g0, px_g1, px_g2, px_g3, px_g4, px_g5, px_g6, px_g7, px_g8, px_g9, px_g10, px_g11, px_g12, px_g13, px_g14, px_c0, px_c1, px_c2, px_c3, px_c4, px_c5, px_c6, px_c7, px_c8, px_c9, px_c10, px_c11, px_c12, px_c13, px_c14, nI_1]
      rw [B_X5_dropOldestRecord_9, if_neg (by decide), px_gB (by decide) (by decide), show nI (1 + 1) - 1 = nI 1 from rfl, px_gB (by decide) (by decide), nI_clamp (by decide), nI_clamp (by decide)]
      simp only [px_cI, px_cIx, px_cV, px_cVx, px_cL, px_cLx, px_cR0, px_cR1, px_cRx, px_lI, px_lL, px_up, px_gZ0, px_gZ1, px_gZb, px_g0, px_g1, px_g2, px_g3, px_g4, px_g5, px_g6, px_g7, px_g8, px_g9, px_g10, px_g11, px_g12, px_g13, px_g14, px_c0, px_c1, px_c2, px_c3, px_c4, px_c5, px_c6, px_c7, px_c8, px_c9, px_c10, px_c11, px_c12, px_c13, px_c14, nI_1]
      rw [B_X5_dropOldestRecord_9, if_neg (by decide), px_gB (by decide) (by decide), show nI (1 + 1 + 1) - 1 = nI 2 from rfl, px_gB (by decide) (by decide), nI_clamp (by decide), nI_clamp (by decide)]
      simp only [px_cI, px_cIx, px_cV, px_cVx, px_cL, px_cLx, px_cR0, px_cR1, px_cRx, px_lI, px_lL, px_up, px_gZ0, px_gZ1, px_gZb, px_g0, px_g1, px_g2, px_g3, px_g4, px_g5, px_g6, px_g7, px_g8, px_g9, px_g10, px_g11, px_g12, px_g13, px_g14, px_c0, px_c1, px_c2, px_c3, px_c4, px_c5, px_c6, px_c7, px_c8, px_c9, px_c10, px_c11, px_c12, px_c13, px_c14, nI_1]
      rw [B_X5_dropOldestRecord_9, if_pos (by decide), show (3 : Int32) = nI 3 from rfl, px_gB (by decide) (by decide), nI_clamp (by decide)]
      simp only [px_cI, px_cIx, px_cV, px_cVx, px_cL, px_cLx, px_cR0, px_cR1, px_cRx, px_lI, px_lL, px_up, px_gZ0, px_gZ1, px_gZb, px_g0, px_g1, px_g2, px_g3, px_g4, px_g5, px_g6, px_g7, px_g8, px_g9, px_g10, px_g11, px_g12, px_g13, px_g14, px_c0, px_c1, px_c2, px_c3, px_c4, px_c5, px_c6, px_c7, px_c8, px_c9, px_c10, px_c11, px_c12, px_c13, px_c14]
      rfl
    rw [hdrop]
    simp only [px_cI, px_cIx, px_cV, px_cVx, px_cL, px_cLx, px_cR0, px_cR1, px_cRx, px_lI, px_lL, px_up, px_gZ0, px_gZ1, px_gZb, px_g0, px_g1, px_g2, px_g3, px_g4, px_g5, px_g6, px_g7, px_g8, px_g9, px_g10, px_g11, px_g12, px_g13, px_g14, px_c0, px_c1, px_c2, px_c3, px_c4, px_c5, px_c6, px_c7, px_c8, px_c9, px_c10, px_c11, px_c12, px_c13, px_c14]
    generalize hg0 : mb_sI (mb_sR (mb_sR (mb_sR (mb_sR h 0 (h.2.2 1)) 1 (h.2.2 2)) 2 (h.2.2 3)) 3 (h.2.2 0)) 0 0 0 3 3 = g0
    have hR : ∀ i, g0.2.2 i = if i = 3 then h.2.2 0 else if i = 2 then h.2.2 3 else if i = 1 then h.2.2 2 else if i = 0 then h.2.2 1 else h.2.2 i := by
      intro i
      rw [← hg0]
      rfl
    have hI : ∀ k, k ≠ 0 → g0.1 k = h.1 k := by
      intro k hk
      rw [← hg0, mb_sI_o _ _ _ _ _ _ hk]
      rfl
    have hLL : g0.2.1 = h.2.1 := by rw [← hg0]; rfl
    have hRs : ∀ i, i < 3 → g0.2.2 i = h.2.2 (i + 1) := by
      intro i hi
      rw [hR]
      rcases (show i = 0 ∨ i = 1 ∨ i = 2 by omega) with rfl | rfl | rfl <;> rfl
    have hR3 : g0.2.2 3 = h.2.2 0 := by rw [hR]; rfl
    have c0 : mb_C n g0 3 (fun i => ws (i + 1)) w := by
      refine ⟨by decide, by rw [← hg0]; exact mb_sI_s _ _ _ _ _ _, fun i hi => ?_, fun i i2 hi hi2 q => ?_, fun i hi => ?_, j.cg (by rw [hI 1 (by decide)]) (by rw [hI 2 (by decide)]) (by rw [hI 3 (by decide)]) (by rw [hI 12 (by decide)]) (by rw [hLL])⟩
      · rcases (show i = 3 ∨ i < 3 by omega) with rfl | q
        · rw [hR3]; exact d 0 (by decide)
        · rw [hRs i q]; exact d (i + 1) (by omega)
      · rcases (show i = 3 ∨ i < 3 by omega) with rfl | q1 <;> rcases (show i2 = 3 ∨ i2 < 3 by omega) with rfl | q2
        · rfl
        · rw [hR3, hRs i2 q2] at q
          have := e 0 (i2 + 1) (by decide) (by omega) q
          omega
        · rw [hR3, hRs i q1] at q
          have := e (i + 1) 0 (by omega) (by decide) q
          omega
        · rw [hRs i q1, hRs i2 q2] at q
          have := e (i + 1) (i2 + 1) (by omega) (by omega) q
          omega
      · rw [hRs i hi]
        exact (f (i + 1) (by omega)).cg (by rw [hI 1 (by decide)]) (by rw [hI 2 (by decide)]) (by rw [hI 3 (by decide)]) (by rw [hI 12 (by decide)]) (by rw [hLL])
    obtain ⟨g, e1, cg, fx1, fx2, fx3, fx4, fx5⟩ := c5_rem12 c0 (by decide)
    refine ⟨g, e1, cg, fun k hk => by rw [fx1 k hk, hI k (fun z => hk (Or.inl z))], fun k => ?_, fun k hk => by rw [fx3 k hk, hI k hk], by rw [fx4, hLL], fun k hk => by rw [fx5 k hk, hLL]⟩
    by_cases q : k = 0
    · exact Or.inr q
    · rcases fx2 k with z | z
      · left; rw [z, hI k q]
      · exact absurd z q
section
theorem m6_sv51 {rc : Nat} (hrc : rc < 4) : ∀ (m j f : Nat) (h : mb_AH), h.1 6 0 0 3 = nI rc → j + m = 270 → m < f → ∃ g : mb_AH, B_X6_saves_51 f (nI j) h = mb_rV (mb_sI g 6 0 0 3 (nI (rc + 1))) ∧ (∀ k, k ≠ 21 → g.1 k = h.1 k) ∧ g.2 = h.2 ∧ ∀ i, g.1 21 0 0 i = if 270 * rc + j ≤ i ∧ i < 270 * rc + 270 then h.1 20 0 0 (i - 270 * rc) else h.1 21 0 0 i := by
  intro m
  induction m with
  | zero =>
    intro j f h h3 hj hf
    obtain ⟨f, rfl⟩ : ∃ g, f = g + 1 := ⟨f - 1, by omega⟩
    refine ⟨h, ?_, fun _ _ => rfl, rfl, fun i => by rw [if_neg (by omega)]⟩
    rw [B_X6_saves_51, if_pos (show (270 : Int32) ≤ nI j from nI_le (a := 270) (by omega) (by omega))]
    simp only [px_cI, px_cIx, px_cV, px_cVx, px_cL, px_cLx, px_cR0, px_cR1, px_cRx, px_lI, px_lL, px_up, px_gZ0, px_gZ1, px_gZb, px_g0, px_g1, px_g2, px_g3, px_g4, px_g5, px_g6, px_g7, px_g8, px_g9, px_g10, px_g11, px_g12, px_g13, px_g14, px_c0, px_c1, px_c2, px_c3, px_c4, px_c5, px_c6, px_c7, px_c8, px_c9, px_c10, px_c11, px_c12, px_c13, px_c14]
    rw [h3, nI_1]
  | succ m ih =>
    intro j f h h3 hj hf
    obtain ⟨f, rfl⟩ : ∃ g, f = g + 1 := ⟨f - 1, by omega⟩
    have hx : ((270 : Int32) * nI rc) + nI j = nI (270 * rc + j) := by rw [show (270 : Int32) = nI 270 from rfl, pk_mul, nI_add]
    obtain ⟨g, e1, e2, e3, e4⟩ := ih (j + 1) f (mb_sI h 21 0 0 (270 * rc + j) (h.1 20 0 0 j)) (by rw [mb_sI_o _ _ _ _ _ _ (by decide)]; exact h3) (by omega) (by omega)
    refine ⟨g, ?_, fun k hk => by rw [e2 k hk, mb_sI_o _ _ _ _ _ _ hk], e3, fun i => ?_⟩
    · rw [B_X6_saves_51, if_neg (show ¬ (270 : Int32) ≤ nI j from nI_ge (b := 270) (by omega) (by omega)), px_gB (show j < 270 by omega) (by decide), h3, hx, px_gB (show 270 * rc + j < 1080 by omega) (by decide), nI_clamp (by omega), nI_clamp (by omega)]
      simp only [px_cI, px_cIx, px_cV, px_cVx, px_cL, px_cLx, px_cR0, px_cR1, px_cRx, px_lI, px_lL, px_up, px_gZ0, px_gZ1, px_gZb, px_g0, px_g1, px_g2, px_g3, px_g4, px_g5, px_g6, px_g7, px_g8, px_g9, px_g10, px_g11, px_g12, px_g13, px_g14, px_c0, px_c1, px_c2, px_c3, px_c4, px_c5, px_c6, px_c7, px_c8, px_c9, px_c10, px_c11, px_c12, px_c13, px_c14, nI_1]
      exact e1
    · rw [e4 i, mb_sI_o _ _ _ _ _ _ (by decide)]
      by_cases q : i = 270 * rc + j
      · subst q
        rw [if_neg (by omega), if_pos (by omega), mb_sI_s, show 270 * rc + j - 270 * rc = j by omega]
      · rw [mb_sI_j _ _ _ _ _ _ q]
        by_cases q2 : 270 * rc + (j + 1) ≤ i ∧ i < 270 * rc + 270
        · rw [if_pos q2, if_pos (by omega)]
        · rw [if_neg q2, if_neg (by omega)]
theorem m6_sv10 : ∀ (m j f : Nat) (h : mb_AH), h.1 6 0 0 3 = nI 4 → j + m = 810 → m < f → ∃ g : mb_AH, B_X6_saves_10 f (nI j) h = B_X6_saves_51 mb_fu (nI 0) (mb_sI g 6 0 0 3 (nI 3)) ∧ (∀ k, k ≠ 21 → g.1 k = h.1 k) ∧ g.2 = h.2 ∧ ∀ i, g.1 21 0 0 i = if j ≤ i ∧ i < 810 then h.1 21 0 0 (i + 270) else h.1 21 0 0 i := by
  intro m
  induction m with
  | zero =>
    intro j f h h3 hj hf
    obtain ⟨f, rfl⟩ : ∃ g, f = g + 1 := ⟨f - 1, by omega⟩
    refine ⟨h, ?_, fun _ _ => rfl, rfl, fun i => by rw [if_neg (by omega)]⟩
    rw [B_X6_saves_10, if_pos (show (810 : Int32) ≤ nI j from nI_le (a := 810) (by omega) (by omega))]
    simp only [px_cI, px_cIx, px_cV, px_cVx, px_cL, px_cLx, px_cR0, px_cR1, px_cRx, px_lI, px_lL, px_up, px_gZ0, px_gZ1, px_gZb, px_g0, px_g1, px_g2, px_g3, px_g4, px_g5, px_g6, px_g7, px_g8, px_g9, px_g10, px_g11, px_g12, px_g13, px_g14, px_c0, px_c1, px_c2, px_c3, px_c4, px_c5, px_c6, px_c7, px_c8, px_c9, px_c10, px_c11, px_c12, px_c13, px_c14]
    rw [h3]; rfl
  | succ m ih =>
    intro j f h h3 hj hf
    obtain ⟨f, rfl⟩ : ∃ g, f = g + 1 := ⟨f - 1, by omega⟩
    have hx : nI j + (270 : Int32) = nI (j + 270) := by rw [show (270 : Int32) = nI 270 from rfl, nI_add]
    obtain ⟨g, e1, e2, e3, e4⟩ := ih (j + 1) f (mb_sI h 21 0 0 j (h.1 21 0 0 (j + 270))) (by rw [mb_sI_o _ _ _ _ _ _ (by decide)]; exact h3) (by omega) (by omega)
    refine ⟨g, ?_, fun k hk => by rw [e2 k hk, mb_sI_o _ _ _ _ _ _ hk], e3, fun i => ?_⟩
    · rw [B_X6_saves_10, if_neg (show ¬ (810 : Int32) ≤ nI j from nI_ge (b := 810) (by omega) (by omega)), hx, px_gB (show j + 270 < 1080 by omega) (by decide), px_gB (show j < 1080 by omega) (by decide), nI_clamp (by omega), nI_clamp (by omega)]
      simp only [px_cI, px_cIx, px_cV, px_cVx, px_cL, px_cLx, px_cR0, px_cR1, px_cRx, px_lI, px_lL, px_up, px_gZ0, px_gZ1, px_gZb, px_g0, px_g1, px_g2, px_g3, px_g4, px_g5, px_g6, px_g7, px_g8, px_g9, px_g10, px_g11, px_g12, px_g13, px_g14, px_c0, px_c1, px_c2, px_c3, px_c4, px_c5, px_c6, px_c7, px_c8, px_c9, px_c10, px_c11, px_c12, px_c13, px_c14, nI_1]
      exact e1
    · rw [e4 i]
      by_cases q : i = j
      · subst q
        rw [if_neg (by omega), if_pos (by omega), mb_sI_s]
      · rw [mb_sI_j _ _ _ _ _ _ q]
        by_cases q2 : j + 1 ≤ i ∧ i < 810
        · rw [if_pos q2, if_pos (by omega), mb_sI_j _ _ _ _ _ _ (by omega)]
        · rw [if_neg q2, if_neg (by omega)]
theorem m6_saves {rc : Nat} {h : mb_AH} (hrc : rc ≤ 4) (h3 : h.1 6 0 0 3 = nI rc) : ∃ g : mb_AH, F_X6_saves h = mb_rV g ∧ (∀ k, k ≠ 21 → k ≠ 6 → g.1 k = h.1 k) ∧ (∀ j, j ≠ 3 → g.1 6 0 0 j = h.1 6 0 0 j) ∧ g.2 = h.2 ∧ g.1 6 0 0 3 = nI (rc_n rc) ∧ ∀ i, i < rc_n rc → ∀ j, j < 270 → g.1 21 0 0 (270 * i + j) = ws_n rc (fun i j => h.1 21 0 0 (270 * i + j)) (h.1 20 0 0) i j := by
  unfold F_X6_saves rc_n ws_n
  by_cases hr : rc < 4
  · simp only [if_pos hr]
    rw [h3, if_neg (show ¬ nI rc = 4 from px_ne (b := 4) (by omega) (by decide) (by omega))]
    obtain ⟨g, e1, e2, e3, e4⟩ := m6_sv51 hr 270 0 mb_fu h h3 (by omega) (by unfold mb_fu; omega)
    refine ⟨_, e1, fun k q1 q2 => by rw [mb_sI_o _ _ _ _ _ _ q2, e2 k q1], fun j hj => by rw [mb_sI_j _ _ _ _ _ _ hj, e2 6 (by decide)], e3, mb_sI_s _ _ _ _ _ _, fun i hi j hj => ?_⟩
    rw [mb_sI_o _ _ _ _ _ _ (by decide), e4]
    by_cases q : i = rc
    · subst q
      rw [if_pos (by omega), if_pos rfl, show 270 * i + j - 270 * i = j by omega]
    · rw [if_neg (by omega), if_neg q]
  · simp only [if_neg hr]
    have hr4 : rc = 4 := by omega
    subst hr4
    rw [h3, if_pos (by decide)]
    obtain ⟨g, e1, e2, e3, e4⟩ := m6_sv10 810 0 mb_fu h h3 (by omega) (by unfold mb_fu; omega)
    obtain ⟨g2, f1, f2, f3, f4⟩ := m6_sv51 (rc := 3) (by decide) 270 0 mb_fu (mb_sI g 6 0 0 3 (nI 3)) (mb_sI_s _ _ _ _ _ _) (by omega) (by unfold mb_fu; omega)
    refine ⟨_, e1.trans f1, fun k q1 q2 => by rw [mb_sI_o _ _ _ _ _ _ q2, f2 k q1, mb_sI_o _ _ _ _ _ _ q2, e2 k q1], fun j hj => by rw [mb_sI_j _ _ _ _ _ _ hj, f2 6 (by decide), mb_sI_j _ _ _ _ _ _ hj, e2 6 (by decide)], f3.trans e3, mb_sI_s _ _ _ _ _ _, fun i hi j hj => ?_⟩
    rw [mb_sI_o _ _ _ _ _ _ (by decide), f4, mb_sI_o _ _ _ _ _ _ (by decide), mb_sI_o _ _ _ _ _ _ (by decide), e2 20 (by decide), e4]
    by_cases q : i = 3
    · subst q
      rw [if_pos (by omega), if_pos rfl, show 270 * 3 + j - 270 * 3 = j by omega]
    · rw [if_neg (by omega), if_pos (by omega), if_neg q]
      exact congrArg (h.1 21 0 0) (by omega)
end
