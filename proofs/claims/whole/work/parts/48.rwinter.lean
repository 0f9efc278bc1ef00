/-! ===== pure: winter begins, the reference's loops ===== -/
section
variable {h g : mb_AH} {w v : Nat → Int32} {B K T D U n o : Nat}
theorem rkk_const {P : Nat → Bool} {a b : Nat} (hab : a ≤ b) (h : ∀ x, a ≤ x → x < b → P x = false) : rkk P b = rkk P a := by
  obtain ⟨d, rfl⟩ : ∃ d, b = a + d := ⟨b - a, by omega⟩
  induction d with
  | zero => rfl
  | succ d ih =>
    rw [← ih (by omega) (fun x h1 h2 => h x h1 (by omega))]
    exact rkk_f (h (a + d) (by omega) (by omega))
theorem m6_b4 (hw : mb_W w B K T D U) : ∀ (m k f : Nat) (h : mb_AH), k + m = K → m < f → h.1 20 0 0 = wh w k → (∀ x, x < k → mvk w K x = true → h.1 24 0 0 (rkk (mvk w K) x) = nI x) → ∃ g, B_X6_begins_4 f (nI (rkk (mvk w K) k)) (nI k) h = B_X6_begins_73 mb_fu (nI (w_many w K)) 0 0 g ∧ (∀ k, k ≠ 20 → k ≠ 24 → g.1 k = h.1 k) ∧ g.2 = h.2 ∧ g.1 20 0 0 = wh w K ∧ ∀ i, i < w_many w K → g.1 24 0 0 i = nI (nth (mvk w K) 20 i) := by
  have hK := hw.K20; have hB := hw.B16
  intro m
  induction m with
  | zero =>
    intro k f h hk hf hr h24
    obtain ⟨f, rfl⟩ : ∃ g, f = g + 1 := ⟨f - 1, by omega⟩
    have : k = K := by omega
    subst this
    have em : w_many w k = rkk (mvk w k) k := rkk_const hw.K20 (fun x h1 _ => by unfold mvk; rw [decide_eq_false (by omega)]; rfl)
    refine ⟨h, ?_, fun _ _ _ => rfl, rfl, hr, fun i hi => ?_⟩
    · rw [B_X6_begins_4]
      simp only [px_cI, px_cIx, px_cV, px_cVx, px_cL, px_cLx, px_cR0, px_cR1, px_cRx, px_lI, px_lL, px_up, px_gZ0, px_gZ1, px_gZb, px_g0, px_g1, px_g2, px_g3, px_g4, px_g5, px_g6, px_g7, px_g8, px_g9, px_g10, px_g11, px_g12, px_g13, px_g14, px_c0, px_c1, px_c2, px_c3, px_c4, px_c5, px_c6, px_c7, px_c8, px_c9, px_c10, px_c11, px_c12, px_c13, px_c14]
      rw [hr, wh_lo w k 7 (by decide), hw.w7, if_pos (nI_le (by omega) (by omega)), em]
    · obtain ⟨x1, x2, x3⟩ := nth_spec (show i < rkk (mvk w k) 20 from hi)
      have := h24 (nth (mvk w k) 20 i) (mvk_t.mp x2).1 x2
      rw [x3] at this
      exact this
  | succ m ih =>
    intro k f h hk hf hr h24
    obtain ⟨f, rfl⟩ : ∃ g, f = g + 1 := ⟨f - 1, by omega⟩
    have hkK : k < K := by omega
    have hk20 : k < 20 := by omega
    have eb : ∀ j, j < 9 → bo (h.1 20 0 0) k j = bo w k j := fun j hj => by rw [hr, wh_bo w k k j hj, if_neg (by omega)]
    have et : ∀ b j, b < 16 → j < 4 → bt (h.1 20 0 0) b j = bt w b j := fun b j hb hj => by rw [hr]; exact wh_lo w k _ (by omega)
    have hskip : mvr w k = false → ∃ g, B_X6_begins_4 f (nI (rkk (mvk w K) k)) (nI (k + 1)) h = B_X6_begins_73 mb_fu (nI (w_many w K)) 0 0 g ∧ (∀ k, k ≠ 20 → k ≠ 24 → g.1 k = h.1 k) ∧ g.2 = h.2 ∧ g.1 20 0 0 = wh w K ∧ ∀ i, i < w_many w K → g.1 24 0 0 i = nI (nth (mvk w K) 20 i) := fun hm => by
      have hmk : mvk w K k = false := by unfold mvk; rw [hm, Bool.and_false]
      have e1 : rkk (mvk w K) (k + 1) = rkk (mvk w K) k := rkk_f hmk
      have := ih (k + 1) f h (by omega) (by omega) (by rw [hr, wh, hm]; rfl) (fun x hx hx2 => by
        by_cases q : x = k
        · subst q; rw [hmk] at hx2; cases hx2
        · exact h24 x (by omega) hx2)
      rw [e1] at this
      exact this
    rw [B_X6_begins_4]
    simp only [px_cI, px_cIx, px_cV, px_cVx, px_cL, px_cLx, px_cR0, px_cR1, px_cRx, px_lI, px_lL, px_up, px_gZ0, px_gZ1, px_gZb, px_g0, px_g1, px_g2, px_g3, px_g4, px_g5, px_g6, px_g7, px_g8, px_g9, px_g10, px_g11, px_g12, px_g13, px_g14, px_c0, px_c1, px_c2, px_c3, px_c4, px_c5, px_c6, px_c7, px_c8, px_c9, px_c10, px_c11, px_c12, px_c13, px_c14, m6_oB hk20 (j := 3) (by decide) (y := 3) rfl, m6_oB hk20 (j := 4) (by decide) (y := 4) rfl, nI_1]
    rw [eb 3 (by decide), eb 4 (by decide), hr, wh_lo w k 7 (by decide), hw.w7, if_neg (nI_ge (by omega) (by omega))]
    rcases (hw.boat hkK).1 with ⟨h3, b0, hb0, h4⟩ | ⟨h3, h4⟩
    · rw [if_pos h3, h4, m6_oT (show b0 < 16 by omega) (j := 2) (by decide) (y := 2) rfl, et b0 2 (by omega) (by decide)]
      simp only [px_cI, px_cIx, px_cV, px_cVx, px_cL, px_cLx, px_cR0, px_cR1, px_cRx, px_lI, px_lL, px_up, px_gZ0, px_gZ1, px_gZb, px_g0, px_g1, px_g2, px_g3, px_g4, px_g5, px_g6, px_g7, px_g8, px_g9, px_g10, px_g11, px_g12, px_g13, px_g14, px_c0, px_c1, px_c2, px_c3, px_c4, px_c5, px_c6, px_c7, px_c8, px_c9, px_c10, px_c11, px_c12, px_c13, px_c14]
      by_cases q : bt w b0 2 = 1
      · have hm : mvr w k = true := by
          unfold mvr
          rw [h3, h4, nI_clamp (by omega), q]; rfl
        have hmk : mvk w K k = true := mvk_t.mpr ⟨hkK, hm⟩
        have hrl : rkk (mvk w K) k ≤ k := sp_cnt_le _ _ _
        rw [if_pos q, px_gB (show rkk (mvk w K) k < 20 by omega) (by decide), nI_clamp (by omega)]
        have e24 : (mb_sI h 24 0 0 (rkk (mvk w K) k) (nI k)).1 20 = h.1 20 := mb_sI_o _ _ _ _ _ _ (by decide)
        rw [e24, eb 4 (by decide)]
        rw [(m6_setsw hk20 (j := 7) (y := 7) (by decide) rfl (bo w k 4) _).1]
        simp only [px_cI, px_cIx, px_cV, px_cVx, px_cL, px_cLx, px_cR0, px_cR1, px_cRx, px_lI, px_lL, px_up, px_gZ0, px_gZ1, px_gZb, px_g0, px_g1, px_g2, px_g3, px_g4, px_g5, px_g6, px_g7, px_g8, px_g9, px_g10, px_g11, px_g12, px_g13, px_g14, px_c0, px_c1, px_c2, px_c3, px_c4, px_c5, px_c6, px_c7, px_c8, px_c9, px_c10, px_c11, px_c12, px_c13, px_c14]
        obtain ⟨g, g1, g2, g3, g4, g5⟩ := ih (k + 1) f (mb_sI (mb_sI h 24 0 0 (rkk (mvk w K) k) (nI k)) 20 0 0 (90 + 9 * k + 7) (bo w k 4)) (by omega) (by omega) (by
          rw [(m6_setsw hk20 (j := 7) (y := 7) (by decide) rfl (bo w k 4) _).2, e24, hr, wh, hm]; rfl) (fun x hx hx2 => by
          rw [mb_sI_o _ _ _ _ _ _ (by decide)]
          by_cases z : x = k
          · subst z; exact mb_sI_s _ _ _ _ _ _
          · have := rkk_lt (show x < k by omega) hx2
            rw [mb_sI_j _ _ _ _ _ _ (by omega)]
            exact h24 x (by omega) hx2)
        rw [rkk_t hmk] at g1
        exact ⟨g, g1, fun k2 h20 h242 => by rw [g2 k2 h20 h242, mb_sI_o _ _ _ _ _ _ h20, mb_sI_o _ _ _ _ _ _ h242], g3, g4, g5⟩
      · rw [if_neg q]
        refine hskip ?_
        unfold mvr
        rw [h4, nI_clamp (by omega), decide_eq_false q, Bool.and_false]
    · rw [if_neg (sp_ne1 h3)]
      refine hskip ?_
      unfold mvr
      rw [decide_eq_false (sp_ne1 h3)]; rfl
theorem wh_in (hw : mb_W w B K T D U) {b : Nat} (hb : b < B) : sp_in (wh w K) K (nI b) = sp_in w K (nI b) := by
  refine sp_find_congr (fun k _ hk => ?_)
  rw [wh_bo w K k 3 (by decide), wh_bo w K k 4 (by decide), if_neg (by omega), if_neg (by omega)]
theorem m6_b73 (hw : mb_W w B K T D U) (v1 : Int32) : ∀ (m b f : Nat) (h : mb_AH), b + m = B → m < f → h.1 20 0 0 = wh w K → (∀ x, x < b → shb w B K x = true → h.1 25 0 0 (rkk (shb w B K) x) = nI x) → ∃ g, B_X6_begins_73 f v1 (nI (rkk (shb w B K) b)) (nI b) h = (mb_cV (F_X6_lays v1 (nI (w_pl w B K)) g) fun h101 => (B_X6_begins_129 mb_fu v1 (nI (w_pl w B K)) 0 0 h101)) ∧ (∀ k, k ≠ 25 → g.1 k = h.1 k) ∧ g.2 = h.2 ∧ ∀ j, j < w_pl w B K → g.1 25 0 0 j = nI (nth (shb w B K) 16 j) := by
  have hK := hw.K20; have hB := hw.B16
  intro m
  induction m with
  | zero =>
    intro b f h hb hf hr h25
    obtain ⟨f, rfl⟩ : ∃ g, f = g + 1 := ⟨f - 1, by omega⟩
    have : b = B := by omega
    subst this
    have em : w_pl w b K = rkk (shb w b K) b := rkk_const hw.B16 (fun x h1 _ => by unfold shb; rw [decide_eq_false (by omega)]; rfl)
    refine ⟨h, ?_, fun _ _ => rfl, rfl, fun j hj => ?_⟩
    · rw [B_X6_begins_73]
      simp only [px_cI, px_cIx, px_cV, px_cVx, px_cL, px_cLx, px_cR0, px_cR1, px_cRx, px_lI, px_lL, px_up, px_gZ0, px_gZ1, px_gZb, px_g0, px_g1, px_g2, px_g3, px_g4, px_g5, px_g6, px_g7, px_g8, px_g9, px_g10, px_g11, px_g12, px_g13, px_g14, px_c0, px_c1, px_c2, px_c3, px_c4, px_c5, px_c6, px_c7, px_c8, px_c9, px_c10, px_c11, px_c12, px_c13, px_c14]
      rw [hr, wh_lo w K 6 (by decide), hw.w6, if_pos (nI_le (by omega) (by omega)), em]
    · obtain ⟨x1, x2, x3⟩ := nth_spec (show j < rkk (shb w b K) 16 from hj)
      have x4 : nth (shb w b K) 16 j < b := by
        unfold shb at x2
        rw [Bool.and_eq_true, decide_eq_true_iff] at x2
        exact x2.1
      have := h25 (nth (shb w b K) 16 j) x4 x2
      rw [x3] at this
      exact this
  | succ m ih =>
    intro b f h hb hf hr h25
    obtain ⟨f, rfl⟩ : ∃ g, f = g + 1 := ⟨f - 1, by omega⟩
    have hbB : b < B := by omega
    have hb16 : b < 16 := by omega
    have hz : mb_W0 (h.1 20 0 0) B K T := by
      have := hw.z
      rw [hr]
      unfold mb_W0 at this ⊢
      rw [wh_lo w K 6 (by decide), wh_lo w K 7 (by decide), wh_lo w K 8 (by decide)]
      exact this
    have et : bt (h.1 20 0 0) b 2 = bt w b 2 := by rw [hr]; exact wh_lo w K _ (by omega)
    have hskip : shb w B K b = false → ∃ g, B_X6_begins_73 f v1 (nI (rkk (shb w B K) b)) (nI (b + 1)) h = (mb_cV (F_X6_lays v1 (nI (w_pl w B K)) g) fun h101 => (B_X6_begins_129 mb_fu v1 (nI (w_pl w B K)) 0 0 h101)) ∧ (∀ k, k ≠ 25 → g.1 k = h.1 k) ∧ g.2 = h.2 ∧ ∀ j, j < w_pl w B K → g.1 25 0 0 j = nI (nth (shb w B K) 16 j) := fun hs => by
      have e1 : rkk (shb w B K) (b + 1) = rkk (shb w B K) b := rkk_f hs
      have := ih (b + 1) f h (by omega) (by omega) hr (fun x hx hx2 => by
        by_cases q : x = b
        · subst q; rw [hs] at hx2; cases hx2
        · exact h25 x (by omega) hx2)
      rw [e1] at this
      exact this
    rw [B_X6_begins_73]
    simp only [px_cI, px_cIx, px_cV, px_cVx, px_cL, px_cLx, px_cR0, px_cR1, px_cRx, px_lI, px_lL, px_up, px_gZ0, px_gZ1, px_gZb, px_g0, px_g1, px_g2, px_g3, px_g4, px_g5, px_g6, px_g7, px_g8, px_g9, px_g10, px_g11, px_g12, px_g13, px_g14, px_c0, px_c1, px_c2, px_c3, px_c4, px_c5, px_c6, px_c7, px_c8, px_c9, px_c10, px_c11, px_c12, px_c13, px_c14, m6_oT hb16 (j := 2) (by decide) (y := 2) rfl, m6_boatIn hz, nI_1]
    rw [et, hr, wh_lo w K 6 (by decide), hw.w6, if_neg (nI_ge (by omega) (by omega)), wh_in hw hbB]
    by_cases q1 : bt w b 2 = 0
    · rw [if_pos q1]
      cases q2 : sp_in w K (nI b) with
      | none =>
        have hs : shb w B K b = true := by unfold shb; rw [decide_eq_true hbB, decide_eq_true q1, q2]; rfl
        have hrl : rkk (shb w B K) b ≤ b := sp_cnt_le _ _ _
        rw [show mb_oi none = -1 from rfl, if_pos rfl, px_gB (show rkk (shb w B K) b < 16 by omega) (by decide), nI_clamp (by omega)]
        obtain ⟨g, g1, g2, g3, g4⟩ := ih (b + 1) f (mb_sI h 25 0 0 (rkk (shb w B K) b) (nI b)) (by omega) (by omega) (by rw [mb_sI_o _ _ _ _ _ _ (by decide)]; exact hr) (fun x hx hx2 => by
          by_cases z : x = b
          · subst z; exact mb_sI_s _ _ _ _ _ _
          · have := rkk_lt (show x < b by omega) hx2
            rw [mb_sI_j _ _ _ _ _ _ (by omega)]
            exact h25 x (by omega) hx2)
        rw [rkk_t hs] at g1
        exact ⟨g, g1, fun k hk => by rw [g2 k hk, mb_sI_o _ _ _ _ _ _ hk], g3, g4⟩
      | some x =>
        have hx := (sp_find_some q2).2.1
        rw [show mb_oi (some x) = nI x from rfl, if_neg (px_neg1 (by omega))]
        exact hskip (by unfold shb; rw [q2]; simp)
    · rw [if_neg q1]
      exact hskip (by unfold shb; rw [decide_eq_false q1]; simp)
/-- which shelter is right for the boat of rank i -/
def cj (wi : Nat → Nat → Bool) (S : Nat → Bool) (fit : Nat → Nat → Bool) (x t : Nat) : Nat → Bool := fun j => decide (0 < vb wi (20 - x) x (opt S t)) && decide (its wi S fit x t j = vb wi (20 - x) x (opt S t))
theorem asg_c (hw : mb_W w B K T D U) {x t : Nat} (hx : mvk w K x = true) (hop : ∀ b, shb w B K b = true → opk (wis w B K T) x b = opt (shb w B K) t b) : asg (wis w B K T) x = (sp_find (cj (wis w B K T) (shb w B K) (sp_fit w T) x t) 0 (w_pl w B K)).map (nth (shb w B K) 16) := by
  have hK := hw.K20; have hB := hw.B16
  have hxK := (mvk_t.mp hx).1
  have ev : vb (wis w B K T) (20 - x) x (opk (wis w B K T) x) = vb (wis w B K T) (20 - x) x (opt (shb w B K) t) := vb_cg (fun _ _ _ _ => rfl) _ _ _ _ (by omega) (fun b hb ⟨u, hu, hu2⟩ => hop b (wis_s hu2))
  have er : ∀ b, shb w B K b = true → vb (wis w B K T) (19 - x) (x + 1) (rm (opk (wis w B K T) x) b) = vb (wis w B K T) (19 - x) (x + 1) (opt (shb w B K) (t ||| 2 ^ rkk (shb w B K) b)) := fun b hb => vb_cg (fun _ _ _ _ => rfl) _ _ _ _ (by omega) (fun c hc ⟨u, hu, hu2⟩ => by
    rw [opt_or hb (wis_s hu2)]
    unfold rm
    rw [hop c (wis_s hu2)])
  -- right for the class, right for the reference
  have fwd : ∀ b, b < 16 → ((wis w B K T x b && opk (wis w B K T) x b) && decide (vb (wis w B K T) (19 - x) (x + 1) (rm (opk (wis w B K T) x) b) + 1 = vb (wis w B K T) (20 - x) x (opk (wis w B K T) x))) = true → shb w B K b = true ∧ rkk (shb w B K) b < w_pl w B K ∧ cj (wis w B K T) (shb w B K) (sp_fit w T) x t (rkk (shb w B K) b) = true := fun b hb hc => by
    rw [Bool.and_eq_true, Bool.and_eq_true, decide_eq_true_iff] at hc
    obtain ⟨⟨c1, c2⟩, c3⟩ := hc
    have hs := wis_s c1
    rw [hop b hs] at c2
    rw [ev, er b hs] at c3
    refine ⟨hs, rkk_lt hb hs, ?_⟩
    unfold cj its
    have c2 : (!t.testBit (rkk (shb w B K) b)) = true := c2
    rw [nth_of hb hs, c2, (wis_t c1).2.2.2.2.2, decide_eq_true (show 0 < vb (wis w B K T) (20 - x) x (opt (shb w B K) t) by omega)]
    show (true && decide (1 + vb (wis w B K T) (19 - x) (x + 1) (opt (shb w B K) (t ||| 2 ^ rkk (shb w B K) b)) = vb (wis w B K T) (20 - x) x (opt (shb w B K) t))) = true
    rw [decide_eq_true (by omega)]; rfl
  cases e : sp_find (cj (wis w B K T) (shb w B K) (sp_fit w T) x t) 0 (w_pl w B K) with
  | none =>
    refine sp_find_no (fun b _ hb => bf_t (fun z => ?_))
    obtain ⟨s1, s2, s3⟩ := fwd b (by omega) z
    rw [sp_find_none e _ (Nat.zero_le _) (by omega)] at s3
    cases s3
  | some j =>
    obtain ⟨-, j1, j2⟩ := sp_find_some e
    have j3 : j < w_pl w B K := by omega
    obtain ⟨b1, b2, b3⟩ := nth_spec (show j < rkk (shb w B K) 16 from j3)
    unfold cj its at j2
    rw [Bool.and_eq_true, decide_eq_true_iff, decide_eq_true_iff] at j2
    refine sp_find_eq ?_ (Nat.zero_le _) (by omega) (fun y _ hy => bf_t (fun z => ?_))
    · cases hc : (!t.testBit j && sp_fit w T x (nth (shb w B K) 16 j)) with
      | false =>
        rw [hc] at j2
        have j22 : 0 = vb (wis w B K T) (20 - x) x (opt (shb w B K) t) := j2.2
        omega
      | true =>
        rw [hc] at j2
        have j22 : 1 + vb (wis w B K T) (19 - x) (x + 1) (opt (shb w B K) (t ||| 2 ^ j)) = vb (wis w B K T) (20 - x) x (opt (shb w B K) t) := j2.2
        rw [Bool.and_eq_true] at hc
        have c1 : wis w B K T x (nth (shb w B K) 16 j) = true := by
          unfold wis
          unfold mvk at hx
          rw [hx, b2, hc.2]; rfl
        have c2 : opk (wis w B K T) x (nth (shb w B K) 16 j) = true := by
          rw [hop _ b2]
          unfold opt
          rw [b3]; exact hc.1
        show ((wis w B K T x (nth (shb w B K) 16 j) && opk (wis w B K T) x (nth (shb w B K) 16 j)) && decide (vb (wis w B K T) (19 - x) (x + 1) (rm (opk (wis w B K T) x) (nth (shb w B K) 16 j)) + 1 = vb (wis w B K T) (20 - x) x (opk (wis w B K T) x))) = true
        rw [c1, c2, ev, er _ b2, b3, decide_eq_true (by omega)]; rfl
    · obtain ⟨s1, s2, s3⟩ := fwd y (by omega) z
      have s4 := rkk_lt hy s1
      rw [b3] at s4
      rw [sp_find_min e _ (Nat.zero_le _) s4] at s3
      cases s3
theorem m6_b156 (hw : mb_W w B K T D U) (K129 : Int32 → Int32 → Int32 → Int32 → mb_AH → Option mb_RS) {i t : Nat} (hi : i < w_many w K) (ht : t < 2 ^ w_pl w B K) (ws : ws_ok w B K T h) (lb : lb_ok w B K T h (i + 1)) : ∀ (n f : Nat) (o : Option Nat), n ≤ w_pl w B K → n < f →
    B_X6_begins_156 K129 f (nI (w_many w K)) (nI (w_pl w B K)) (nI t) (nI i) (nI (vb (wis w B K T) (20 - nth (mvk w K) 20 i) (nth (mvk w K) 20 i) (opt (shb w B K) t))) (mb_oi o) (nI n - 1) h = (if mb_oi (lowf (cj (wis w B K T) (shb w B K) (sp_fit w T) (nth (mvk w K) 20 i) t) n o) = (-1) then (B_X6_begins_215 K129 (nI (w_many w K)) (nI (w_pl w B K)) (nI t) (nI i) (mb_oi (lowf (cj (wis w B K T) (shb w B K) (sp_fit w T) (nth (mvk w K) 20 i) t) n o)) 3 (nI (nth (mvk w K) 20 i)) h) else (B_X6_begins_215 K129 (nI (w_many w K)) (nI (w_pl w B K)) (nI t) (nI i) (mb_oi (lowf (cj (wis w B K T) (shb w B K) (sp_fit w T) (nth (mvk w K) 20 i) t) n o)) 1 (nI (nth (mvk w K) 20 i)) h)) := by
  have h16 := w_fit16 hw
  have hv := vb_le (wis w B K T) (20 - nth (mvk w K) 20 i) (nth (mvk w K) 20 i) (opt (shb w B K) t)
  have h24 := ws.2.2.1 i hi
  intro n
  induction n with
  | zero =>
    intro f o hn hf
    obtain ⟨f, rfl⟩ : ∃ g, f = g + 1 := ⟨f - 1, by omega⟩
    rw [B_X6_begins_156, if_pos (by decide), px_gB (show i < 20 by omega) (by decide), nI_clamp (by omega), h24]
    rfl
  | succ n ih =>
    intro f o hn hf
    obtain ⟨f, rfl⟩ : ∃ g, f = g + 1 := ⟨f - 1, by omega⟩
    rw [B_X6_begins_156, nI_pred, if_neg (show ¬ nI n < 0 from Int32.not_lt.mpr (nI_pos' (by omega))), px_m1]
    rw [lowf]
    by_cases q : vb (wis w B K T) (20 - nth (mvk w K) 20 i) (nth (mvk w K) 20 i) (opt (shb w B K) t) = 0
    · have hc : cj (wis w B K T) (shb w B K) (sp_fit w T) (nth (mvk w K) 20 i) t n = false := by
        unfold cj
        rw [q]; rfl
      rw [if_pos (by rw [q]; decide), hc]
      simp only [px_cI, px_cIx, px_cV, px_cVx, px_cL, px_cLx, px_cR0, px_cR1, px_cRx, px_lI, px_lL, px_up, px_gZ0, px_gZ1, px_gZb, px_g0, px_g1, px_g2, px_g3, px_g4, px_g5, px_g6, px_g7, px_g8, px_g9, px_g10, px_g11, px_g12, px_g13, px_g14, px_c0, px_c1, px_c2, px_c3, px_c4, px_c5, px_c6, px_c7, px_c8, px_c9, px_c10, px_c11, px_c12, px_c13, px_c14]
      exact ih f o (by omega) (by omega)
    · have hcc : cj (wis w B K T) (shb w B K) (sp_fit w T) (nth (mvk w K) 20 i) t n = decide (its (wis w B K T) (shb w B K) (sp_fit w T) (nth (mvk w K) 20 i) t n = vb (wis w B K T) (20 - nth (mvk w K) 20 i) (nth (mvk w K) 20 i) (opt (shb w B K) t)) := by
        unfold cj
        rw [decide_eq_true (show 0 < vb (wis w B K T) (20 - nth (mvk w K) 20 i) (nth (mvk w K) 20 i) (opt (shb w B K) t) by omega), Bool.true_and]
      have hle := its_le (wis w B K T) (shb w B K) (sp_fit w T) (nth (mvk w K) 20 i) t n
      rw [if_neg (show ¬ nI (vb (wis w B K T) (20 - nth (mvk w K) 20 i) (nth (mvk w K) 20 i) (opt (shb w B K) t)) ≤ 0 from nI_ge (a := 0) (by omega) (by omega)), m6_withShelter hw ws hi (show n < w_pl w B K by omega) ht lb, hcc]
      simp only [px_cI, px_cIx, px_cV, px_cVx, px_cL, px_cLx, px_cR0, px_cR1, px_cRx, px_lI, px_lL, px_up, px_gZ0, px_gZ1, px_gZb, px_g0, px_g1, px_g2, px_g3, px_g4, px_g5, px_g6, px_g7, px_g8, px_g9, px_g10, px_g11, px_g12, px_g13, px_g14, px_c0, px_c1, px_c2, px_c3, px_c4, px_c5, px_c6, px_c7, px_c8, px_c9, px_c10, px_c11, px_c12, px_c13, px_c14, px_m1]
      by_cases q2 : its (wis w B K T) (shb w B K) (sp_fit w T) (nth (mvk w K) 20 i) t n = vb (wis w B K T) (20 - nth (mvk w K) 20 i) (nth (mvk w K) 20 i) (opt (shb w B K) t)
      · rw [if_pos (by rw [q2]), decide_eq_true q2]
        exact ih f (some n) (by omega) (by omega)
      · rw [if_neg (px_ne (by omega) (by omega) q2), decide_eq_false q2]
        exact ih f o (by omega) (by omega)
theorem m6_puts {k : Nat} (hk : k < 20) (s a : Int32) (g1 : mb_AH) : F_X6_puts (nI k) s a g1 = mb_rV (mb_sI (mb_sI (mb_sI g1 20 0 0 (90 + 9 * k + 3) s) 20 0 0 (90 + 9 * k + 4) a) 20 0 0 (90 + 9 * k + 5) 0) ∧ (mb_sI (mb_sI (mb_sI g1 20 0 0 (90 + 9 * k + 3) s) 20 0 0 (90 + 9 * k + 4) a) 20 0 0 (90 + 9 * k + 5) 0).1 20 0 0 = wb (wb (wb (g1.1 20 0 0) k 3 s) k 4 a) k 5 0 := by
  obtain ⟨g6, e, -⟩ := m6_move hk s a g1
  refine ⟨e, ?_⟩
  rw [(m6_setsw hk (j := 5) (y := 5) (by decide) rfl 0 _).2, (m6_setsw hk (j := 4) (y := 4) (by decide) rfl a _).2, (m6_setsw hk (j := 3) (y := 3) (by decide) rfl s g1).2]
theorem m6_b129 (hw : mb_W w B K T D U) : ∀ (m i f t k : Nat) (h : mb_AH), i + m = w_many w K → m < f → k ≤ 20 → rkk (mvk w K) k = i → t < 2 ^ w_pl w B K → h.1 20 0 0 = wz w K (wis w B K T) k → (∀ i, i < w_many w K → h.1 24 0 0 i = nI (nth (mvk w K) 20 i)) → (∀ j, j < w_pl w B K → h.1 25 0 0 j = nI (nth (shb w B K) 16 j)) → lb_ok w B K T h 0 → (∀ b, shb w B K b = true → opk (wis w B K T) k b = opt (shb w B K) t b) →
    ∃ g, B_X6_begins_129 f (nI (w_many w K)) (nI (w_pl w B K)) (nI t) (nI i) h = mb_rV g ∧ (∀ k, k ≠ 20 → g.1 k = h.1 k) ∧ g.2 = h.2 ∧ g.1 20 0 0 = winw w B K T := by
  have h16 := w_fit16 hw
  have hK := hw.K20
  have hpw := pw_le (show w_pl w B K ≤ 16 by omega)
  intro m
  induction m with
  | zero =>
    intro i f t k h hi hf hk hr ht h20 h24 h25 lb hop
    obtain ⟨f, rfl⟩ : ∃ g, f = g + 1 := ⟨f - 1, by omega⟩
    have hg := rkk_gap (show rkk (mvk w K) k = rkk (mvk w K) 20 by rw [hr]; omega)
    have ez : wz w K (wis w B K T) 20 = wz w K (wis w B K T) k := wz_skip hk hg
    refine ⟨mb_sI h 20 0 0 5 1, ?_, fun k2 hk2 => mb_sI_o _ _ _ _ _ _ hk2, rfl, ?_⟩
    · rw [B_X6_begins_129, if_pos (nI_le (by omega) (by omega))]
      simp only [px_cI, px_cIx, px_cV, px_cVx, px_cL, px_cLx, px_cR0, px_cR1, px_cRx, px_lI, px_lL, px_up, px_gZ0, px_gZ1, px_gZb, px_g0, px_g1, px_g2, px_g3, px_g4, px_g5, px_g6, px_g7, px_g8, px_g9, px_g10, px_g11, px_g12, px_g13, px_g14, px_c0, px_c1, px_c2, px_c3, px_c4, px_c5, px_c6, px_c7, px_c8, px_c9, px_c10, px_c11, px_c12, px_c13, px_c14]
    · rw [m6_wr, h20, ← ez, wz_end hw]
  | succ m ih =>
    intro i f t k h hi hf hk hr ht h20 h24 h25 lb hop
    obtain ⟨f, rfl⟩ : ∃ g, f = g + 1 := ⟨f - 1, by omega⟩
    have hi2 : i < w_many w K := by omega
    obtain ⟨x1, x2, x3⟩ := nth_spec (show i < rkk (mvk w K) 20 from hi2)
    obtain ⟨v1, v2, -⟩ := vb_at (B := B) (T := T) hw (opt (shb w B K) t) hi2 hk hr
    have ez : wz w K (wis w B K T) (nth (mvk w K) 20 i) = wz w K (wis w B K T) k := wz_skip v1 v2
    have eo : opk (wis w B K T) (nth (mvk w K) 20 i) = opk (wis w B K T) k := opk_skip v1 (fun x a b => wis_f (v2 x a b))
    have hop2 : ∀ b, shb w B K b = true → opk (wis w B K T) (nth (mvk w K) 20 i) b = opt (shb w B K) t b := fun b hb => by rw [eo]; exact hop b hb
    have hid := idx_lt (Nat.le_of_lt hi2) ht (w_room hw)
    have ws : ws_ok w B K T h := ⟨by rw [h20]; exact wz_W0 hw _ _, fun x b _ hb => by rw [h20]; exact wz_fit hw _ _ _ _ hb, h24, h25⟩
    have lb1 : lb_ok w B K T h (i + 1) := fun i2 a b => lb i2 (Nat.zero_le _) b
    have ha := asg_c hw x2 hop2
    have hbest := lb i (Nat.zero_le _) (Nat.le_of_lt hi2) t ht (nth (mvk w K) 20 i) (by omega) x3
    have hrun := m6_b156 hw (B_X6_begins_129 f) hi2 ht ws lb1 (w_pl w B K) mb_fu none (Nat.le_refl _) (by unfold mb_fu; omega)
    rw [lowf_eq] at hrun
    have hrun : B_X6_begins_156 (B_X6_begins_129 f) mb_fu (nI (w_many w K)) (nI (w_pl w B K)) (nI t) (nI i) (nI (vb (wis w B K T) (20 - nth (mvk w K) 20 i) (nth (mvk w K) 20 i) (opt (shb w B K) t))) (-1) (nI (w_pl w B K) - 1) h = _ := hrun
    rw [B_X6_begins_129, if_neg (nI_ge hi2 (by omega)), px_shl (show w_pl w B K < 32 by omega) (by omega), nI_add, px_gB hid (by decide), nI_clamp (by omega), hbest]
    simp only [px_cI, px_cIx, px_cV, px_cVx, px_cL, px_cLx, px_cR0, px_cR1, px_cRx, px_lI, px_lL, px_up, px_gZ0, px_gZ1, px_gZb, px_g0, px_g1, px_g2, px_g3, px_g4, px_g5, px_g6, px_g7, px_g8, px_g9, px_g10, px_g11, px_g12, px_g13, px_g14, px_c0, px_c1, px_c2, px_c3, px_c4, px_c5, px_c6, px_c7, px_c8, px_c9, px_c10, px_c11, px_c12, px_c13, px_c14]
    rw [hrun]
    clear hrun
    obtain ⟨p1, p2⟩ := m6_puts x1 (if (asg (wis w B K T) (nth (mvk w K) 20 i)).isNone = true then 3 else 1) (mb_oi (asg (wis w B K T) (nth (mvk w K) 20 i))) h
    have ez2 : wz w K (wis w B K T) (nth (mvk w K) 20 i + 1) = wb (wb (wb (h.1 20 0 0) (nth (mvk w K) 20 i) 3 (if (asg (wis w B K T) (nth (mvk w K) 20 i)).isNone = true then 3 else 1)) (nth (mvk w K) 20 i) 4 (mb_oi (asg (wis w B K T) (nth (mvk w K) 20 i)))) (nth (mvk w K) 20 i) 5 0 := by
      rw [wz, x2, ez, h20]; rfl
    rw [← ez2] at p2
    have fr : ∀ k, k ≠ 20 → (mb_sI (mb_sI (mb_sI h 20 0 0 (90 + 9 * nth (mvk w K) 20 i + 3) (if (asg (wis w B K T) (nth (mvk w K) 20 i)).isNone = true then 3 else 1)) 20 0 0 (90 + 9 * nth (mvk w K) 20 i + 4) (mb_oi (asg (wis w B K T) (nth (mvk w K) 20 i)))) 20 0 0 (90 + 9 * nth (mvk w K) 20 i + 5) 0).1 k = h.1 k := fun k hk => by rw [mb_sI_o _ _ _ _ _ _ hk, mb_sI_o _ _ _ _ _ _ hk, mb_sI_o _ _ _ _ _ _ hk]
    have fr2 : (mb_sI (mb_sI (mb_sI h 20 0 0 (90 + 9 * nth (mvk w K) 20 i + 3) (if (asg (wis w B K T) (nth (mvk w K) 20 i)).isNone = true then 3 else 1)) 20 0 0 (90 + 9 * nth (mvk w K) 20 i + 4) (mb_oi (asg (wis w B K T) (nth (mvk w K) 20 i)))) 20 0 0 (90 + 9 * nth (mvk w K) 20 i + 5) 0).2 = h.2 := rfl
    generalize mb_sI (mb_sI (mb_sI h 20 0 0 (90 + 9 * nth (mvk w K) 20 i + 3) (if (asg (wis w B K T) (nth (mvk w K) 20 i)).isNone = true then 3 else 1)) 20 0 0 (90 + 9 * nth (mvk w K) 20 i + 4) (mb_oi (asg (wis w B K T) (nth (mvk w K) 20 i)))) 20 0 0 (90 + 9 * nth (mvk w K) 20 i + 5) 0 = h2 at p1 p2 fr fr2
    have next : ∀ t2, t2 < 2 ^ w_pl w B K → (∀ b, shb w B K b = true → opk (wis w B K T) (nth (mvk w K) 20 i + 1) b = opt (shb w B K) t2 b) → ∃ g, B_X6_begins_129 f (nI (w_many w K)) (nI (w_pl w B K)) (nI t2) (nI (i + 1)) h2 = mb_rV g ∧ (∀ k, k ≠ 20 → g.1 k = h.1 k) ∧ g.2 = h.2 ∧ g.1 20 0 0 = winw w B K T := fun t2 ht2 ho2 => by
      obtain ⟨g, g1, g2, g3, g4⟩ := ih (i + 1) f t2 (nth (mvk w K) 20 i + 1) h2 (by omega) (by omega) (by omega) (by rw [rkk_t x2, x3]) ht2 p2 (fun i2 hi3 => by rw [fr 24 (by decide)]; exact h24 i2 hi3) (fun j hj => by rw [fr 25 (by decide)]; exact h25 j hj) (fun i2 a b t3 ht3 k3 hk3 e3 => by rw [fr 26 (by decide)]; exact lb i2 a b t3 ht3 k3 hk3 e3) ho2
      exact ⟨g, g1, fun k hk => by rw [g2 k hk, fr k hk], g3.trans fr2, g4⟩
    cases e : sp_find (cj (wis w B K T) (shb w B K) (sp_fit w T) (nth (mvk w K) 20 i) t) 0 (w_pl w B K) with
    | none =>
      rw [e] at ha
      have ha : asg (wis w B K T) (nth (mvk w K) 20 i) = none := ha
      rw [ha] at p1
      have p1 : F_X6_puts (nI (nth (mvk w K) 20 i)) 3 (-1) h = mb_rV h2 := p1
      show ∃ g, (if (-1 : Int32) = -1 then B_X6_begins_215 (B_X6_begins_129 f) (nI (w_many w K)) (nI (w_pl w B K)) (nI t) (nI i) (-1) 3 (nI (nth (mvk w K) 20 i)) h else _) = mb_rV g ∧ _
      rw [if_pos rfl]
      unfold B_X6_begins_215 B_X6_begins_232
      rw [if_pos rfl, p1]
      simp only [px_cI, px_cIx, px_cV, px_cVx, px_cL, px_cLx, px_cR0, px_cR1, px_cRx, px_lI, px_lL, px_up, px_gZ0, px_gZ1, px_gZb, px_g0, px_g1, px_g2, px_g3, px_g4, px_g5, px_g6, px_g7, px_g8, px_g9, px_g10, px_g11, px_g12, px_g13, px_g14, px_c0, px_c1, px_c2, px_c3, px_c4, px_c5, px_c6, px_c7, px_c8, px_c9, px_c10, px_c11, px_c12, px_c13, px_c14, nI_1]
      rw [if_pos trivial, show nI t ||| 0 = nI t from xb_ext (fun i hi => by rw [xb_or, xb_0, Bool.or_false])]
      refine next t ht (fun b hb => ?_)
      show gv_o (asg (wis w B K T) (nth (mvk w K) 20 i)) (opk (wis w B K T) (nth (mvk w K) 20 i)) b = _
      rw [ha]
      exact hop2 b hb
    | some j =>
      rw [e] at ha
      have ha : asg (wis w B K T) (nth (mvk w K) 20 i) = some (nth (shb w B K) 16 j) := ha
      obtain ⟨-, j1, j2⟩ := sp_find_some e
      have j3 : j < w_pl w B K := by omega
      obtain ⟨b1, b2, b3⟩ := nth_spec (show j < rkk (shb w B K) 16 from j3)
      rw [ha] at p1
      have p1 : F_X6_puts (nI (nth (mvk w K) 20 i)) 1 (nI (nth (shb w B K) 16 j)) h = mb_rV h2 := p1
      show ∃ g, (if nI j = -1 then _ else B_X6_begins_215 (B_X6_begins_129 f) (nI (w_many w K)) (nI (w_pl w B K)) (nI t) (nI i) (nI j) 1 (nI (nth (mvk w K) 20 i)) h) = mb_rV g ∧ _
      rw [if_neg (px_neg1 (by omega))]
      unfold B_X6_begins_215 B_X6_begins_232
      rw [if_neg (px_neg1 (by omega)), px_gB (show j < 16 by omega) (by decide), nI_clamp (by omega), h25 j j3, p1]
      simp only [px_cI, px_cIx, px_cV, px_cVx, px_cL, px_cLx, px_cR0, px_cR1, px_cRx, px_lI, px_lL, px_up, px_gZ0, px_gZ1, px_gZb, px_g0, px_g1, px_g2, px_g3, px_g4, px_g5, px_g6, px_g7, px_g8, px_g9, px_g10, px_g11, px_g12, px_g13, px_g14, px_c0, px_c1, px_c2, px_c3, px_c4, px_c5, px_c6, px_c7, px_c8, px_c9, px_c10, px_c11, px_c12, px_c13, px_c14, nI_1]
      rw [if_neg (px_neg1 (by omega)), show (1 : Int32) = nI 1 from rfl, px_shl (show j < 32 by omega) (by
        have : 2 ^ j ≤ 2 ^ 16 := Nat.pow_le_pow_right (by decide) (by omega)
        omega), Nat.one_mul, px_or]
      refine next (t ||| 2 ^ j) (or_lt ht j3) (fun b hb => ?_)
      show gv_o (asg (wis w B K T) (nth (mvk w K) 20 i)) (opk (wis w B K T) (nth (mvk w K) 20 i)) b = _
      rw [ha]
      show rm (opk (wis w B K T) (nth (mvk w K) 20 i)) (nth (shb w B K) 16 j) b = _
      have := opt_or (t := t) b2 hb
      rw [b3] at this
      rw [this]
      unfold rm
      rw [hop2 b hb]
theorem m6_begins (hw : mb_W (h.1 20 0 0) B K T D U) : ∃ g, F_X6_begins h = mb_rV g ∧ (∀ k, k ≠ 20 → k ≠ 24 → k ≠ 25 → k ≠ 26 → g.1 k = h.1 k) ∧ g.2 = h.2 ∧ g.1 20 0 0 = winw (h.1 20 0 0) B K T := by
  have hK := hw.K20; have hB := hw.B16
  obtain ⟨g1, a1, a2, a3, a4, a5⟩ := m6_b4 hw K 0 mb_fu h (by omega) (by unfold mb_fu; omega) rfl (fun x hx => absurd hx (Nat.not_lt_zero x))
  obtain ⟨g2, b1, b2, b3, b4⟩ := m6_b73 hw (nI (w_many (h.1 20 0 0) K)) B 0 mb_fu g1 (by omega) (by unfold mb_fu; omega) a4 (fun x hx => absurd hx (Nat.not_lt_zero x))
  have r20 : g2.1 20 0 0 = wz (h.1 20 0 0) K (wis (h.1 20 0 0) B K T) 0 := by rw [b2 20 (by decide), a4]; rfl
  have h24 : ∀ i, i < w_many (h.1 20 0 0) K → g2.1 24 0 0 i = nI (nth (mvk (h.1 20 0 0) K) 20 i) := fun i hi => by rw [b2 24 (by decide)]; exact a5 i hi
  have ws : ws_ok (h.1 20 0 0) B K T g2 := ⟨by rw [r20]; exact wz_W0 hw _ _, fun x b _ hb => by rw [r20]; exact wz_fit hw _ _ _ _ hb, h24, b4⟩
  obtain ⟨g3, c1, c2, c3, c4⟩ := m6_lays hw ws
  obtain ⟨g4, d1, d2, d3, d4⟩ := m6_b129 hw (w_many (h.1 20 0 0) K) 0 mb_fu 0 0 g3 (by omega) (by have := w_fit16 hw; unfold mb_fu; omega) (by omega) rfl (Nat.two_pow_pos _) (by rw [c2 20 (by decide)]; exact r20) (fun i hi => by rw [c2 24 (by decide)]; exact h24 i hi) (fun j hj => by rw [c2 25 (by decide)]; exact b4 j hj) c4 (fun b _ => by show true = opt _ 0 b; unfold opt; rw [Nat.zero_testBit]; rfl)
  refine ⟨g4, ?_, fun k h20 hk24 hk25 hk26 => by rw [d2 k h20, c2 k hk26, b2 k hk25, a2 k h20 hk24], d3.trans (c3.trans (b3.trans a3)), d4⟩
  have a1 : B_X6_begins_4 mb_fu 0 0 h = _ := a1
  have b1 : B_X6_begins_73 mb_fu (nI (w_many (h.1 20 0 0) K)) 0 0 g1 = _ := b1
  have d1 : B_X6_begins_129 mb_fu (nI (w_many (h.1 20 0 0) K)) (nI (w_pl (h.1 20 0 0) B K)) 0 0 g3 = _ := d1
  unfold F_X6_begins
  rw [a1, b1, c1]
  simp only [px_cI, px_cIx, px_cV, px_cVx, px_cL, px_cLx, px_cR0, px_cR1, px_cRx, px_lI, px_lL, px_up, px_gZ0, px_gZ1, px_gZb, px_g0, px_g1, px_g2, px_g3, px_g4, px_g5, px_g6, px_g7, px_g8, px_g9, px_g10, px_g11, px_g12, px_g13, px_g14, px_c0, px_c1, px_c2, px_c3, px_c4, px_c5, px_c6, px_c7, px_c8, px_c9, px_c10, px_c11, px_c12, px_c13, px_c14]
  exact d1
end
