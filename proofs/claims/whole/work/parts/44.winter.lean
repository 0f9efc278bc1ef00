/-! ===== pure: the row behind the begin of winter; the class's way there ===== -/
section
variable {h g : mb_AH} {w v : Nat → Int32} {B K T D U n o : Nat}
theorem mb_W.gen {D2 U2 : Nat} (h : mb_W w B K T D U) (e : ∀ j, j < 90 → j ≠ 4 → j ≠ 5 → j ≠ 9 → v j = w j) (e4 : v 4 = nI D2) (lD : D2 ≤ 300000) (e5 : v 5 = 0 ∨ v 5 = 1) (e9 : v 9 = nI U2) (lU : U2 ≤ 5000000) (hb : ∀ k, k < K → mb_at9 v B k ∧ mb_hm9 v B k ∧ mb_wt9 v D2 U2 k ∧ mb_nu9 v k) (d1 : ∀ k j, k < K → j < K → bo v k 3 = 1 → bo v j 3 = 1 → bo v k 4 = bo v j 4 → k = j) (d2 : ∀ k j, k < K → j < K → bo v k 3 = 2 → bo v j 3 = 2 → bo v k 6 = bo v j 6 → k = j) : mb_W v B K T D2 U2 := by
  have hB := h.B16; have hT := h.T14
  have et : ∀ b j, b < B → j < 4 → bt v b j = bt w b j := fun b j hb hj => e _ (by omega) (by omega) (by omega) (by omega)
  obtain ⟨z, -, -, -, b, -, -, l, hg, -, p⟩ := h
  refine ⟨?_, ⟨e4, lD⟩, ⟨e9, lU⟩, hb, fun b9 hb9 => ?_, d1, d2, fun k hk => by rw [e _ (by omega) (by omega) (by omega) (by omega)]; exact l k hk, ?_, e5, ?_⟩
  · unfold mb_W0 at z ⊢
    rw [e 6 (by decide) (by decide) (by decide) (by decide), e 7 (by decide) (by decide) (by decide) (by decide), e 8 (by decide) (by decide) (by decide) (by decide)]
    exact z
  · have := b b9 hb9
    unfold mb_nb9 at this ⊢
    simp only [et b9 0 hb9 (by decide), et b9 1 hb9 (by decide), et b9 2 hb9 (by decide), et b9 3 hb9 (by decide)]
    exact this
  · rw [e 0 (by decide) (by decide) (by decide) (by decide), e 1 (by decide) (by decide) (by decide) (by decide), e 2 (by decide) (by decide) (by decide) (by decide), e 3 (by decide) (by decide) (by decide) (by decide)]
    exact hg
  · rw [e 10 (by decide) (by decide) (by decide) (by decide), e 11 (by decide) (by decide) (by decide) (by decide)]
    exact p
theorem mb_RM.gen (r : mb_RM h o w B K T) (hB : B ≤ 16) (hT : T ≤ 14) (e : ∀ j, j < 90 → j ≠ 4 → j ≠ 5 → j ≠ 9 → v j = w j) (e4 : g.1 1 o 0 11 = v 4) (e5 : g.1 1 o 0 12 = v 5) (e9 : g.1 1 o 0 14 = v 9)
    (f1 : ∀ j, j ≠ 11 → j ≠ 12 → j ≠ 14 → g.1 1 o 0 j = h.1 1 o 0 j) (f2 : g.1 2 o = h.1 2 o) (f4 : g.1 12 o = h.1 12 o) (f5 : g.2.1 1 o = h.2.1 1 o) (fk : ∀ k, k < K → cp_b g o v k) : mb_RM g o v B K T := by
  obtain ⟨⟨c0, c1, c2, c3, c4, c5, c6, c7, c8, c9⟩, p, lo, l, t, b⟩ := r
  have elow : ∀ m, m < 14 → sp_low v m = sp_low w m := sp_low_cg2 (fun j h1 h2 => e j (by omega) (by omega) (by omega) (by omega))
  refine ⟨⟨?_, ?_, ?_, ?_, e4, e5, ?_, ?_, ?_, e9⟩, ?_, ?_, fun k hk => ?_, fun b9 hb => ?_, fk⟩
  · rw [f1 _ (by decide) (by decide) (by decide), e _ (by decide) (by decide) (by decide) (by decide)]; exact c0
  · rw [f1 _ (by decide) (by decide) (by decide), e _ (by decide) (by decide) (by decide) (by decide)]; exact c1
  · rw [f1 _ (by decide) (by decide) (by decide), e _ (by decide) (by decide) (by decide) (by decide)]; exact c2
  · rw [f1 _ (by decide) (by decide) (by decide), e _ (by decide) (by decide) (by decide) (by decide)]; exact c3
  · rw [f1 _ (by decide) (by decide) (by decide), e _ (by decide) (by decide) (by decide) (by decide)]; exact c6
  · rw [f1 _ (by decide) (by decide) (by decide), e _ (by decide) (by decide) (by decide) (by decide)]; exact c7
  · rw [f1 _ (by decide) (by decide) (by decide), e _ (by decide) (by decide) (by decide) (by decide)]; exact c8
  · unfold sp_paid at p ⊢
    rw [f5, e 10 (by decide) (by decide) (by decide) (by decide), e 11 (by decide) (by decide) (by decide) (by decide)]; exact p
  · rw [f1 _ (by decide) (by decide) (by decide), elow _ (by omega)]; exact lo
  · rw [f4, e _ (by omega) (by omega) (by omega) (by omega)]; exact l k hk
  · rw [f2]
    have := t b9 hb
    unfold bt at this ⊢
    rw [e _ (by omega) (by omega) (by omega) (by omega), e _ (by omega) (by omega) (by omega) (by omega), e _ (by omega) (by omega) (by omega) (by omega), e _ (by omega) (by omega) (by omega) (by omega)]
    exact this
theorem row_ext {u : Nat → Int32} (h1 : ∀ i, i < 90 → u i = v i) (h2 : ∀ k j, j < 9 → bo u k j = bo v k j) : u = v := by
  funext i
  by_cases q : i < 90
  · exact h1 i q
  · have := h2 ((i - 90) / 9) ((i - 90) % 9) (Nat.mod_lt _ (by decide))
    unfold bo at this
    rw [show 90 + 9 * ((i - 90) / 9) + (i - 90) % 9 = i by omega] at this
    exact this
/-! the specs -/
def mvr (w : Nat → Int32) (k : Nat) : Bool := decide (bo w k 3 = 1) && decide (bt w (bo w k 4).toNatClampNeg 2 = 1)
def shb (w : Nat → Int32) (B K b : Nat) : Bool := decide (b < B) && (decide (bt w b 2 = 0) && (sp_in w K (nI b)).isNone)
def wis (w : Nat → Int32) (B K T : Nat) : Nat → Nat → Bool := fun k b => (decide (k < K) && mvr w k) && (shb w B K b && sp_fit w T k b)
def wv (w : Nat → Int32) : Nat → Nat → Int32
  | 0 => wr w 5 1
  | n + 1 => cond (mvr w n) (wb (wb (wb (wv w n) n 7 (bo w n 4)) n 3 3) n 4 (-1)) (wv w n)
theorem wv_lo (w : Nat → Int32) : ∀ (n i : Nat), i < 90 → wv w n i = if i = 5 then 1 else w i := by
  intro n
  induction n with
  | zero => intro i _; rfl
  | succ n ih =>
    intro i hi
    show (cond (mvr w n) (wb (wb (wb (wv w n) n 7 (bo w n 4)) n 3 3) n 4 (-1)) (wv w n)) i = _
    cases mvr w n with
    | false => exact ih i hi
    | true =>
      show wb (wb (wb (wv w n) n 7 (bo w n 4)) n 3 3) n 4 (-1) i = _
      rw [wb_lo _ _ _ _ hi, wb_lo _ _ _ _ hi, wb_lo _ _ _ _ hi]
      exact ih i hi
theorem wv_bo (w : Nat → Int32) : ∀ (n k j : Nat), j < 9 → bo (wv w n) k j = if k < n ∧ mvr w k = true then (if j = 4 then -1 else if j = 3 then 3 else if j = 7 then bo w k 4 else bo w k j) else bo w k j := by
  intro n
  induction n with
  | zero =>
    intro k j hj
    rw [if_neg (by omega)]
    exact wr_o _ _ _ (by omega)
  | succ n ih =>
    intro k j hj
    show bo (cond (mvr w n) (wb (wb (wb (wv w n) n 7 (bo w n 4)) n 3 3) n 4 (-1)) (wv w n)) k j = _
    cases hm : mvr w n with
    | false =>
      show bo (wv w n) k j = _
      rw [ih k j hj]
      by_cases q : k = n
      · subst q
        rw [if_neg (by omega), if_neg (by rw [hm]; simp)]
      · by_cases q2 : k < n ∧ mvr w k = true
        · rw [if_pos q2, if_pos (show k < n + 1 ∧ mvr w k = true from ⟨by omega, q2.2⟩)]
        · rw [if_neg q2, if_neg (fun z => q2 ⟨by omega, z.2⟩)]
    | true =>
      show bo (wb (wb (wb (wv w n) n 7 (bo w n 4)) n 3 3) n 4 (-1)) k j = _
      rw [wb_bo _ _ _ _ (by decide) hj, wb_bo _ _ _ _ (by decide) hj, wb_bo _ _ _ _ (by decide) hj, ih k j hj]
      by_cases q : k = n
      · subst q
        rw [if_neg (show ¬ (k < k ∧ mvr w k = true) by omega), if_pos (show k < k + 1 ∧ mvr w k = true from ⟨by omega, hm⟩)]
        by_cases j4 : j = 4
        · rw [if_pos ⟨rfl, j4⟩, if_pos j4]
        · rw [if_neg (fun z => j4 z.2), if_neg j4]
          by_cases j3 : j = 3
          · rw [if_pos ⟨rfl, j3⟩, if_pos j3]
          · rw [if_neg (fun z => j3 z.2), if_neg j3]
            by_cases j7 : j = 7
            · rw [if_pos ⟨rfl, j7⟩, if_pos j7]
            · rw [if_neg (fun z => j7 z.2), if_neg j7]
      · rw [if_neg (fun z => q z.1), if_neg (fun z => q z.1), if_neg (fun z => q z.1)]
        by_cases q2 : k < n ∧ mvr w k = true
        · rw [if_pos q2, if_pos (show k < n + 1 ∧ mvr w k = true from ⟨by omega, q2.2⟩)]
        · rw [if_neg q2, if_neg (fun z => q2 ⟨by omega, z.2⟩)]
theorem mvr_in (hw : mb_W w B K T D U) {k : Nat} (hk : k < K) (hm : mvr w k = true) : ∃ b, b < B ∧ bo w k 3 = 1 ∧ bo w k 4 = nI b ∧ bt w b 2 = 1 := by
  unfold mvr at hm
  rw [Bool.and_eq_true, decide_eq_true_iff, decide_eq_true_iff] at hm
  have hB := hw.B16
  rcases (hw.boat hk).1 with ⟨h3, b, hb, h4⟩ | ⟨h3, -⟩
  · refine ⟨b, hb, h3, h4, ?_⟩
    have := hm.2
    rw [h4, nI_clamp (by omega)] at this
    exact this
  · exact absurd hm.1 (sp_ne1 h3)
theorem wv_W (hw : mb_W w B K T D U) (hn : n ≤ K) : mb_W (wv w n) B K T D U := by
  refine hw.gen (fun j h1 h4 h5 h9 => by rw [wv_lo w n j h1, if_neg h5]) (by rw [wv_lo w n 4 (by decide), if_neg (by decide)]; exact hw.dy) hw.dl (Or.inr (by rw [wv_lo w n 5 (by decide), if_pos rfl])) (by rw [wv_lo w n 9 (by decide), if_neg (by decide)]; exact hw.2.2.1.1) hw.2.2.1.2 (fun k hk => ?_) (fun k j hk hj h1 h2 e => ?_) (fun k j hk hj h1 h2 e => ?_)
  · have hb := hw.boat hk
    by_cases q : k < n ∧ mvr w k = true
    · obtain ⟨b, b1, b2, b3, b4⟩ := mvr_in hw hk q.2
      unfold mb_at9 mb_hm9 mb_wt9 mb_nu9 at hb ⊢
      simp only [wv_bo w n k _ (show 0 < 9 by decide), wv_bo w n k _ (show 1 < 9 by decide), wv_bo w n k _ (show 2 < 9 by decide), wv_bo w n k _ (show 3 < 9 by decide), wv_bo w n k _ (show 4 < 9 by decide), wv_bo w n k _ (show 5 < 9 by decide), wv_bo w n k _ (show 6 < 9 by decide), wv_bo w n k _ (show 7 < 9 by decide), wv_bo w n k _ (show 8 < 9 by decide), if_pos q]
      refine ⟨Or.inr ⟨Or.inr (Or.inr rfl), rfl⟩, Or.inr ⟨b, b1, b3⟩, ⟨fun z => absurd z (show ¬ (3 : Int32) = 2 by decide), fun _ => ?_⟩, hb.2.2.2⟩
      exact hb.2.2.1.2 (by rw [b2]; decide)
    · unfold mb_at9 mb_hm9 mb_wt9 mb_nu9 at hb ⊢
      simp only [wv_bo w n k _ (show 0 < 9 by decide), wv_bo w n k _ (show 1 < 9 by decide), wv_bo w n k _ (show 2 < 9 by decide), wv_bo w n k _ (show 3 < 9 by decide), wv_bo w n k _ (show 4 < 9 by decide), wv_bo w n k _ (show 5 < 9 by decide), wv_bo w n k _ (show 6 < 9 by decide), wv_bo w n k _ (show 7 < 9 by decide), wv_bo w n k _ (show 8 < 9 by decide), if_neg q]
      exact hb
  · have key : ∀ x, bo (wv w n) x 3 = 1 → ¬ (x < n ∧ mvr w x = true) := fun x h z => by
      rw [wv_bo w n x 3 (by decide), if_pos z] at h
      exact absurd h (show ¬ (3 : Int32) = 1 by decide)
    have k1 := key k h1; have k2 := key j h2
    rw [wv_bo w n k 3 (by decide), if_neg k1] at h1
    rw [wv_bo w n j 3 (by decide), if_neg k2] at h2
    rw [wv_bo w n k 4 (by decide), if_neg k1, wv_bo w n j 4 (by decide), if_neg k2] at e
    exact hw.2.2.2.2.2.1 k j hk hj h1 h2 e
  · have key : ∀ x, bo (wv w n) x 3 = 2 → ¬ (x < n ∧ mvr w x = true) := fun x h z => by
      rw [wv_bo w n x 3 (by decide), if_pos z] at h
      exact absurd h (show ¬ (3 : Int32) = 2 by decide)
    have k1 := key k h1; have k2 := key j h2
    rw [wv_bo w n k 3 (by decide), if_neg k1] at h1
    rw [wv_bo w n j 3 (by decide), if_neg k2] at h2
    rw [wv_bo w n k 6 (by decide), if_neg k1, wv_bo w n j 6 (by decide), if_neg k2] at e
    exact hw.2.2.2.2.2.2.1 k j hk hj h1 h2 e
theorem wv_shb (hw : mb_W w B K T D U) (n b : Nat) : shb (wv w n) B K b = shb w B K b := by
  have hB := hw.B16
  unfold shb
  by_cases hb : b < B
  · have et : bt (wv w n) b 2 = bt w b 2 := by
      show wv w n (26 + 4 * b + 2) = w (26 + 4 * b + 2)
      rw [wv_lo w n _ (by omega), if_neg (by omega)]
    rw [et]
    by_cases q : bt w b 2 = 0
    · have e : sp_in (wv w n) K (nI b) = sp_in w K (nI b) := by
        refine sp_find_congr (fun k _ hk => ?_)
        rw [wv_bo w n k 3 (by decide), wv_bo w n k 4 (by decide)]
        by_cases q2 : k < n ∧ mvr w k = true
        · rw [if_pos q2, if_pos q2]
          obtain ⟨b1, b2, b3, b4, b5⟩ := mvr_in hw (show k < K by omega) q2.2
          have : ¬ bo w k 4 = nI b := fun z => by
            have := (nI_eq (by omega) (by omega)).mp (b4.symm.trans z)
            subst this
            rw [b5] at q; exact absurd q (by decide)
          rw [decide_eq_false this, Bool.and_false]
          rfl
        · rw [if_neg q2, if_neg q2]
      rw [e]
    · rw [decide_eq_false q]; rfl
  · rw [decide_eq_false hb]; rfl
theorem wv_fit (hT1 : 1 ≤ T) (hT : T ≤ 14) (n k b : Nat) (hb : b < 16) : sp_fit (wv w n) T k b = sp_fit w T k b := by
  unfold sp_fit
  have e : ∀ i, i < 90 → i ≠ 5 → wv w n i = w i := fun i h1 h2 => by rw [wv_lo w n i h1, if_neg h2]
  have et : ∀ j, j < 4 → bt (wv w n) b j = bt w b j := fun j hj => e _ (by omega) (by omega)
  have eo : ∀ j, j = 0 ∨ j = 1 → bo (wv w n) k j = bo w k j := fun j hj => by
    rw [wv_bo w n k j (by omega)]
    by_cases q : k < n ∧ mvr w k = true
    · rw [if_pos q, if_neg (by omega), if_neg (by omega), if_neg (by omega)]
    · rw [if_neg q]
  rw [eo 0 (Or.inl rfl), eo 1 (Or.inr rfl), et 1 (by decide), et 0 (by decide), e 0 (by decide) (by decide), sp_low_cg2 (fun j h1 h2 => e j (by omega) (by omega)) (T - 1) (by omega)]
def opk (wi : Nat → Nat → Bool) : Nat → Nat → Bool
  | 0 => fun _ => true
  | k + 1 => gv_o (gv wi k (opk wi k)) (opk wi k)
def asg (wi : Nat → Nat → Bool) (k : Nat) : Option Nat := gv wi k (opk wi k)
def wu (w : Nat → Int32) (K : Nat) (wi : Nat → Nat → Bool) : Nat → Nat → Int32
  | 0 => wv w K
  | n + 1 => match asg wi n with
    | none => wu w K wi n
    | some b => wb (wb (wu w K wi n) n 3 1) n 4 (nI b)
def winw (w : Nat → Int32) (B K T : Nat) : Nat → Int32 := wu w K (wis w B K T) K
theorem gv_cg {wi wi2 : Nat → Nat → Bool} {op op2 : Nat → Bool} (hw : ∀ x b, x < 20 → b < 16 → wi x b = wi2 x b) (h : ∀ b, b < 16 → (∃ x, x < 20 ∧ wi x b = true) → op b = op2 b) {k : Nat} (hk : k < 20) : gv wi k op = gv wi2 k op2 := by
  unfold gv
  refine sp_find_congr (fun b _ hb => ?_)
  cases hz : wi k b with
  | false => rw [← hw k b hk (by omega), hz]; rfl
  | true =>
    rw [← hw k b hk (by omega), hz, h b (by omega) ⟨k, hk, hz⟩, vb_cg hw (20 - k) k op op2 (by omega) h, vb_cg hw (19 - k) (k + 1) (rm op b) (rm op2 b) (by omega) (fun c hc hx => by unfold rm; rw [h c hc hx])]
theorem asg_some {wi : Nat → Nat → Bool} {k b : Nat} (h : asg wi k = some b) : b < 16 ∧ wi k b = true ∧ opk wi k b = true := by
  obtain ⟨-, h1, h2⟩ := sp_find_some h
  rw [Bool.and_eq_true, Bool.and_eq_true] at h2
  exact ⟨by omega, h2.1.1, h2.1.2⟩
theorem asg_none {wi : Nat → Nat → Bool} {k : Nat} (h : ∀ b, b < 16 → wi k b = false) : asg wi k = none := by
  cases e : asg wi k with
  | none => rfl
  | some b =>
    obtain ⟨h1, h2, -⟩ := asg_some e
    rw [h b h1] at h2; cases h2
theorem opk_mono {wi : Nat → Nat → Bool} {b : Nat} : ∀ (d k : Nat), opk wi (k + d) b = true → opk wi k b = true := by
  intro d
  induction d with
  | zero => intro k h; exact h
  | succ d ih =>
    intro k h
    refine ih k ?_
    have h : gv_o (gv wi (k + d) (opk wi (k + d))) (opk wi (k + d)) b = true := h
    cases e : gv wi (k + d) (opk wi (k + d)) with
    | none => rw [e] at h; exact h
    | some c => rw [e] at h; exact (rm_t.mp h).1
theorem asg_inj {wi : Nat → Nat → Bool} {k j b : Nat} (hkj : k < j) (h1 : asg wi k = some b) (h2 : asg wi j = some b) : False := by
  obtain ⟨-, -, h3⟩ := asg_some h2
  have h4 := opk_mono (j - (k + 1)) (k + 1) (show opk wi (k + 1 + (j - (k + 1))) b = true by rw [show k + 1 + (j - (k + 1)) = j by omega]; exact h3)
  have h4 : gv_o (asg wi k) (opk wi k) b = true := h4
  rw [h1] at h4
  exact (rm_t.mp h4).2 rfl
theorem wis_t {k b : Nat} (h : wis w B K T k b = true) : k < K ∧ mvr w k = true ∧ b < B ∧ bt w b 2 = 0 ∧ sp_in w K (nI b) = none ∧ sp_fit w T k b = true := by
  unfold wis shb at h
  simp only [Bool.and_eq_true, decide_eq_true_iff, Option.isNone_iff_eq_none] at h
  exact ⟨h.1.1, h.1.2, h.2.1.1, h.2.1.2.1, h.2.1.2.2, h.2.2⟩
theorem wu_lo (w : Nat → Int32) (K : Nat) (wi : Nat → Nat → Bool) : ∀ (n i : Nat), i < 90 → wu w K wi n i = if i = 5 then 1 else w i := by
  intro n
  induction n with
  | zero => intro i hi; exact wv_lo w K i hi
  | succ n ih =>
    intro i hi
    rw [wu]
    cases asg wi n with
    | none => exact ih i hi
    | some b =>
      show wb (wb (wu w K wi n) n 3 1) n 4 (nI b) i = _
      rw [wb_lo _ _ _ _ hi, wb_lo _ _ _ _ hi]
      exact ih i hi
theorem wu_bo (w : Nat → Int32) (K : Nat) (wi : Nat → Nat → Bool) : ∀ (n k j : Nat), j < 9 → bo (wu w K wi n) k j = match asg wi k with
    | none => bo (wv w K) k j
    | some b => if k < n then (if j = 4 then nI b else if j = 3 then 1 else bo (wv w K) k j) else bo (wv w K) k j := by
  intro n
  induction n with
  | zero =>
    intro k j hj
    cases asg wi k with
    | none => rfl
    | some b => exact (if_neg (Nat.not_lt_zero k)).symm
  | succ n ih =>
    intro k j hj
    have ih2 := ih k j hj
    rw [wu]
    cases hn : asg wi n with
    | none =>
      show bo (wu w K wi n) k j = _
      rw [ih2]
      cases hk : asg wi k with
      | none => rfl
      | some b =>
        show (if k < n then _ else _) = (if k < n + 1 then _ else _)
        by_cases q : k = n
        · subst q; rw [hn] at hk; cases hk
        · by_cases q2 : k < n
          · rw [if_pos q2, if_pos (show k < n + 1 by omega)]
          · rw [if_neg q2, if_neg (show ¬ k < n + 1 by omega)]
    | some b0 =>
      show bo (wb (wb (wu w K wi n) n 3 1) n 4 (nI b0)) k j = _
      rw [wb_bo _ _ _ _ (by decide) hj, wb_bo _ _ _ _ (by decide) hj, ih2]
      by_cases q : k = n
      · subst q
        rw [hn]
        show (if k = k ∧ j = 4 then nI b0 else if k = k ∧ j = 3 then 1 else if k < k then _ else bo (wv w K) k j) = (if k < k + 1 then _ else _)
        rw [if_pos (show k < k + 1 by omega)]
        by_cases j4 : j = 4
        · rw [if_pos ⟨rfl, j4⟩, if_pos j4]
        · rw [if_neg (fun z => j4 z.2), if_neg j4]
          by_cases j3 : j = 3
          · rw [if_pos ⟨rfl, j3⟩, if_pos j3]
          · rw [if_neg (fun z => j3 z.2), if_neg j3, if_neg (by omega)]
      · rw [if_neg (fun z => q z.1), if_neg (fun z => q z.1)]
        cases hk : asg wi k with
        | none => rfl
        | some b =>
          show (if k < n then _ else _) = (if k < n + 1 then _ else _)
          by_cases q2 : k < n
          · rw [if_pos q2, if_pos (show k < n + 1 by omega)]
          · rw [if_neg q2, if_neg (show ¬ k < n + 1 by omega)]
/-- a boat behind the begin of winter -/
theorem win_bo (w : Nat → Int32) (B K T : Nat) {k j : Nat} (hj : j < 9) : bo (winw w B K T) k j = if k < K ∧ mvr w k = true then (if j = 3 then (if (asg (wis w B K T) k).isNone = true then 3 else 1) else if j = 4 then mb_oi (asg (wis w B K T) k) else if j = 7 then bo w k 4 else bo w k j) else bo w k j := by
  unfold winw
  rw [wu_bo w K _ K k j hj, wv_bo w K k j hj]
  by_cases q : k < K ∧ mvr w k = true
  · rw [if_pos q, if_pos q]
    cases asg (wis w B K T) k with
    | none =>
      show (if j = 4 then -1 else if j = 3 then 3 else if j = 7 then bo w k 4 else bo w k j) = (if j = 3 then (if True then 3 else 1) else if j = 4 then -1 else if j = 7 then bo w k 4 else bo w k j)
      by_cases j4 : j = 4
      · subst j4; rfl
      · rw [if_neg j4, if_neg j4]; rfl
    | some b =>
      show (if k < K then (if j = 4 then nI b else if j = 3 then 1 else (if j = 4 then -1 else if j = 3 then 3 else if j = 7 then bo w k 4 else bo w k j)) else (if j = 4 then -1 else if j = 3 then 3 else if j = 7 then bo w k 4 else bo w k j)) = (if j = 3 then (if false = true then 3 else 1) else if j = 4 then nI b else if j = 7 then bo w k 4 else bo w k j)
      rw [if_pos q.1]
      by_cases j4 : j = 4
      · subst j4; rfl
      · by_cases j3 : j = 3
        · subst j3; rfl
        · rw [if_neg j4, if_neg j3, if_neg j4, if_neg j3, if_neg j3, if_neg j4]
  · rw [if_neg q, if_neg q]
    have : asg (wis w B K T) k = none := asg_none (fun b _ => bf_t (fun z => q ⟨(wis_t z).1, (wis_t z).2.1⟩))
    rw [this]
theorem win_lo (w : Nat → Int32) (B K T : Nat) {i : Nat} (hi : i < 90) : winw w B K T i = if i = 5 then 1 else w i := wu_lo w K _ K i hi
theorem win_W (hw : mb_W w B K T D U) : mb_W (winw w B K T) B K T D U := by
  have hB := hw.B16
  have e := fun i (hi : i < 90) => win_lo w B K T hi
  have eo := fun k j (hj : j < 9) => win_bo w B K T (k := k) hj
  have as1 : ∀ k b, asg (wis w B K T) k = some b → b < B ∧ sp_in w K (nI b) = none ∧ k < K ∧ mvr w k = true := fun k b h => by
    obtain ⟨-, h2, -⟩ := asg_some h
    have := wis_t h2
    exact ⟨this.2.2.1, this.2.2.2.2.1, this.1, this.2.1⟩
  refine hw.gen (fun j h1 h4 h5 h9 => by rw [e j h1, if_neg h5]) (by rw [e 4 (by decide), if_neg (by decide)]; exact hw.dy) hw.dl (Or.inr (by rw [e 5 (by decide), if_pos rfl])) (by rw [e 9 (by decide), if_neg (by decide)]; exact hw.2.2.1.1) hw.2.2.1.2 (fun k hk => ?_) (fun k j hk hj h1 h2 e4 => ?_) (fun k j hk hj h1 h2 e4 => ?_)
  · have hb := hw.boat hk
    by_cases q : k < K ∧ mvr w k = true
    · obtain ⟨b, b1, b2, b3, b4⟩ := mvr_in hw hk q.2
      unfold mb_at9 mb_hm9 mb_wt9 mb_nu9 at hb ⊢
      simp only [eo k _ (show 0 < 9 by decide), eo k _ (show 1 < 9 by decide), eo k _ (show 2 < 9 by decide), eo k _ (show 3 < 9 by decide), eo k _ (show 4 < 9 by decide), eo k _ (show 5 < 9 by decide), eo k _ (show 6 < 9 by decide), eo k _ (show 7 < 9 by decide), eo k _ (show 8 < 9 by decide), if_pos q]
      have h5 : bo w k 5 = 0 := hb.2.2.1.2 (by rw [b2]; decide)
      cases ha : asg (wis w B K T) k with
      | none => exact ⟨Or.inr ⟨Or.inr (Or.inr rfl), rfl⟩, Or.inr ⟨b, b1, b3⟩, ⟨fun z => absurd z (show ¬ (3 : Int32) = 2 by decide), fun _ => h5⟩, hb.2.2.2⟩
      | some c => exact ⟨Or.inl ⟨rfl, c, (as1 k c ha).1, rfl⟩, Or.inr ⟨b, b1, b3⟩, ⟨fun z => absurd z (show ¬ (1 : Int32) = 2 by decide), fun _ => h5⟩, hb.2.2.2⟩
    · unfold mb_at9 mb_hm9 mb_wt9 mb_nu9 at hb ⊢
      simp only [eo k _ (show 0 < 9 by decide), eo k _ (show 1 < 9 by decide), eo k _ (show 2 < 9 by decide), eo k _ (show 3 < 9 by decide), eo k _ (show 4 < 9 by decide), eo k _ (show 5 < 9 by decide), eo k _ (show 6 < 9 by decide), eo k _ (show 7 < 9 by decide), eo k _ (show 8 < 9 by decide), if_neg q]
      exact hb
  · have key : ∀ x, x < K → bo (winw w B K T) x 3 = 1 → (∃ b, asg (wis w B K T) x = some b ∧ bo (winw w B K T) x 4 = nI b) ∨ (¬ (x < K ∧ mvr w x = true) ∧ bo w x 3 = 1 ∧ bo (winw w B K T) x 4 = bo w x 4) := fun x hx h => by
      rw [eo x 3 (by decide)] at h
      rw [eo x 4 (by decide)]
      by_cases q : x < K ∧ mvr w x = true
      · rw [if_pos q] at h ⊢
        cases ha : asg (wis w B K T) x with
        | none => rw [ha] at h; exact absurd h (show ¬ (3 : Int32) = 1 by decide)
        | some c => exact Or.inl ⟨c, rfl, rfl⟩
      · rw [if_neg q] at h ⊢
        exact Or.inr ⟨q, h, rfl⟩
    have mix : ∀ x y b, asg (wis w B K T) x = some b → y < K → bo w y 3 = 1 → bo w y 4 = nI b → False := fun x y b ha hy h3 h4 => by
      have := sp_find_none (as1 x b ha).2.1 y (Nat.zero_le _) (by omega)
      rw [decide_eq_true h3, decide_eq_true h4] at this
      cases this
    rcases key k hk h1 with ⟨b, a1, a2⟩ | ⟨a0, a1, a2⟩
    · rcases key j hj h2 with ⟨c, c1, c2⟩ | ⟨c0, c1, c2⟩
      · rw [a2, c2] at e4
        have h3 := (as1 k b a1).1; have h4 := (as1 j c c1).1
        have := (nI_eq (by omega) (by omega)).mp e4
        subst this
        rcases Nat.lt_trichotomy k j with z | z | z
        · exact absurd (asg_inj z a1 c1) id
        · exact z
        · exact absurd (asg_inj z c1 a1) id
      · rw [a2, c2] at e4
        exact absurd (mix k j b a1 hj c1 e4.symm) id
    · rcases key j hj h2 with ⟨c, c1, c2⟩ | ⟨c0, c1, c2⟩
      · rw [a2, c2] at e4
        exact absurd (mix j k c c1 hk a1 e4) id
      · rw [a2, c2] at e4
        exact hw.2.2.2.2.2.1 k j hk hj a1 c1 e4
  · have key : ∀ x, bo (winw w B K T) x 3 = 2 → ¬ (x < K ∧ mvr w x = true) := fun x h z => by
      rw [eo x 3 (by decide), if_pos z] at h
      cases ha : asg (wis w B K T) x with
      | none => rw [ha] at h; exact absurd h (show ¬ (3 : Int32) = 2 by decide)
      | some c => rw [ha] at h; exact absurd h (show ¬ (1 : Int32) = 2 by decide)
    have k1 := key k h1; have k2 := key j h2
    rw [eo k 3 (by decide), if_neg k1] at h1
    rw [eo j 3 (by decide), if_neg k2] at h2
    rw [eo k 6 (by decide), if_neg k1, eo j 6 (by decide), if_neg k2] at e4
    exact hw.2.2.2.2.2.2.1 k j hk hj h1 h2 e4
theorem win_H (hw : mb_W w B K T D U) (hH : mb_H w K) (h5 : w 5 = 0) : mb_H (winw w B K T) K := by
  have hB := hw.B16
  have e := fun i (hi : i < 90) => win_lo w B K T hi
  have eo := fun k j (hj : j < 9) => win_bo w B K T (k := k) hj
  have et : ∀ b, b < B → bt (winw w B K T) b 1 = bt w b 1 := fun b hb => by
    show winw w B K T (26 + 4 * b + 1) = _
    rw [e _ (by omega), if_neg (by omega)]; rfl
  intro k hk
  have hh := hH k hk
  have nh : bo w k 7 = -1 := Classical.byContradiction fun z => by
    have := (hh.1 z).1
    rw [h5] at this
    exact absurd this (by decide)
  unfold mb_h9 at hh ⊢
  simp only [eo k _ (show 0 < 9 by decide), eo k _ (show 3 < 9 by decide), eo k _ (show 4 < 9 by decide), eo k _ (show 7 < 9 by decide)]
  by_cases q : k < K ∧ mvr w k = true
  · obtain ⟨b, b1, b2, b3, b4⟩ := mvr_in hw hk q.2
    simp only [if_pos q]
    rw [e 5 (by decide), if_pos rfl]
    cases ha : asg (wis w B K T) k with
    | none =>
      refine ⟨fun _ => ⟨rfl, Or.inr rfl⟩, fun _ => ?_, fun z => absurd z (show ¬ (3 : Int32) = 1 by decide)⟩
      show bo w k 4 ≠ -1
      rw [b3]
      exact px_neg1 (by omega)
    | some c =>
      refine ⟨fun _ => ⟨rfl, Or.inl rfl⟩, fun z => absurd z (show ¬ (1 : Int32) = 3 by decide), fun _ => ?_⟩
      obtain ⟨-, h2, -⟩ := asg_some ha
      obtain ⟨-, -, w3, -, -, w6⟩ := wis_t h2
      show bo w k 0 ≤ bt (winw w B K T) (nI c).toNatClampNeg 1
      rw [nI_clamp (by omega), et c w3]
      exact sp_fit_len w6
  · simp only [if_neg q]
    refine ⟨fun z => absurd nh z, hh.2.1, fun z => ?_⟩
    have h2 := hh.2.2 z
    rcases (hw.boat hk).1 with ⟨h3, b, hb, h4⟩ | ⟨h3, -⟩
    · rw [h4, nI_clamp (by omega)] at h2 ⊢
      rw [et b hb]; exact h2
    · exact absurd z (sp_ne1 h3)
end
